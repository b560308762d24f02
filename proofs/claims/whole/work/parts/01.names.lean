-- ===== PART A: goes FIRST, ahead of the names: the tables' words, and 'selects' of the private methods out of them =====
/-- a private method of a class that the tables say can be made, by its rows of tables_1 -/
def lw_okq (q : MethodName × Nat) : Prop := (q.1.cls ≠ "java/lang/invoke/MethodHandle" ∧ q.1.cls ≠ "java/lang/invoke/VarHandle") ∧ Cond.instantiable q.1.cls q.2 ∈ tables_1 ∧ Cond.privateMethod q.1 ∈ tables_1 ∧ Cond.instanceMethod q.1 ∈ tables_1
theorem lw_p0 : lw_okq (⟨"LiftSweeps$Hall", "anyHasRoom", "(I)Z"⟩, 11) := ⟨⟨by decide +kernel, by decide +kernel⟩, List.mem_of_getElem? (i := 25) (by decide +kernel), List.mem_of_getElem? (i := 355) (by decide +kernel), List.mem_of_getElem? (i := 356) (by decide +kernel)⟩
theorem lw_p1 : lw_okq (⟨"LiftSweeps$Hall", "assign", "(II)V"⟩, 11) := ⟨⟨by decide +kernel, by decide +kernel⟩, List.mem_of_getElem? (i := 25) (by decide +kernel), List.mem_of_getElem? (i := 401) (by decide +kernel), List.mem_of_getElem? (i := 402) (by decide +kernel)⟩
theorem lw_p2 : lw_okq (⟨"LiftSweeps$Hall", "letOut", "(I)I"⟩, 11) := ⟨⟨by decide +kernel, by decide +kernel⟩, List.mem_of_getElem? (i := 25) (by decide +kernel), List.mem_of_getElem? (i := 409) (by decide +kernel), List.mem_of_getElem? (i := 410) (by decide +kernel)⟩
theorem lw_p3 : lw_okq (⟨"LiftSweeps$Hall", "lookAround", "(II)I"⟩, 11) := ⟨⟨by decide +kernel, by decide +kernel⟩, List.mem_of_getElem? (i := 25) (by decide +kernel), List.mem_of_getElem? (i := 423) (by decide +kernel), List.mem_of_getElem? (i := 424) (by decide +kernel)⟩
theorem lw_p4 : lw_okq (⟨"LiftSweeps$Hall", "letIn", "(II)I"⟩, 11) := ⟨⟨by decide +kernel, by decide +kernel⟩, List.mem_of_getElem? (i := 25) (by decide +kernel), List.mem_of_getElem? (i := 441) (by decide +kernel), List.mem_of_getElem? (i := 442) (by decide +kernel)⟩
theorem lw_p5 : lw_okq (⟨"LiftSweeps$Hall", "distance", "(LLiftSweeps$Car;I)I"⟩, 11) := ⟨⟨by decide +kernel, by decide +kernel⟩, List.mem_of_getElem? (i := 25) (by decide +kernel), List.mem_of_getElem? (i := 447) (by decide +kernel), List.mem_of_getElem? (i := 448) (by decide +kernel)⟩
theorem lw_p6 : lw_okq (⟨"LiftSweeps$Hall", "floorByDemand", "(I)I"⟩, 11) := ⟨⟨by decide +kernel, by decide +kernel⟩, List.mem_of_getElem? (i := 25) (by decide +kernel), List.mem_of_getElem? (i := 527) (by decide +kernel), List.mem_of_getElem? (i := 528) (by decide +kernel)⟩
theorem lw_p7 : lw_okq (⟨"LiftSweeps", "thinkDrawn", "(II)I"⟩, 6) := ⟨⟨by decide +kernel, by decide +kernel⟩, List.mem_of_getElem? (i := 17) (by decide +kernel), List.mem_of_getElem? (i := 590) (by decide +kernel), List.mem_of_getElem? (i := 591) (by decide +kernel)⟩
theorem lw_p8 : lw_okq (⟨"LiftSweeps", "tellEnd", "(II)I"⟩, 6) := ⟨⟨by decide +kernel, by decide +kernel⟩, List.mem_of_getElem? (i := 17) (by decide +kernel), List.mem_of_getElem? (i := 604) (by decide +kernel), List.mem_of_getElem? (i := 605) (by decide +kernel)⟩
theorem lw_p9 : lw_okq (⟨"LiftSweeps$Tape", "readClause", "(I)Z"⟩, 8) := ⟨⟨by decide +kernel, by decide +kernel⟩, List.mem_of_getElem? (i := 220) (by decide +kernel), List.mem_of_getElem? (i := 648) (by decide +kernel), List.mem_of_getElem? (i := 649) (by decide +kernel)⟩
theorem lw_p10 : lw_okq (⟨"LiftSweeps$Tape", "advance", "()V"⟩, 8) := ⟨⟨by decide +kernel, by decide +kernel⟩, List.mem_of_getElem? (i := 220) (by decide +kernel), List.mem_of_getElem? (i := 652) (by decide +kernel), List.mem_of_getElem? (i := 653) (by decide +kernel)⟩
theorem lw_p11 : lw_okq (⟨"LiftSweeps$Tape", "wordHere", "()I"⟩, 8) := ⟨⟨by decide +kernel, by decide +kernel⟩, List.mem_of_getElem? (i := 220) (by decide +kernel), List.mem_of_getElem? (i := 659) (by decide +kernel), List.mem_of_getElem? (i := 660) (by decide +kernel)⟩
theorem lw_p12 : lw_okq (⟨"LiftSweeps$Tape", "isHere", "(Ljava/lang/String;)Z"⟩, 8) := ⟨⟨by decide +kernel, by decide +kernel⟩, List.mem_of_getElem? (i := 220) (by decide +kernel), List.mem_of_getElem? (i := 672) (by decide +kernel), List.mem_of_getElem? (i := 673) (by decide +kernel)⟩
theorem lw_p13 : lw_okq (⟨"LiftSweeps$Tape", "valueHere", "()I"⟩, 8) := ⟨⟨by decide +kernel, by decide +kernel⟩, List.mem_of_getElem? (i := 220) (by decide +kernel), List.mem_of_getElem? (i := 726) (by decide +kernel), List.mem_of_getElem? (i := 727) (by decide +kernel)⟩
theorem lw_p14 : lw_okq (⟨"LiftSweeps", "perform", "(I)I"⟩, 6) := ⟨⟨by decide +kernel, by decide +kernel⟩, List.mem_of_getElem? (i := 17) (by decide +kernel), List.mem_of_getElem? (i := 730) (by decide +kernel), List.mem_of_getElem? (i := 731) (by decide +kernel)⟩
theorem lw_p15 : lw_okq (⟨"LiftSweeps", "firstOtherwise", "(LLiftSweeps$Sheet;III)I"⟩, 6) := ⟨⟨by decide +kernel, by decide +kernel⟩, List.mem_of_getElem? (i := 17) (by decide +kernel), List.mem_of_getElem? (i := 765) (by decide +kernel), List.mem_of_getElem? (i := 766) (by decide +kernel)⟩
def lw_privs_1 : List (MethodName × Nat) := [(⟨"LiftSweeps$Hall", "anyHasRoom", "(I)Z"⟩, 11), (⟨"LiftSweeps$Hall", "assign", "(II)V"⟩, 11), (⟨"LiftSweeps$Hall", "letOut", "(I)I"⟩, 11), (⟨"LiftSweeps$Hall", "lookAround", "(II)I"⟩, 11), (⟨"LiftSweeps$Hall", "letIn", "(II)I"⟩, 11), (⟨"LiftSweeps$Hall", "distance", "(LLiftSweeps$Car;I)I"⟩, 11), (⟨"LiftSweeps$Hall", "floorByDemand", "(I)I"⟩, 11), (⟨"LiftSweeps", "thinkDrawn", "(II)I"⟩, 6), (⟨"LiftSweeps", "tellEnd", "(II)I"⟩, 6), (⟨"LiftSweeps$Tape", "readClause", "(I)Z"⟩, 8), (⟨"LiftSweeps$Tape", "advance", "()V"⟩, 8), (⟨"LiftSweeps$Tape", "wordHere", "()I"⟩, 8), (⟨"LiftSweeps$Tape", "isHere", "(Ljava/lang/String;)Z"⟩, 8), (⟨"LiftSweeps$Tape", "valueHere", "()I"⟩, 8), (⟨"LiftSweeps", "perform", "(I)I"⟩, 6), (⟨"LiftSweeps", "firstOtherwise", "(LLiftSweeps$Sheet;III)I"⟩, 6)]
theorem lw_r1 : ∀ q ∈ lw_privs_1, lw_okq q := List.forall_mem_cons.mpr ⟨lw_p0, List.forall_mem_cons.mpr ⟨lw_p1, List.forall_mem_cons.mpr ⟨lw_p2, List.forall_mem_cons.mpr ⟨lw_p3, List.forall_mem_cons.mpr ⟨lw_p4, List.forall_mem_cons.mpr ⟨lw_p5, List.forall_mem_cons.mpr ⟨lw_p6, List.forall_mem_cons.mpr ⟨lw_p7, List.forall_mem_cons.mpr ⟨lw_p8, List.forall_mem_cons.mpr ⟨lw_p9, List.forall_mem_cons.mpr ⟨lw_p10, List.forall_mem_cons.mpr ⟨lw_p11, List.forall_mem_cons.mpr ⟨lw_p12, List.forall_mem_cons.mpr ⟨lw_p13, List.forall_mem_cons.mpr ⟨lw_p14, List.forall_mem_cons.mpr ⟨lw_p15, fun _ h => absurd h List.not_mem_nil⟩⟩⟩⟩⟩⟩⟩⟩⟩⟩⟩⟩⟩⟩⟩⟩
theorem lw_p16 : lw_okq (⟨"LiftSweeps", "kindsSo", "(LLiftSweeps$Sheet;I)I"⟩, 6) := ⟨⟨by decide +kernel, by decide +kernel⟩, List.mem_of_getElem? (i := 17) (by decide +kernel), List.mem_of_getElem? (i := 770) (by decide +kernel), List.mem_of_getElem? (i := 771) (by decide +kernel)⟩
theorem lw_p17 : lw_okq (⟨"LiftSweeps", "figuresSo", "(LLiftSweeps$Sheet;I)I"⟩, 6) := ⟨⟨by decide +kernel, by decide +kernel⟩, List.mem_of_getElem? (i := 17) (by decide +kernel), List.mem_of_getElem? (i := 774) (by decide +kernel), List.mem_of_getElem? (i := 775) (by decide +kernel)⟩
theorem lw_p18 : lw_okq (⟨"LiftSweepsModel", "builds", "(II)V"⟩, 17) := ⟨⟨by decide +kernel, by decide +kernel⟩, List.mem_of_getElem? (i := 827) (by decide +kernel), List.mem_of_getElem? (i := 833) (by decide +kernel), List.mem_of_getElem? (i := 834) (by decide +kernel)⟩
theorem lw_p19 : lw_okq (⟨"LiftSweepsModel", "sets", "(III)V"⟩, 17) := ⟨⟨by decide +kernel, by decide +kernel⟩, List.mem_of_getElem? (i := 827) (by decide +kernel), List.mem_of_getElem? (i := 837) (by decide +kernel), List.mem_of_getElem? (i := 838) (by decide +kernel)⟩
theorem lw_p20 : lw_okq (⟨"LiftSweepsModel", "isCar", "(I)Z"⟩, 17) := ⟨⟨by decide +kernel, by decide +kernel⟩, List.mem_of_getElem? (i := 827) (by decide +kernel), List.mem_of_getElem? (i := 908) (by decide +kernel), List.mem_of_getElem? (i := 909) (by decide +kernel)⟩
theorem lw_p21 : lw_okq (⟨"LiftSweepsModel", "own", "(I)I"⟩, 17) := ⟨⟨by decide +kernel, by decide +kernel⟩, List.mem_of_getElem? (i := 827) (by decide +kernel), List.mem_of_getElem? (i := 915) (by decide +kernel), List.mem_of_getElem? (i := 916) (by decide +kernel)⟩
theorem lw_p22 : lw_okq (⟨"LiftSweepsModel", "ofGroup", "(II)I"⟩, 17) := ⟨⟨by decide +kernel, by decide +kernel⟩, List.mem_of_getElem? (i := 827) (by decide +kernel), List.mem_of_getElem? (i := 919) (by decide +kernel), List.mem_of_getElem? (i := 920) (by decide +kernel)⟩
theorem lw_p23 : lw_okq (⟨"LiftSweepsModel", "of", "(II)I"⟩, 17) := ⟨⟨by decide +kernel, by decide +kernel⟩, List.mem_of_getElem? (i := 827) (by decide +kernel), List.mem_of_getElem? (i := 923) (by decide +kernel), List.mem_of_getElem? (i := 924) (by decide +kernel)⟩
theorem lw_p24 : lw_okq (⟨"LiftSweepsModel", "load", "(I)I"⟩, 17) := ⟨⟨by decide +kernel, by decide +kernel⟩, List.mem_of_getElem? (i := 827) (by decide +kernel), List.mem_of_getElem? (i := 941) (by decide +kernel), List.mem_of_getElem? (i := 942) (by decide +kernel)⟩
theorem lw_p25 : lw_okq (⟨"LiftSweepsModel", "isSo", "(III)Z"⟩, 17) := ⟨⟨by decide +kernel, by decide +kernel⟩, List.mem_of_getElem? (i := 827) (by decide +kernel), List.mem_of_getElem? (i := 945) (by decide +kernel), List.mem_of_getElem? (i := 946) (by decide +kernel)⟩
theorem lw_p26 : lw_okq (⟨"LiftSweepsModel", "stops", "(I)I"⟩, 17) := ⟨⟨by decide +kernel, by decide +kernel⟩, List.mem_of_getElem? (i := 827) (by decide +kernel), List.mem_of_getElem? (i := 949) (by decide +kernel), List.mem_of_getElem? (i := 950) (by decide +kernel)⟩
theorem lw_p27 : lw_okq (⟨"LiftSweepsModel", "pace", "(I)I"⟩, 17) := ⟨⟨by decide +kernel, by decide +kernel⟩, List.mem_of_getElem? (i := 827) (by decide +kernel), List.mem_of_getElem? (i := 953) (by decide +kernel), List.mem_of_getElem? (i := 954) (by decide +kernel)⟩
theorem lw_p28 : lw_okq (⟨"LiftSweepsModel", "stay", "(I)I"⟩, 17) := ⟨⟨by decide +kernel, by decide +kernel⟩, List.mem_of_getElem? (i := 827) (by decide +kernel), List.mem_of_getElem? (i := 957) (by decide +kernel), List.mem_of_getElem? (i := 958) (by decide +kernel)⟩
theorem lw_p29 : lw_okq (⟨"LiftSweepsModel", "isGroup", "(I)Z"⟩, 17) := ⟨⟨by decide +kernel, by decide +kernel⟩, List.mem_of_getElem? (i := 827) (by decide +kernel), List.mem_of_getElem? (i := 968) (by decide +kernel), List.mem_of_getElem? (i := 969) (by decide +kernel)⟩
theorem lw_p30 : lw_okq (⟨"LiftSweepsModel", "passes", "()I"⟩, 17) := ⟨⟨by decide +kernel, by decide +kernel⟩, List.mem_of_getElem? (i := 827) (by decide +kernel), List.mem_of_getElem? (i := 982) (by decide +kernel), List.mem_of_getElem? (i := 983) (by decide +kernel)⟩
theorem lw_p31 : lw_okq (⟨"LiftSweepsModel", "moves", "(I)I"⟩, 17) := ⟨⟨by decide +kernel, by decide +kernel⟩, List.mem_of_getElem? (i := 827) (by decide +kernel), List.mem_of_getElem? (i := 986) (by decide +kernel), List.mem_of_getElem? (i := 987) (by decide +kernel)⟩
def lw_privs_2 : List (MethodName × Nat) := [(⟨"LiftSweeps", "kindsSo", "(LLiftSweeps$Sheet;I)I"⟩, 6), (⟨"LiftSweeps", "figuresSo", "(LLiftSweeps$Sheet;I)I"⟩, 6), (⟨"LiftSweepsModel", "builds", "(II)V"⟩, 17), (⟨"LiftSweepsModel", "sets", "(III)V"⟩, 17), (⟨"LiftSweepsModel", "isCar", "(I)Z"⟩, 17), (⟨"LiftSweepsModel", "own", "(I)I"⟩, 17), (⟨"LiftSweepsModel", "ofGroup", "(II)I"⟩, 17), (⟨"LiftSweepsModel", "of", "(II)I"⟩, 17), (⟨"LiftSweepsModel", "load", "(I)I"⟩, 17), (⟨"LiftSweepsModel", "isSo", "(III)Z"⟩, 17), (⟨"LiftSweepsModel", "stops", "(I)I"⟩, 17), (⟨"LiftSweepsModel", "pace", "(I)I"⟩, 17), (⟨"LiftSweepsModel", "stay", "(I)I"⟩, 17), (⟨"LiftSweepsModel", "isGroup", "(I)Z"⟩, 17), (⟨"LiftSweepsModel", "passes", "()I"⟩, 17), (⟨"LiftSweepsModel", "moves", "(I)I"⟩, 17)]
theorem lw_r2 : ∀ q ∈ lw_privs_2, lw_okq q := List.forall_mem_cons.mpr ⟨lw_p16, List.forall_mem_cons.mpr ⟨lw_p17, List.forall_mem_cons.mpr ⟨lw_p18, List.forall_mem_cons.mpr ⟨lw_p19, List.forall_mem_cons.mpr ⟨lw_p20, List.forall_mem_cons.mpr ⟨lw_p21, List.forall_mem_cons.mpr ⟨lw_p22, List.forall_mem_cons.mpr ⟨lw_p23, List.forall_mem_cons.mpr ⟨lw_p24, List.forall_mem_cons.mpr ⟨lw_p25, List.forall_mem_cons.mpr ⟨lw_p26, List.forall_mem_cons.mpr ⟨lw_p27, List.forall_mem_cons.mpr ⟨lw_p28, List.forall_mem_cons.mpr ⟨lw_p29, List.forall_mem_cons.mpr ⟨lw_p30, List.forall_mem_cons.mpr ⟨lw_p31, fun _ h => absurd h List.not_mem_nil⟩⟩⟩⟩⟩⟩⟩⟩⟩⟩⟩⟩⟩⟩⟩⟩
theorem lw_p32 : lw_okq (⟨"LiftSweepsModel", "leaves", "(I)I"⟩, 17) := ⟨⟨by decide +kernel, by decide +kernel⟩, List.mem_of_getElem? (i := 827) (by decide +kernel), List.mem_of_getElem? (i := 990) (by decide +kernel), List.mem_of_getElem? (i := 991) (by decide +kernel)⟩
theorem lw_p33 : lw_okq (⟨"LiftSweepsModel", "setsGroup", "(III)V"⟩, 17) := ⟨⟨by decide +kernel, by decide +kernel⟩, List.mem_of_getElem? (i := 827) (by decide +kernel), List.mem_of_getElem? (i := 994) (by decide +kernel), List.mem_of_getElem? (i := 995) (by decide +kernel)⟩
theorem lw_p34 : lw_okq (⟨"LiftSweepsModel", "happens", "(II)V"⟩, 17) := ⟨⟨by decide +kernel, by decide +kernel⟩, List.mem_of_getElem? (i := 827) (by decide +kernel), List.mem_of_getElem? (i := 998) (by decide +kernel), List.mem_of_getElem? (i := 999) (by decide +kernel)⟩
theorem lw_p35 : lw_okq (⟨"LiftSweepsModel", "looked", "(I)I"⟩, 17) := ⟨⟨by decide +kernel, by decide +kernel⟩, List.mem_of_getElem? (i := 827) (by decide +kernel), List.mem_of_getElem? (i := 1005) (by decide +kernel), List.mem_of_getElem? (i := 1006) (by decide +kernel)⟩
theorem lw_p36 : lw_okq (⟨"LiftSweepsModel", "isGood", "(II)Z"⟩, 17) := ⟨⟨by decide +kernel, by decide +kernel⟩, List.mem_of_getElem? (i := 827) (by decide +kernel), List.mem_of_getElem? (i := 1009) (by decide +kernel), List.mem_of_getElem? (i := 1010) (by decide +kernel)⟩
theorem lw_p37 : lw_okq (⟨"LiftSweepsModel", "isFurther", "(II)Z"⟩, 17) := ⟨⟨by decide +kernel, by decide +kernel⟩, List.mem_of_getElem? (i := 827) (by decide +kernel), List.mem_of_getElem? (i := 1013) (by decide +kernel), List.mem_of_getElem? (i := 1014) (by decide +kernel)⟩
theorem lw_p38 : lw_okq (⟨"LiftSweepsModel", "isHere", "(II)Z"⟩, 17) := ⟨⟨by decide +kernel, by decide +kernel⟩, List.mem_of_getElem? (i := 827) (by decide +kernel), List.mem_of_getElem? (i := 1017) (by decide +kernel), List.mem_of_getElem? (i := 1018) (by decide +kernel)⟩
theorem lw_p39 : lw_okq (⟨"LiftSweepsModel", "wayOf", "(I)I"⟩, 17) := ⟨⟨by decide +kernel, by decide +kernel⟩, List.mem_of_getElem? (i := 827) (by decide +kernel), List.mem_of_getElem? (i := 1021) (by decide +kernel), List.mem_of_getElem? (i := 1022) (by decide +kernel)⟩
theorem lw_p40 : lw_okq (⟨"LiftSweepsModel", "towardsStop", "(I)I"⟩, 17) := ⟨⟨by decide +kernel, by decide +kernel⟩, List.mem_of_getElem? (i := 827) (by decide +kernel), List.mem_of_getElem? (i := 1025) (by decide +kernel), List.mem_of_getElem? (i := 1026) (by decide +kernel)⟩
theorem lw_p41 : lw_okq (⟨"LiftSweepsModel", "isStop", "(II)Z"⟩, 17) := ⟨⟨by decide +kernel, by decide +kernel⟩, List.mem_of_getElem? (i := 827) (by decide +kernel), List.mem_of_getElem? (i := 1029) (by decide +kernel), List.mem_of_getElem? (i := 1030) (by decide +kernel)⟩
theorem lw_p42 : lw_okq (⟨"LiftSweepsModel", "floors", "()I"⟩, 17) := ⟨⟨by decide +kernel, by decide +kernel⟩, List.mem_of_getElem? (i := 827) (by decide +kernel), List.mem_of_getElem? (i := 1033) (by decide +kernel), List.mem_of_getElem? (i := 1034) (by decide +kernel)⟩
theorem lw_p43 : lw_okq (⟨"LiftSweepsModel", "boards", "(I)I"⟩, 17) := ⟨⟨by decide +kernel, by decide +kernel⟩, List.mem_of_getElem? (i := 827) (by decide +kernel), List.mem_of_getElem? (i := 1037) (by decide +kernel), List.mem_of_getElem? (i := 1038) (by decide +kernel)⟩
theorem lw_p44 : lw_okq (⟨"LiftSweepsModel", "isFloor", "(I)Z"⟩, 17) := ⟨⟨by decide +kernel, by decide +kernel⟩, List.mem_of_getElem? (i := 827) (by decide +kernel), List.mem_of_getElem? (i := 1050) (by decide +kernel), List.mem_of_getElem? (i := 1051) (by decide +kernel)⟩
theorem lw_p45 : lw_okq (⟨"LiftSweepsModel", "isRoomFor", "(I)Z"⟩, 17) := ⟨⟨by decide +kernel, by decide +kernel⟩, List.mem_of_getElem? (i := 827) (by decide +kernel), List.mem_of_getElem? (i := 1054) (by decide +kernel), List.mem_of_getElem? (i := 1055) (by decide +kernel)⟩
theorem lw_p46 : lw_okq (⟨"LiftSweepsModel", "hasRoom", "(II)Z"⟩, 17) := ⟨⟨by decide +kernel, by decide +kernel⟩, List.mem_of_getElem? (i := 827) (by decide +kernel), List.mem_of_getElem? (i := 1058) (by decide +kernel), List.mem_of_getElem? (i := 1059) (by decide +kernel)⟩
theorem lw_p47 : lw_okq (⟨"LiftSweepsModel", "many", "(I)I"⟩, 17) := ⟨⟨by decide +kernel, by decide +kernel⟩, List.mem_of_getElem? (i := 827) (by decide +kernel), List.mem_of_getElem? (i := 1062) (by decide +kernel), List.mem_of_getElem? (i := 1063) (by decide +kernel)⟩
def lw_privs_3 : List (MethodName × Nat) := [(⟨"LiftSweepsModel", "leaves", "(I)I"⟩, 17), (⟨"LiftSweepsModel", "setsGroup", "(III)V"⟩, 17), (⟨"LiftSweepsModel", "happens", "(II)V"⟩, 17), (⟨"LiftSweepsModel", "looked", "(I)I"⟩, 17), (⟨"LiftSweepsModel", "isGood", "(II)Z"⟩, 17), (⟨"LiftSweepsModel", "isFurther", "(II)Z"⟩, 17), (⟨"LiftSweepsModel", "isHere", "(II)Z"⟩, 17), (⟨"LiftSweepsModel", "wayOf", "(I)I"⟩, 17), (⟨"LiftSweepsModel", "towardsStop", "(I)I"⟩, 17), (⟨"LiftSweepsModel", "isStop", "(II)Z"⟩, 17), (⟨"LiftSweepsModel", "floors", "()I"⟩, 17), (⟨"LiftSweepsModel", "boards", "(I)I"⟩, 17), (⟨"LiftSweepsModel", "isFloor", "(I)Z"⟩, 17), (⟨"LiftSweepsModel", "isRoomFor", "(I)Z"⟩, 17), (⟨"LiftSweepsModel", "hasRoom", "(II)Z"⟩, 17), (⟨"LiftSweepsModel", "many", "(I)I"⟩, 17)]
theorem lw_r3 : ∀ q ∈ lw_privs_3, lw_okq q := List.forall_mem_cons.mpr ⟨lw_p32, List.forall_mem_cons.mpr ⟨lw_p33, List.forall_mem_cons.mpr ⟨lw_p34, List.forall_mem_cons.mpr ⟨lw_p35, List.forall_mem_cons.mpr ⟨lw_p36, List.forall_mem_cons.mpr ⟨lw_p37, List.forall_mem_cons.mpr ⟨lw_p38, List.forall_mem_cons.mpr ⟨lw_p39, List.forall_mem_cons.mpr ⟨lw_p40, List.forall_mem_cons.mpr ⟨lw_p41, List.forall_mem_cons.mpr ⟨lw_p42, List.forall_mem_cons.mpr ⟨lw_p43, List.forall_mem_cons.mpr ⟨lw_p44, List.forall_mem_cons.mpr ⟨lw_p45, List.forall_mem_cons.mpr ⟨lw_p46, List.forall_mem_cons.mpr ⟨lw_p47, fun _ h => absurd h List.not_mem_nil⟩⟩⟩⟩⟩⟩⟩⟩⟩⟩⟩⟩⟩⟩⟩⟩
theorem lw_p48 : lw_okq (⟨"LiftSweepsModel", "cheapest", "(I)I"⟩, 17) := ⟨⟨by decide +kernel, by decide +kernel⟩, List.mem_of_getElem? (i := 827) (by decide +kernel), List.mem_of_getElem? (i := 1066) (by decide +kernel), List.mem_of_getElem? (i := 1067) (by decide +kernel)⟩
theorem lw_p49 : lw_okq (⟨"LiftSweepsModel", "costOf", "(II)I"⟩, 17) := ⟨⟨by decide +kernel, by decide +kernel⟩, List.mem_of_getElem? (i := 827) (by decide +kernel), List.mem_of_getElem? (i := 1070) (by decide +kernel), List.mem_of_getElem? (i := 1071) (by decide +kernel)⟩
theorem lw_p50 : lw_okq (⟨"LiftSweepsModel", "near", "(II)I"⟩, 17) := ⟨⟨by decide +kernel, by decide +kernel⟩, List.mem_of_getElem? (i := 827) (by decide +kernel), List.mem_of_getElem? (i := 1074) (by decide +kernel), List.mem_of_getElem? (i := 1075) (by decide +kernel)⟩
theorem lw_p51 : lw_okq (⟨"LiftSweepsModel", "others", "(II)I"⟩, 17) := ⟨⟨by decide +kernel, by decide +kernel⟩, List.mem_of_getElem? (i := 827) (by decide +kernel), List.mem_of_getElem? (i := 1079) (by decide +kernel), List.mem_of_getElem? (i := 1080) (by decide +kernel)⟩
theorem lw_p52 : lw_okq (⟨"LiftSweepsModel", "ticksTill", "(IIII)I"⟩, 17) := ⟨⟨by decide +kernel, by decide +kernel⟩, List.mem_of_getElem? (i := 827) (by decide +kernel), List.mem_of_getElem? (i := 1083) (by decide +kernel), List.mem_of_getElem? (i := 1084) (by decide +kernel)⟩
theorem lw_p53 : lw_okq (⟨"LiftSweepsModel", "thinks", "()V"⟩, 17) := ⟨⟨by decide +kernel, by decide +kernel⟩, List.mem_of_getElem? (i := 827) (by decide +kernel), List.mem_of_getElem? (i := 1087) (by decide +kernel), List.mem_of_getElem? (i := 1088) (by decide +kernel)⟩
theorem lw_p54 : lw_okq (⟨"LiftSweepsModel", "becomesOwn", "(II)V"⟩, 17) := ⟨⟨by decide +kernel, by decide +kernel⟩, List.mem_of_getElem? (i := 827) (by decide +kernel), List.mem_of_getElem? (i := 1092) (by decide +kernel), List.mem_of_getElem? (i := 1093) (by decide +kernel)⟩
theorem lw_p55 : lw_okq (⟨"LiftSweepsModel", "laysBack", "()V"⟩, 17) := ⟨⟨by decide +kernel, by decide +kernel⟩, List.mem_of_getElem? (i := 827) (by decide +kernel), List.mem_of_getElem? (i := 1096) (by decide +kernel), List.mem_of_getElem? (i := 1097) (by decide +kernel)⟩
theorem lw_p56 : lw_okq (⟨"LiftSweepsModel", "isWaiting", "(I)Z"⟩, 17) := ⟨⟨by decide +kernel, by decide +kernel⟩, List.mem_of_getElem? (i := 827) (by decide +kernel), List.mem_of_getElem? (i := 1113) (by decide +kernel), List.mem_of_getElem? (i := 1114) (by decide +kernel)⟩
theorem lw_p57 : lw_okq (⟨"LiftSweepsModel", "givesAnew", "(II)V"⟩, 17) := ⟨⟨by decide +kernel, by decide +kernel⟩, List.mem_of_getElem? (i := 827) (by decide +kernel), List.mem_of_getElem? (i := 1121) (by decide +kernel), List.mem_of_getElem? (i := 1122) (by decide +kernel)⟩
theorem lw_p58 : lw_okq (⟨"LiftSweepsModel", "floorBy", "(I)I"⟩, 17) := ⟨⟨by decide +kernel, by decide +kernel⟩, List.mem_of_getElem? (i := 827) (by decide +kernel), List.mem_of_getElem? (i := 1133) (by decide +kernel), List.mem_of_getElem? (i := 1134) (by decide +kernel)⟩
theorem lw_p59 : lw_okq (⟨"LiftSweepsModel", "aheadBy", "(I)I"⟩, 17) := ⟨⟨by decide +kernel, by decide +kernel⟩, List.mem_of_getElem? (i := 827) (by decide +kernel), List.mem_of_getElem? (i := 1137) (by decide +kernel), List.mem_of_getElem? (i := 1138) (by decide +kernel)⟩
theorem lw_p60 : lw_okq (⟨"LiftSweepsModel", "oldestNow", "()I"⟩, 17) := ⟨⟨by decide +kernel, by decide +kernel⟩, List.mem_of_getElem? (i := 827) (by decide +kernel), List.mem_of_getElem? (i := 1170) (by decide +kernel), List.mem_of_getElem? (i := 1171) (by decide +kernel)⟩
theorem lw_p61 : lw_okq (⟨"LiftSweepsModel", "longest", "()I"⟩, 17) := ⟨⟨by decide +kernel, by decide +kernel⟩, List.mem_of_getElem? (i := 827) (by decide +kernel), List.mem_of_getElem? (i := 1175) (by decide +kernel), List.mem_of_getElem? (i := 1176) (by decide +kernel)⟩
theorem lw_p62 : lw_okq (⟨"LiftSweepsModel", "longestWaited", "()I"⟩, 17) := ⟨⟨by decide +kernel, by decide +kernel⟩, List.mem_of_getElem? (i := 827) (by decide +kernel), List.mem_of_getElem? (i := 1179) (by decide +kernel), List.mem_of_getElem? (i := 1180) (by decide +kernel)⟩
theorem lw_p63 : lw_okq (⟨"LiftSweepsModel", "doneNow", "(I)I"⟩, 17) := ⟨⟨by decide +kernel, by decide +kernel⟩, List.mem_of_getElem? (i := 827) (by decide +kernel), List.mem_of_getElem? (i := 1191) (by decide +kernel), List.mem_of_getElem? (i := 1192) (by decide +kernel)⟩
def lw_privs_4 : List (MethodName × Nat) := [(⟨"LiftSweepsModel", "cheapest", "(I)I"⟩, 17), (⟨"LiftSweepsModel", "costOf", "(II)I"⟩, 17), (⟨"LiftSweepsModel", "near", "(II)I"⟩, 17), (⟨"LiftSweepsModel", "others", "(II)I"⟩, 17), (⟨"LiftSweepsModel", "ticksTill", "(IIII)I"⟩, 17), (⟨"LiftSweepsModel", "thinks", "()V"⟩, 17), (⟨"LiftSweepsModel", "becomesOwn", "(II)V"⟩, 17), (⟨"LiftSweepsModel", "laysBack", "()V"⟩, 17), (⟨"LiftSweepsModel", "isWaiting", "(I)Z"⟩, 17), (⟨"LiftSweepsModel", "givesAnew", "(II)V"⟩, 17), (⟨"LiftSweepsModel", "floorBy", "(I)I"⟩, 17), (⟨"LiftSweepsModel", "aheadBy", "(I)I"⟩, 17), (⟨"LiftSweepsModel", "oldestNow", "()I"⟩, 17), (⟨"LiftSweepsModel", "longest", "()I"⟩, 17), (⟨"LiftSweepsModel", "longestWaited", "()I"⟩, 17), (⟨"LiftSweepsModel", "doneNow", "(I)I"⟩, 17)]
theorem lw_r4 : ∀ q ∈ lw_privs_4, lw_okq q := List.forall_mem_cons.mpr ⟨lw_p48, List.forall_mem_cons.mpr ⟨lw_p49, List.forall_mem_cons.mpr ⟨lw_p50, List.forall_mem_cons.mpr ⟨lw_p51, List.forall_mem_cons.mpr ⟨lw_p52, List.forall_mem_cons.mpr ⟨lw_p53, List.forall_mem_cons.mpr ⟨lw_p54, List.forall_mem_cons.mpr ⟨lw_p55, List.forall_mem_cons.mpr ⟨lw_p56, List.forall_mem_cons.mpr ⟨lw_p57, List.forall_mem_cons.mpr ⟨lw_p58, List.forall_mem_cons.mpr ⟨lw_p59, List.forall_mem_cons.mpr ⟨lw_p60, List.forall_mem_cons.mpr ⟨lw_p61, List.forall_mem_cons.mpr ⟨lw_p62, List.forall_mem_cons.mpr ⟨lw_p63, fun _ h => absurd h List.not_mem_nil⟩⟩⟩⟩⟩⟩⟩⟩⟩⟩⟩⟩⟩⟩⟩⟩
theorem lw_p64 : lw_okq (⟨"LiftSweepsModel", "drawnBy", "(III)I"⟩, 17) := ⟨⟨by decide +kernel, by decide +kernel⟩, List.mem_of_getElem? (i := 827) (by decide +kernel), List.mem_of_getElem? (i := 1208) (by decide +kernel), List.mem_of_getElem? (i := 1209) (by decide +kernel)⟩
theorem lw_p65 : lw_okq (⟨"LiftSweepsModel", "readsAll", "()Z"⟩, 17) := ⟨⟨by decide +kernel, by decide +kernel⟩, List.mem_of_getElem? (i := 827) (by decide +kernel), List.mem_of_getElem? (i := 1231) (by decide +kernel), List.mem_of_getElem? (i := 1232) (by decide +kernel)⟩
theorem lw_p66 : lw_okq (⟨"LiftSweepsModel", "next", "()V"⟩, 17) := ⟨⟨by decide +kernel, by decide +kernel⟩, List.mem_of_getElem? (i := 827) (by decide +kernel), List.mem_of_getElem? (i := 1235) (by decide +kernel), List.mem_of_getElem? (i := 1236) (by decide +kernel)⟩
theorem lw_p67 : lw_okq (⟨"LiftSweepsModel", "byteAt", "(I)I"⟩, 17) := ⟨⟨by decide +kernel, by decide +kernel⟩, List.mem_of_getElem? (i := 827) (by decide +kernel), List.mem_of_getElem? (i := 1239) (by decide +kernel), List.mem_of_getElem? (i := 1240) (by decide +kernel)⟩
theorem lw_p68 : lw_okq (⟨"LiftSweepsModel", "wordFrom", "(II)I"⟩, 17) := ⟨⟨by decide +kernel, by decide +kernel⟩, List.mem_of_getElem? (i := 827) (by decide +kernel), List.mem_of_getElem? (i := 1245) (by decide +kernel), List.mem_of_getElem? (i := 1246) (by decide +kernel)⟩
theorem lw_p69 : lw_okq (⟨"LiftSweepsModel", "readsClause", "()Z"⟩, 17) := ⟨⟨by decide +kernel, by decide +kernel⟩, List.mem_of_getElem? (i := 827) (by decide +kernel), List.mem_of_getElem? (i := 1251) (by decide +kernel), List.mem_of_getElem? (i := 1252) (by decide +kernel)⟩
theorem lw_p70 : lw_okq (⟨"LiftSweepsModel", "does", "(I)I"⟩, 17) := ⟨⟨by decide +kernel, by decide +kernel⟩, List.mem_of_getElem? (i := 827) (by decide +kernel), List.mem_of_getElem? (i := 1257) (by decide +kernel), List.mem_of_getElem? (i := 1258) (by decide +kernel)⟩
theorem lw_p71 : lw_okq (⟨"LiftSweepsModel", "unlike", "(II)I"⟩, 17) := ⟨⟨by decide +kernel, by decide +kernel⟩, List.mem_of_getElem? (i := 827) (by decide +kernel), List.mem_of_getElem? (i := 1286) (by decide +kernel), List.mem_of_getElem? (i := 1287) (by decide +kernel)⟩
theorem lw_p72 : lw_okq (⟨"LiftSweepsModel", "likeBy", "(IIII)I"⟩, 17) := ⟨⟨by decide +kernel, by decide +kernel⟩, List.mem_of_getElem? (i := 827) (by decide +kernel), List.mem_of_getElem? (i := 1290) (by decide +kernel), List.mem_of_getElem? (i := 1291) (by decide +kernel)⟩
def lw_privs_5 : List (MethodName × Nat) := [(⟨"LiftSweepsModel", "drawnBy", "(III)I"⟩, 17), (⟨"LiftSweepsModel", "readsAll", "()Z"⟩, 17), (⟨"LiftSweepsModel", "next", "()V"⟩, 17), (⟨"LiftSweepsModel", "byteAt", "(I)I"⟩, 17), (⟨"LiftSweepsModel", "wordFrom", "(II)I"⟩, 17), (⟨"LiftSweepsModel", "readsClause", "()Z"⟩, 17), (⟨"LiftSweepsModel", "does", "(I)I"⟩, 17), (⟨"LiftSweepsModel", "unlike", "(II)I"⟩, 17), (⟨"LiftSweepsModel", "likeBy", "(IIII)I"⟩, 17)]
theorem lw_r5 : ∀ q ∈ lw_privs_5, lw_okq q := List.forall_mem_cons.mpr ⟨lw_p64, List.forall_mem_cons.mpr ⟨lw_p65, List.forall_mem_cons.mpr ⟨lw_p66, List.forall_mem_cons.mpr ⟨lw_p67, List.forall_mem_cons.mpr ⟨lw_p68, List.forall_mem_cons.mpr ⟨lw_p69, List.forall_mem_cons.mpr ⟨lw_p70, List.forall_mem_cons.mpr ⟨lw_p71, List.forall_mem_cons.mpr ⟨lw_p72, fun _ h => absurd h List.not_mem_nil⟩⟩⟩⟩⟩⟩⟩⟩⟩
def lw_privs : List (MethodName × Nat) := lw_privs_1 ++ (lw_privs_2 ++ (lw_privs_3 ++ (lw_privs_4 ++ (lw_privs_5))))
def lw_tbl : List Cond := k2_sels lw_privs ++ tables_1
theorem lw_privs_ok : ∀ q ∈ lw_privs, lw_okq q := by
  show ∀ q ∈ lw_privs_1 ++ (lw_privs_2 ++ (lw_privs_3 ++ (lw_privs_4 ++ (lw_privs_5)))), lw_okq q
  exact List.forall_mem_append.mpr ⟨lw_r1, List.forall_mem_append.mpr ⟨lw_r2, List.forall_mem_append.mpr ⟨lw_r3, List.forall_mem_append.mpr ⟨lw_r4, lw_r5⟩⟩⟩⟩
/-! ===== BEGIN printed: names, fields, word lists, decode rows ===== -/
def RX0 : String := "LiftSweeps$Car"
def TX0 : u_T := fun k => match k with
  | 0 => ("LiftSweeps$Car", "kind", "I", false)
  | 1 => ("LiftSweeps$Car", "figure", "I", false)
  | 2 => ("LiftSweeps$Car", "room", "I", false)
  | 3 => ("LiftSweeps$Car", "floor", "I", false)
  | 4 => ("LiftSweeps$Car", "direction", "I", false)
  | 5 => ("LiftSweeps$Car", "wait", "I", false)
  | 6 => ("LiftSweeps$Car", "parkFloor", "I", false)
  | _ => ("LiftSweeps$Car", "goes", "Z", false)
def tyX0 : Nat → FieldType := fun k => match k with
  | 0 => .int
  | 1 => .int
  | 2 => .int
  | 3 => .int
  | 4 => .int
  | 5 => .int
  | 6 => .int
  | _ => .boolean
theorem nmX0 : ∀ a, a < 8 → ∀ b, b < 8 → a ≠ b → (TX0 a).2.1 ≠ (TX0 b).2.1 := by decide +kernel
theorem tyX0_ok : ∀ k, k < 8 → parseFieldDescriptor (TX0 k).2.2.1 = some (tyX0 k) := by decide +kernel
abbrev cX0_init : ByteArray := prog_2_method_1_code
def yX0_init : MethodName := ⟨RX0, "<init>", "()V"⟩
abbrev cX0_reset : ByteArray := prog_2_method_2_code
def yX0_reset : MethodName := ⟨RX0, "reset", "()V"⟩
abbrev cX0_become : ByteArray := prog_2_method_3_code
def yX0_become : MethodName := ⟨RX0, "become", "(LLiftSweeps$Car;)V"⟩
abbrev cX0_paceWith : ByteArray := prog_2_method_4_code
def yX0_paceWith : MethodName := ⟨RX0, "paceWith", "(I)I"⟩
abbrev cX0_stay : ByteArray := prog_2_method_5_code
def yX0_stay : MethodName := ⟨RX0, "stay", "()I"⟩
abbrev cX0_isOneOf : ByteArray := prog_2_method_6_code
def yX0_isOneOf : MethodName := ⟨RX0, "isOneOf", "(I)Z"⟩
abbrev cX0_figureOf : ByteArray := prog_2_method_7_code
def yX0_figureOf : MethodName := ⟨RX0, "figureOf", "(I)I"⟩
def RX1 : String := "LiftSweeps$Groups"
def TX1 : u_T := fun k => match k with
  | 0 => ("LiftSweeps$Groups", "from", "[I", true)
  | 1 => ("LiftSweeps$Groups", "to", "[I", true)
  | 2 => ("LiftSweeps$Groups", "size", "[I", true)
  | 3 => ("LiftSweeps$Groups", "car", "[I", true)
  | 4 => ("LiftSweeps$Groups", "how", "[I", true)
  | 5 => ("LiftSweeps$Groups", "called", "[I", true)
  | 6 => ("LiftSweeps$Groups", "waited", "[I", true)
  | 7 => ("LiftSweeps$Groups", "given", "[I", true)
  | 8 => ("LiftSweeps$Groups", "live", "[I", true)
  | 9 => ("LiftSweeps$Groups", "liveCount", "I", false)
  | _ => ("LiftSweeps$Groups", "count", "I", false)
def tyX1 : Nat → FieldType := fun k => match k with
  | 0 => .array .int
  | 1 => .array .int
  | 2 => .array .int
  | 3 => .array .int
  | 4 => .array .int
  | 5 => .array .int
  | 6 => .array .int
  | 7 => .array .int
  | 8 => .array .int
  | 9 => .int
  | _ => .int
theorem nmX1 : ∀ a, a < 11 → ∀ b, b < 11 → a ≠ b → (TX1 a).2.1 ≠ (TX1 b).2.1 := by decide +kernel
theorem tyX1_ok : ∀ k, k < 11 → parseFieldDescriptor (TX1 k).2.2.1 = some (tyX1 k) := by decide +kernel
abbrev cX1_init : ByteArray := prog_3_method_1_code
def yX1_init : MethodName := ⟨RX1, "<init>", "()V"⟩
abbrev cX1_clear : ByteArray := prog_3_method_2_code
def yX1_clear : MethodName := ⟨RX1, "clear", "()V"⟩
abbrev cX1_become : ByteArray := prog_3_method_3_code
def yX1_become : MethodName := ⟨RX1, "become", "(LLiftSweeps$Groups;)V"⟩
abbrev cX1_isFull : ByteArray := prog_3_method_4_code
def yX1_isFull : MethodName := ⟨RX1, "isFull", "()Z"⟩
abbrev cX1_add : ByteArray := prog_3_method_5_code
def yX1_add : MethodName := ⟨RX1, "add", "(IIII)I"⟩
abbrev cX1_dropThere : ByteArray := prog_3_method_6_code
def yX1_dropThere : MethodName := ⟨RX1, "dropThere", "()V"⟩
abbrev cX1_waitedBy : ByteArray := prog_3_method_7_code
def yX1_waitedBy : MethodName := ⟨RX1, "waitedBy", "(II)I"⟩
abbrev cX1_directionOf : ByteArray := prog_3_method_8_code
def yX1_directionOf : MethodName := ⟨RX1, "directionOf", "(I)I"⟩
abbrev cX1_waitsAt : ByteArray := prog_3_method_9_code
def yX1_waitsAt : MethodName := ⟨RX1, "waitsAt", "(III)Z"⟩
abbrev cX1_ownOf : ByteArray := prog_3_method_10_code
def yX1_ownOf : MethodName := ⟨RX1, "ownOf", "(I)I"⟩
abbrev cX1_ridersOf : ByteArray := prog_3_method_11_code
def yX1_ridersOf : MethodName := ⟨RX1, "ridersOf", "(I)I"⟩
abbrev cX1_peopleBut : ByteArray := prog_3_method_12_code
def yX1_peopleBut : MethodName := ⟨RX1, "peopleBut", "(II)I"⟩
abbrev cX1_howMany : ByteArray := prog_3_method_13_code
def yX1_howMany : MethodName := ⟨RX1, "howMany", "(I)I"⟩
abbrev cX1_oldestWaiting : ByteArray := prog_3_method_14_code
def yX1_oldestWaiting : MethodName := ⟨RX1, "oldestWaiting", "()I"⟩
abbrev cX1_longest : ByteArray := prog_3_method_15_code
def yX1_longest : MethodName := ⟨RX1, "longest", "()I"⟩
abbrev cX1_longestWaited : ByteArray := prog_3_method_16_code
def yX1_longestWaited : MethodName := ⟨RX1, "longestWaited", "()I"⟩
def RX2 : String := "LiftSweeps$Hall"
def TX2 : u_T := fun k => match k with
  | 0 => ("LiftSweeps$Hall", "floors", "I", false)
  | 1 => ("LiftSweeps$Hall", "carCount", "I", false)
  | 2 => ("LiftSweeps$Hall", "tick", "I", false)
  | 3 => ("LiftSweeps$Hall", "passed", "I", false)
  | 4 => ("LiftSweeps$Hall", "way", "I", false)
  | 5 => ("LiftSweeps$Hall", "gap", "I", false)
  | 6 => ("LiftSweeps$Hall", "cars", "[LLiftSweeps$Car;", true)
  | 7 => ("LiftSweeps$Hall", "groups", "LLiftSweeps$Groups;", true)
  | 8 => ("LiftSweeps$Hall", "demands", "[I", true)
  | 9 => ("LiftSweeps$Hall", "journal", "LLiftSweeps$Journal;", true)
  | _ => ("LiftSweeps$Hall", "deeper", "LLiftSweeps$Hall;", true)
def tyX2 : Nat → FieldType := fun k => match k with
  | 0 => .int
  | 1 => .int
  | 2 => .int
  | 3 => .int
  | 4 => .int
  | 5 => .int
  | 6 => .array (.object "LiftSweeps$Car")
  | 7 => .object "LiftSweeps$Groups"
  | 8 => .array .int
  | 9 => .object "LiftSweeps$Journal"
  | _ => .object "LiftSweeps$Hall"
theorem nmX2 : ∀ a, a < 11 → ∀ b, b < 11 → a ≠ b → (TX2 a).2.1 ≠ (TX2 b).2.1 := by decide +kernel
theorem tyX2_ok : ∀ k, k < 11 → parseFieldDescriptor (TX2 k).2.2.1 = some (tyX2 k) := by decide +kernel
abbrev cX2_init : ByteArray := prog_4_method_1_code
def yX2_init : MethodName := ⟨RX2, "<init>", "(LLiftSweeps$Hall;)V"⟩
abbrev cX2_reset : ByteArray := prog_4_method_2_code
def yX2_reset : MethodName := ⟨RX2, "reset", "(II)V"⟩
abbrev cX2_become : ByteArray := prog_4_method_3_code
def yX2_become : MethodName := ⟨RX2, "become", "(LLiftSweeps$Hall;)V"⟩
abbrev cX2_isFloor : ByteArray := prog_4_method_4_code
def yX2_isFloor : MethodName := ⟨RX2, "isFloor", "(I)Z"⟩
abbrev cX2_isCar : ByteArray := prog_4_method_5_code
def yX2_isCar : MethodName := ⟨RX2, "isCar", "(I)Z"⟩
abbrev cX2_isGroup : ByteArray := prog_4_method_6_code
def yX2_isGroup : MethodName := ⟨RX2, "isGroup", "(I)Z"⟩
abbrev cX2_waits : ByteArray := prog_4_method_7_code
def yX2_waits : MethodName := ⟨RX2, "waits", "(I)Z"⟩
abbrev cX2_hasRoom : ByteArray := prog_4_method_8_code
def yX2_hasRoom : MethodName := ⟨RX2, "hasRoom", "(II)Z"⟩
abbrev cX2_stopsOf : ByteArray := prog_4_method_9_code
def yX2_stopsOf : MethodName := ⟨RX2, "stopsOf", "(I)I"⟩
abbrev cX2_stopBySweep : ByteArray := prog_4_method_10_code
def yX2_stopBySweep : MethodName := ⟨RX2, "stopBySweep", "(II)I"⟩
abbrev cX2_takeCall : ByteArray := prog_4_method_11_code
def yX2_takeCall : MethodName := ⟨RX2, "takeCall", "(III)I"⟩
abbrev cX2_anyHasRoom : ByteArray := prog_4_method_12_code
def yX2_anyHasRoom : MethodName := ⟨RX2, "anyHasRoom", "(I)Z"⟩
abbrev cX2_assign : ByteArray := prog_4_method_13_code
def yX2_assign : MethodName := ⟨RX2, "assign", "(II)V"⟩
abbrev cX2_giveAnew : ByteArray := prog_4_method_14_code
def yX2_giveAnew : MethodName := ⟨RX2, "giveAnew", "(II)V"⟩
abbrev cX2_regiveAll : ByteArray := prog_4_method_15_code
def yX2_regiveAll : MethodName := ⟨RX2, "regiveAll", "()I"⟩
abbrev cX2_costFor : ByteArray := prog_4_method_16_code
def yX2_costFor : MethodName := ⟨RX2, "costFor", "(II)I"⟩
abbrev cX2_distance : ByteArray := prog_4_method_17_code
def yX2_distance : MethodName := ⟨RX2, "distance", "(LLiftSweeps$Car;I)I"⟩
abbrev cX2_ticksTill : ByteArray := prog_4_method_18_code
def yX2_ticksTill : MethodName := ⟨RX2, "ticksTill", "(IIII)I"⟩
abbrev cX2_soonestCar : ByteArray := prog_4_method_19_code
def yX2_soonestCar : MethodName := ⟨RX2, "soonestCar", "(I)I"⟩
abbrev cX2_finish : ByteArray := prog_4_method_20_code
def yX2_finish : MethodName := ⟨RX2, "finish", "()I"⟩
abbrev cX2_passTick : ByteArray := prog_4_method_21_code
def yX2_passTick : MethodName := ⟨RX2, "passTick", "()I"⟩
abbrev cX2_move : ByteArray := prog_4_method_22_code
def yX2_move : MethodName := ⟨RX2, "move", "(I)I"⟩
abbrev cX2_letOut : ByteArray := prog_4_method_23_code
def yX2_letOut : MethodName := ⟨RX2, "letOut", "(I)I"⟩
abbrev cX2_lookAround : ByteArray := prog_4_method_24_code
def yX2_lookAround : MethodName := ⟨RX2, "lookAround", "(II)I"⟩
abbrev cX2_isAhead : ByteArray := prog_4_method_25_code
def yX2_isAhead : MethodName := ⟨RX2, "isAhead", "(III)Z"⟩
abbrev cX2_towardsNearest : ByteArray := prog_4_method_26_code
def yX2_towardsNearest : MethodName := ⟨RX2, "towardsNearest", "(II)I"⟩
abbrev cX2_letIn : ByteArray := prog_4_method_27_code
def yX2_letIn : MethodName := ⟨RX2, "letIn", "(II)I"⟩
abbrev cX2_parkIdle : ByteArray := prog_4_method_28_code
def yX2_parkIdle : MethodName := ⟨RX2, "parkIdle", "()I"⟩
abbrev cX2_floorByDemand : ByteArray := prog_4_method_29_code
def yX2_floorByDemand : MethodName := ⟨RX2, "floorByDemand", "(I)I"⟩
def RX3 : String := "LiftSweeps$Journal"
def TX3 : u_T := fun k => match k with
  | 0 => ("LiftSweeps$Journal", "sorts", "[I", true)
  | 1 => ("LiftSweeps$Journal", "groups", "[I", true)
  | 2 => ("LiftSweeps$Journal", "cars", "[I", true)
  | 3 => ("LiftSweeps$Journal", "ticks", "[I", true)
  | 4 => ("LiftSweeps$Journal", "held", "I", false)
  | _ => ("LiftSweeps$Journal", "next", "I", false)
def tyX3 : Nat → FieldType := fun k => match k with
  | 0 => .array .int
  | 1 => .array .int
  | 2 => .array .int
  | 3 => .array .int
  | 4 => .int
  | _ => .int
theorem nmX3 : ∀ a, a < 6 → ∀ b, b < 6 → a ≠ b → (TX3 a).2.1 ≠ (TX3 b).2.1 := by decide +kernel
theorem tyX3_ok : ∀ k, k < 6 → parseFieldDescriptor (TX3 k).2.2.1 = some (tyX3 k) := by decide +kernel
abbrev cX3_init : ByteArray := prog_5_method_1_code
def yX3_init : MethodName := ⟨RX3, "<init>", "()V"⟩
abbrev cX3_clear : ByteArray := prog_5_method_2_code
def yX3_clear : MethodName := ⟨RX3, "clear", "()V"⟩
abbrev cX3_become : ByteArray := prog_5_method_3_code
def yX3_become : MethodName := ⟨RX3, "become", "(LLiftSweeps$Journal;)V"⟩
abbrev cX3_note : ByteArray := prog_5_method_4_code
def yX3_note : MethodName := ⟨RX3, "note", "(IIII)V"⟩
abbrev cX3_has : ByteArray := prog_5_method_5_code
def yX3_has : MethodName := ⟨RX3, "has", "(I)Z"⟩
abbrev cX3_tell : ByteArray := prog_5_method_6_code
def yX3_tell : MethodName := ⟨RX3, "tell", "(II)I"⟩
def RX4 : String := "LiftSweeps$Sheet"
def TX4 : u_T := fun k => match k with
  | 0 => ("LiftSweeps$Sheet", "sort", "I", false)
  | 1 => ("LiftSweeps$Sheet", "size", "I", false)
  | _ => ("LiftSweeps$Sheet", "items", "[I", true)
def tyX4 : Nat → FieldType := fun k => match k with
  | 0 => .int
  | 1 => .int
  | _ => .array .int
theorem nmX4 : ∀ a, a < 3 → ∀ b, b < 3 → a ≠ b → (TX4 a).2.1 ≠ (TX4 b).2.1 := by decide +kernel
theorem tyX4_ok : ∀ k, k < 3 → parseFieldDescriptor (TX4 k).2.2.1 = some (tyX4 k) := by decide +kernel
abbrev cX4_init : ByteArray := prog_6_method_1_code
def yX4_init : MethodName := ⟨RX4, "<init>", "()V"⟩
abbrev cX4_become : ByteArray := prog_6_method_2_code
def yX4_become : MethodName := ⟨RX4, "become", "(II)V"⟩
abbrev cX4_holds : ByteArray := prog_6_method_3_code
def yX4_holds : MethodName := ⟨RX4, "holds", "(II)Z"⟩
abbrev cX4_set : ByteArray := prog_6_method_4_code
def yX4_set : MethodName := ⟨RX4, "set", "(II)V"⟩
def RX5 : String := "LiftSweeps$Tape"
def TX5 : u_T := fun k => match k with
  | 0 => ("LiftSweeps$Tape", "size", "I", false)
  | 1 => ("LiftSweeps$Tape", "clauses", "I", false)
  | 2 => ("LiftSweeps$Tape", "bytes", "[I", true)
  | 3 => ("LiftSweeps$Tape", "words", "[I", true)
  | 4 => ("LiftSweeps$Tape", "numbers", "[I", true)
  | 5 => ("LiftSweeps$Tape", "token", "I", false)
  | 6 => ("LiftSweeps$Tape", "start", "I", false)
  | _ => ("LiftSweeps$Tape", "end", "I", false)
def tyX5 : Nat → FieldType := fun k => match k with
  | 0 => .int
  | 1 => .int
  | 2 => .array .int
  | 3 => .array .int
  | 4 => .array .int
  | 5 => .int
  | 6 => .int
  | _ => .int
theorem nmX5 : ∀ a, a < 8 → ∀ b, b < 8 → a ≠ b → (TX5 a).2.1 ≠ (TX5 b).2.1 := by decide +kernel
theorem tyX5_ok : ∀ k, k < 8 → parseFieldDescriptor (TX5 k).2.2.1 = some (tyX5 k) := by decide +kernel
abbrev cX5_init : ByteArray := prog_7_method_1_code
def yX5_init : MethodName := ⟨RX5, "<init>", "()V"⟩
abbrev cX5_add : ByteArray := prog_7_method_2_code
def yX5_add : MethodName := ⟨RX5, "add", "(I)V"⟩
abbrev cX5_wordOf : ByteArray := prog_7_method_3_code
def yX5_wordOf : MethodName := ⟨RX5, "wordOf", "(I)I"⟩
abbrev cX5_numberOf : ByteArray := prog_7_method_4_code
def yX5_numberOf : MethodName := ⟨RX5, "numberOf", "(II)I"⟩
abbrev cX5_read : ByteArray := prog_7_method_5_code
def yX5_read : MethodName := ⟨RX5, "read", "()I"⟩
abbrev cX5_readClause : ByteArray := prog_7_method_6_code
def yX5_readClause : MethodName := ⟨RX5, "readClause", "(I)Z"⟩
abbrev cX5_advance : ByteArray := prog_7_method_7_code
def yX5_advance : MethodName := ⟨RX5, "advance", "()V"⟩
abbrev cX5_sortOf : ByteArray := prog_7_method_8_code
def yX5_sortOf : MethodName := ⟨RX5, "sortOf", "(I)I"⟩
abbrev cX5_valueHere : ByteArray := prog_7_method_9_code
def yX5_valueHere : MethodName := ⟨RX5, "valueHere", "()I"⟩
abbrev cX5_wordHere : ByteArray := prog_7_method_10_code
def yX5_wordHere : MethodName := ⟨RX5, "wordHere", "()I"⟩
abbrev cX5_isHere : ByteArray := prog_7_method_11_code
def yX5_isHere : MethodName := ⟨RX5, "isHere", "(Ljava/lang/String;)Z"⟩
abbrev cX5_spelling : ByteArray := prog_7_method_12_code
def yX5_spelling : MethodName := ⟨RX5, "spelling", "(I)Ljava/lang/String;"⟩
def RX6 : String := "LiftSweeps"
def TX6 : u_T := fun k => match k with
  | 0 => ("LiftSweeps", "hall", "LLiftSweeps$Hall;", true)
  | 1 => ("LiftSweeps", "thought", "LLiftSweeps$Hall;", true)
  | 2 => ("LiftSweeps", "kept", "LLiftSweeps$Hall;", true)
  | 3 => ("LiftSweeps", "tape", "LLiftSweeps$Tape;", true)
  | 4 => ("LiftSweeps", "sheets", "[LLiftSweeps$Sheet;", true)
  | _ => ("LiftSweeps", "hasImage", "Z", false)
def tyX6 : Nat → FieldType := fun k => match k with
  | 0 => .object "LiftSweeps$Hall"
  | 1 => .object "LiftSweeps$Hall"
  | 2 => .object "LiftSweeps$Hall"
  | 3 => .object "LiftSweeps$Tape"
  | 4 => .array (.object "LiftSweeps$Sheet")
  | _ => .boolean
theorem nmX6 : ∀ a, a < 6 → ∀ b, b < 6 → a ≠ b → (TX6 a).2.1 ≠ (TX6 b).2.1 := by decide +kernel
theorem tyX6_ok : ∀ k, k < 6 → parseFieldDescriptor (TX6 k).2.2.1 = some (tyX6 k) := by decide +kernel
abbrev cX6_init : ByteArray := prog_1_method_1_code
def yX6_init : MethodName := ⟨RX6, "<init>", "()V"⟩
abbrev cX6_build : ByteArray := prog_1_method_2_code
def yX6_build : MethodName := ⟨RX6, "build", "(II)I"⟩
abbrev cX6_car : ByteArray := prog_1_method_3_code
def yX6_car : MethodName := ⟨RX6, "car", "(IIII)I"⟩
abbrev cX6_told : ByteArray := prog_1_method_4_code
def yX6_told : MethodName := ⟨RX6, "told", "(II)I"⟩
abbrev cX6_taken : ByteArray := prog_1_method_5_code
def yX6_taken : MethodName := ⟨RX6, "taken", "(II)I"⟩
abbrev cX6_call : ByteArray := prog_1_method_6_code
def yX6_call : MethodName := ⟨RX6, "call", "(III)I"⟩
abbrev cX6_group : ByteArray := prog_1_method_7_code
def yX6_group : MethodName := ⟨RX6, "group", "(II)I"⟩
abbrev cX6_way : ByteArray := prog_1_method_8_code
def yX6_way : MethodName := ⟨RX6, "way", "(I)I"⟩
abbrev cX6_gap : ByteArray := prog_1_method_9_code
def yX6_gap : MethodName := ⟨RX6, "gap", "(I)I"⟩
abbrev cX6_cost : ByteArray := prog_1_method_10_code
def yX6_cost : MethodName := ⟨RX6, "cost", "(II)I"⟩
abbrev cX6_give : ByteArray := prog_1_method_11_code
def yX6_give : MethodName := ⟨RX6, "give", "(II)I"⟩
abbrev cX6_regive : ByteArray := prog_1_method_12_code
def yX6_regive : MethodName := ⟨RX6, "regive", "()I"⟩
abbrev cX6_tick : ByteArray := prog_1_method_13_code
def yX6_tick : MethodName := ⟨RX6, "tick", "()I"⟩
abbrev cX6_ticks : ByteArray := prog_1_method_14_code
def yX6_ticks : MethodName := ⟨RX6, "ticks", "(I)I"⟩
abbrev cX6_park : ByteArray := prog_1_method_15_code
def yX6_park : MethodName := ⟨RX6, "park", "()I"⟩
abbrev cX6_demand : ByteArray := prog_1_method_16_code
def yX6_demand : MethodName := ⟨RX6, "demand", "(II)I"⟩
abbrev cX6_sweep : ByteArray := prog_1_method_17_code
def yX6_sweep : MethodName := ⟨RX6, "sweep", "(II)I"⟩
abbrev cX6_near : ByteArray := prog_1_method_18_code
def yX6_near : MethodName := ⟨RX6, "near", "(III)I"⟩
abbrev cX6_oldest : ByteArray := prog_1_method_19_code
def yX6_oldest : MethodName := ⟨RX6, "oldest", "(I)I"⟩
abbrev cX6_mean : ByteArray := prog_1_method_20_code
def yX6_mean : MethodName := ⟨RX6, "mean", "(I)I"⟩
abbrev cX6_done : ByteArray := prog_1_method_21_code
def yX6_done : MethodName := ⟨RX6, "done", "(I)I"⟩
abbrev cX6_would : ByteArray := prog_1_method_22_code
def yX6_would : MethodName := ⟨RX6, "would", "(III)I"⟩
abbrev cX6_soonest : ByteArray := prog_1_method_23_code
def yX6_soonest : MethodName := ⟨RX6, "soonest", "(I)I"⟩
abbrev cX6_drawn : ByteArray := prog_1_method_24_code
def yX6_drawn : MethodName := ⟨RX6, "drawn", "(III)I"⟩
abbrev cX6_chance : ByteArray := prog_1_method_25_code
def yX6_chance : MethodName := ⟨RX6, "chance", "(IIII)I"⟩
abbrev cX6_feed : ByteArray := prog_1_method_26_code
def yX6_feed : MethodName := ⟨RX6, "feed", "(IIIIII)I"⟩
abbrev cX6_text : ByteArray := prog_1_method_27_code
def yX6_text : MethodName := ⟨RX6, "text", "()I"⟩
abbrev cX6_event : ByteArray := prog_1_method_28_code
def yX6_event : MethodName := ⟨RX6, "event", "(II)I"⟩
abbrev cX6_tells : ByteArray := prog_1_method_29_code
def yX6_tells : MethodName := ⟨RX6, "tells", "(III)I"⟩
abbrev cX6_film : ByteArray := prog_1_method_30_code
def yX6_film : MethodName := ⟨RX6, "film", "(III)I"⟩
abbrev cX6_load : ByteArray := prog_1_method_31_code
def yX6_load : MethodName := ⟨RX6, "load", "(IIII)I"⟩
abbrev cX6_image : ByteArray := prog_1_method_32_code
def yX6_image : MethodName := ⟨RX6, "image", "()I"⟩
abbrev cX6_back : ByteArray := prog_1_method_33_code
def yX6_back : MethodName := ⟨RX6, "back", "()I"⟩
abbrev cX6_count : ByteArray := prog_1_method_34_code
def yX6_count : MethodName := ⟨RX6, "count", "(I)I"⟩
abbrev cX6_sheet : ByteArray := prog_1_method_35_code
def yX6_sheet : MethodName := ⟨RX6, "sheet", "(III)I"⟩
abbrev cX6_put : ByteArray := prog_1_method_36_code
def yX6_put : MethodName := ⟨RX6, "put", "(III)I"⟩
abbrev cX6_copy : ByteArray := prog_1_method_37_code
def yX6_copy : MethodName := ⟨RX6, "copy", "(IIIII)I"⟩
abbrev cX6_isSheet : ByteArray := prog_1_method_38_code
def yX6_isSheet : MethodName := ⟨RX6, "isSheet", "(I)Z"⟩
abbrev cX6_isByte : ByteArray := prog_1_method_39_code
def yX6_isByte : MethodName := ⟨RX6, "isByte", "(I)Z"⟩
abbrev cX6_hasBit : ByteArray := prog_1_method_40_code
def yX6_hasBit : MethodName := ⟨RX6, "hasBit", "(II)Z"⟩
abbrev cX6_isPart : ByteArray := prog_1_method_41_code
def yX6_isPart : MethodName := ⟨RX6, "isPart", "(I)Z"⟩
abbrev cX6_inLowestTerms : ByteArray := prog_1_method_42_code
def yX6_inLowestTerms : MethodName := ⟨RX6, "inLowestTerms", "(III)I"⟩
abbrev cX6_thinkDrawn : ByteArray := prog_1_method_43_code
def yX6_thinkDrawn : MethodName := ⟨RX6, "thinkDrawn", "(II)I"⟩
abbrev cX6_nextDrawn : ByteArray := prog_1_method_44_code
def yX6_nextDrawn : MethodName := ⟨RX6, "nextDrawn", "(I)I"⟩
abbrev cX6_tellEnd : ByteArray := prog_1_method_45_code
def yX6_tellEnd : MethodName := ⟨RX6, "tellEnd", "(II)I"⟩
abbrev cX6_perform : ByteArray := prog_1_method_46_code
def yX6_perform : MethodName := ⟨RX6, "perform", "(I)I"⟩
abbrev cX6_firstOtherwise : ByteArray := prog_1_method_47_code
def yX6_firstOtherwise : MethodName := ⟨RX6, "firstOtherwise", "(LLiftSweeps$Sheet;III)I"⟩
abbrev cX6_kindsSo : ByteArray := prog_1_method_48_code
def yX6_kindsSo : MethodName := ⟨RX6, "kindsSo", "(LLiftSweeps$Sheet;I)I"⟩
abbrev cX6_figuresSo : ByteArray := prog_1_method_49_code
def yX6_figuresSo : MethodName := ⟨RX6, "figuresSo", "(LLiftSweeps$Sheet;I)I"⟩
def RX7 : String := "LiftSweepsModel"
def TX7 : u_T := fun k => match k with
  | 0 => ("LiftSweepsModel", "now", "[I", true)
  | 1 => ("LiftSweepsModel", "kept", "[I", true)
  | 2 => ("LiftSweepsModel", "hasImage", "Z", false)
  | 3 => ("LiftSweepsModel", "aside", "[I", true)
  | 4 => ("LiftSweepsModel", "thoughts", "I", false)
  | 5 => ("LiftSweepsModel", "tape", "[I", true)
  | 6 => ("LiftSweepsModel", "taped", "I", false)
  | 7 => ("LiftSweepsModel", "words", "[C", true)
  | 8 => ("LiftSweepsModel", "wants", "[I", true)
  | 9 => ("LiftSweepsModel", "at", "I", false)
  | 10 => ("LiftSweepsModel", "begun", "I", false)
  | 11 => ("LiftSweepsModel", "token", "I", false)
  | 12 => ("LiftSweepsModel", "clauses", "[I", true)
  | 13 => ("LiftSweepsModel", "clauseMany", "I", false)
  | 14 => ("LiftSweepsModel", "sorts", "[I", true)
  | 15 => ("LiftSweepsModel", "sizes", "[I", true)
  | _ => ("LiftSweepsModel", "items", "[I", true)
def tyX7 : Nat → FieldType := fun k => match k with
  | 0 => .array .int
  | 1 => .array .int
  | 2 => .boolean
  | 3 => .array .int
  | 4 => .int
  | 5 => .array .int
  | 6 => .int
  | 7 => .array .char
  | 8 => .array .int
  | 9 => .int
  | 10 => .int
  | 11 => .int
  | 12 => .array .int
  | 13 => .int
  | 14 => .array .int
  | 15 => .array .int
  | _ => .array .int
theorem nmX7 : ∀ a, a < 17 → ∀ b, b < 17 → a ≠ b → (TX7 a).2.1 ≠ (TX7 b).2.1 := by decide +kernel
theorem tyX7_ok : ∀ k, k < 17 → parseFieldDescriptor (TX7 k).2.2.1 = some (tyX7 k) := by decide +kernel
abbrev cX7_in : ByteArray := prog_9_method_1_code
def yX7_in : MethodName := ⟨RX7, "in", "(JJJ)Z"⟩
abbrev cX7_init : ByteArray := prog_9_method_2_code
def yX7_init : MethodName := ⟨RX7, "<init>", "()V"⟩
abbrev cX7_thinks : ByteArray := prog_9_method_3_code
def yX7_thinks : MethodName := ⟨RX7, "thinks", "()V"⟩
abbrev cX7_laysBack : ByteArray := prog_9_method_4_code
def yX7_laysBack : MethodName := ⟨RX7, "laysBack", "()V"⟩
abbrev cX7_builds : ByteArray := prog_9_method_5_code
def yX7_builds : MethodName := ⟨RX7, "builds", "(II)V"⟩
abbrev cX7_build : ByteArray := prog_9_method_6_code
def yX7_build : MethodName := ⟨RX7, "build", "(II)I"⟩
abbrev cX7_floors : ByteArray := prog_9_method_7_code
def yX7_floors : MethodName := ⟨RX7, "floors", "()I"⟩
abbrev cX7_isCar : ByteArray := prog_9_method_8_code
def yX7_isCar : MethodName := ⟨RX7, "isCar", "(I)Z"⟩
abbrev cX7_isFloor : ByteArray := prog_9_method_9_code
def yX7_isFloor : MethodName := ⟨RX7, "isFloor", "(I)Z"⟩
abbrev cX7_isGroup : ByteArray := prog_9_method_10_code
def yX7_isGroup : MethodName := ⟨RX7, "isGroup", "(I)Z"⟩
abbrev cX7_of : ByteArray := prog_9_method_11_code
def yX7_of : MethodName := ⟨RX7, "of", "(II)I"⟩
abbrev cX7_sets : ByteArray := prog_9_method_12_code
def yX7_sets : MethodName := ⟨RX7, "sets", "(III)V"⟩
abbrev cX7_ofGroup : ByteArray := prog_9_method_13_code
def yX7_ofGroup : MethodName := ⟨RX7, "ofGroup", "(II)I"⟩
abbrev cX7_setsGroup : ByteArray := prog_9_method_14_code
def yX7_setsGroup : MethodName := ⟨RX7, "setsGroup", "(III)V"⟩
abbrev cX7_isSo : ByteArray := prog_9_method_15_code
def yX7_isSo : MethodName := ⟨RX7, "isSo", "(III)Z"⟩
abbrev cX7_wayOf : ByteArray := prog_9_method_16_code
def yX7_wayOf : MethodName := ⟨RX7, "wayOf", "(I)I"⟩
abbrev cX7_many : ByteArray := prog_9_method_17_code
def yX7_many : MethodName := ⟨RX7, "many", "(I)I"⟩
abbrev cX7_own : ByteArray := prog_9_method_18_code
def yX7_own : MethodName := ⟨RX7, "own", "(I)I"⟩
abbrev cX7_load : ByteArray := prog_9_method_19_code
def yX7_load : MethodName := ⟨RX7, "load", "(I)I"⟩
abbrev cX7_paceOf : ByteArray := prog_9_method_20_code
def yX7_paceOf : MethodName := ⟨RX7, "paceOf", "(III)I"⟩
abbrev cX7_stayOf : ByteArray := prog_9_method_21_code
def yX7_stayOf : MethodName := ⟨RX7, "stayOf", "(II)I"⟩
abbrev cX7_pace : ByteArray := prog_9_method_22_code
def yX7_pace : MethodName := ⟨RX7, "pace", "(I)I"⟩
abbrev cX7_stay : ByteArray := prog_9_method_23_code
def yX7_stay : MethodName := ⟨RX7, "stay", "(I)I"⟩
abbrev cX7_isUnder : ByteArray := prog_9_method_24_code
def yX7_isUnder : MethodName := ⟨RX7, "isUnder", "(II)Z"⟩
abbrev cX7_car : ByteArray := prog_9_method_25_code
def yX7_car : MethodName := ⟨RX7, "car", "(IIII)I"⟩
abbrev cX7_taken : ByteArray := prog_9_method_26_code
def yX7_taken : MethodName := ⟨RX7, "taken", "(II)I"⟩
abbrev cX7_stops : ByteArray := prog_9_method_27_code
def yX7_stops : MethodName := ⟨RX7, "stops", "(I)I"⟩
abbrev cX7_isStop : ByteArray := prog_9_method_28_code
def yX7_isStop : MethodName := ⟨RX7, "isStop", "(II)Z"⟩
abbrev cX7_isFurther : ByteArray := prog_9_method_29_code
def yX7_isFurther : MethodName := ⟨RX7, "isFurther", "(II)Z"⟩
abbrev cX7_told : ByteArray := prog_9_method_30_code
def yX7_told : MethodName := ⟨RX7, "told", "(II)I"⟩
abbrev cX7_group : ByteArray := prog_9_method_31_code
def yX7_group : MethodName := ⟨RX7, "group", "(II)I"⟩
abbrev cX7_happens : ByteArray := prog_9_method_32_code
def yX7_happens : MethodName := ⟨RX7, "happens", "(II)V"⟩
abbrev cX7_event : ByteArray := prog_9_method_33_code
def yX7_event : MethodName := ⟨RX7, "event", "(II)I"⟩
abbrev cX7_leaves : ByteArray := prog_9_method_34_code
def yX7_leaves : MethodName := ⟨RX7, "leaves", "(I)I"⟩
abbrev cX7_isHere : ByteArray := prog_9_method_35_code
def yX7_isHere : MethodName := ⟨RX7, "isHere", "(II)Z"⟩
abbrev cX7_isGood : ByteArray := prog_9_method_36_code
def yX7_isGood : MethodName := ⟨RX7, "isGood", "(II)Z"⟩
abbrev cX7_towardsStop : ByteArray := prog_9_method_37_code
def yX7_towardsStop : MethodName := ⟨RX7, "towardsStop", "(I)I"⟩
abbrev cX7_looked : ByteArray := prog_9_method_38_code
def yX7_looked : MethodName := ⟨RX7, "looked", "(I)I"⟩
abbrev cX7_boards : ByteArray := prog_9_method_39_code
def yX7_boards : MethodName := ⟨RX7, "boards", "(I)I"⟩
abbrev cX7_moves : ByteArray := prog_9_method_40_code
def yX7_moves : MethodName := ⟨RX7, "moves", "(I)I"⟩
abbrev cX7_passes : ByteArray := prog_9_method_41_code
def yX7_passes : MethodName := ⟨RX7, "passes", "()I"⟩
abbrev cX7_tick : ByteArray := prog_9_method_42_code
def yX7_tick : MethodName := ⟨RX7, "tick", "()I"⟩
abbrev cX7_ticks : ByteArray := prog_9_method_43_code
def yX7_ticks : MethodName := ⟨RX7, "ticks", "(I)I"⟩
abbrev cX7_hasRoom : ByteArray := prog_9_method_44_code
def yX7_hasRoom : MethodName := ⟨RX7, "hasRoom", "(II)Z"⟩
abbrev cX7_near : ByteArray := prog_9_method_45_code
def yX7_near : MethodName := ⟨RX7, "near", "(II)I"⟩
abbrev cX7_others : ByteArray := prog_9_method_46_code
def yX7_others : MethodName := ⟨RX7, "others", "(II)I"⟩
abbrev cX7_becomesOwn : ByteArray := prog_9_method_47_code
def yX7_becomesOwn : MethodName := ⟨RX7, "becomesOwn", "(II)V"⟩
abbrev cX7_ticksTill : ByteArray := prog_9_method_48_code
def yX7_ticksTill : MethodName := ⟨RX7, "ticksTill", "(IIII)I"⟩
abbrev cX7_costOf : ByteArray := prog_9_method_49_code
def yX7_costOf : MethodName := ⟨RX7, "costOf", "(II)I"⟩
abbrev cX7_cheapest : ByteArray := prog_9_method_50_code
def yX7_cheapest : MethodName := ⟨RX7, "cheapest", "(I)I"⟩
abbrev cX7_isRoomFor : ByteArray := prog_9_method_51_code
def yX7_isRoomFor : MethodName := ⟨RX7, "isRoomFor", "(I)Z"⟩
abbrev cX7_call : ByteArray := prog_9_method_52_code
def yX7_call : MethodName := ⟨RX7, "call", "(III)I"⟩
abbrev cX7_way : ByteArray := prog_9_method_53_code
def yX7_way : MethodName := ⟨RX7, "way", "(I)I"⟩
abbrev cX7_gap : ByteArray := prog_9_method_54_code
def yX7_gap : MethodName := ⟨RX7, "gap", "(I)I"⟩
abbrev cX7_isWaiting : ByteArray := prog_9_method_55_code
def yX7_isWaiting : MethodName := ⟨RX7, "isWaiting", "(I)Z"⟩
abbrev cX7_cost : ByteArray := prog_9_method_56_code
def yX7_cost : MethodName := ⟨RX7, "cost", "(II)I"⟩
abbrev cX7_givesAnew : ByteArray := prog_9_method_57_code
def yX7_givesAnew : MethodName := ⟨RX7, "givesAnew", "(II)V"⟩
abbrev cX7_give : ByteArray := prog_9_method_58_code
def yX7_give : MethodName := ⟨RX7, "give", "(II)I"⟩
abbrev cX7_regive : ByteArray := prog_9_method_59_code
def yX7_regive : MethodName := ⟨RX7, "regive", "()I"⟩
abbrev cX7_aheadBy : ByteArray := prog_9_method_60_code
def yX7_aheadBy : MethodName := ⟨RX7, "aheadBy", "(I)I"⟩
abbrev cX7_floorBy : ByteArray := prog_9_method_61_code
def yX7_floorBy : MethodName := ⟨RX7, "floorBy", "(I)I"⟩
abbrev cX7_park : ByteArray := prog_9_method_62_code
def yX7_park : MethodName := ⟨RX7, "park", "()I"⟩
abbrev cX7_lowest : ByteArray := prog_9_method_63_code
def yX7_lowest : MethodName := ⟨RX7, "lowest", "(III)I"⟩
abbrev cX7_isPart : ByteArray := prog_9_method_64_code
def yX7_isPart : MethodName := ⟨RX7, "isPart", "(I)Z"⟩
abbrev cX7_demand : ByteArray := prog_9_method_65_code
def yX7_demand : MethodName := ⟨RX7, "demand", "(II)I"⟩
abbrev cX7_ones : ByteArray := prog_9_method_66_code
def yX7_ones : MethodName := ⟨RX7, "ones", "(I)I"⟩
abbrev cX7_sweep : ByteArray := prog_9_method_67_code
def yX7_sweep : MethodName := ⟨RX7, "sweep", "(II)I"⟩
abbrev cX7_near_ : ByteArray := prog_9_method_68_code
def yX7_near_ : MethodName := ⟨RX7, "near", "(III)I"⟩
abbrev cX7_oldestNow : ByteArray := prog_9_method_69_code
def yX7_oldestNow : MethodName := ⟨RX7, "oldestNow", "()I"⟩
abbrev cX7_longest : ByteArray := prog_9_method_70_code
def yX7_longest : MethodName := ⟨RX7, "longest", "()I"⟩
abbrev cX7_longestWaited : ByteArray := prog_9_method_71_code
def yX7_longestWaited : MethodName := ⟨RX7, "longestWaited", "()I"⟩
abbrev cX7_oldest : ByteArray := prog_9_method_72_code
def yX7_oldest : MethodName := ⟨RX7, "oldest", "(I)I"⟩
abbrev cX7_mean : ByteArray := prog_9_method_73_code
def yX7_mean : MethodName := ⟨RX7, "mean", "(I)I"⟩
abbrev cX7_doneNow : ByteArray := prog_9_method_74_code
def yX7_doneNow : MethodName := ⟨RX7, "doneNow", "(I)I"⟩
abbrev cX7_done : ByteArray := prog_9_method_75_code
def yX7_done : MethodName := ⟨RX7, "done", "(I)I"⟩
abbrev cX7_would : ByteArray := prog_9_method_76_code
def yX7_would : MethodName := ⟨RX7, "would", "(III)I"⟩
abbrev cX7_soonest : ByteArray := prog_9_method_77_code
def yX7_soonest : MethodName := ⟨RX7, "soonest", "(I)I"⟩
abbrev cX7_drawnBy : ByteArray := prog_9_method_78_code
def yX7_drawnBy : MethodName := ⟨RX7, "drawnBy", "(III)I"⟩
abbrev cX7_drawn : ByteArray := prog_9_method_79_code
def yX7_drawn : MethodName := ⟨RX7, "drawn", "(III)I"⟩
abbrev cX7_chance : ByteArray := prog_9_method_80_code
def yX7_chance : MethodName := ⟨RX7, "chance", "(IIII)I"⟩
abbrev cX7_isByte : ByteArray := prog_9_method_81_code
def yX7_isByte : MethodName := ⟨RX7, "isByte", "(I)Z"⟩
abbrev cX7_feed : ByteArray := prog_9_method_82_code
def yX7_feed : MethodName := ⟨RX7, "feed", "(IIIIII)I"⟩
abbrev cX7_byteAt : ByteArray := prog_9_method_83_code
def yX7_byteAt : MethodName := ⟨RX7, "byteAt", "(I)I"⟩
abbrev cX7_wordFrom : ByteArray := prog_9_method_84_code
def yX7_wordFrom : MethodName := ⟨RX7, "wordFrom", "(II)I"⟩
abbrev cX7_next : ByteArray := prog_9_method_85_code
def yX7_next : MethodName := ⟨RX7, "next", "()V"⟩
abbrev cX7_readsClause : ByteArray := prog_9_method_86_code
def yX7_readsClause : MethodName := ⟨RX7, "readsClause", "()Z"⟩
abbrev cX7_readsAll : ByteArray := prog_9_method_87_code
def yX7_readsAll : MethodName := ⟨RX7, "readsAll", "()Z"⟩
abbrev cX7_does : ByteArray := prog_9_method_88_code
def yX7_does : MethodName := ⟨RX7, "does", "(I)I"⟩
abbrev cX7_text : ByteArray := prog_9_method_89_code
def yX7_text : MethodName := ⟨RX7, "text", "()I"⟩
abbrev cX7_isSheet : ByteArray := prog_9_method_90_code
def yX7_isSheet : MethodName := ⟨RX7, "isSheet", "(I)Z"⟩
abbrev cX7_sheet : ByteArray := prog_9_method_91_code
def yX7_sheet : MethodName := ⟨RX7, "sheet", "(III)I"⟩
abbrev cX7_put : ByteArray := prog_9_method_92_code
def yX7_put : MethodName := ⟨RX7, "put", "(III)I"⟩
abbrev cX7_copy : ByteArray := prog_9_method_93_code
def yX7_copy : MethodName := ⟨RX7, "copy", "(IIIII)I"⟩
abbrev cX7_unlike : ByteArray := prog_9_method_94_code
def yX7_unlike : MethodName := ⟨RX7, "unlike", "(II)I"⟩
abbrev cX7_likeBy : ByteArray := prog_9_method_95_code
def yX7_likeBy : MethodName := ⟨RX7, "likeBy", "(IIII)I"⟩
abbrev cX7_tells : ByteArray := prog_9_method_96_code
def yX7_tells : MethodName := ⟨RX7, "tells", "(III)I"⟩
abbrev cX7_film : ByteArray := prog_9_method_97_code
def yX7_film : MethodName := ⟨RX7, "film", "(III)I"⟩
abbrev cX7_load_ : ByteArray := prog_9_method_98_code
def yX7_load_ : MethodName := ⟨RX7, "load", "(IIII)I"⟩
abbrev cX7_image : ByteArray := prog_9_method_99_code
def yX7_image : MethodName := ⟨RX7, "image", "()I"⟩
abbrev cX7_back : ByteArray := prog_9_method_100_code
def yX7_back : MethodName := ⟨RX7, "back", "()I"⟩
abbrev cX7_count : ByteArray := prog_9_method_101_code
def yX7_count : MethodName := ⟨RX7, "count", "(I)I"⟩
def RJ6 : String := "java/lang/Integer"
def TJ6 : u_T := fun k => match k with
  | _ => ("", "", "", false)
def tyJ6 : Nat → FieldType := fun k => match k with
  | _ => .int
theorem nmJ6 : ∀ a, a < 0 → ∀ b, b < 0 → a ≠ b → (TJ6 a).2.1 ≠ (TJ6 b).2.1 := by decide +kernel
theorem tyJ6_ok : ∀ k, k < 0 → parseFieldDescriptor (TJ6 k).2.2.1 = some (tyJ6 k) := by decide +kernel
abbrev cJ6_bitCount_0f7a4 : ByteArray := prog_10_method_49_code
def yJ6_bitCount_0f7a4 : MethodName := ⟨RJ6, "bitCount", "(I)I"⟩
def RJ9 : String := "java/lang/Math"
def TJ9 : u_T := fun k => match k with
  | _ => ("", "", "", false)
def tyJ9 : Nat → FieldType := fun k => match k with
  | _ => .int
theorem nmJ9 : ∀ a, a < 0 → ∀ b, b < 0 → a ≠ b → (TJ9 a).2.1 ≠ (TJ9 b).2.1 := by decide +kernel
theorem tyJ9_ok : ∀ k, k < 0 → parseFieldDescriptor (TJ9 k).2.2.1 = some (tyJ9 k) := by decide +kernel
abbrev cJ9_abs_0f7a4 : ByteArray := prog_11_method_59_code
def yJ9_abs_0f7a4 : MethodName := ⟨RJ9, "abs", "(I)I"⟩
abbrev cJ9_max_7cf53 : ByteArray := prog_11_method_65_code
def yJ9_max_7cf53 : MethodName := ⟨RJ9, "max", "(II)I"⟩
abbrev cJ9_min_7cf53 : ByteArray := prog_11_method_69_code
def yJ9_min_7cf53 : MethodName := ⟨RJ9, "min", "(II)I"⟩
def RJ0 : String := "java/lang/String"
def TJ0 : u_T := fun k => match k with
  | _ => ("", "", "", false)
def tyJ0 : Nat → FieldType := fun k => match k with
  | _ => .int
theorem nmJ0 : ∀ a, a < 0 → ∀ b, b < 0 → a ≠ b → (TJ0 a).2.1 ≠ (TJ0 b).2.1 := by decide +kernel
theorem tyJ0_ok : ∀ k, k < 0 → parseFieldDescriptor (TJ0 k).2.2.1 = some (tyJ0 k) := by decide +kernel
abbrev cJ0_length_8abf5 : ByteArray := prog_12_method_54_code
def yJ0_length_8abf5 : MethodName := ⟨RJ0, "length", "()I"⟩
abbrev cJ0_charAt_5068e : ByteArray := prog_12_method_56_code
def yJ0_charAt_5068e : MethodName := ⟨RJ0, "charAt", "(I)C"⟩
abbrev cJ0_coder_7d493 : ByteArray := prog_12_method_152_code
def yJ0_coder_7d493 : MethodName := ⟨RJ0, "coder", "()B"⟩
abbrev cJ0_isLatin1_aae02 : ByteArray := prog_12_method_154_code
def yJ0_isLatin1_aae02 : MethodName := ⟨RJ0, "isLatin1", "()Z"⟩
abbrev cJ0_checkIndex_df160 : ByteArray := prog_12_method_155_code
def yJ0_checkIndex_df160 : MethodName := ⟨RJ0, "checkIndex", "(II)V"⟩
def RJ1 : String := "java/lang/StringLatin1"
def TJ1 : u_T := fun k => match k with
  | _ => ("", "", "", false)
def tyJ1 : Nat → FieldType := fun k => match k with
  | _ => .int
theorem nmJ1 : ∀ a, a < 0 → ∀ b, b < 0 → a ≠ b → (TJ1 a).2.1 ≠ (TJ1 b).2.1 := by decide +kernel
theorem tyJ1_ok : ∀ k, k < 0 → parseFieldDescriptor (TJ1 k).2.2.1 = some (tyJ1 k) := by decide +kernel
abbrev cJ1_charAt_3b067 : ByteArray := prog_13_method_2_code
def yJ1_charAt_3b067 : MethodName := ⟨RJ1, "charAt", "([BI)C"⟩
def RJ2 : String := "java/lang/StringUTF16"
def TJ2 : u_T := fun k => match k with
  | _ => ("", "", "", false)
def tyJ2 : Nat → FieldType := fun k => match k with
  | _ => .int
theorem nmJ2 : ∀ a, a < 0 → ∀ b, b < 0 → a ≠ b → (TJ2 a).2.1 ≠ (TJ2 b).2.1 := by decide +kernel
theorem tyJ2_ok : ∀ k, k < 0 → parseFieldDescriptor (TJ2 k).2.2.1 = some (tyJ2 k) := by decide +kernel
abbrev cJ2_getChar_3b067 : ByteArray := prog_14_method_5_code
def yJ2_getChar_3b067 : MethodName := ⟨RJ2, "getChar", "([BI)C"⟩
abbrev cJ2_length_9d52b : ByteArray := prog_14_method_6_code
def yJ2_length_9d52b : MethodName := ⟨RJ2, "length", "([B)I"⟩
abbrev cJ2_charAt_3b067 : ByteArray := prog_14_method_83_code
def yJ2_charAt_3b067 : MethodName := ⟨RJ2, "charAt", "([BI)C"⟩
abbrev cJ2_checkIndex_2214a : ByteArray := prog_14_method_91_code
def yJ2_checkIndex_2214a : MethodName := ⟨RJ2, "checkIndex", "(I[B)V"⟩
def RJ10 : String := "java/lang/System"
def TJ10 : u_T := fun k => match k with
  | _ => ("", "", "", false)
def tyJ10 : Nat → FieldType := fun k => match k with
  | _ => .int
theorem nmJ10 : ∀ a, a < 0 → ∀ b, b < 0 → a ≠ b → (TJ10 a).2.1 ≠ (TJ10 b).2.1 := by decide +kernel
theorem tyJ10_ok : ∀ k, k < 0 → parseFieldDescriptor (TJ10 k).2.2.1 = some (tyJ10 k) := by decide +kernel
def RJ3 : String := "jdk/internal/util/Preconditions"
def TJ3 : u_T := fun k => match k with
  | _ => ("", "", "", false)
def tyJ3 : Nat → FieldType := fun k => match k with
  | _ => .int
theorem nmJ3 : ∀ a, a < 0 → ∀ b, b < 0 → a ≠ b → (TJ3 a).2.1 ≠ (TJ3 b).2.1 := by decide +kernel
theorem tyJ3_ok : ∀ k, k < 0 → parseFieldDescriptor (TJ3 k).2.2.1 = some (tyJ3 k) := by decide +kernel
abbrev cJ3_checkIndex_8e157 : ByteArray := prog_16_method_11_code
def yJ3_checkIndex_8e157 : MethodName := ⟨RJ3, "checkIndex", "(IILjava/util/function/BiFunction;)I"⟩
def RL : String := "LiftSweepsLaw"
abbrev cL_law : ByteArray := code
def yL_law : MethodName := ⟨RL, "law", "([I)Z"⟩
