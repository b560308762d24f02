/-! the class: costs; a group is taken in -/
theorem inR_n {c k : Nat} (hc : c < 2147483648) : inR (nI c) k = decide (c < k) := by
  unfold inR
  rw [i_toInt hc]
  by_cases h : c < k
  · rw [decide_eq_true h, decide_eq_true (by omega)]
  · rw [decide_eq_false h, decide_eq_false (by omega)]
def SetOk (N : Nat → Int32) : Prop := (N 448 = nI 0 ∨ N 448 = nI 1 ∨ N 448 = nI 2) ∧ ∃ q, 1 ≤ q ∧ q ≤ 20 ∧ N 449 = nI q
section
variable {X : pX} {d : Nat} {I : pI} {Q : Option Value → pG → pI → Prop} {o p o2 p2 : Nat} {N : Nat → Int32} {m : Nat} {L : List Nat}
theorem h_costFor {f k g c : Nat} (hr : HR o p I N m (live N m)) (hd : Deep o o2 p2) (hg : g < m) (hc : c < k) (hk : N 445 = nI k) (hk4 : k ≤ 4) (hf : N 444 = nI f) (hf4 : f ≤ 12) (hgr : GrpOk N f m) (hwa : ∀ c, c < 4 → Own N f m c 0) (h0 : gf N g 4 = nI 0) (hset : SetOk N)
    (h : ∀ I', Fr o2 p2 I I' → Q (some (.int (costM N m k g c))) G0 I') : Call X (d + 5) 38 [.ref o, .int (nI g), .int (nI c)] G0 I Q := by
  have ho := hr.ho
  have l12 := hr.l12
  have m40 := hr.m40
  have i1 : inR (nI c) k = true := by rw [inR_n (by omega), decide_eq_true hc]
  have hk1 : I o 1 = nI k := by rw [hr.o1]; exact hk
  unfold costM at h
  simp (disch := first | exact ok_i | exact ok_r | exact ok_n | exact cat_i | exact cat_r | exact ho.tag | exact ho.tg | exact ho.tj | exact ho.tp | exact ho.tC (by omega) (by omega) | exact ho.tA (by omega) (by omega) | exact ho.tJ (by omega) (by omega) | exact ro_0 | exact ro_1 | omega | assumption | exact ho.nC (by omega) | exact ho.nL (by omega) | exact ho.nD (by omega) | exact ho.nJ (by omega) (by omega) (by omega) | exact ho.nA (by omega) (by omega) (by omega) | (simp only [List.map_cons, List.map_nil, List.sum_cons, List.sum_nil, cat_i, cat_r, cat_l, Nat.reduceAdd, Nat.reduceLeDiff]; done) | decide) only [e38, s38_0, s38_1, s38_2, s38_5, tl_s, tl_n, nI_add, pk_mul, i_cl, row_s, u2_row, i_le, i_lt, i_eq, if_true, if_false, Nat.le_refl, Nat.reduceEqDiff, Nat.reduceLeDiff, h_isCar ho hk1 hk4, i1, b2i_0, Bool.true_eq_false]
  simp (disch := first | exact ok_i | exact ok_r | exact ok_n | exact cat_i | exact cat_r | exact ho.tag | exact ho.tg | exact ho.tj | exact ho.tp | exact ho.tC (by omega) (by omega) | exact ho.tA (by omega) (by omega) | exact ho.tJ (by omega) (by omega) | exact ro_0 | exact ro_1 | omega | assumption | exact ho.nC (by omega) | exact ho.nL (by omega) | exact ho.nD (by omega) | exact ho.nJ (by omega) (by omega) (by omega) | exact ho.nA (by omega) (by omega) (by omega) | (simp only [List.map_cons, List.map_nil, List.sum_cons, List.sum_nil, cat_i, cat_r, cat_l, Nat.reduceAdd, Nat.reduceLeDiff]; done) | decide) only [s38_8, s38_9, s38_10, s38_11, s38_14, tl_s, tl_n, nI_add, pk_mul, i_cl, row_s, u2_row, i_le, i_lt, i_eq, if_true, if_false, Nat.le_refl, Nat.reduceEqDiff, Nat.reduceLeDiff, h_hasRoom hr hg, b2i_0]
  by_cases c1 : cf N c 2 < gf N g 2
  · rw [if_pos c1] at h
    simp (disch := first | exact ok_i | exact ok_r | exact ok_n | exact cat_i | exact cat_r | exact ho.tag | exact ho.tg | exact ho.tj | exact ho.tp | exact ho.tC (by omega) (by omega) | exact ho.tA (by omega) (by omega) | exact ho.tJ (by omega) (by omega) | exact ro_0 | exact ro_1 | omega | assumption | exact ho.nC (by omega) | exact ho.nL (by omega) | exact ho.nD (by omega) | exact ho.nJ (by omega) (by omega) (by omega) | exact ho.nA (by omega) (by omega) (by omega) | (simp only [List.map_cons, List.map_nil, List.sum_cons, List.sum_nil, cat_i, cat_r, cat_l, Nat.reduceAdd, Nat.reduceLeDiff]; done) | decide) only [c1, decide_true, Bool.not_true, s38_17, s38_20, tl_s, tl_n, nI_add, pk_mul, i_cl, row_s, u2_row, i_le, i_lt, i_eq, if_true, if_false, Nat.le_refl, Nat.reduceEqDiff, Nat.reduceLeDiff]
    exact h I Fr.refl
  · rw [if_neg c1] at h
    simp (disch := first | exact ok_i | exact ok_r | exact ok_n | exact cat_i | exact cat_r | exact ho.tag | exact ho.tg | exact ho.tj | exact ho.tp | exact ho.tC (by omega) (by omega) | exact ho.tA (by omega) (by omega) | exact ho.tJ (by omega) (by omega) | exact ro_0 | exact ro_1 | omega | assumption | exact ho.nC (by omega) | exact ho.nL (by omega) | exact ho.nD (by omega) | exact ho.nJ (by omega) (by omega) (by omega) | exact ho.nA (by omega) (by omega) (by omega) | (simp only [List.map_cons, List.map_nil, List.sum_cons, List.sum_nil, cat_i, cat_r, cat_l, Nat.reduceAdd, Nat.reduceLeDiff]; done) | decide) only [c1, decide_false, Bool.not_false, Bool.true_eq_false, s38_21, s38_22, s38_25, tl_s, tl_n, nI_add, pk_mul, i_cl, row_s, u2_row, i_le, i_lt, i_eq, if_true, if_false, Nat.le_refl, Nat.reduceEqDiff, Nat.reduceLeDiff, ho.r6, ho.r7, ho.r8, ho.r9, ho.rc, ho.g0, ho.g1, ho.g2, ho.g3, ho.g4, ho.g5, ho.g6, ho.g7, ho.g8, ho.j0, ho.j1, ho.j2, ho.j3, hr.o0, hr.o1, hr.o2, hr.o3, hr.o4, hr.o5, hr.c0, hr.c1, hr.c2, hr.c3, hr.c4, hr.c5, hr.c6, hr.c7, hr.mc, hr.lc, hr.g0, hr.g1, hr.g2, hr.g3, hr.g4, hr.g5, hr.g6, hr.g7, hr.dm]
    have soonN : ¬ N 448 = nI 2 → (N 448 = nI 0 ∨ N 448 = nI 1) := fun e => by
      rcases hset.1 with x | x | x
      · exact Or.inl x
      · exact Or.inr x
      · exact absurd x e
    by_cases c2 : N 448 = nI 2
    · rw [if_neg (by rw [c2]; decide), if_neg (by rw [c2]; decide)] at h
      simp (disch := first | exact ok_i | exact ok_r | exact ok_n | exact cat_i | exact cat_r | exact ho.tag | exact ho.tg | exact ho.tj | exact ho.tp | exact ho.tC (by omega) (by omega) | exact ho.tA (by omega) (by omega) | exact ho.tJ (by omega) (by omega) | exact ro_0 | exact ro_1 | omega | assumption | exact ho.nC (by omega) | exact ho.nL (by omega) | exact ho.nD (by omega) | exact ho.nJ (by omega) (by omega) (by omega) | exact ho.nA (by omega) (by omega) (by omega) | (simp only [List.map_cons, List.map_nil, List.sum_cons, List.sum_nil, cat_i, cat_r, cat_l, Nat.reduceAdd, Nat.reduceLeDiff]; done) | decide) only [c2, s38_26, s38_29, s38_30, s38_31, s38_32, s38_33, tl_s, tl_n, nI_add, pk_mul, i_cl, row_s, u2_row, i_le, i_lt, i_eq, if_true, if_false, Nat.le_refl, Nat.reduceEqDiff, Nat.reduceLeDiff]
      rw [s38_35 (by simp only [List.map_cons, List.map_nil, List.sum_cons, List.sum_nil, cat_i, cat_r, cat_l, Nat.reduceAdd, Nat.reduceLeDiff]) ho.tag]
      refine h_ticksTill hr hd hg hc hk4 hf hf4 hgr hwa h0 (Or.inl rfl) (by omega) (fun I' hF' => ?_)
      have h2 := h I' hF'
      have ht : tkM N m k g c (nI 1) 120 ≤ 121 := tkR_le
      generalize tkM N m k g c (nI 1) 120 = t at *
      unfold mmin at h2
      simp (disch := omega) only [i_lt] at h2
      unfold tkV
      by_cases c3 : t ≤ 120
      · have nm := nI_m1 (a := t) (by omega)
        simp (disch := first | exact ok_i | exact ok_r | exact ok_n | exact cat_i | exact cat_r | exact ho.tag | exact ho.tg | exact ho.tj | exact ho.tp | exact ho.tC (by omega) (by omega) | exact ho.tA (by omega) (by omega) | exact ho.tJ (by omega) (by omega) | exact ro_0 | exact ro_1 | omega | assumption | exact ho.nC (by omega) | exact ho.nL (by omega) | exact ho.nD (by omega) | exact ho.nJ (by omega) (by omega) (by omega) | exact ho.nA (by omega) (by omega) (by omega) | (simp only [List.map_cons, List.map_nil, List.sum_cons, List.sum_nil, cat_i, cat_r, cat_l, Nat.reduceAdd, Nat.reduceLeDiff]; done) | decide) only [c3, nm, s38_38, s38_39, s38_40, s38_41, s38_44, s38_46, s38_49, s38_50, tl_s, tl_n, nI_add, pk_mul, i_cl, row_s, u2_row, i_le, i_lt, i_eq, if_true, if_false, Nat.le_refl, Nat.reduceEqDiff, Nat.reduceLeDiff]
        by_cases c4 : t < 120
        · rw [if_pos c4] at h2; exact h2
        · rw [if_neg c4, show 120 = t by omega] at h2; exact h2
      · simp (disch := first | exact ok_i | exact ok_r | exact ok_n | exact cat_i | exact cat_r | exact ho.tag | exact ho.tg | exact ho.tj | exact ho.tp | exact ho.tC (by omega) (by omega) | exact ho.tA (by omega) (by omega) | exact ho.tJ (by omega) (by omega) | exact ro_0 | exact ro_1 | omega | assumption | exact ho.nC (by omega) | exact ho.nL (by omega) | exact ho.nD (by omega) | exact ho.nJ (by omega) (by omega) (by omega) | exact ho.nA (by omega) (by omega) (by omega) | (simp only [List.map_cons, List.map_nil, List.sum_cons, List.sum_nil, cat_i, cat_r, cat_l, Nat.reduceAdd, Nat.reduceLeDiff]; done) | decide) only [c3, s38_38, s38_39, s38_40, s38_41, s38_44, s38_46, s38_49, s38_50, tl_s, tl_n, nI_add, pk_mul, i_cl, row_s, u2_row, i_le, i_lt, i_eq, if_true, if_false, Nat.le_refl, Nat.reduceEqDiff, Nat.reduceLeDiff]
        rw [if_neg (by omega)] at h2
        exact h2
    · have c3 := soonN c2
      simp (disch := first | exact ok_i | exact ok_r | exact ok_n | exact cat_i | exact cat_r | exact ho.tag | exact ho.tg | exact ho.tj | exact ho.tp | exact ho.tC (by omega) (by omega) | exact ho.tA (by omega) (by omega) | exact ho.tJ (by omega) (by omega) | exact ro_0 | exact ro_1 | omega | assumption | exact ho.nC (by omega) | exact ho.nL (by omega) | exact ho.nD (by omega) | exact ho.nJ (by omega) (by omega) (by omega) | exact ho.nA (by omega) (by omega) (by omega) | (simp only [List.map_cons, List.map_nil, List.sum_cons, List.sum_nil, cat_i, cat_r, cat_l, Nat.reduceAdd, Nat.reduceLeDiff]; done) | decide) only [c2, s38_26, s38_51, s38_52, s38_53, s38_56, s38_57, s38_58, s38_59, s38_62, s38_65, s38_66, s38_67, s38_70, s38_71, s38_72, s38_75, s38_76, tl_s, tl_n, nI_add, pk_mul, i_cl, row_s, u2_row, i_le, i_lt, i_eq, if_true, if_false, Nat.le_refl, Nat.reduceEqDiff, Nat.reduceLeDiff, ho.r6, ho.r7, ho.r8, ho.r9, ho.rc, ho.g0, ho.g1, ho.g2, ho.g3, ho.g4, ho.g5, ho.g6, ho.g7, ho.g8, ho.j0, ho.j1, ho.j2, ho.j3, hr.o0, hr.o1, hr.o2, hr.o3, hr.o4, hr.o5, hr.c0, hr.c1, hr.c2, hr.c3, hr.c4, hr.c5, hr.c6, hr.c7, hr.mc, hr.lc, hr.g0, hr.g1, hr.g2, hr.g3, hr.g4, hr.g5, hr.g6, hr.g7, hr.dm, h_distance hr]
      rcases c3 with c3 | c3
      · rw [if_pos c3] at h
        simp (disch := first | exact ok_i | exact ok_r | exact ok_n | exact cat_i | exact cat_r | exact ho.tag | exact ho.tg | exact ho.tj | exact ho.tp | exact ho.tC (by omega) (by omega) | exact ho.tA (by omega) (by omega) | exact ho.tJ (by omega) (by omega) | exact ro_0 | exact ro_1 | omega | assumption | exact ho.nC (by omega) | exact ho.nL (by omega) | exact ho.nD (by omega) | exact ho.nJ (by omega) (by omega) (by omega) | exact ho.nA (by omega) (by omega) (by omega) | (simp only [List.map_cons, List.map_nil, List.sum_cons, List.sum_nil, cat_i, cat_r, cat_l, Nat.reduceAdd, Nat.reduceLeDiff]; done) | decide) only [c3, n01F, s38_96, s38_97, tl_s, tl_n, nI_add, pk_mul, i_cl, row_s, u2_row, i_le, i_lt, i_eq, if_true, if_false, Nat.le_refl, Nat.reduceEqDiff, Nat.reduceLeDiff]
        exact h I Fr.refl
      · rw [if_neg (by rw [c3]; decide), if_pos c3] at h
        simp (disch := first | exact ok_i | exact ok_r | exact ok_n | exact cat_i | exact cat_r | exact ho.tag | exact ho.tg | exact ho.tj | exact ho.tp | exact ho.tC (by omega) (by omega) | exact ho.tA (by omega) (by omega) | exact ho.tJ (by omega) (by omega) | exact ro_0 | exact ro_1 | omega | assumption | exact ho.nC (by omega) | exact ho.nL (by omega) | exact ho.nD (by omega) | exact ho.nJ (by omega) (by omega) (by omega) | exact ho.nA (by omega) (by omega) (by omega) | (simp only [List.map_cons, List.map_nil, List.sum_cons, List.sum_nil, cat_i, cat_r, cat_l, Nat.reduceAdd, Nat.reduceLeDiff]; done) | decide) only [c3, s38_79, s38_81, s38_82, s38_85, s38_86, s38_87, s38_90, s38_91, s38_92, s38_93, s38_96, s38_97, tl_s, tl_n, nI_add, pk_mul, i_cl, row_s, u2_row, i_le, i_lt, i_eq, if_true, if_false, Nat.le_refl, Nat.reduceEqDiff, Nat.reduceLeDiff, ho.r6, ho.r7, ho.r8, ho.r9, ho.rc, ho.g0, ho.g1, ho.g2, ho.g3, ho.g4, ho.g5, ho.g6, ho.g7, ho.g8, ho.j0, ho.j1, ho.j2, ho.j3, h_peopleBut hr rfl]
        exact h I Fr.refl
def addN (N : Nat → Int32) (m a : Nat) (y s : Int32) : Nat → Int32 :=
  let N1 := upd (upd (upd (upd (upd N (32 + 8 * m + 0) (nI a)) (32 + 8 * m + 1) y) (32 + 8 * m + 2) s) (32 + 8 * m + 3) (-1)) (32 + 8 * m + 4) (nI 0)
  let N2 := upd (upd (upd N1 (32 + 8 * m + 5) (N1 447)) (32 + 8 * m + 6) (nI 0)) (32 + 8 * m + 7) (nI 0)
  upd N2 446 (N2 446 + nI 1)
theorem new_add {N : Nat → Int32} {m a : Nat} {y s : Int32} : newN N m a y s = upd (addN N m a y s) (352 + a) ((addN N m a y s) (352 + a) + nI 1) := rfl
theorem addN_o {N : Nat → Int32} {m a b : Nat} {y s : Int32} (h : b < 32 + 8 * m ∨ 32 + 8 * m + 7 < b) (h2 : b ≠ 446) : addN N m a y s b = N b := by
  unfold addN
  (try dsimp only)
  rw [up_n (by omega), up_n (by omega), up_n (by omega), up_n (by omega), up_n (by omega), up_n (by omega), up_n (by omega), up_n (by omega), up_n (by omega)]
theorem addN_g {N : Nat → Int32} {m a : Nat} {y s : Int32} (hm : m < 40) : gf (addN N m a y s) m 0 = nI a ∧ gf (addN N m a y s) m 1 = y ∧ gf (addN N m a y s) m 2 = s ∧ gf (addN N m a y s) m 3 = -1 ∧ gf (addN N m a y s) m 4 = nI 0 ∧ gf (addN N m a y s) m 5 = N 447 ∧ gf (addN N m a y s) m 6 = nI 0 ∧ gf (addN N m a y s) m 7 = nI 0 := by
  unfold addN gf
  (try dsimp only)
  refine ⟨?_, ?_, ?_, ?_, ?_, ?_, ?_, ?_⟩ <;> simp (disch := omega) only [up_n, up_s]
theorem addN_m {N : Nat → Int32} {m a : Nat} {y s : Int32} (hm : m < 40) (h : N 446 = nI m) : addN N m a y s 446 = nI (m + 1) := by
  unfold addN
  (try dsimp only)
  rw [up_s]
  simp (disch := omega) only [up_n]
  rw [h, nI_add]
theorem h_add {a : Nat} {y s : Int32} (hr : HR o p I N m L) (hm : m < 40) (hl : L.length < 12) (h : ∀ I', HR o p I' (addN N m a y s) (m + 1) (L ++ [m]) → Fr o p I I' → Q (some (.int (nI m))) G0 I') :
    Call X (d + 1) 11 [.ref (p + 5), .int (nI a), .int y, .int s, .int (N 447)] G0 I Q := by
  have ho := hr.ho
  have l12 := hr.l12
  have m40 := hr.m40
  have np := ho.np
  simp (disch := first | exact ok_i | exact ok_r | exact ok_n | exact cat_i | exact cat_r | exact ho.tag | exact ho.tg | exact ho.tj | exact ho.tp | exact ho.tC (by omega) (by omega) | exact ho.tA (by omega) (by omega) | exact ho.tJ (by omega) (by omega) | exact ro_0 | exact ro_1 | omega | assumption | exact ho.nC (by omega) | exact ho.nL (by omega) | exact ho.nD (by omega) | exact ho.nJ (by omega) (by omega) (by omega) | exact ho.nA (by omega) (by omega) (by omega) | (simp only [List.map_cons, List.map_nil, List.sum_cons, List.sum_nil, cat_i, cat_r, cat_l, Nat.reduceAdd, Nat.reduceLeDiff]; done) | decide) only [e11, s11_0, s11_1, s11_4, s11_6, s11_7, s11_10, s11_12, s11_13, s11_14, s11_15, s11_18, s11_20, s11_21, s11_22, s11_23, s11_26, s11_28, s11_29, s11_30, s11_31, s11_34, s11_36, s11_37, s11_38, s11_39, s11_42, s11_44, s11_45, s11_46, s11_47, s11_50, s11_52, s11_54, s11_55, s11_56, s11_59, s11_61, s11_62, s11_63, s11_64, s11_67, s11_69, s11_70, s11_71, s11_72, s11_75, s11_76, s11_79, s11_81, s11_82, s11_83, s11_84, s11_87, s11_88, s11_89, s11_92, s11_93, s11_94, s11_97, s11_98, s11_99, s11_102, s11_104, tl_s, tl_n, nI_add, pk_mul, i_cl, row_s, u2_row, i_le, i_lt, i_eq, if_true, if_false, Nat.le_refl, Nat.reduceEqDiff, Nat.reduceLeDiff, ho.r6, ho.r7, ho.r8, ho.r9, ho.rc, ho.g0, ho.g1, ho.g2, ho.g3, ho.g4, ho.g5, ho.g6, ho.g7, ho.g8, ho.j0, ho.j1, ho.j2, ho.j3, hr.mc, hr.lc, u2_ne, u2_nk]
  obtain ⟨-, hm2, g3, g4, g5, g6, g7, g8, g9⟩ := hr
  obtain ⟨q0, q1, q2, q3, q4, q5, q6, q7⟩ := addN_g (N := N) (a := a) (y := y) (s := s) hm
  refine h _ ⟨ho, ⟨addN_m hm hm2.1, by omega⟩, fun k hk => ?_, fun c k hc hk => ?_, ⟨?_, ?_, ?_⟩, fun i hi => ?_, fun g j hg hj => ?_, fun b hb => ?_, ?_⟩ (fun r h1 h2 => ?_)
  · have og := om_ge hk
    rw [addN_o (by omega) (by omega), ← g3 k hk]
    simp (disch := omega) only [u2_ne]
  · have := jm_lt hk
    unfold cf
    rw [addN_o (by omega) (by omega)]
    refine Eq.trans ?_ (g4 c k hc hk)
    simp (disch := omega) only [u2_ne]
  · simp (disch := omega) only [u2_s, u2_ne, u2_nk]
  · rw [List.length_append, List.length_singleton]
    simp (disch := omega) only [u2_s, u2_ne, u2_nk]
  · rw [List.length_append, List.length_singleton]; omega
  · rw [List.length_append, List.length_singleton] at hi
    by_cases e : i = L.length
    · subst e
      have e2 : (L ++ [m]).getD L.length 0 = m := by
        rw [List.getD_eq_getElem?_getD, List.getElem?_append_right (Nat.le_refl _), Nat.sub_self]
        rfl
      rw [e2]
      refine ⟨?_, by omega⟩
      simp (disch := omega) only [u2_s, u2_ne, u2_nk]
    · have e2 : (L ++ [m]).getD i 0 = L.getD i 0 := by
        rw [List.getD_eq_getElem?_getD, List.getElem?_append_left (by omega), ← List.getD_eq_getElem?_getD]
      obtain ⟨k1, k2⟩ := g6 i (by omega)
      rw [e2]
      refine ⟨?_, by omega⟩
      rw [← k1]
      simp (disch := omega) only [u2_ne, u2_nk]
  · by_cases e : g = m
    · subst e
      rcases (by omega : j = 0 ∨ j = 1 ∨ j = 2 ∨ j = 3 ∨ j = 4 ∨ j = 5 ∨ j = 6 ∨ j = 7) with rfl | rfl | rfl | rfl | rfl | rfl | rfl | rfl <;> simp (disch := omega) only [q0, q1, q2, q3, q4, q5, q6, q7, Nat.add_zero, Nat.add_assoc, Nat.reduceAdd, u2_s, u2_ne, u2_nk]
    · have e3 : gf (addN N m a y s) g j = gf N g j := addN_o (by omega) (by omega)
      rw [e3, ← g7 g j (by omega) hj]
      simp (disch := omega) only [u2_ne, u2_nk]
  · rw [addN_o (by omega) (by omega), ← g8 b hb]
    simp (disch := omega) only [u2_ne]
  · refine g9.ext (fun r h1 h2 => ?_) (fun j h1 h2 => addN_o (by omega) (by omega)) (addN_o (by omega) (by omega))
    simp (disch := omega) only [u2_ne]
  · simp (disch := omega) only [u2_ne]
end
