/-! the class: stops, and which way -/
theorem sm32 : (List.range 32).all (fun y => decide (((nI y &&& 31).toBitVec.smod 32).toNat = y)) = true := by decide +kernel
theorem shr_n {b y : Nat} (hb : b < 2147483648) (hy : y < 32) : shr (nI b) (nI y) = nI (b / 2 ^ y) := by
  have h1 := List.all_eq_true.mp sm32 y (List.mem_range.mpr hy)
  rw [decide_eq_true_eq] at h1
  have h2 : b / 2 ^ y ≤ b := Nat.div_le_self _ _
  apply Int32.toInt_inj.mp
  rw [i_toInt (by omega)]
  show (nI b >>> (nI y &&& 31)).toBitVec.toInt = _
  rw [Int32.toBitVec_shiftRight, BitVec.toInt_sshiftRight', h1]
  show (nI b).toInt >>> y = _
  rw [i_toInt hb, Int.shiftRight_eq_div_pow]
  norm_cast
theorem sl32 : (List.range 31).all (fun y => decide (shl (nI 1) (nI y) = nI (2 ^ y))) = true := by decide +kernel
theorem shl_n {y : Nat} (hy : y < 31) : shl (nI 1) (nI y) = nI (2 ^ y) := by
  have h1 := List.all_eq_true.mp sl32 y (List.mem_range.mpr hy)
  rwa [decide_eq_true_eq] at h1
theorem or_n {a b : Nat} : nI a ||| nI b = nI (a ||| b) := by
  apply Int32.toBitVec_inj.mp
  show BitVec.ofNat 32 a ||| BitVec.ofNat 32 b = BitVec.ofNat 32 (a ||| b)
  exact BitVec.ofNat_or.symm
theorem and_n {a b : Nat} : nI a &&& nI b = nI (a &&& b) := by
  apply Int32.toBitVec_inj.mp
  show BitVec.ofNat 32 a &&& BitVec.ofNat 32 b = BitVec.ofNat 32 (a &&& b)
  exact BitVec.ofNat_and.symm
theorem or_n0 {x : Int32} : x ||| nI 0 = x := by
  rw [show nI 0 = 0 by decide]
  exact Int32.or_zero
theorem bit0_n {b y : Nat} (hb : b < 2147483648) (hy : y < 32) : (shr (nI b) (nI y) &&& nI 1 = nI 0) = (b.testBit y = false) := by
  have h2 : b / 2 ^ y ≤ b := Nat.div_le_self _ _
  rw [shr_n hb hy, and_n, Nat.and_one_is_mod, i_eq (by omega) (by omega), Nat.testBit_eq_decide_div_mod_eq, decide_eq_false_iff_not]
  apply propext
  omega
theorem bit1_n {b y : Nat} (hb : b < 2147483648) (hy : y < 32) : (shr (nI b) (nI y) &&& nI 1 = nI 1) = (b.testBit y = true) := by
  have h2 : b / 2 ^ y ≤ b := Nat.div_le_self _ _
  rw [shr_n hb hy, and_n, Nat.and_one_is_mod, i_eq (by omega) (by omega), Nat.testBit_eq_decide_div_mod_eq, decide_eq_true_eq]
theorem bitA_n {b y : Nat} (hb : b < 2147483648) (hy : y < 32) : bitA (nI b) (nI y) = b.testBit y := by
  unfold bitA
  rw [Bool.eq_iff_iff, decide_eq_true_eq, bit1_n hb hy]
def HowOk (N : Nat → Int32) (m : Nat) : Prop := ∀ g, g < m → gf N g 4 = nI 0 ∨ gf N g 4 = nI 1 ∨ gf N g 4 = nI 2
theorem stops_live {N : Nat → Int32} {c m : Nat} {a : Int32} : itr (fun i s => stF N c ((live N m).getD i 0) s) a (live N m).length = itr (stF N c) a m := by
  refine lv_itr0 (f := stF N c) (fun g s _ h => ?_)
  have e1 : ¬ (gf N g 3 = nI c ∧ gf N g 4 = nI 0) := fun e => by rw [h] at e; exact absurd e.2 (by decide)
  have e2 : ¬ (gf N g 3 = nI c ∧ gf N g 4 = nI 1) := fun e => by rw [h] at e; exact absurd e.2 (by decide)
  unfold stF
  rw [if_neg e1, if_neg e2, or_n0]
/-- towards the nearest stop, as the class has it: r distances are left -/
def twR (b x : Nat) : Nat → Int32
  | 0 => nI 0
  | r + 1 => if 11 - r ≤ x ∧ b.testBit (x - (11 - r)) = true then nI 2 else if b.testBit (x + (11 - r)) = true then nI 1 else twR b x r
theorem tw_tow {b x f : Nat} (hb : b < 2 ^ f) (hf : f ≤ 12) (hx : x < f) : ∀ {r : Nat}, r ≤ 11 → twR b x r = towR (nI b) (nI x) (nI f) r
  | 0, _ => rfl
  | r + 1, h => by
    have hb2 : b < 4096 := Nat.lt_of_lt_of_le hb (Nat.pow_le_pow_right (by omega) hf)
    unfold twR towR
    rw [tw_tow hb hf hx (r := r) (by omega)]
    have e1 : (¬ nI x - nI (11 - r) < nI 0 ∧ shr (nI b) (nI x - nI (11 - r)) &&& nI 1 = nI 1) = (11 - r ≤ x ∧ b.testBit (x - (11 - r)) = true) := by
      by_cases c : 11 - r ≤ x
      · rw [i_sub c, i_lt (by omega) (by omega), bit1_n (by omega) (by omega)]
        apply propext
        constructor
        · rintro ⟨-, h⟩; exact ⟨c, h⟩
        · rintro ⟨-, h⟩; exact ⟨by omega, h⟩
      · have z : nI x - nI (11 - r) < nI 0 := by
          rw [Int32.lt_iff_toInt_lt, Int32.toInt_sub, i_toInt (by omega), i_toInt (by omega), show (nI 0).toInt = 0 by decide]
          rw [Int.bmod_eq_of_le (by omega) (by omega)]
          omega
        apply propext
        constructor
        · rintro ⟨h, -⟩; exact absurd z h
        · rintro ⟨h, -⟩; exact absurd h c
    have e2 : (¬ nI f ≤ nI x + nI (11 - r) ∧ shr (nI b) (nI x + nI (11 - r)) &&& nI 1 = nI 1) = (b.testBit (x + (11 - r)) = true) := by
      rw [nI_add, i_le (by omega) (by omega), bit1_n (by omega) (by omega)]
      apply propext
      constructor
      · rintro ⟨-, h⟩; exact h
      · intro h
        refine ⟨fun c => ?_, h⟩
        rw [Nat.testBit_lt_two_pow (Nat.lt_of_lt_of_le hb (Nat.pow_le_pow_right (by omega) c))] at h
        cases h
    simp only [e1, e2]
/-- what a look around finds: the first way, whether up, whether down is good -/
def laF (N : Nat → Int32) (c g : Nat) (s : Int32 × Bool × Bool) : Int32 × Bool × Bool :=
  if hereB N g c = true then (if s.1 = nI 0 then wayM N g else s.1, s.2.1 || decide (wayM N g = nI 1), s.2.2 || decide (wayM N g = nI 2)) else s
def laS (N : Nat → Int32) (c m : Nat) : Nat → Int32 × Bool × Bool := itr (laF N c) (nI 0, ahead (stopsM N c m) (cf N c 3) (nI 1), ahead (stopsM N c m) (cf N c 3) (nI 2))
theorem la_good {N : Nat → Int32} {c m : Nat} : ∀ {n : Nat}, (laS N c m n).2.1 = itr (fun g b => b || (hereB N g c && decide (wayM N g = nI 1))) (ahead (stopsM N c m) (cf N c 3) (nI 1)) n ∧ (laS N c m n).2.2 = itr (fun g b => b || (hereB N g c && decide (wayM N g = nI 2))) (ahead (stopsM N c m) (cf N c 3) (nI 2)) n
  | 0 => ⟨rfl, rfl⟩
  | n + 1 => by
    obtain ⟨h1, h2⟩ := la_good (N := N) (c := c) (m := m) (n := n)
    rw [itr_s, itr_s, ← h1, ← h2]
    show (laF N c n (laS N c m n)).2.1 = _ ∧ (laF N c n (laS N c m n)).2.2 = _
    unfold laF
    by_cases e : hereB N n c = true
    · rw [if_pos e, e, Bool.true_and, Bool.true_and]
      exact ⟨rfl, rfl⟩
    · rw [if_neg e, Bool.eq_false_iff.mpr e, Bool.false_and, Bool.false_and, Bool.or_false, Bool.or_false]
      exact ⟨rfl, rfl⟩
theorem way_n0 {N : Nat → Int32} {g : Nat} : ¬ wayM N g = nI 0 := by
  unfold wayM
  split <;> decide
theorem la_first {N : Nat → Int32} {c m : Nat} {e : Int32} : ∀ {j : Nat}, j ≤ m → fhR N c m e m = if (laS N c m j).1 = nI 0 then fhR N c m e (m - j) else (laS N c m j).1
  | 0, _ => by
    rw [show (laS N c m 0).1 = nI 0 from rfl, if_pos rfl, Nat.sub_zero]
  | j + 1, h => by
    rw [la_first (j := j) (by omega)]
    show _ = if (laF N c j (laS N c m j)).1 = nI 0 then _ else (laF N c j (laS N c m j)).1
    have e1 : m - j = (m - (j + 1)) + 1 := by omega
    have e2 : m - (m - (j + 1) + 1) = j := by omega
    unfold laF
    by_cases c1 : (laS N c m j).1 = nI 0
    · have ef : fhR N c m e (m - (j + 1) + 1) = if hereB N (m - (m - (j + 1) + 1)) c = true then wayM N (m - (m - (j + 1) + 1)) else fhR N c m e (m - (j + 1)) := rfl
      rw [if_pos c1, e1, ef, e2]
      by_cases c2 : hereB N j c = true
      · rw [if_pos c2, if_pos c2]
        dsimp only
        rw [if_pos c1, if_neg way_n0]
      · rw [if_neg c2, if_neg c2, if_pos c1]
    · rw [if_neg c1]
      by_cases c2 : hereB N j c = true
      · rw [if_pos c2]
        dsimp only
        rw [if_neg c1, if_neg c1]
      · rw [if_neg c2, if_neg c1]
theorem la_live {N : Nat → Int32} {c m : Nat} {a : Int32 × Bool × Bool} : itr (fun i s => laF N c ((live N m).getD i 0) s) a (live N m).length = itr (laF N c) a m := by
  refine lv_itr0 (f := laF N c) (fun g s _ h => ?_)
  have e : ¬ hereB N g c = true := fun e => by
    unfold hereB at e
    rw [Bool.and_eq_true, Bool.and_eq_true, decide_eq_true_eq, decide_eq_true_eq, h] at e
    exact absurd e.1.2 (by decide)
  unfold laF
  rw [if_neg e]
section
variable {X : pX} {d : Nat} {I : pI} {Q : Option Value → pG → pI → Prop} {o p : Nat} {N : Nat → Int32} {m : Nat} {L : List Nat} {G : pG}
theorem h_stopsOf {c : Nat} (hr : HR o p I N m L) (hL : L = live N m) (hw : HowOk N m) (hc : c < 4) : Call X (d + 1) 31 [.ref o, .int (nI c)] G0 I Q ↔ Q (some (.int (stopsM N c m))) G0 I := by
  have ho := hr.ho
  have l12 := hr.l12
  have m40 := hr.m40
  have key : ∀ a, itr (fun i s => stF N c (L.getD i 0) s) a L.length = itr (stF N c) a m := by subst hL; exact fun a => stops_live
  have hloop : ∀ a : Int32, ∀ l2 l5 : Option Value, okL l2 = true → okL l5 = true → (At X d 31 26 [some (.ref o), some (.int (nI c)), l2, some (.int a), some (.int (nI 0)), l5] [] G0 I Q ↔ Q (some (.int (itr (stF N c) a m))) G0 I) := by
    intro a l2 l5 hk2 hl5
    refine loop_l (P := fun i l => At X d 31 26 [some (.ref o), some (.int (nI c)), l2, some (.int (itr (fun i s => stF N c (L.getD i 0) s) a i)), some (.int (nI i)), l] [] G0 I Q) (ok := fun l => okL l = true) (n := L.length) (fun l hl => ?_) (fun i l hi hl => ⟨some (.int (nI (L.getD i 0))), rfl, ?_⟩) 0 l5 (Nat.zero_le _) hl5
    · simp (disch := first | exact ok_i | exact ok_r | exact ok_n | exact cat_i | exact cat_r | exact ho.tag | exact ho.tg | exact ho.tj | exact ho.tp | exact ho.tC (by omega) (by omega) | exact ho.tA (by omega) (by omega) | exact ho.tJ (by omega) (by omega) | exact ro_0 | exact ro_1 | omega | assumption | exact ho.nC (by omega) | exact ho.nL (by omega) | exact ho.nD (by omega) | exact ho.nJ (by omega) (by omega) (by omega) | exact ho.nA (by omega) (by omega) (by omega) | (simp only [List.map_cons, List.map_nil, List.sum_cons, List.sum_nil, cat_i, cat_r, cat_l, Nat.reduceAdd, Nat.reduceLeDiff]; done) | decide) only [s31_26, s31_28, s31_29, s31_32, s31_35, s31_111, s31_112, tl_s, tl_n, nI_add, pk_mul, i_cl, row_s, u2_row, i_le, i_lt, i_eq, if_true, if_false, Nat.le_refl, Nat.reduceEqDiff, Nat.reduceLeDiff, ho.r6, ho.r7, ho.r8, ho.r9, ho.rc, ho.g0, ho.g1, ho.g2, ho.g3, ho.g4, ho.g5, ho.g6, ho.g7, ho.g8, ho.j0, ho.j1, ho.j2, ho.j3, hr.o0, hr.o1, hr.o2, hr.o3, hr.o4, hr.o5, hr.c0, hr.c1, hr.c2, hr.c3, hr.c4, hr.c5, hr.c6, hr.c7, hr.mc, hr.lc, hr.g0, hr.g1, hr.g2, hr.g3, hr.g4, hr.g5, hr.g6, hr.g7, hr.dm]
      rw [key]
    · have n1 : ¬ L.length ≤ i := by omega
      obtain ⟨g, eg⟩ : ∃ g, g = L.getD i 0 := ⟨_, rfl⟩
      have hg : g < m := by rw [eg]; exact hr.lm i hi
      have hv : I (p + 14) i = nI g := by rw [eg]; exact hr.lv i hi
      have hl2 : ¬ gf N g 4 = nI 2 := by rw [eg]; subst hL; exact (live_i hi).2
      rw [s31_26]
      simp only [itr_s, ← eg]
      generalize itr (fun i s => stF N c (L.getD i 0) s) a i = t
      simp (disch := first | exact ok_i | exact ok_r | exact ok_n | exact cat_i | exact cat_r | exact ho.tag | exact ho.tg | exact ho.tj | exact ho.tp | exact ho.tC (by omega) (by omega) | exact ho.tA (by omega) (by omega) | exact ho.tJ (by omega) (by omega) | exact ro_0 | exact ro_1 | omega | assumption | exact ho.nC (by omega) | exact ho.nL (by omega) | exact ho.nD (by omega) | exact ho.nJ (by omega) (by omega) (by omega) | exact ho.nA (by omega) (by omega) (by omega) | (simp only [List.map_cons, List.map_nil, List.sum_cons, List.sum_nil, cat_i, cat_r, cat_l, Nat.reduceAdd, Nat.reduceLeDiff]; done) | decide) only [s31_28, s31_29, s31_32, s31_35, s31_38, s31_39, s31_42, s31_45, s31_47, s31_48, s31_50, s31_51, s31_54, s31_57, s31_59, s31_60, s31_61, tl_s, tl_n, nI_add, pk_mul, i_cl, row_s, u2_row, i_le, i_lt, i_eq, if_true, if_false, Nat.le_refl, Nat.reduceEqDiff, Nat.reduceLeDiff, ho.r6, ho.r7, ho.r8, ho.r9, ho.rc, ho.g0, ho.g1, ho.g2, ho.g3, ho.g4, ho.g5, ho.g6, ho.g7, ho.g8, ho.j0, ho.j1, ho.j2, ho.j3, hr.o0, hr.o1, hr.o2, hr.o3, hr.o4, hr.o5, hr.c0, hr.c1, hr.c2, hr.c3, hr.c4, hr.c5, hr.c6, hr.c7, hr.mc, hr.lc, hr.g0, hr.g1, hr.g2, hr.g3, hr.g4, hr.g5, hr.g6, hr.g7, hr.dm, n1, hv, stF]
      by_cases h1 : gf N g 3 = nI c
      · simp (disch := first | exact ok_i | exact ok_r | exact ok_n | exact cat_i | exact cat_r | exact ho.tag | exact ho.tg | exact ho.tj | exact ho.tp | exact ho.tC (by omega) (by omega) | exact ho.tA (by omega) (by omega) | exact ho.tJ (by omega) (by omega) | exact ro_0 | exact ro_1 | omega | assumption | exact ho.nC (by omega) | exact ho.nL (by omega) | exact ho.nD (by omega) | exact ho.nJ (by omega) (by omega) (by omega) | exact ho.nA (by omega) (by omega) (by omega) | (simp only [List.map_cons, List.map_nil, List.sum_cons, List.sum_nil, cat_i, cat_r, cat_l, Nat.reduceAdd, Nat.reduceLeDiff]; done) | decide) only [h1, s31_64, s31_65, s31_66, s31_67, s31_70, s31_73, s31_75, s31_76, tl_s, tl_n, nI_add, pk_mul, i_cl, row_s, u2_row, i_le, i_lt, i_eq, if_true, if_false, Nat.le_refl, Nat.reduceEqDiff, Nat.reduceLeDiff, ho.r6, ho.r7, ho.r8, ho.r9, ho.rc, ho.g0, ho.g1, ho.g2, ho.g3, ho.g4, ho.g5, ho.g6, ho.g7, ho.g8, ho.j0, ho.j1, ho.j2, ho.j3, hr.o0, hr.o1, hr.o2, hr.o3, hr.o4, hr.o5, hr.c0, hr.c1, hr.c2, hr.c3, hr.c4, hr.c5, hr.c6, hr.c7, hr.mc, hr.lc, hr.g0, hr.g1, hr.g2, hr.g3, hr.g4, hr.g5, hr.g6, hr.g7, hr.dm, true_and]
        by_cases h2 : gf N g 4 = nI 0
        · simp (disch := first | exact ok_i | exact ok_r | exact ok_n | exact cat_i | exact cat_r | exact ho.tag | exact ho.tg | exact ho.tj | exact ho.tp | exact ho.tC (by omega) (by omega) | exact ho.tA (by omega) (by omega) | exact ho.tJ (by omega) (by omega) | exact ro_0 | exact ro_1 | omega | assumption | exact ho.nC (by omega) | exact ho.nL (by omega) | exact ho.nD (by omega) | exact ho.nJ (by omega) (by omega) (by omega) | exact ho.nA (by omega) (by omega) (by omega) | (simp only [List.map_cons, List.map_nil, List.sum_cons, List.sum_nil, cat_i, cat_r, cat_l, Nat.reduceAdd, Nat.reduceLeDiff]; done) | decide) only [h2, s31_79, s31_80, s31_83, s31_86, s31_88, s31_89, s31_92, s31_93, s31_96, s31_99, s31_101, s31_102, s31_103, s31_104, s31_105, s31_108, tl_s, tl_n, nI_add, pk_mul, i_cl, row_s, u2_row, i_le, i_lt, i_eq, if_true, if_false, Nat.le_refl, Nat.reduceEqDiff, Nat.reduceLeDiff, ho.r6, ho.r7, ho.r8, ho.r9, ho.rc, ho.g0, ho.g1, ho.g2, ho.g3, ho.g4, ho.g5, ho.g6, ho.g7, ho.g8, ho.j0, ho.j1, ho.j2, ho.j3, hr.o0, hr.o1, hr.o2, hr.o3, hr.o4, hr.o5, hr.c0, hr.c1, hr.c2, hr.c3, hr.c4, hr.c5, hr.c6, hr.c7, hr.mc, hr.lc, hr.g0, hr.g1, hr.g2, hr.g3, hr.g4, hr.g5, hr.g6, hr.g7, hr.dm]
        · have h3 : gf N g 4 = nI 1 := by rcases hw g hg with e | e | e <;> first | exact e | exact absurd e h2 | exact absurd e hl2
          simp (disch := first | exact ok_i | exact ok_r | exact ok_n | exact cat_i | exact cat_r | exact ho.tag | exact ho.tg | exact ho.tj | exact ho.tp | exact ho.tC (by omega) (by omega) | exact ho.tA (by omega) (by omega) | exact ho.tJ (by omega) (by omega) | exact ro_0 | exact ro_1 | omega | assumption | exact ho.nC (by omega) | exact ho.nL (by omega) | exact ho.nD (by omega) | exact ho.nJ (by omega) (by omega) (by omega) | exact ho.nA (by omega) (by omega) (by omega) | (simp only [List.map_cons, List.map_nil, List.sum_cons, List.sum_nil, cat_i, cat_r, cat_l, Nat.reduceAdd, Nat.reduceLeDiff]; done) | decide) only [h3, s31_92, s31_93, s31_96, s31_99, s31_101, s31_102, s31_103, s31_104, s31_105, s31_108, tl_s, tl_n, nI_add, pk_mul, i_cl, row_s, u2_row, i_le, i_lt, i_eq, if_true, if_false, Nat.le_refl, Nat.reduceEqDiff, Nat.reduceLeDiff, ho.r6, ho.r7, ho.r8, ho.r9, ho.rc, ho.g0, ho.g1, ho.g2, ho.g3, ho.g4, ho.g5, ho.g6, ho.g7, ho.g8, ho.j0, ho.j1, ho.j2, ho.j3, hr.o0, hr.o1, hr.o2, hr.o3, hr.o4, hr.o5, hr.c0, hr.c1, hr.c2, hr.c3, hr.c4, hr.c5, hr.c6, hr.c7, hr.mc, hr.lc, hr.g0, hr.g1, hr.g2, hr.g3, hr.g4, hr.g5, hr.g6, hr.g7, hr.dm, show (nI 1 = nI 0) = False from propext ⟨fun e => absurd e (by decide), False.elim⟩]
      · simp (disch := first | exact ok_i | exact ok_r | exact ok_n | exact cat_i | exact cat_r | exact ho.tag | exact ho.tg | exact ho.tj | exact ho.tp | exact ho.tC (by omega) (by omega) | exact ho.tA (by omega) (by omega) | exact ho.tJ (by omega) (by omega) | exact ro_0 | exact ro_1 | omega | assumption | exact ho.nC (by omega) | exact ho.nL (by omega) | exact ho.nD (by omega) | exact ho.nJ (by omega) (by omega) (by omega) | exact ho.nA (by omega) (by omega) (by omega) | (simp only [List.map_cons, List.map_nil, List.sum_cons, List.sum_nil, cat_i, cat_r, cat_l, Nat.reduceAdd, Nat.reduceLeDiff]; done) | decide) only [h1, s31_105, s31_108, tl_s, tl_n, nI_add, pk_mul, i_cl, row_s, u2_row, i_le, i_lt, i_eq, if_true, if_false, Nat.le_refl, Nat.reduceEqDiff, Nat.reduceLeDiff, false_and, or_n0]
  simp (disch := first | exact ok_i | exact ok_r | exact ok_n | exact cat_i | exact cat_r | exact ho.tag | exact ho.tg | exact ho.tj | exact ho.tp | exact ho.tC (by omega) (by omega) | exact ho.tA (by omega) (by omega) | exact ho.tJ (by omega) (by omega) | exact ro_0 | exact ro_1 | omega | assumption | exact ho.nC (by omega) | exact ho.nL (by omega) | exact ho.nD (by omega) | exact ho.nJ (by omega) (by omega) (by omega) | exact ho.nA (by omega) (by omega) (by omega) | (simp only [List.map_cons, List.map_nil, List.sum_cons, List.sum_nil, cat_i, cat_r, cat_l, Nat.reduceAdd, Nat.reduceLeDiff]; done) | decide) only [e31, s31_0, s31_1, s31_4, s31_5, s31_6, s31_9, s31_10, s31_11, s31_12, tl_s, tl_n, nI_add, pk_mul, i_cl, row_s, u2_row, i_le, i_lt, i_eq, if_true, if_false, Nat.le_refl, Nat.reduceEqDiff, Nat.reduceLeDiff, ho.r6, ho.r7, ho.r8, ho.r9, ho.rc, ho.g0, ho.g1, ho.g2, ho.g3, ho.g4, ho.g5, ho.g6, ho.g7, ho.g8, ho.j0, ho.j1, ho.j2, ho.j3, hr.o0, hr.o1, hr.o2, hr.o3, hr.o4, hr.o5, hr.c0, hr.c1, hr.c2, hr.c3, hr.c4, hr.c5, hr.c6, hr.c7, hr.mc, hr.lc, hr.g0, hr.g1, hr.g2, hr.g3, hr.g4, hr.g5, hr.g6, hr.g7, hr.dm, stopsM]
  by_cases h1 : cf N c 7 = -1
  · simp (disch := first | exact ok_i | exact ok_r | exact ok_n | exact cat_i | exact cat_r | exact ho.tag | exact ho.tg | exact ho.tj | exact ho.tp | exact ho.tC (by omega) (by omega) | exact ho.tA (by omega) (by omega) | exact ho.tJ (by omega) (by omega) | exact ro_0 | exact ro_1 | omega | assumption | exact ho.nC (by omega) | exact ho.nL (by omega) | exact ho.nD (by omega) | exact ho.nJ (by omega) (by omega) (by omega) | exact ho.nA (by omega) (by omega) (by omega) | (simp only [List.map_cons, List.map_nil, List.sum_cons, List.sum_nil, cat_i, cat_r, cat_l, Nat.reduceAdd, Nat.reduceLeDiff]; done) | decide) only [h1, s31_15, s31_16, s31_19, s31_20, s31_21, s31_22, s31_23, s31_24, tl_s, tl_n, nI_add, pk_mul, i_cl, row_s, u2_row, i_le, i_lt, i_eq, if_true, if_false, Nat.le_refl, Nat.reduceEqDiff, Nat.reduceLeDiff, hloop]
  · simp (disch := first | exact ok_i | exact ok_r | exact ok_n | exact cat_i | exact cat_r | exact ho.tag | exact ho.tg | exact ho.tj | exact ho.tp | exact ho.tC (by omega) (by omega) | exact ho.tA (by omega) (by omega) | exact ho.tJ (by omega) (by omega) | exact ro_0 | exact ro_1 | omega | assumption | exact ho.nC (by omega) | exact ho.nL (by omega) | exact ho.nD (by omega) | exact ho.nJ (by omega) (by omega) (by omega) | exact ho.nA (by omega) (by omega) (by omega) | (simp only [List.map_cons, List.map_nil, List.sum_cons, List.sum_nil, cat_i, cat_r, cat_l, Nat.reduceAdd, Nat.reduceLeDiff]; done) | decide) only [h1, s31_19, s31_20, s31_21, s31_22, s31_23, s31_24, tl_s, tl_n, nI_add, pk_mul, i_cl, row_s, u2_row, i_le, i_lt, i_eq, if_true, if_false, Nat.le_refl, Nat.reduceEqDiff, Nat.reduceLeDiff, hloop]
theorem h_towards {b x : Nat} (hb : b < 4096) (hx : x < 12) : Call X (d + 1) 48 [.int (nI b), .int (nI x)] G I Q ↔ Q (some (.int (twR b x 11))) G I := by
  simp (disch := first | exact ok_i | exact ok_r | exact ok_n | exact cat_i | exact cat_r | exact t103 | exact t106 | exact t108 | exact t109 | exact t110 | exact t111 | exact t112 | exact ro_0 | exact ro_1 | omega | assumption | (refine i103 ?_; omega) | (refine i106 ?_; omega) | (refine i108 ?_; omega) | (refine i109 ?_; omega) | (refine i110 ?_; omega) | (refine i111 ?_; omega) | (refine i112 ?_; omega) | (simp only [List.map_cons, List.map_nil, List.sum_cons, List.sum_nil, cat_i, cat_r, cat_l, Nat.reduceAdd, Nat.reduceLeDiff]; done) | decide) only [e48, s48_0, s48_1, tl_s, tl_n, nI_add, pk_mul, i_cl, row_s, u2_row, i_le, i_lt, i_eq, if_true, if_false, Nat.le_refl, Nat.reduceEqDiff, Nat.reduceLeDiff]
  have key : ∀ r, r ≤ 11 → (At X d 48 2 [some (.int (nI b)), some (.int (nI x)), some (.int (nI (12 - r)))] [] G I Q ↔ Q (some (.int (twR b x r))) G I) := by
    intro r
    induction r with
    | zero => intro _; simp (disch := first | exact ok_i | exact ok_r | exact ok_n | exact cat_i | exact cat_r | exact t103 | exact t106 | exact t108 | exact t109 | exact t110 | exact t111 | exact t112 | exact ro_0 | exact ro_1 | omega | assumption | (refine i103 ?_; omega) | (refine i106 ?_; omega) | (refine i108 ?_; omega) | (refine i109 ?_; omega) | (refine i110 ?_; omega) | (refine i111 ?_; omega) | (refine i112 ?_; omega) | (simp only [List.map_cons, List.map_nil, List.sum_cons, List.sum_nil, cat_i, cat_r, cat_l, Nat.reduceAdd, Nat.reduceLeDiff]; done) | decide) only [s48_2, s48_3, s48_5, s48_43, s48_44, tl_s, tl_n, nI_add, pk_mul, i_cl, row_s, u2_row, i_le, i_lt, i_eq, if_true, if_false, Nat.le_refl, Nat.reduceEqDiff, Nat.reduceLeDiff, twR, Nat.sub_zero]
    | succ r ih =>
      intro hr2
      have n1 : ¬ 12 ≤ 12 - (r + 1) := by omega
      have e1 : 12 - (r + 1) = 11 - r := by omega
      have e2 : 11 - r + 1 = 12 - r := by omega
      have ih' := ih (by omega)
      rw [e1] at n1
      rw [s48_2, e1]
      simp (disch := first | exact ok_i | exact ok_r | exact ok_n | exact cat_i | exact cat_r | exact t103 | exact t106 | exact t108 | exact t109 | exact t110 | exact t111 | exact t112 | exact ro_0 | exact ro_1 | omega | assumption | (refine i103 ?_; omega) | (refine i106 ?_; omega) | (refine i108 ?_; omega) | (refine i109 ?_; omega) | (refine i110 ?_; omega) | (refine i111 ?_; omega) | (refine i112 ?_; omega) | (simp only [List.map_cons, List.map_nil, List.sum_cons, List.sum_nil, cat_i, cat_r, cat_l, Nat.reduceAdd, Nat.reduceLeDiff]; done) | decide) only [s48_3, s48_5, s48_8, s48_9, s48_10, tl_s, tl_n, nI_add, pk_mul, i_cl, row_s, u2_row, i_le, i_lt, i_eq, if_true, if_false, Nat.le_refl, Nat.reduceEqDiff, Nat.reduceLeDiff, n1, twR]
      by_cases h1 : x < 11 - r
      · have h2 : ¬ 11 - r ≤ x := by omega
        simp (disch := first | exact ok_i | exact ok_r | exact ok_n | exact cat_i | exact cat_r | exact t103 | exact t106 | exact t108 | exact t109 | exact t110 | exact t111 | exact t112 | exact ro_0 | exact ro_1 | omega | assumption | (refine i103 ?_; omega) | (refine i106 ?_; omega) | (refine i108 ?_; omega) | (refine i109 ?_; omega) | (refine i110 ?_; omega) | (refine i111 ?_; omega) | (refine i112 ?_; omega) | (simp only [List.map_cons, List.map_nil, List.sum_cons, List.sum_nil, cat_i, cat_r, cat_l, Nat.reduceAdd, Nat.reduceLeDiff]; done) | decide) only [h1, h2, false_and, s48_25, s48_26, s48_27, s48_28, s48_29, s48_30, s48_31, s48_32, tl_s, tl_n, nI_add, pk_mul, i_cl, row_s, u2_row, i_le, i_lt, i_eq, if_true, if_false, Nat.le_refl, Nat.reduceEqDiff, Nat.reduceLeDiff, bit0_n]
        cases h3 : b.testBit (x + (11 - r))
        · simp (disch := first | exact ok_i | exact ok_r | exact ok_n | exact cat_i | exact cat_r | exact t103 | exact t106 | exact t108 | exact t109 | exact t110 | exact t111 | exact t112 | exact ro_0 | exact ro_1 | omega | assumption | (refine i103 ?_; omega) | (refine i106 ?_; omega) | (refine i108 ?_; omega) | (refine i109 ?_; omega) | (refine i110 ?_; omega) | (refine i111 ?_; omega) | (refine i112 ?_; omega) | (simp only [List.map_cons, List.map_nil, List.sum_cons, List.sum_nil, cat_i, cat_r, cat_l, Nat.reduceAdd, Nat.reduceLeDiff]; done) | decide) only [s48_37, s48_40, tl_s, tl_n, nI_add, pk_mul, i_cl, row_s, u2_row, i_le, i_lt, i_eq, if_true, if_false, Nat.le_refl, Nat.reduceEqDiff, Nat.reduceLeDiff, e2, ih', Bool.false_eq_true]
        · simp (disch := first | exact ok_i | exact ok_r | exact ok_n | exact cat_i | exact cat_r | exact t103 | exact t106 | exact t108 | exact t109 | exact t110 | exact t111 | exact t112 | exact ro_0 | exact ro_1 | omega | assumption | (refine i103 ?_; omega) | (refine i106 ?_; omega) | (refine i108 ?_; omega) | (refine i109 ?_; omega) | (refine i110 ?_; omega) | (refine i111 ?_; omega) | (refine i112 ?_; omega) | (simp only [List.map_cons, List.map_nil, List.sum_cons, List.sum_nil, cat_i, cat_r, cat_l, Nat.reduceAdd, Nat.reduceLeDiff]; done) | decide) only [s48_35, s48_36, tl_s, tl_n, nI_add, pk_mul, i_cl, row_s, u2_row, i_le, i_lt, i_eq, if_true, if_false, Nat.le_refl, Nat.reduceEqDiff, Nat.reduceLeDiff, Bool.true_eq_false]
      · have h2 : 11 - r ≤ x := by omega
        simp (disch := first | exact ok_i | exact ok_r | exact ok_n | exact cat_i | exact cat_r | exact t103 | exact t106 | exact t108 | exact t109 | exact t110 | exact t111 | exact t112 | exact ro_0 | exact ro_1 | omega | assumption | (refine i103 ?_; omega) | (refine i106 ?_; omega) | (refine i108 ?_; omega) | (refine i109 ?_; omega) | (refine i110 ?_; omega) | (refine i111 ?_; omega) | (refine i112 ?_; omega) | (simp only [List.map_cons, List.map_nil, List.sum_cons, List.sum_nil, cat_i, cat_r, cat_l, Nat.reduceAdd, Nat.reduceLeDiff]; done) | decide) only [h1, h2, true_and, s48_13, s48_14, s48_15, s48_16, s48_17, s48_18, s48_19, s48_20, tl_s, tl_n, nI_add, pk_mul, i_cl, row_s, u2_row, i_le, i_lt, i_eq, if_true, if_false, Nat.le_refl, Nat.reduceEqDiff, Nat.reduceLeDiff, i_sub, bit0_n]
        cases h4 : b.testBit (x - (11 - r))
        · simp (disch := first | exact ok_i | exact ok_r | exact ok_n | exact cat_i | exact cat_r | exact t103 | exact t106 | exact t108 | exact t109 | exact t110 | exact t111 | exact t112 | exact ro_0 | exact ro_1 | omega | assumption | (refine i103 ?_; omega) | (refine i106 ?_; omega) | (refine i108 ?_; omega) | (refine i109 ?_; omega) | (refine i110 ?_; omega) | (refine i111 ?_; omega) | (refine i112 ?_; omega) | (simp only [List.map_cons, List.map_nil, List.sum_cons, List.sum_nil, cat_i, cat_r, cat_l, Nat.reduceAdd, Nat.reduceLeDiff]; done) | decide) only [s48_25, s48_26, s48_27, s48_28, s48_29, s48_30, s48_31, s48_32, tl_s, tl_n, nI_add, pk_mul, i_cl, row_s, u2_row, i_le, i_lt, i_eq, if_true, if_false, Nat.le_refl, Nat.reduceEqDiff, Nat.reduceLeDiff, bit0_n, Bool.false_eq_true]
          cases h3 : b.testBit (x + (11 - r))
          · simp (disch := first | exact ok_i | exact ok_r | exact ok_n | exact cat_i | exact cat_r | exact t103 | exact t106 | exact t108 | exact t109 | exact t110 | exact t111 | exact t112 | exact ro_0 | exact ro_1 | omega | assumption | (refine i103 ?_; omega) | (refine i106 ?_; omega) | (refine i108 ?_; omega) | (refine i109 ?_; omega) | (refine i110 ?_; omega) | (refine i111 ?_; omega) | (refine i112 ?_; omega) | (simp only [List.map_cons, List.map_nil, List.sum_cons, List.sum_nil, cat_i, cat_r, cat_l, Nat.reduceAdd, Nat.reduceLeDiff]; done) | decide) only [s48_37, s48_40, tl_s, tl_n, nI_add, pk_mul, i_cl, row_s, u2_row, i_le, i_lt, i_eq, if_true, if_false, Nat.le_refl, Nat.reduceEqDiff, Nat.reduceLeDiff, e2, ih', Bool.false_eq_true]
          · simp (disch := first | exact ok_i | exact ok_r | exact ok_n | exact cat_i | exact cat_r | exact t103 | exact t106 | exact t108 | exact t109 | exact t110 | exact t111 | exact t112 | exact ro_0 | exact ro_1 | omega | assumption | (refine i103 ?_; omega) | (refine i106 ?_; omega) | (refine i108 ?_; omega) | (refine i109 ?_; omega) | (refine i110 ?_; omega) | (refine i111 ?_; omega) | (refine i112 ?_; omega) | (simp only [List.map_cons, List.map_nil, List.sum_cons, List.sum_nil, cat_i, cat_r, cat_l, Nat.reduceAdd, Nat.reduceLeDiff]; done) | decide) only [s48_35, s48_36, tl_s, tl_n, nI_add, pk_mul, i_cl, row_s, u2_row, i_le, i_lt, i_eq, if_true, if_false, Nat.le_refl, Nat.reduceEqDiff, Nat.reduceLeDiff, Bool.true_eq_false]
        · simp (disch := first | exact ok_i | exact ok_r | exact ok_n | exact cat_i | exact cat_r | exact t103 | exact t106 | exact t108 | exact t109 | exact t110 | exact t111 | exact t112 | exact ro_0 | exact ro_1 | omega | assumption | (refine i103 ?_; omega) | (refine i106 ?_; omega) | (refine i108 ?_; omega) | (refine i109 ?_; omega) | (refine i110 ?_; omega) | (refine i111 ?_; omega) | (refine i112 ?_; omega) | (simp only [List.map_cons, List.map_nil, List.sum_cons, List.sum_nil, cat_i, cat_r, cat_l, Nat.reduceAdd, Nat.reduceLeDiff]; done) | decide) only [s48_23, s48_24, tl_s, tl_n, nI_add, pk_mul, i_cl, row_s, u2_row, i_le, i_lt, i_eq, if_true, if_false, Nat.le_refl, Nat.reduceEqDiff, Nat.reduceLeDiff, Bool.true_eq_false]
  exact key 11 (Nat.le_refl _)
end
