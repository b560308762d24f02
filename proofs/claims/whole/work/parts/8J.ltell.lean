/-! the class: what was told, films, loads, feeding -/
theorem o2i_m {a : Option Nat} (h : ∀ b, a = some b → b < 1000) : (o2i a = -1) = (a.isNone = true) := by
  cases a with
  | none => exact propext ⟨fun _ => rfl, fun _ => rfl⟩
  | some b =>
    have nm := nI_m1 (a := b) (by have := h b rfl; omega)
    apply propext
    constructor
    · intro e
      have e2 : nI b = -1 := e
      rw [nm] at e2
      exact e2.elim
    · intro e
      cases e
theorem unM_i {I I' : pI} {N : Nat → Int32} {m k c s z : Nat} (h : I' 112 = I 112) : unM I' N m k c s z = unM I N m k c s z := by
  unfold unM
  rw [h]
theorem cl_rel {N : Nat → Int32} {f m k : Nat} {x y s x2 y2 s2 : Int32} (hf : f ≤ 12) (h1 : RelB x x2) (h2 : RelB y y2) (h3 : RelB s s2) : clN N f m k x y s = clN N f m k x2 y2 s2 ∧ clV N f m k x y s = clV N f m k x2 y2 s2 ∧ clm N f m k x y s = clm N f m k x2 y2 s2 := by
  by_cases c : okC f x y s = true
  · obtain ⟨a, b, q, e1, ha, e2, hb, hab, e3, q1, q2, -⟩ := okC_t hf c
    rw [(h1 a (by omega)).mp e1, (h2 b (by omega)).mp e2, (h3 q (by omega)).mp e3, e1, e2, e3]
    exact ⟨rfl, rfl, rfl⟩
  · by_cases c2 : okC f x2 y2 s2 = true
    · obtain ⟨a, b, q, e1, ha, e2, hb, hab, e3, q1, q2, -⟩ := okC_t hf c2
      rw [(h1 a (by omega)).mpr e1, (h2 b (by omega)).mpr e2, (h3 q (by omega)).mpr e3, e1, e2, e3]
      exact ⟨rfl, rfl, rfl⟩
    · unfold clN clV clm
      rw [Bool.eq_false_iff.mpr c, Bool.eq_false_iff.mpr c2]
      simp only [Bool.false_and, Bool.false_eq_true, if_false]
      exact ⟨trivial, trivial, trivial⟩
section
variable {X : pX} {d : Nat} {I : pI} {Q : Option Value → pG → pI → Prop} {N : Nat → Int32} {f k m T : Nat} {o p : Nat}
theorem l_kindsSo {s z c : Nat} (hr : HR 45 46 I N m (live N m)) (al : AllOk N f k m T) (hs : s < 4) (hz : I (94 + 2 * s) 1 = nI z) (hz4 : z ≤ 40) (hc : c < k) (hit : ∀ i, i < z → RelB (I (95 + 2 * s) i) (I 112 (40 * s + i)))
    (h : ∀ I', FrT I I' → Q (some (.int (lbM I N m k c s z 0 6))) G0 I') : Call X (d + 6) 121 [.ref 0, .ref (94 + 2 * s), .int (nI c)] G0 I Q := by
  have ho := hr.ho
  have l12 := hr.l12
  have m40 := hr.m40
  have hk4 := al.1.1.2.1.2.2
  obtain ⟨-, ⟨q2, hq2, e2⟩, -⟩ := al.1.2.2.2.2.1 c (by omega)
  simp (disch := first | exact ok_i | exact ok_r | exact ok_n | exact cat_i | exact cat_r | exact ho.tag | exact ho.tg | exact ho.tj | exact ho.tp | exact ho.tC (by omega) (by omega) | exact ho.tA (by omega) (by omega) | exact ho.tJ (by omega) (by omega) | exact ro_0 | exact ro_1 | omega | assumption | exact ho.nC (by omega) | exact ho.nL (by omega) | exact ho.nD (by omega) | exact ho.nJ (by omega) (by omega) (by omega) | exact ho.nA (by omega) (by omega) (by omega) | (simp only [List.map_cons, List.map_nil, List.sum_cons, List.sum_nil, cat_i, cat_r, cat_l, Nat.reduceAdd, Nat.reduceLeDiff]; done) | decide) only [e121, s121_0, s121_1, s121_2, s121_3, tl_s, tl_n, nI_add, pk_mul, i_cl, row_s, u2_row, i_le, i_lt, i_eq, if_true, if_false, Nat.le_refl, Nat.reduceEqDiff, Nat.reduceLeDiff]
  refine loop_h (σ := pI) (n := 6)
    (A := fun i t => At X (d + 5) 121 5 [some (.ref 0), some (.ref (94 + 2 * s)), some (.int (nI c)), some (.int (lbM I N m k c s z 0 i)), some (.int (nI i))] [] G0 t Q)
    (ok := fun i t => FrT I t)
    (fun t hF => ?_) (fun i t hi hF ih => ?_) 0 I (Nat.zero_le _) FrT.refl
  · simp (disch := first | exact ok_i | exact ok_r | exact ok_n | exact cat_i | exact cat_r | exact ho.tag | exact ho.tg | exact ho.tj | exact ho.tp | exact ho.tC (by omega) (by omega) | exact ho.tA (by omega) (by omega) | exact ho.tJ (by omega) (by omega) | exact ro_0 | exact ro_1 | omega | assumption | exact ho.nC (by omega) | exact ho.nL (by omega) | exact ho.nD (by omega) | exact ho.nJ (by omega) (by omega) (by omega) | exact ho.nA (by omega) (by omega) (by omega) | (simp only [List.map_cons, List.map_nil, List.sum_cons, List.sum_nil, cat_i, cat_r, cat_l, Nat.reduceAdd, Nat.reduceLeDiff]; done) | decide) only [s121_5, s121_7, s121_9, s121_49, s121_50, tl_s, tl_n, nI_add, pk_mul, i_cl, row_s, u2_row, i_le, i_lt, i_eq, if_true, if_false, Nat.le_refl, Nat.reduceEqDiff, Nat.reduceLeDiff]
    exact h t hF
  · have n1 : ¬ 6 ≤ i := by omega
    have hr' := hr.ft hF
    have e112 : t 112 = I 112 := hF _ (by omega)
    rw [s121_5]
    simp (disch := first | exact ok_i | exact ok_r | exact ok_n | exact cat_i | exact cat_r | exact ho.tag | exact ho.tg | exact ho.tj | exact ho.tp | exact ho.tC (by omega) (by omega) | exact ho.tA (by omega) (by omega) | exact ho.tJ (by omega) (by omega) | exact ro_0 | exact ro_1 | omega | assumption | exact ho.nC (by omega) | exact ho.nL (by omega) | exact ho.nD (by omega) | exact ho.nJ (by omega) (by omega) (by omega) | exact ho.nA (by omega) (by omega) (by omega) | (simp only [List.map_cons, List.map_nil, List.sum_cons, List.sum_nil, cat_i, cat_r, cat_l, Nat.reduceAdd, Nat.reduceLeDiff]; done) | decide) only [s121_7, s121_9, s121_12, s121_13, s121_14, s121_15, s121_17, s121_18, s121_21, s121_24, s121_25, s121_26, tl_s, tl_n, nI_add, pk_mul, i_cl, row_s, u2_row, i_le, i_lt, i_eq, if_true, if_false, Nat.le_refl, Nat.reduceEqDiff, Nat.reduceLeDiff, ho.r6, ho.r7, ho.r8, ho.r9, ho.rc, ho.g0, ho.g1, ho.g2, ho.g3, ho.g4, ho.g5, ho.g6, ho.g7, ho.g8, ho.j0, ho.j1, ho.j2, ho.j3, n1, hr'.c1, e2]
    rw [s121_29 (by simp only [List.map_cons, List.map_nil, List.sum_cons, List.sum_nil, cat_i, cat_r, cat_l, Nat.reduceAdd, Nat.reduceLeDiff])]
    refine l_first hr' al hs (by rw [hF _ (by omega)]; exact hz) hz4 hc (fun j hj => by rw [hF _ (by omega), e112]; exact hit j hj) (by omega) hq2 (fun I2 hF2 => ?_)
    have eu : upd (upd N (8 * c + 0) (nI i)) (8 * c + 1) (nI q2) = upd N (8 * c + 0) (nI i) := up_id (by rw [up_n (by omega)]; exact e2)
    rw [eu, unM_i e112]
    have hb : ∀ b, unM I (upd N (8 * c + 0) (nI i)) m k c s z = some b → b < 1000 := fun b hb => by
      have := unR_lt (Nat.le_refl z) hb
      omega
    have e3 : lbM I N m k c s z 0 (i + 1) = lbM I N m k c s z 0 i ||| (if (unM I (upd N (8 * c + 0) (nI i)) m k c s z).isNone = true then shl (nI 1) (nI i) else nI 0) := rfl
    have ih := ih I2 (hF.trans hF2)
    rw [e3] at ih
    simp (disch := first | exact ok_i | exact ok_r | exact ok_n | exact cat_i | exact cat_r | exact ho.tag | exact ho.tg | exact ho.tj | exact ho.tp | exact ho.tC (by omega) (by omega) | exact ho.tA (by omega) (by omega) | exact ho.tJ (by omega) (by omega) | exact ro_0 | exact ro_1 | omega | assumption | exact ho.nC (by omega) | exact ho.nL (by omega) | exact ho.nD (by omega) | exact ho.nJ (by omega) (by omega) (by omega) | exact ho.nA (by omega) (by omega) (by omega) | (simp only [List.map_cons, List.map_nil, List.sum_cons, List.sum_nil, cat_i, cat_r, cat_l, Nat.reduceAdd, Nat.reduceLeDiff]; done) | decide) only [s121_32, s121_33, tl_s, tl_n, nI_add, pk_mul, i_cl, row_s, u2_row, i_le, i_lt, i_eq, if_true, if_false, Nat.le_refl, Nat.reduceEqDiff, Nat.reduceLeDiff, o2i_m hb]
    cases eo : unM I (upd N (8 * c + 0) (nI i)) m k c s z with
    | none =>
      rw [eo] at ih
      simp (disch := first | exact ok_i | exact ok_r | exact ok_n | exact cat_i | exact cat_r | exact ho.tag | exact ho.tg | exact ho.tj | exact ho.tp | exact ho.tC (by omega) (by omega) | exact ho.tA (by omega) (by omega) | exact ho.tJ (by omega) (by omega) | exact ro_0 | exact ro_1 | omega | assumption | exact ho.nC (by omega) | exact ho.nL (by omega) | exact ho.nD (by omega) | exact ho.nJ (by omega) (by omega) (by omega) | exact ho.nA (by omega) (by omega) (by omega) | (simp only [List.map_cons, List.map_nil, List.sum_cons, List.sum_nil, cat_i, cat_r, cat_l, Nat.reduceAdd, Nat.reduceLeDiff]; done) | decide) only [Option.isNone_none, s121_36, s121_37, s121_38, s121_40, s121_41, s121_42, s121_43, s121_46, tl_s, tl_n, nI_add, pk_mul, i_cl, row_s, u2_row, i_le, i_lt, i_eq, if_true, if_false, Nat.le_refl, Nat.reduceEqDiff, Nat.reduceLeDiff]
      simp only [Option.isNone_none, if_true] at ih
      exact ih
    | some b =>
      rw [eo] at ih
      simp only [Option.isNone_some, Bool.false_eq_true, if_false, or_n0] at ih
      simp (disch := first | exact ok_i | exact ok_r | exact ok_n | exact cat_i | exact cat_r | exact ho.tag | exact ho.tg | exact ho.tj | exact ho.tp | exact ho.tC (by omega) (by omega) | exact ho.tA (by omega) (by omega) | exact ho.tJ (by omega) (by omega) | exact ro_0 | exact ro_1 | omega | assumption | exact ho.nC (by omega) | exact ho.nL (by omega) | exact ho.nD (by omega) | exact ho.nJ (by omega) (by omega) (by omega) | exact ho.nA (by omega) (by omega) (by omega) | (simp only [List.map_cons, List.map_nil, List.sum_cons, List.sum_nil, cat_i, cat_r, cat_l, Nat.reduceAdd, Nat.reduceLeDiff]; done) | decide) only [Option.isNone_some, Bool.false_eq_true, s121_43, s121_46, tl_s, tl_n, nI_add, pk_mul, i_cl, row_s, u2_row, i_le, i_lt, i_eq, if_true, if_false, Nat.le_refl, Nat.reduceEqDiff, Nat.reduceLeDiff]
      exact ih
theorem l_figuresSo {s z c : Nat} (hr : HR 45 46 I N m (live N m)) (al : AllOk N f k m T) (hs : s < 4) (hz : I (94 + 2 * s) 1 = nI z) (hz4 : z ≤ 40) (hc : c < k) (hit : ∀ i, i < z → RelB (I (95 + 2 * s) i) (I 112 (40 * s + i)))
    (h : ∀ I', FrT I I' → Q (some (.int (lbM I N m k c s z 1 10))) G0 I') : Call X (d + 6) 122 [.ref 0, .ref (94 + 2 * s), .int (nI c)] G0 I Q := by
  have ho := hr.ho
  have l12 := hr.l12
  have m40 := hr.m40
  have hk4 := al.1.1.2.1.2.2
  obtain ⟨⟨q1, hq1, e2⟩, -⟩ := al.1.2.2.2.2.1 c (by omega)
  simp (disch := first | exact ok_i | exact ok_r | exact ok_n | exact cat_i | exact cat_r | exact ho.tag | exact ho.tg | exact ho.tj | exact ho.tp | exact ho.tC (by omega) (by omega) | exact ho.tA (by omega) (by omega) | exact ho.tJ (by omega) (by omega) | exact ro_0 | exact ro_1 | omega | assumption | exact ho.nC (by omega) | exact ho.nL (by omega) | exact ho.nD (by omega) | exact ho.nJ (by omega) (by omega) (by omega) | exact ho.nA (by omega) (by omega) (by omega) | (simp only [List.map_cons, List.map_nil, List.sum_cons, List.sum_nil, cat_i, cat_r, cat_l, Nat.reduceAdd, Nat.reduceLeDiff]; done) | decide) only [e122, s122_0, s122_1, s122_2, s122_3, tl_s, tl_n, nI_add, pk_mul, i_cl, row_s, u2_row, i_le, i_lt, i_eq, if_true, if_false, Nat.le_refl, Nat.reduceEqDiff, Nat.reduceLeDiff]
  refine loop_h (σ := pI) (n := 10)
    (A := fun i t => At X (d + 5) 122 5 [some (.ref 0), some (.ref (94 + 2 * s)), some (.int (nI c)), some (.int (lbM I N m k c s z 1 i)), some (.int (nI i))] [] G0 t Q)
    (ok := fun i t => FrT I t)
    (fun t hF => ?_) (fun i t hi hF ih => ?_) 0 I (Nat.zero_le _) FrT.refl
  · simp (disch := first | exact ok_i | exact ok_r | exact ok_n | exact cat_i | exact cat_r | exact ho.tag | exact ho.tg | exact ho.tj | exact ho.tp | exact ho.tC (by omega) (by omega) | exact ho.tA (by omega) (by omega) | exact ho.tJ (by omega) (by omega) | exact ro_0 | exact ro_1 | omega | assumption | exact ho.nC (by omega) | exact ho.nL (by omega) | exact ho.nD (by omega) | exact ho.nJ (by omega) (by omega) (by omega) | exact ho.nA (by omega) (by omega) (by omega) | (simp only [List.map_cons, List.map_nil, List.sum_cons, List.sum_nil, cat_i, cat_r, cat_l, Nat.reduceAdd, Nat.reduceLeDiff]; done) | decide) only [s122_5, s122_7, s122_9, s122_49, s122_50, tl_s, tl_n, nI_add, pk_mul, i_cl, row_s, u2_row, i_le, i_lt, i_eq, if_true, if_false, Nat.le_refl, Nat.reduceEqDiff, Nat.reduceLeDiff]
    exact h t hF
  · have n1 : ¬ 10 ≤ i := by omega
    have hr' := hr.ft hF
    have e112 : t 112 = I 112 := hF _ (by omega)
    rw [s122_5]
    simp (disch := first | exact ok_i | exact ok_r | exact ok_n | exact cat_i | exact cat_r | exact ho.tag | exact ho.tg | exact ho.tj | exact ho.tp | exact ho.tC (by omega) (by omega) | exact ho.tA (by omega) (by omega) | exact ho.tJ (by omega) (by omega) | exact ro_0 | exact ro_1 | omega | assumption | exact ho.nC (by omega) | exact ho.nL (by omega) | exact ho.nD (by omega) | exact ho.nJ (by omega) (by omega) (by omega) | exact ho.nA (by omega) (by omega) (by omega) | (simp only [List.map_cons, List.map_nil, List.sum_cons, List.sum_nil, cat_i, cat_r, cat_l, Nat.reduceAdd, Nat.reduceLeDiff]; done) | decide) only [s122_7, s122_9, s122_12, s122_13, s122_14, s122_15, s122_16, s122_19, s122_22, s122_23, s122_24, s122_27, tl_s, tl_n, nI_add, pk_mul, i_cl, row_s, u2_row, i_le, i_lt, i_eq, if_true, if_false, Nat.le_refl, Nat.reduceEqDiff, Nat.reduceLeDiff, ho.r6, ho.r7, ho.r8, ho.r9, ho.rc, ho.g0, ho.g1, ho.g2, ho.g3, ho.g4, ho.g5, ho.g6, ho.g7, ho.g8, ho.j0, ho.j1, ho.j2, ho.j3, n1, hr'.c0, e2]
    rw [s122_29 (by simp only [List.map_cons, List.map_nil, List.sum_cons, List.sum_nil, cat_i, cat_r, cat_l, Nat.reduceAdd, Nat.reduceLeDiff])]
    refine l_first hr' al hs (by rw [hF _ (by omega)]; exact hz) hz4 hc (fun j hj => by rw [hF _ (by omega), e112]; exact hit j hj) hq1 (by omega) (fun I2 hF2 => ?_)
    have eu : upd (upd N (8 * c + 0) (nI q1)) (8 * c + 1) (nI i) = upd N (8 * c + 1) (nI i) := by rw [up_id (f := N) (k := 8 * c + 0) e2]
    rw [eu, unM_i e112]
    have hb : ∀ b, unM I (upd N (8 * c + 1) (nI i)) m k c s z = some b → b < 1000 := fun b hb => by
      have := unR_lt (Nat.le_refl z) hb
      omega
    have e3 : lbM I N m k c s z 1 (i + 1) = lbM I N m k c s z 1 i ||| (if (unM I (upd N (8 * c + 1) (nI i)) m k c s z).isNone = true then shl (nI 1) (nI i) else nI 0) := rfl
    have ih := ih I2 (hF.trans hF2)
    rw [e3] at ih
    simp (disch := first | exact ok_i | exact ok_r | exact ok_n | exact cat_i | exact cat_r | exact ho.tag | exact ho.tg | exact ho.tj | exact ho.tp | exact ho.tC (by omega) (by omega) | exact ho.tA (by omega) (by omega) | exact ho.tJ (by omega) (by omega) | exact ro_0 | exact ro_1 | omega | assumption | exact ho.nC (by omega) | exact ho.nL (by omega) | exact ho.nD (by omega) | exact ho.nJ (by omega) (by omega) (by omega) | exact ho.nA (by omega) (by omega) (by omega) | (simp only [List.map_cons, List.map_nil, List.sum_cons, List.sum_nil, cat_i, cat_r, cat_l, Nat.reduceAdd, Nat.reduceLeDiff]; done) | decide) only [s122_32, s122_33, tl_s, tl_n, nI_add, pk_mul, i_cl, row_s, u2_row, i_le, i_lt, i_eq, if_true, if_false, Nat.le_refl, Nat.reduceEqDiff, Nat.reduceLeDiff, o2i_m hb]
    cases eo : unM I (upd N (8 * c + 1) (nI i)) m k c s z with
    | none =>
      rw [eo] at ih
      simp (disch := first | exact ok_i | exact ok_r | exact ok_n | exact cat_i | exact cat_r | exact ho.tag | exact ho.tg | exact ho.tj | exact ho.tp | exact ho.tC (by omega) (by omega) | exact ho.tA (by omega) (by omega) | exact ho.tJ (by omega) (by omega) | exact ro_0 | exact ro_1 | omega | assumption | exact ho.nC (by omega) | exact ho.nL (by omega) | exact ho.nD (by omega) | exact ho.nJ (by omega) (by omega) (by omega) | exact ho.nA (by omega) (by omega) (by omega) | (simp only [List.map_cons, List.map_nil, List.sum_cons, List.sum_nil, cat_i, cat_r, cat_l, Nat.reduceAdd, Nat.reduceLeDiff]; done) | decide) only [Option.isNone_none, s122_36, s122_37, s122_38, s122_40, s122_41, s122_42, s122_43, s122_46, tl_s, tl_n, nI_add, pk_mul, i_cl, row_s, u2_row, i_le, i_lt, i_eq, if_true, if_false, Nat.le_refl, Nat.reduceEqDiff, Nat.reduceLeDiff]
      simp only [Option.isNone_none, if_true] at ih
      exact ih
    | some b =>
      rw [eo] at ih
      simp only [Option.isNone_some, Bool.false_eq_true, if_false, or_n0] at ih
      simp (disch := first | exact ok_i | exact ok_r | exact ok_n | exact cat_i | exact cat_r | exact ho.tag | exact ho.tg | exact ho.tj | exact ho.tp | exact ho.tC (by omega) (by omega) | exact ho.tA (by omega) (by omega) | exact ho.tJ (by omega) (by omega) | exact ro_0 | exact ro_1 | omega | assumption | exact ho.nC (by omega) | exact ho.nL (by omega) | exact ho.nD (by omega) | exact ho.nJ (by omega) (by omega) (by omega) | exact ho.nA (by omega) (by omega) (by omega) | (simp only [List.map_cons, List.map_nil, List.sum_cons, List.sum_nil, cat_i, cat_r, cat_l, Nat.reduceAdd, Nat.reduceLeDiff]; done) | decide) only [Option.isNone_some, Bool.false_eq_true, s122_43, s122_46, tl_s, tl_n, nI_add, pk_mul, i_cl, row_s, u2_row, i_le, i_lt, i_eq, if_true, if_false, Nat.le_refl, Nat.reduceEqDiff, Nat.reduceLeDiff]
      exact ih
theorem l_tells {z : Nat} {x y w : Int32} (hr : HR 45 46 I N m (live N m)) (al : AllOk N f k m T) (hz : inL x 0 3 = true → I (94 + 2 * tN x) 1 = nI z ∧ I (94 + 2 * tN x) 0 = I 110 (tN x) ∧ (∀ i, i < 40 → RelB (I (95 + 2 * tN x) i) (I 112 (40 * tN x + i)))) (hz4 : z ≤ 40)
    (h : ∀ I', FrT I I' → Q (some (.int (telV I N m k z x y w))) G0 I') : Call X (d + 7) 102 [.ref 0, .int x, .int y, .int w] G0 I Q := by
  have ho := hr.ho
  have l12 := hr.l12
  have m40 := hr.m40
  have hk1 : I 45 1 = nI k := by rw [hr.o1]; exact al.1.1.2.1.1
  have hk4 := al.1.1.2.1.2.2
  unfold telV at h
  simp (disch := first | exact ok_i | exact ok_r | exact ok_n | exact cat_i | exact cat_r | exact tS (by omega) | exact tI (by omega) | exact t93 | exact nS (by omega) | exact nIt (by omega) (by omega) | exact ho.tag | exact ho.tg | exact ho.tj | exact ho.tp | exact ho.tC (by omega) (by omega) | exact ho.tA (by omega) (by omega) | exact ho.tJ (by omega) (by omega) | exact ro_0 | exact ro_1 | omega | assumption | exact ho.nC (by omega) | exact ho.nL (by omega) | exact ho.nD (by omega) | exact ho.nJ (by omega) (by omega) (by omega) | exact ho.nA (by omega) (by omega) (by omega) | (simp only [List.map_cons, List.map_nil, List.sum_cons, List.sum_nil, cat_i, cat_r, cat_l, Nat.reduceAdd, Nat.reduceLeDiff]; done) | decide) only [e102, s102_0, s102_1, s102_4, tl_s, tl_n, nI_add, pk_mul, i_cl, row_s, u2_row, i_le, i_lt, i_eq, if_true, if_false, Nat.le_refl, Nat.reduceEqDiff, Nat.reduceLeDiff, l_isSheet, b2i_0]
  cases c1 : inL x 0 3
  · simp only [c1, Bool.false_and, Bool.false_eq_true, if_false] at h
    simp (disch := first | exact ok_i | exact ok_r | exact ok_n | exact cat_i | exact cat_r | exact tS (by omega) | exact tI (by omega) | exact t93 | exact nS (by omega) | exact nIt (by omega) (by omega) | exact ho.tag | exact ho.tg | exact ho.tj | exact ho.tp | exact ho.tC (by omega) (by omega) | exact ho.tA (by omega) (by omega) | exact ho.tJ (by omega) (by omega) | exact ro_0 | exact ro_1 | omega | assumption | exact ho.nC (by omega) | exact ho.nL (by omega) | exact ho.nD (by omega) | exact ho.nJ (by omega) (by omega) (by omega) | exact ho.nA (by omega) (by omega) (by omega) | (simp only [List.map_cons, List.map_nil, List.sum_cons, List.sum_nil, cat_i, cat_r, cat_l, Nat.reduceAdd, Nat.reduceLeDiff]; done) | decide) only [s102_27, s102_29, tl_s, tl_n, nI_add, pk_mul, i_cl, row_s, u2_row, i_le, i_lt, i_eq, if_true, if_false, Nat.le_refl, Nat.reduceEqDiff, Nat.reduceLeDiff]
    exact h I FrT.refl
  · simp (disch := first | exact ok_i | exact ok_r | exact ok_n | exact cat_i | exact cat_r | exact tS (by omega) | exact tI (by omega) | exact t93 | exact nS (by omega) | exact nIt (by omega) (by omega) | exact ho.tag | exact ho.tg | exact ho.tj | exact ho.tp | exact ho.tC (by omega) (by omega) | exact ho.tA (by omega) (by omega) | exact ho.tJ (by omega) (by omega) | exact ro_0 | exact ro_1 | omega | assumption | exact ho.nC (by omega) | exact ho.nL (by omega) | exact ho.nD (by omega) | exact ho.nJ (by omega) (by omega) (by omega) | exact ho.nA (by omega) (by omega) (by omega) | (simp only [List.map_cons, List.map_nil, List.sum_cons, List.sum_nil, cat_i, cat_r, cat_l, Nat.reduceAdd, Nat.reduceLeDiff]; done) | decide) only [s102_7, s102_8, s102_11, s102_12, s102_15, tl_s, tl_n, nI_add, pk_mul, i_cl, row_s, u2_row, i_le, i_lt, i_eq, if_true, if_false, Nat.le_refl, Nat.reduceEqDiff, Nat.reduceLeDiff, Bool.true_eq_false, h_isCar ho hk1 hk4, b2i_0]
    cases c2 : inR y k
    · simp only [c1, c2, Bool.and_false, Bool.false_and, Bool.false_eq_true, if_false] at h
      simp (disch := first | exact ok_i | exact ok_r | exact ok_n | exact cat_i | exact cat_r | exact tS (by omega) | exact tI (by omega) | exact t93 | exact nS (by omega) | exact nIt (by omega) (by omega) | exact ho.tag | exact ho.tg | exact ho.tj | exact ho.tp | exact ho.tC (by omega) (by omega) | exact ho.tA (by omega) (by omega) | exact ho.tJ (by omega) (by omega) | exact ro_0 | exact ro_1 | omega | assumption | exact ho.nC (by omega) | exact ho.nL (by omega) | exact ho.nD (by omega) | exact ho.nJ (by omega) (by omega) (by omega) | exact ho.nA (by omega) (by omega) (by omega) | (simp only [List.map_cons, List.map_nil, List.sum_cons, List.sum_nil, cat_i, cat_r, cat_l, Nat.reduceAdd, Nat.reduceLeDiff]; done) | decide) only [s102_27, s102_29, tl_s, tl_n, nI_add, pk_mul, i_cl, row_s, u2_row, i_le, i_lt, i_eq, if_true, if_false, Nat.le_refl, Nat.reduceEqDiff, Nat.reduceLeDiff]
      exact h I FrT.refl
    · simp (disch := first | exact ok_i | exact ok_r | exact ok_n | exact cat_i | exact cat_r | exact tS (by omega) | exact tI (by omega) | exact t93 | exact nS (by omega) | exact nIt (by omega) (by omega) | exact ho.tag | exact ho.tg | exact ho.tj | exact ho.tp | exact ho.tC (by omega) (by omega) | exact ho.tA (by omega) (by omega) | exact ho.tJ (by omega) (by omega) | exact ro_0 | exact ro_1 | omega | assumption | exact ho.nC (by omega) | exact ho.nL (by omega) | exact ho.nD (by omega) | exact ho.nJ (by omega) (by omega) (by omega) | exact ho.nA (by omega) (by omega) (by omega) | (simp only [List.map_cons, List.map_nil, List.sum_cons, List.sum_nil, cat_i, cat_r, cat_l, Nat.reduceAdd, Nat.reduceLeDiff]; done) | decide) only [s102_18, s102_19, tl_s, tl_n, nI_add, pk_mul, i_cl, row_s, u2_row, i_le, i_lt, i_eq, if_true, if_false, Nat.le_refl, Nat.reduceEqDiff, Nat.reduceLeDiff, Bool.true_eq_false, c_lt]
      cases c3 : inL w 0 2
      · simp only [c1, c2, c3, Bool.and_false, Bool.false_eq_true, if_false] at h
        rcases inL_n c3 with h3 | h3
        · simp (disch := first | exact ok_i | exact ok_r | exact ok_n | exact cat_i | exact cat_r | exact tS (by omega) | exact tI (by omega) | exact t93 | exact nS (by omega) | exact nIt (by omega) (by omega) | exact ho.tag | exact ho.tg | exact ho.tj | exact ho.tp | exact ho.tC (by omega) (by omega) | exact ho.tA (by omega) (by omega) | exact ho.tJ (by omega) (by omega) | exact ro_0 | exact ro_1 | omega | assumption | exact ho.nC (by omega) | exact ho.nL (by omega) | exact ho.nD (by omega) | exact ho.nJ (by omega) (by omega) (by omega) | exact ho.nA (by omega) (by omega) (by omega) | (simp only [List.map_cons, List.map_nil, List.sum_cons, List.sum_nil, cat_i, cat_r, cat_l, Nat.reduceAdd, Nat.reduceLeDiff]; done) | decide) only [h3, s102_27, s102_29, tl_s, tl_n, nI_add, pk_mul, i_cl, row_s, u2_row, i_le, i_lt, i_eq, if_true, if_false, Nat.le_refl, Nat.reduceEqDiff, Nat.reduceLeDiff]
          exact h I FrT.refl
        · have n5 : ¬ w.toInt < ((0 : Nat) : Int) := by omega
          have n6 : ¬ w.toInt ≤ ((2 : Nat) : Int) := by omega
          simp (disch := first | exact ok_i | exact ok_r | exact ok_n | exact cat_i | exact cat_r | exact tS (by omega) | exact tI (by omega) | exact t93 | exact nS (by omega) | exact nIt (by omega) (by omega) | exact ho.tag | exact ho.tg | exact ho.tj | exact ho.tp | exact ho.tC (by omega) (by omega) | exact ho.tA (by omega) (by omega) | exact ho.tJ (by omega) (by omega) | exact ro_0 | exact ro_1 | omega | assumption | exact ho.nC (by omega) | exact ho.nL (by omega) | exact ho.nD (by omega) | exact ho.nJ (by omega) (by omega) (by omega) | exact ho.nA (by omega) (by omega) (by omega) | (simp only [List.map_cons, List.map_nil, List.sum_cons, List.sum_nil, cat_i, cat_r, cat_l, Nat.reduceAdd, Nat.reduceLeDiff]; done) | decide) only [n5, n6, s102_22, s102_23, s102_24, s102_27, s102_29, tl_s, tl_n, nI_add, pk_mul, i_cl, row_s, u2_row, i_le, i_lt, i_eq, if_true, if_false, Nat.le_refl, Nat.reduceEqDiff, Nat.reduceLeDiff, c_le]
          exact h I FrT.refl
      · simp only [c1, c2, c3, Bool.and_self, if_true] at h
        have h4 := inL_i.mp c3
        have n5 : ¬ w.toInt < ((0 : Nat) : Int) := by omega
        have n6 : w.toInt ≤ ((2 : Nat) : Int) := by omega
        obtain ⟨hz1, hz0, hit⟩ := hz c1
        clear hz
        obtain ⟨e1, x1, x2⟩ := inL_t c1
        obtain ⟨e2, hc⟩ := inR_t c2
        generalize tN x = s at e1 x1 x2 hz1 hz0 hit h
        generalize tN y = c at e2 hc h
        subst e1 e2
        simp (disch := first | exact ok_i | exact ok_r | exact ok_n | exact cat_i | exact cat_r | exact tS (by omega) | exact tI (by omega) | exact t93 | exact nS (by omega) | exact nIt (by omega) (by omega) | exact ho.tag | exact ho.tg | exact ho.tj | exact ho.tp | exact ho.tC (by omega) (by omega) | exact ho.tA (by omega) (by omega) | exact ho.tJ (by omega) (by omega) | exact ro_0 | exact ro_1 | omega | assumption | exact ho.nC (by omega) | exact ho.nL (by omega) | exact ho.nD (by omega) | exact ho.nJ (by omega) (by omega) (by omega) | exact ho.nA (by omega) (by omega) (by omega) | (simp only [List.map_cons, List.map_nil, List.sum_cons, List.sum_nil, cat_i, cat_r, cat_l, Nat.reduceAdd, Nat.reduceLeDiff]; done) | decide) only [n5, n6, s102_22, s102_23, s102_24, tl_s, tl_n, nI_add, pk_mul, i_cl, row_s, u2_row, i_le, i_lt, i_eq, if_true, if_false, Nat.le_refl, Nat.reduceEqDiff, Nat.reduceLeDiff, c_le]
        simp (disch := first | exact ok_i | exact ok_r | exact ok_n | exact cat_i | exact cat_r | exact tS (by omega) | exact tI (by omega) | exact t93 | exact nS (by omega) | exact nIt (by omega) (by omega) | exact ho.tag | exact ho.tg | exact ho.tj | exact ho.tp | exact ho.tC (by omega) (by omega) | exact ho.tA (by omega) (by omega) | exact ho.tJ (by omega) (by omega) | exact ro_0 | exact ro_1 | omega | assumption | exact ho.nC (by omega) | exact ho.nL (by omega) | exact ho.nD (by omega) | exact ho.nJ (by omega) (by omega) (by omega) | exact ho.nA (by omega) (by omega) (by omega) | (simp only [List.map_cons, List.map_nil, List.sum_cons, List.sum_nil, cat_i, cat_r, cat_l, Nat.reduceAdd, Nat.reduceLeDiff]; done) | decide) only [s102_30, s102_31, s102_34, s102_35, s102_36, s102_38, s102_40, s102_43, s102_44, tl_s, tl_n, nI_add, pk_mul, i_cl, row_s, u2_row, i_le, i_lt, i_eq, if_true, if_false, Nat.le_refl, Nat.reduceEqDiff, Nat.reduceLeDiff, rSh, iS, hz0]
        by_cases c4 : I 110 s = -1
        · rw [if_pos c4] at h
          simp (disch := first | exact ok_i | exact ok_r | exact ok_n | exact cat_i | exact cat_r | exact tS (by omega) | exact tI (by omega) | exact t93 | exact nS (by omega) | exact nIt (by omega) (by omega) | exact ho.tag | exact ho.tg | exact ho.tj | exact ho.tp | exact ho.tC (by omega) (by omega) | exact ho.tA (by omega) (by omega) | exact ho.tJ (by omega) (by omega) | exact ro_0 | exact ro_1 | omega | assumption | exact ho.nC (by omega) | exact ho.nL (by omega) | exact ho.nD (by omega) | exact ho.nJ (by omega) (by omega) (by omega) | exact ho.nA (by omega) (by omega) (by omega) | (simp only [List.map_cons, List.map_nil, List.sum_cons, List.sum_nil, cat_i, cat_r, cat_l, Nat.reduceAdd, Nat.reduceLeDiff]; done) | decide) only [c4, s102_47, s102_49, tl_s, tl_n, nI_add, pk_mul, i_cl, row_s, u2_row, i_le, i_lt, i_eq, if_true, if_false, Nat.le_refl, Nat.reduceEqDiff, Nat.reduceLeDiff]
          exact h I FrT.refl
        · rw [if_neg c4] at h
          simp (disch := first | exact ok_i | exact ok_r | exact ok_n | exact cat_i | exact cat_r | exact tS (by omega) | exact tI (by omega) | exact t93 | exact nS (by omega) | exact nIt (by omega) (by omega) | exact ho.tag | exact ho.tg | exact ho.tj | exact ho.tp | exact ho.tC (by omega) (by omega) | exact ho.tA (by omega) (by omega) | exact ho.tJ (by omega) (by omega) | exact ro_0 | exact ro_1 | omega | assumption | exact ho.nC (by omega) | exact ho.nL (by omega) | exact ho.nD (by omega) | exact ho.nJ (by omega) (by omega) (by omega) | exact ho.nA (by omega) (by omega) (by omega) | (simp only [List.map_cons, List.map_nil, List.sum_cons, List.sum_nil, cat_i, cat_r, cat_l, Nat.reduceAdd, Nat.reduceLeDiff]; done) | decide) only [c4, s102_50, s102_52, s102_55, s102_57, tl_s, tl_n, nI_add, pk_mul, i_cl, row_s, u2_row, i_le, i_lt, i_eq, if_true, if_false, Nat.le_refl, Nat.reduceEqDiff, Nat.reduceLeDiff, hz1]
          by_cases c5 : z ≤ 30
          · rw [if_neg (by omega)] at h
            obtain ⟨⟨q1, hq1, k1⟩, ⟨q2, hq2, k2⟩, -⟩ := al.1.2.2.2.2.1 c (by omega)
            simp (disch := first | exact ok_i | exact ok_r | exact ok_n | exact cat_i | exact cat_r | exact tS (by omega) | exact tI (by omega) | exact t93 | exact nS (by omega) | exact nIt (by omega) (by omega) | exact ho.tag | exact ho.tg | exact ho.tj | exact ho.tp | exact ho.tC (by omega) (by omega) | exact ho.tA (by omega) (by omega) | exact ho.tJ (by omega) (by omega) | exact ro_0 | exact ro_1 | omega | assumption | exact ho.nC (by omega) | exact ho.nL (by omega) | exact ho.nD (by omega) | exact ho.nJ (by omega) (by omega) (by omega) | exact ho.nA (by omega) (by omega) (by omega) | (simp only [List.map_cons, List.map_nil, List.sum_cons, List.sum_nil, cat_i, cat_r, cat_l, Nat.reduceAdd, Nat.reduceLeDiff]; done) | decide) only [c5, s102_63, s102_64, s102_67, s102_70, s102_71, s102_72, s102_74, s102_75, tl_s, tl_n, nI_add, pk_mul, i_cl, row_s, u2_row, i_le, i_lt, i_eq, if_true, if_false, Nat.le_refl, Nat.reduceEqDiff, Nat.reduceLeDiff, ho.r6, ho.r7, ho.r8, ho.r9, ho.rc, ho.g0, ho.g1, ho.g2, ho.g3, ho.g4, ho.g5, ho.g6, ho.g7, ho.g8, ho.j0, ho.j1, ho.j2, ho.j3]
            by_cases c6 : w = nI 0
            · rw [if_pos c6] at h
              simp (disch := first | exact ok_i | exact ok_r | exact ok_n | exact cat_i | exact cat_r | exact tS (by omega) | exact tI (by omega) | exact t93 | exact nS (by omega) | exact nIt (by omega) (by omega) | exact ho.tag | exact ho.tg | exact ho.tj | exact ho.tp | exact ho.tC (by omega) (by omega) | exact ho.tA (by omega) (by omega) | exact ho.tJ (by omega) (by omega) | exact ro_0 | exact ro_1 | omega | assumption | exact ho.nC (by omega) | exact ho.nL (by omega) | exact ho.nD (by omega) | exact ho.nJ (by omega) (by omega) (by omega) | exact ho.nA (by omega) (by omega) (by omega) | (simp only [List.map_cons, List.map_nil, List.sum_cons, List.sum_nil, cat_i, cat_r, cat_l, Nat.reduceAdd, Nat.reduceLeDiff]; done) | decide) only [c6, s102_78, s102_79, s102_81, s102_82, s102_84, s102_87, s102_89, tl_s, tl_n, nI_add, pk_mul, i_cl, row_s, u2_row, i_le, i_lt, i_eq, if_true, if_false, Nat.le_refl, Nat.reduceEqDiff, Nat.reduceLeDiff, hr.c0, hr.c1, k1, k2]
              rw [s102_92 (by simp only [List.map_cons, List.map_nil, List.sum_cons, List.sum_nil, cat_i, cat_r, cat_l, Nat.reduceAdd, Nat.reduceLeDiff])]
              refine l_first hr al (by omega) hz1 hz4 hc (fun i hi => hit i (by omega)) hq1 hq2 (fun I2 hF2 => ?_)
              have eu : upd (upd N (8 * c + 0) (nI q1)) (8 * c + 1) (nI q2) = N := by rw [up_id (f := N) (k := 8 * c + 0) k1, up_id (f := N) (k := 8 * c + 1) k2]
              rw [eu]
              simp (disch := first | exact ok_i | exact ok_r | exact ok_n | exact cat_i | exact cat_r | exact tS (by omega) | exact tI (by omega) | exact t93 | exact nS (by omega) | exact nIt (by omega) (by omega) | exact ho.tag | exact ho.tg | exact ho.tj | exact ho.tp | exact ho.tC (by omega) (by omega) | exact ho.tA (by omega) (by omega) | exact ho.tJ (by omega) (by omega) | exact ro_0 | exact ro_1 | omega | assumption | exact ho.nC (by omega) | exact ho.nL (by omega) | exact ho.nD (by omega) | exact ho.nJ (by omega) (by omega) (by omega) | exact ho.nA (by omega) (by omega) (by omega) | (simp only [List.map_cons, List.map_nil, List.sum_cons, List.sum_nil, cat_i, cat_r, cat_l, Nat.reduceAdd, Nat.reduceLeDiff]; done) | decide) only [s102_95, tl_s, tl_n, nI_add, pk_mul, i_cl, row_s, u2_row, i_le, i_lt, i_eq, if_true, if_false, Nat.le_refl, Nat.reduceEqDiff, Nat.reduceLeDiff]
              exact h I2 hF2
            · rw [if_neg c6] at h
              simp (disch := first | exact ok_i | exact ok_r | exact ok_n | exact cat_i | exact cat_r | exact tS (by omega) | exact tI (by omega) | exact t93 | exact nS (by omega) | exact nIt (by omega) (by omega) | exact ho.tag | exact ho.tg | exact ho.tj | exact ho.tp | exact ho.tC (by omega) (by omega) | exact ho.tA (by omega) (by omega) | exact ho.tJ (by omega) (by omega) | exact ro_0 | exact ro_1 | omega | assumption | exact ho.nC (by omega) | exact ho.nL (by omega) | exact ho.nD (by omega) | exact ho.nJ (by omega) (by omega) (by omega) | exact ho.nA (by omega) (by omega) (by omega) | (simp only [List.map_cons, List.map_nil, List.sum_cons, List.sum_nil, cat_i, cat_r, cat_l, Nat.reduceAdd, Nat.reduceLeDiff]; done) | decide) only [c6, s102_96, s102_97, s102_98, tl_s, tl_n, nI_add, pk_mul, i_cl, row_s, u2_row, i_le, i_lt, i_eq, if_true, if_false, Nat.le_refl, Nat.reduceEqDiff, Nat.reduceLeDiff]
              by_cases c7 : w = nI 1
              · rw [if_pos c7] at h
                simp (disch := first | exact ok_i | exact ok_r | exact ok_n | exact cat_i | exact cat_r | exact tS (by omega) | exact tI (by omega) | exact t93 | exact nS (by omega) | exact nIt (by omega) (by omega) | exact ho.tag | exact ho.tg | exact ho.tj | exact ho.tp | exact ho.tC (by omega) (by omega) | exact ho.tA (by omega) (by omega) | exact ho.tJ (by omega) (by omega) | exact ro_0 | exact ro_1 | omega | assumption | exact ho.nC (by omega) | exact ho.nL (by omega) | exact ho.nD (by omega) | exact ho.nJ (by omega) (by omega) (by omega) | exact ho.nA (by omega) (by omega) (by omega) | (simp only [List.map_cons, List.map_nil, List.sum_cons, List.sum_nil, cat_i, cat_r, cat_l, Nat.reduceAdd, Nat.reduceLeDiff]; done) | decide) only [c7, s102_101, s102_102, s102_104, tl_s, tl_n, nI_add, pk_mul, i_cl, row_s, u2_row, i_le, i_lt, i_eq, if_true, if_false, Nat.le_refl, Nat.reduceEqDiff, Nat.reduceLeDiff]
                rw [s102_105 (by simp only [List.map_cons, List.map_nil, List.sum_cons, List.sum_nil, cat_i, cat_r, cat_l, Nat.reduceAdd, Nat.reduceLeDiff])]
                refine l_kindsSo hr al (by omega) hz1 hz4 hc (fun i hi => hit i (by omega)) (fun I2 hF2 => ?_)
                simp (disch := first | exact ok_i | exact ok_r | exact ok_n | exact cat_i | exact cat_r | exact tS (by omega) | exact tI (by omega) | exact t93 | exact nS (by omega) | exact nIt (by omega) (by omega) | exact ho.tag | exact ho.tg | exact ho.tj | exact ho.tp | exact ho.tC (by omega) (by omega) | exact ho.tA (by omega) (by omega) | exact ho.tJ (by omega) (by omega) | exact ro_0 | exact ro_1 | omega | assumption | exact ho.nC (by omega) | exact ho.nL (by omega) | exact ho.nD (by omega) | exact ho.nJ (by omega) (by omega) (by omega) | exact ho.nA (by omega) (by omega) (by omega) | (simp only [List.map_cons, List.map_nil, List.sum_cons, List.sum_nil, cat_i, cat_r, cat_l, Nat.reduceAdd, Nat.reduceLeDiff]; done) | decide) only [s102_108, s102_118, tl_s, tl_n, nI_add, pk_mul, i_cl, row_s, u2_row, i_le, i_lt, i_eq, if_true, if_false, Nat.le_refl, Nat.reduceEqDiff, Nat.reduceLeDiff]
                exact h I2 hF2
              · rw [if_neg c7] at h
                simp (disch := first | exact ok_i | exact ok_r | exact ok_n | exact cat_i | exact cat_r | exact tS (by omega) | exact tI (by omega) | exact t93 | exact nS (by omega) | exact nIt (by omega) (by omega) | exact ho.tag | exact ho.tg | exact ho.tj | exact ho.tp | exact ho.tC (by omega) (by omega) | exact ho.tA (by omega) (by omega) | exact ho.tJ (by omega) (by omega) | exact ro_0 | exact ro_1 | omega | assumption | exact ho.nC (by omega) | exact ho.nL (by omega) | exact ho.nD (by omega) | exact ho.nJ (by omega) (by omega) (by omega) | exact ho.nA (by omega) (by omega) (by omega) | (simp only [List.map_cons, List.map_nil, List.sum_cons, List.sum_nil, cat_i, cat_r, cat_l, Nat.reduceAdd, Nat.reduceLeDiff]; done) | decide) only [c7, s102_111, s102_112, s102_114, tl_s, tl_n, nI_add, pk_mul, i_cl, row_s, u2_row, i_le, i_lt, i_eq, if_true, if_false, Nat.le_refl, Nat.reduceEqDiff, Nat.reduceLeDiff]
                rw [s102_115 (by simp only [List.map_cons, List.map_nil, List.sum_cons, List.sum_nil, cat_i, cat_r, cat_l, Nat.reduceAdd, Nat.reduceLeDiff])]
                refine l_figuresSo hr al (by omega) hz1 hz4 hc (fun i hi => hit i (by omega)) (fun I2 hF2 => ?_)
                simp (disch := first | exact ok_i | exact ok_r | exact ok_n | exact cat_i | exact cat_r | exact tS (by omega) | exact tI (by omega) | exact t93 | exact nS (by omega) | exact nIt (by omega) (by omega) | exact ho.tag | exact ho.tg | exact ho.tj | exact ho.tp | exact ho.tC (by omega) (by omega) | exact ho.tA (by omega) (by omega) | exact ho.tJ (by omega) (by omega) | exact ro_0 | exact ro_1 | omega | assumption | exact ho.nC (by omega) | exact ho.nL (by omega) | exact ho.nD (by omega) | exact ho.nJ (by omega) (by omega) (by omega) | exact ho.nA (by omega) (by omega) (by omega) | (simp only [List.map_cons, List.map_nil, List.sum_cons, List.sum_nil, cat_i, cat_r, cat_l, Nat.reduceAdd, Nat.reduceLeDiff]; done) | decide) only [s102_118, tl_s, tl_n, nI_add, pk_mul, i_cl, row_s, u2_row, i_le, i_lt, i_eq, if_true, if_false, Nat.le_refl, Nat.reduceEqDiff, Nat.reduceLeDiff]
                exact h I2 hF2
          · rw [if_pos (by omega)] at h
            simp (disch := first | exact ok_i | exact ok_r | exact ok_n | exact cat_i | exact cat_r | exact tS (by omega) | exact tI (by omega) | exact t93 | exact nS (by omega) | exact nIt (by omega) (by omega) | exact ho.tag | exact ho.tg | exact ho.tj | exact ho.tp | exact ho.tC (by omega) (by omega) | exact ho.tA (by omega) (by omega) | exact ho.tJ (by omega) (by omega) | exact ro_0 | exact ro_1 | omega | assumption | exact ho.nC (by omega) | exact ho.nL (by omega) | exact ho.nD (by omega) | exact ho.nJ (by omega) (by omega) (by omega) | exact ho.nA (by omega) (by omega) (by omega) | (simp only [List.map_cons, List.map_nil, List.sum_cons, List.sum_nil, cat_i, cat_r, cat_l, Nat.reduceAdd, Nat.reduceLeDiff]; done) | decide) only [c5, s102_60, s102_62, tl_s, tl_n, nI_add, pk_mul, i_cl, row_s, u2_row, i_le, i_lt, i_eq, if_true, if_false, Nat.le_refl, Nat.reduceEqDiff, Nat.reduceLeDiff]
            exact h I FrT.refl
end
