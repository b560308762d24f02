/-! the model: words -/
def mtB (I : pI) (b e w : Nat) : Nat → Bool := itr (fun k is => is && decide (I 107 (6 * w + k) = (if b + k < e then I 106 (b + k) else nI 0))) (decide (e - b ≤ 6))
def wfR (I : pI) (b e : Nat) : Nat → Option Nat
  | 0 => none
  | r + 1 => if mtB I b e (6 - (r + 1)) 6 = true then some (6 - (r + 1)) else wfR I b e r
theorem mtB_f {I : pI} {b e w : Nat} : ∀ {j k : Nat}, mtB I b e w k = false → mtB I b e w (k + j) = false
  | 0, _, h => h
  | j + 1, k, h => by
    have ih := mtB_f (j := j) h
    show (mtB I b e w (k + j) && _) = false
    rw [ih, Bool.false_and]
section
variable {X : pX} {d : Nat} {I : pI} {Q : Option Value → pG → pI → Prop} {N : Nat → Int32} {G : pG}
theorem c_wfIn {b e w : Nat} {R : Prop} (hb : b ≤ e) (he : e ≤ 60) (hw : w < 6)
    (h : ∀ k, k ≤ 6 → (At X d 206 87 [some (.ref 102), some (.int (nI b)), some (.int (nI e)), some (.int (nI w)), some (.int (b2i (mtB I b e w 6))), some (.int (nI k))] [] G0 (row I 103 N) Q ↔ R)) :
    ∀ r, r ≤ 6 → (At X d 206 26 [some (.ref 102), some (.int (nI b)), some (.int (nI e)), some (.int (nI w)), some (.int (b2i (mtB I b e w (6 - r)))), some (.int (nI (6 - r)))] [] G0 (row I 103 N) Q ↔ R) := by
  intro r
  induction r with
  | zero =>
    intro _
    have hh := h 6 (by omega)
    rw [s206_26]
    simp (disch := first | exact ok_i | exact ok_r | exact ok_n | exact cat_i | exact cat_r | exact t103 | exact t106 | exact t109 | exact t110 | exact t111 | exact t112 | exact ro_0 | exact ro_1 | omega | assumption | (refine i103 ?_; omega) | (refine i106 ?_; omega) | (refine i109 ?_; omega) | (refine i110 ?_; omega) | (refine i111 ?_; omega) | (refine i112 ?_; omega) | (simp only [List.map_cons, List.map_nil, List.sum_cons, List.sum_nil, cat_i, cat_r, cat_l, Nat.reduceAdd, Nat.reduceLeDiff]; done) | decide) only [s206_28, s206_30, tl_s, tl_n, nI_add, pk_mul, i_cl, row_s, u2_row, i_le, i_lt, i_eq, if_true, if_false, Nat.le_refl, Nat.reduceEqDiff, Nat.reduceLeDiff, Nat.sub_zero, hh]
  | succ r ih =>
    intro hr
    have n1 : ¬ 6 ≤ 6 - (r + 1) := by omega
    have e1 : 6 - (r + 1) + 1 = 6 - r := by omega
    have ih' := ih (by omega)
    have e2 : mtB I b e w (6 - r) = (mtB I b e w (6 - (r + 1)) && decide (I 107 (6 * w + (6 - (r + 1))) = (if b + (6 - (r + 1)) < e then I 106 (b + (6 - (r + 1))) else nI 0))) := by rw [← e1]; rfl
    rw [s206_26]
    cases h1 : mtB I b e w (6 - (r + 1))
    · have hh := h (6 - (r + 1)) (by omega)
      have hf := mtB_f (j := r + 1) h1
      rw [show 6 - (r + 1) + (r + 1) = 6 by omega] at hf
      rw [hf] at hh
      simp (disch := first | exact ok_i | exact ok_r | exact ok_n | exact cat_i | exact cat_r | exact t103 | exact t106 | exact t109 | exact t110 | exact t111 | exact t112 | exact ro_0 | exact ro_1 | omega | assumption | (refine i103 ?_; omega) | (refine i106 ?_; omega) | (refine i109 ?_; omega) | (refine i110 ?_; omega) | (refine i111 ?_; omega) | (refine i112 ?_; omega) | (simp only [List.map_cons, List.map_nil, List.sum_cons, List.sum_nil, cat_i, cat_r, cat_l, Nat.reduceAdd, Nat.reduceLeDiff]; done) | decide) only [s206_28, s206_30, s206_33, s206_35, tl_s, tl_n, nI_add, pk_mul, i_cl, row_s, u2_row, i_le, i_lt, i_eq, if_true, if_false, Nat.le_refl, Nat.reduceEqDiff, Nat.reduceLeDiff, n1, b2i_0, hh]
    · rw [h1, Bool.true_and] at e2
      rw [e2] at ih'
      simp (disch := first | exact ok_i | exact ok_r | exact ok_n | exact cat_i | exact cat_r | exact t103 | exact t106 | exact t109 | exact t110 | exact t111 | exact t112 | exact ro_0 | exact ro_1 | omega | assumption | (refine i103 ?_; omega) | (refine i106 ?_; omega) | (refine i109 ?_; omega) | (refine i110 ?_; omega) | (refine i111 ?_; omega) | (refine i112 ?_; omega) | (simp only [List.map_cons, List.map_nil, List.sum_cons, List.sum_nil, cat_i, cat_r, cat_l, Nat.reduceAdd, Nat.reduceLeDiff]; done) | decide) only [s206_28, s206_30, s206_33, s206_35, tl_s, tl_n, nI_add, pk_mul, i_cl, row_s, u2_row, i_le, i_lt, i_eq, if_true, if_false, Nat.le_refl, Nat.reduceEqDiff, Nat.reduceLeDiff, n1, b2i_0, Bool.true_eq_false]
      simp (disch := first | exact ok_i | exact ok_r | exact ok_n | exact cat_i | exact cat_r | exact t103 | exact t106 | exact t109 | exact t110 | exact t111 | exact t112 | exact ro_0 | exact ro_1 | omega | assumption | (refine i103 ?_; omega) | (refine i106 ?_; omega) | (refine i109 ?_; omega) | (refine i110 ?_; omega) | (refine i111 ?_; omega) | (refine i112 ?_; omega) | (simp only [List.map_cons, List.map_nil, List.sum_cons, List.sum_nil, cat_i, cat_r, cat_l, Nat.reduceAdd, Nat.reduceLeDiff]; done) | decide) only [s206_38, s206_39, s206_42, s206_44, s206_45, s206_46, s206_48, tl_s, tl_n, nI_add, pk_mul, i_cl, row_s, u2_row, i_le, i_lt, i_eq, if_true, if_false, Nat.le_refl, Nat.reduceEqDiff, Nat.reduceLeDiff]
      rw [s206_49 (by rfl) (i107 (by omega))]
      simp (disch := first | exact ok_i | exact ok_r | exact ok_n | exact cat_i | exact cat_r | exact t103 | exact t106 | exact t109 | exact t110 | exact t111 | exact t112 | exact ro_0 | exact ro_1 | omega | assumption | (refine i103 ?_; omega) | (refine i106 ?_; omega) | (refine i109 ?_; omega) | (refine i110 ?_; omega) | (refine i111 ?_; omega) | (refine i112 ?_; omega) | (simp only [List.map_cons, List.map_nil, List.sum_cons, List.sum_nil, cat_i, cat_r, cat_l, Nat.reduceAdd, Nat.reduceLeDiff]; done) | decide) only [s206_50, s206_51, s206_53, s206_54, s206_55, tl_s, tl_n, nI_add, pk_mul, i_cl, row_s, u2_row, i_le, i_lt, i_eq, if_true, if_false, Nat.le_refl, Nat.reduceEqDiff, Nat.reduceLeDiff, row_n]
      by_cases h2 : b + (6 - (r + 1)) < e
      · have h2' : ¬ e ≤ b + (6 - (r + 1)) := by omega
        simp only [h2, if_true] at ih'
        simp (disch := first | exact ok_i | exact ok_r | exact ok_n | exact cat_i | exact cat_r | exact t103 | exact t106 | exact t109 | exact t110 | exact t111 | exact t112 | exact ro_0 | exact ro_1 | omega | assumption | (refine i103 ?_; omega) | (refine i106 ?_; omega) | (refine i109 ?_; omega) | (refine i110 ?_; omega) | (refine i111 ?_; omega) | (refine i112 ?_; omega) | (simp only [List.map_cons, List.map_nil, List.sum_cons, List.sum_nil, cat_i, cat_r, cat_l, Nat.reduceAdd, Nat.reduceLeDiff]; done) | decide) only [h2', s206_58, s206_59, s206_62, s206_63, s206_65, s206_66, s206_67, s206_70, s206_71, tl_s, tl_n, nI_add, pk_mul, i_cl, row_s, u2_row, i_le, i_lt, i_eq, if_true, if_false, Nat.le_refl, Nat.reduceEqDiff, Nat.reduceLeDiff, row_n]
        by_cases h3 : I 107 (6 * w + (6 - (r + 1))) = I 106 (b + (6 - (r + 1)))
        · simp only [h3, decide_true] at ih'
          simp (disch := first | exact ok_i | exact ok_r | exact ok_n | exact cat_i | exact cat_r | exact t103 | exact t106 | exact t109 | exact t110 | exact t111 | exact t112 | exact ro_0 | exact ro_1 | omega | assumption | (refine i103 ?_; omega) | (refine i106 ?_; omega) | (refine i109 ?_; omega) | (refine i110 ?_; omega) | (refine i111 ?_; omega) | (refine i112 ?_; omega) | (simp only [List.map_cons, List.map_nil, List.sum_cons, List.sum_nil, cat_i, cat_r, cat_l, Nat.reduceAdd, Nat.reduceLeDiff]; done) | decide) only [h3, s206_74, s206_75, s206_78, s206_79, s206_81, s206_84, tl_s, tl_n, nI_add, pk_mul, i_cl, row_s, u2_row, i_le, i_lt, i_eq, if_true, if_false, Nat.le_refl, Nat.reduceEqDiff, Nat.reduceLeDiff, e1]
          exact ih'
        · simp only [h3, decide_false] at ih'
          simp (disch := first | exact ok_i | exact ok_r | exact ok_n | exact cat_i | exact cat_r | exact t103 | exact t106 | exact t109 | exact t110 | exact t111 | exact t112 | exact ro_0 | exact ro_1 | omega | assumption | (refine i103 ?_; omega) | (refine i106 ?_; omega) | (refine i109 ?_; omega) | (refine i110 ?_; omega) | (refine i111 ?_; omega) | (refine i112 ?_; omega) | (simp only [List.map_cons, List.map_nil, List.sum_cons, List.sum_nil, cat_i, cat_r, cat_l, Nat.reduceAdd, Nat.reduceLeDiff]; done) | decide) only [h3, s206_78, s206_79, s206_81, s206_84, tl_s, tl_n, nI_add, pk_mul, i_cl, row_s, u2_row, i_le, i_lt, i_eq, if_true, if_false, Nat.le_refl, Nat.reduceEqDiff, Nat.reduceLeDiff, e1]
          exact ih'
      · have h2' : e ≤ b + (6 - (r + 1)) := by omega
        simp only [h2, if_false] at ih'
        simp (disch := first | exact ok_i | exact ok_r | exact ok_n | exact cat_i | exact cat_r | exact t103 | exact t106 | exact t109 | exact t110 | exact t111 | exact t112 | exact ro_0 | exact ro_1 | omega | assumption | (refine i103 ?_; omega) | (refine i106 ?_; omega) | (refine i109 ?_; omega) | (refine i110 ?_; omega) | (refine i111 ?_; omega) | (refine i112 ?_; omega) | (simp only [List.map_cons, List.map_nil, List.sum_cons, List.sum_nil, cat_i, cat_r, cat_l, Nat.reduceAdd, Nat.reduceLeDiff]; done) | decide) only [h2', s206_70, s206_71, tl_s, tl_n, nI_add, pk_mul, i_cl, row_s, u2_row, i_le, i_lt, i_eq, if_true, if_false, Nat.le_refl, Nat.reduceEqDiff, Nat.reduceLeDiff, row_n]
        by_cases h3 : I 107 (6 * w + (6 - (r + 1))) = nI 0
        · simp only [h3, decide_true] at ih'
          simp (disch := first | exact ok_i | exact ok_r | exact ok_n | exact cat_i | exact cat_r | exact t103 | exact t106 | exact t109 | exact t110 | exact t111 | exact t112 | exact ro_0 | exact ro_1 | omega | assumption | (refine i103 ?_; omega) | (refine i106 ?_; omega) | (refine i109 ?_; omega) | (refine i110 ?_; omega) | (refine i111 ?_; omega) | (refine i112 ?_; omega) | (simp only [List.map_cons, List.map_nil, List.sum_cons, List.sum_nil, cat_i, cat_r, cat_l, Nat.reduceAdd, Nat.reduceLeDiff]; done) | decide) only [h3, s206_74, s206_75, s206_78, s206_79, s206_81, s206_84, tl_s, tl_n, nI_add, pk_mul, i_cl, row_s, u2_row, i_le, i_lt, i_eq, if_true, if_false, Nat.le_refl, Nat.reduceEqDiff, Nat.reduceLeDiff, e1]
          exact ih'
        · simp only [h3, decide_false] at ih'
          simp (disch := first | exact ok_i | exact ok_r | exact ok_n | exact cat_i | exact cat_r | exact t103 | exact t106 | exact t109 | exact t110 | exact t111 | exact t112 | exact ro_0 | exact ro_1 | omega | assumption | (refine i103 ?_; omega) | (refine i106 ?_; omega) | (refine i109 ?_; omega) | (refine i110 ?_; omega) | (refine i111 ?_; omega) | (refine i112 ?_; omega) | (simp only [List.map_cons, List.map_nil, List.sum_cons, List.sum_nil, cat_i, cat_r, cat_l, Nat.reduceAdd, Nat.reduceLeDiff]; done) | decide) only [h3, s206_78, s206_79, s206_81, s206_84, tl_s, tl_n, nI_add, pk_mul, i_cl, row_s, u2_row, i_le, i_lt, i_eq, if_true, if_false, Nat.le_refl, Nat.reduceEqDiff, Nat.reduceLeDiff, e1]
          exact ih'
theorem c_wordFrom {b e : Nat} (hb : b ≤ e) (he : e ≤ 60) : Call X (d + 1) 206 [.ref 102, .int (nI b), .int (nI e)] G0 (row I 103 N) Q ↔ Q (some (.int (o2i (wfR I b e 6)))) G0 (row I 103 N) := by
  simp (disch := first | exact ok_i | exact ok_r | exact ok_n | exact cat_i | exact cat_r | exact t103 | exact t106 | exact t109 | exact t110 | exact t111 | exact t112 | exact ro_0 | exact ro_1 | omega | assumption | (refine i103 ?_; omega) | (refine i106 ?_; omega) | (refine i109 ?_; omega) | (refine i110 ?_; omega) | (refine i111 ?_; omega) | (refine i112 ?_; omega) | (simp only [List.map_cons, List.map_nil, List.sum_cons, List.sum_nil, cat_i, cat_r, cat_l, Nat.reduceAdd, Nat.reduceLeDiff]; done) | decide) only [e206, s206_0, s206_1, tl_s, tl_n, nI_add, pk_mul, i_cl, row_s, u2_row, i_le, i_lt, i_eq, if_true, if_false, Nat.le_refl, Nat.reduceEqDiff, Nat.reduceLeDiff]
  have key : ∀ r, r ≤ 6 → ∀ l4 l5 : Option Value, okL l4 = true → okL l5 = true → (At X d 206 2 [some (.ref 102), some (.int (nI b)), some (.int (nI e)), some (.int (nI (6 - r))), l4, l5] [] G0 (row I 103 N) Q ↔ Q (some (.int (o2i (wfR I b e r)))) G0 (row I 103 N)) := by
    intro r
    induction r with
    | zero =>
      intro _ l4 l5 h4 h5
      rw [s206_2]
      simp (disch := first | exact ok_i | exact ok_r | exact ok_n | exact cat_i | exact cat_r | exact t103 | exact t106 | exact t109 | exact t110 | exact t111 | exact t112 | exact ro_0 | exact ro_1 | omega | assumption | (refine i103 ?_; omega) | (refine i106 ?_; omega) | (refine i109 ?_; omega) | (refine i110 ?_; omega) | (refine i111 ?_; omega) | (refine i112 ?_; omega) | (simp only [List.map_cons, List.map_nil, List.sum_cons, List.sum_nil, cat_i, cat_r, cat_l, Nat.reduceAdd, Nat.reduceLeDiff]; done) | decide) only [s206_3, s206_5, s206_100, s206_101, tl_s, tl_n, nI_add, pk_mul, i_cl, row_s, u2_row, i_le, i_lt, i_eq, if_true, if_false, Nat.le_refl, Nat.reduceEqDiff, Nat.reduceLeDiff, Nat.sub_zero, wfR, o2i]
    | succ r ih =>
      intro hr l4 l5 h4 h5
      have n1 : ¬ 6 ≤ 6 - (r + 1) := by omega
      have e1 : 6 - (r + 1) + 1 = 6 - r := by omega
      have inn := c_wfIn (X := X) (d := d) (I := I) (Q := Q) (N := N) (w := 6 - (r + 1)) (R := Q (some (.int (o2i (wfR I b e (r + 1))))) G0 (row I 103 N)) hb he (by omega) (fun k hk => by
        have ih' := ih (by omega) (some (.int (b2i (mtB I b e (6 - (r + 1)) 6)))) (some (.int (nI k))) rfl rfl
        unfold wfR
        simp (disch := first | exact ok_i | exact ok_r | exact ok_n | exact cat_i | exact cat_r | exact t103 | exact t106 | exact t109 | exact t110 | exact t111 | exact t112 | exact ro_0 | exact ro_1 | omega | assumption | (refine i103 ?_; omega) | (refine i106 ?_; omega) | (refine i109 ?_; omega) | (refine i110 ?_; omega) | (refine i111 ?_; omega) | (refine i112 ?_; omega) | (simp only [List.map_cons, List.map_nil, List.sum_cons, List.sum_nil, cat_i, cat_r, cat_l, Nat.reduceAdd, Nat.reduceLeDiff]; done) | decide) only [s206_87, s206_89, tl_s, tl_n, nI_add, pk_mul, i_cl, row_s, u2_row, i_le, i_lt, i_eq, if_true, if_false, Nat.le_refl, Nat.reduceEqDiff, Nat.reduceLeDiff, b2i_0]
        cases h1 : mtB I b e (6 - (r + 1)) 6
        · rw [h1] at ih'
          simp (disch := first | exact ok_i | exact ok_r | exact ok_n | exact cat_i | exact cat_r | exact t103 | exact t106 | exact t109 | exact t110 | exact t111 | exact t112 | exact ro_0 | exact ro_1 | omega | assumption | (refine i103 ?_; omega) | (refine i106 ?_; omega) | (refine i109 ?_; omega) | (refine i110 ?_; omega) | (refine i111 ?_; omega) | (refine i112 ?_; omega) | (simp only [List.map_cons, List.map_nil, List.sum_cons, List.sum_nil, cat_i, cat_r, cat_l, Nat.reduceAdd, Nat.reduceLeDiff]; done) | decide) only [s206_94, s206_97, tl_s, tl_n, nI_add, pk_mul, i_cl, row_s, u2_row, i_le, i_lt, i_eq, if_true, if_false, Nat.le_refl, Nat.reduceEqDiff, Nat.reduceLeDiff, e1, ih', Bool.false_eq_true]
        · simp (disch := first | exact ok_i | exact ok_r | exact ok_n | exact cat_i | exact cat_r | exact t103 | exact t106 | exact t109 | exact t110 | exact t111 | exact t112 | exact ro_0 | exact ro_1 | omega | assumption | (refine i103 ?_; omega) | (refine i106 ?_; omega) | (refine i109 ?_; omega) | (refine i110 ?_; omega) | (refine i111 ?_; omega) | (refine i112 ?_; omega) | (simp only [List.map_cons, List.map_nil, List.sum_cons, List.sum_nil, cat_i, cat_r, cat_l, Nat.reduceAdd, Nat.reduceLeDiff]; done) | decide) only [s206_92, s206_93, tl_s, tl_n, nI_add, pk_mul, i_cl, row_s, u2_row, i_le, i_lt, i_eq, if_true, if_false, Nat.le_refl, Nat.reduceEqDiff, Nat.reduceLeDiff, Bool.true_eq_false, o2i]) 6 (Nat.le_refl _)
      rw [Nat.sub_self] at inn
      have m0 : mtB I b e (6 - (r + 1)) 0 = decide (e - b ≤ 6) := rfl
      rw [m0] at inn
      rw [← inn, s206_2]
      simp (disch := first | exact ok_i | exact ok_r | exact ok_n | exact cat_i | exact cat_r | exact t103 | exact t106 | exact t109 | exact t110 | exact t111 | exact t112 | exact ro_0 | exact ro_1 | omega | assumption | (refine i103 ?_; omega) | (refine i106 ?_; omega) | (refine i109 ?_; omega) | (refine i110 ?_; omega) | (refine i111 ?_; omega) | (refine i112 ?_; omega) | (simp only [List.map_cons, List.map_nil, List.sum_cons, List.sum_nil, cat_i, cat_r, cat_l, Nat.reduceAdd, Nat.reduceLeDiff]; done) | decide) only [s206_3, s206_5, s206_8, s206_9, s206_10, s206_11, s206_13, tl_s, tl_n, nI_add, pk_mul, i_cl, row_s, u2_row, i_le, i_lt, i_eq, if_true, if_false, Nat.le_refl, Nat.reduceEqDiff, Nat.reduceLeDiff, n1, i_sub]
      by_cases h1 : e - b ≤ 6
      · have h1' : ¬ 6 < e - b := by omega
        simp (disch := first | exact ok_i | exact ok_r | exact ok_n | exact cat_i | exact cat_r | exact t103 | exact t106 | exact t109 | exact t110 | exact t111 | exact t112 | exact ro_0 | exact ro_1 | omega | assumption | (refine i103 ?_; omega) | (refine i106 ?_; omega) | (refine i109 ?_; omega) | (refine i110 ?_; omega) | (refine i111 ?_; omega) | (refine i112 ?_; omega) | (simp only [List.map_cons, List.map_nil, List.sum_cons, List.sum_nil, cat_i, cat_r, cat_l, Nat.reduceAdd, Nat.reduceLeDiff]; done) | decide) only [h1, h1', s206_16, s206_17, s206_20, s206_21, s206_23, s206_24, tl_s, tl_n, nI_add, pk_mul, i_cl, row_s, u2_row, i_le, i_lt, i_eq, if_true, if_false, Nat.le_refl, Nat.reduceEqDiff, Nat.reduceLeDiff, decide_true, b2i]
      · have h1' : 6 < e - b := by omega
        simp (disch := first | exact ok_i | exact ok_r | exact ok_n | exact cat_i | exact cat_r | exact t103 | exact t106 | exact t109 | exact t110 | exact t111 | exact t112 | exact ro_0 | exact ro_1 | omega | assumption | (refine i103 ?_; omega) | (refine i106 ?_; omega) | (refine i109 ?_; omega) | (refine i110 ?_; omega) | (refine i111 ?_; omega) | (refine i112 ?_; omega) | (simp only [List.map_cons, List.map_nil, List.sum_cons, List.sum_nil, cat_i, cat_r, cat_l, Nat.reduceAdd, Nat.reduceLeDiff]; done) | decide) only [h1, h1', s206_20, s206_21, s206_23, s206_24, tl_s, tl_n, nI_add, pk_mul, i_cl, row_s, u2_row, i_le, i_lt, i_eq, if_true, if_false, Nat.le_refl, Nat.reduceEqDiff, Nat.reduceLeDiff, decide_false, b2i, Bool.false_eq_true]
  exact key 6 (Nat.le_refl _) none none rfl rfl
end
