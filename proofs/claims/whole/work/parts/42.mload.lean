/-! the model: loading -/
theorem ldR_1 {it : Nat → Int32} {f k z n r c : Nat} {x : Int32} {N : Nat → Int32} (h : 0 ≤ x.toInt ∧ x.toInt + (3 * (n - (r + 1)) : Nat) + 3 ≤ z) : ldR it f k x z n (r + 1) N c = ldR it f k x z n r (clN N f (mOf N) k (it (tN x + 3 * (n - (r + 1)))) (it (tN x + 3 * (n - (r + 1)) + 1)) (it (tN x + 3 * (n - (r + 1)) + 2))) (c + if nI 0 ≤ clV N f (mOf N) k (it (tN x + 3 * (n - (r + 1)))) (it (tN x + 3 * (n - (r + 1)) + 1)) (it (tN x + 3 * (n - (r + 1)) + 2)) then 1 else 0) := by
  show (if 0 ≤ x.toInt ∧ x.toInt + (3 * (n - (r + 1)) : Nat) + 3 ≤ z then _ else _) = _
  rw [if_pos h]
theorem ldR_0 {it : Nat → Int32} {f k z n r c : Nat} {x : Int32} {N : Nat → Int32} (h : ¬ (0 ≤ x.toInt ∧ x.toInt + (3 * (n - (r + 1)) : Nat) + 3 ≤ z)) : ldR it f k x z n (r + 1) N c = (-12, N) := by
  show (if 0 ≤ x.toInt ∧ x.toInt + (3 * (n - (r + 1)) : Nat) + 3 ≤ z then _ else _) = _
  rw [if_neg h]
section
variable {X : pX} {d : Nat} {I : pI} {Q : Option Value → pG → pI → Prop} {N : Nat → Int32} {G : pG}
theorem c_ldLoop {f k t z s n : Nat} {y w : Int32} (hs : s < 4) (hz : I 111 s = nI z) (hz4 : z ≤ 40) (hI : I 102 4 = nI t) (ht : t < 4) (hn : n ≤ 6) :
    ∀ r, r ≤ n → ∀ (N : Nat → Int32) (m c : Nat) (J : pI) (l : Option Value), okL l = true → Bnd N f k m → Sm t I J →
    (∀ J', Sm t I J' → Q (some (.int (ldR (fun i => I 112 (40 * s + i)) f k w z n r N c).1)) G0 (row J' 103 (ldR (fun i => I 112 (40 * s + i)) f k w z n r N c).2)) →
    At X (d + 12) 220 75 [some (.ref 102), some (.int (nI s)), some (.int y), some (.int w), some (.int (nI n)), some (.int (nI c)), some (.int (nI (n - r))), l] [] G0 (row J 103 N) Q := by
  intro r
  induction r with
  | zero =>
    intro _ N m c J l hl hB hJ h
    have hh := h J hJ
    rw [s220_75]
    simp (disch := first | exact ok_i | exact ok_r | exact ok_n | exact cat_i | exact cat_r | exact t103 | exact t110 | exact t111 | exact t112 | exact ro_0 | exact ro_1 | omega | assumption | (refine i103 ?_; omega) | (refine i110 ?_; omega) | (refine i111 ?_; omega) | (refine i112 ?_; omega) | (simp only [List.map_cons, List.map_nil, List.sum_cons, List.sum_nil, cat_i, cat_r, cat_l, Nat.reduceAdd, Nat.reduceLeDiff]; done) | decide) only [s220_77, s220_79, s220_167, s220_169, tl_s, tl_n, nI_add, pk_mul, i_cl, row_s, u2_row, i_le, i_lt, i_eq, if_true, if_false, Nat.le_refl, Nat.reduceEqDiff, Nat.reduceLeDiff, Nat.sub_zero]
    exact hh
  | succ r ih =>
    intro hr N m c J l hl hB hJ h
    have em := mOf_n hB.2.2.1 hB.2.2.2
    refine c_ldStep (n := n) (r := r) hl hB hs (by rw [hJ.1 111 (by decide), hz]) hz4 (by rw [hJ.1 102 (by decide), hI]) ht hn hr (fun hno => ?_) (fun hyes J2 l' hJ2 hl' => ?_)
    · have hh := h J hJ
      rw [ldR_0 hno] at hh
      exact hh
    · obtain ⟨⟨m', hB'⟩, _⟩ := clN_ok (x := I 112 (40 * s + (tN w + 3 * (n - (r + 1))))) (y := I 112 (40 * s + (tN w + 3 * (n - (r + 1)) + 1))) (s := I 112 (40 * s + (tN w + 3 * (n - (r + 1)) + 2))) hB
      rw [hJ.1 112 (by decide)]
      refine ih (by omega) _ m' _ J2 l' hl' hB' (hJ.trans hJ2) (fun J' hJ' => ?_)
      have hh := h J' hJ'
      rw [ldR_1 hyes, em] at hh
      exact hh
theorem c_load_ {f k m t z : Nat} {x y w n : Int32} (hB : Bnd N f k m) (hz : inL x 0 3 = true → I 111 (tN x) = nI z) (hz4 : z ≤ 40) (hI : I 102 4 = nI t) (ht : t < 4)
    (h : ∀ J, Sm t I J → Q (some (.int (lodR I N f k z x y w n).1)) G0 (row J 103 (lodR I N f k z x y w n).2)) : Call X (d + 13) 220 [.ref 102, .int x, .int y, .int w, .int n] G0 (row I 103 N) Q := by
  have h0 := h I Sm.refl
  unfold lodR at h h0
  simp (disch := first | exact ok_i | exact ok_r | exact ok_n | exact cat_i | exact cat_r | exact t103 | exact t110 | exact t111 | exact t112 | exact ro_0 | exact ro_1 | omega | assumption | (refine i103 ?_; omega) | (refine i110 ?_; omega) | (refine i111 ?_; omega) | (refine i112 ?_; omega) | (simp only [List.map_cons, List.map_nil, List.sum_cons, List.sum_nil, cat_i, cat_r, cat_l, Nat.reduceAdd, Nat.reduceLeDiff]; done) | decide) only [e220, s220_0, s220_1, s220_4, tl_s, tl_n, nI_add, pk_mul, i_cl, row_s, u2_row, i_le, i_lt, i_eq, if_true, if_false, Nat.le_refl, Nat.reduceEqDiff, Nat.reduceLeDiff, c_isSheet, b2i_0]
  cases h1 : inL x 0 3
  · simp only [h1, Bool.false_and, Bool.false_eq_true, if_false] at h0
    simp (disch := first | exact ok_i | exact ok_r | exact ok_n | exact cat_i | exact cat_r | exact t103 | exact t110 | exact t111 | exact t112 | exact ro_0 | exact ro_1 | omega | assumption | (refine i103 ?_; omega) | (refine i110 ?_; omega) | (refine i111 ?_; omega) | (refine i112 ?_; omega) | (simp only [List.map_cons, List.map_nil, List.sum_cons, List.sum_nil, cat_i, cat_r, cat_l, Nat.reduceAdd, Nat.reduceLeDiff]; done) | decide) only [s220_30, s220_32, tl_s, tl_n, nI_add, pk_mul, i_cl, row_s, u2_row, i_le, i_lt, i_eq, if_true, if_false, Nat.le_refl, Nat.reduceEqDiff, Nat.reduceLeDiff]
    exact h0
  · simp only [h1, Bool.true_and] at h h0
    simp (disch := first | exact ok_i | exact ok_r | exact ok_n | exact cat_i | exact cat_r | exact t103 | exact t110 | exact t111 | exact t112 | exact ro_0 | exact ro_1 | omega | assumption | (refine i103 ?_; omega) | (refine i110 ?_; omega) | (refine i111 ?_; omega) | (refine i112 ?_; omega) | (simp only [List.map_cons, List.map_nil, List.sum_cons, List.sum_nil, cat_i, cat_r, cat_l, Nat.reduceAdd, Nat.reduceLeDiff]; done) | decide) only [s220_7, s220_8, s220_9, s220_10, s220_11, s220_14, tl_s, tl_n, nI_add, pk_mul, i_cl, row_s, u2_row, i_le, i_lt, i_eq, if_true, if_false, Nat.le_refl, Nat.reduceEqDiff, Nat.reduceLeDiff, c_inL, b2i_0, Bool.true_eq_false]
    cases h2 : inL y 0 1
    · simp only [h2, Bool.false_and, Bool.false_eq_true, if_false] at h0
      simp (disch := first | exact ok_i | exact ok_r | exact ok_n | exact cat_i | exact cat_r | exact t103 | exact t110 | exact t111 | exact t112 | exact ro_0 | exact ro_1 | omega | assumption | (refine i103 ?_; omega) | (refine i110 ?_; omega) | (refine i111 ?_; omega) | (refine i112 ?_; omega) | (simp only [List.map_cons, List.map_nil, List.sum_cons, List.sum_nil, cat_i, cat_r, cat_l, Nat.reduceAdd, Nat.reduceLeDiff]; done) | decide) only [s220_30, s220_32, tl_s, tl_n, nI_add, pk_mul, i_cl, row_s, u2_row, i_le, i_lt, i_eq, if_true, if_false, Nat.le_refl, Nat.reduceEqDiff, Nat.reduceLeDiff]
      exact h0
    · simp only [h2, Bool.true_and] at h h0
      simp (disch := first | exact ok_i | exact ok_r | exact ok_n | exact cat_i | exact cat_r | exact t103 | exact t110 | exact t111 | exact t112 | exact ro_0 | exact ro_1 | omega | assumption | (refine i103 ?_; omega) | (refine i110 ?_; omega) | (refine i111 ?_; omega) | (refine i112 ?_; omega) | (simp only [List.map_cons, List.map_nil, List.sum_cons, List.sum_nil, cat_i, cat_r, cat_l, Nat.reduceAdd, Nat.reduceLeDiff]; done) | decide) only [s220_17, s220_19, s220_20, s220_21, s220_24, s220_27, tl_s, tl_n, nI_add, pk_mul, i_cl, row_s, u2_row, i_le, i_lt, i_eq, if_true, if_false, Nat.le_refl, Nat.reduceEqDiff, Nat.reduceLeDiff, c_inL, b2i_0, Bool.true_eq_false]
      cases h3 : inL n 0 6
      · simp only [h3, Bool.false_eq_true, if_false] at h0
        simp (disch := first | exact ok_i | exact ok_r | exact ok_n | exact cat_i | exact cat_r | exact t103 | exact t110 | exact t111 | exact t112 | exact ro_0 | exact ro_1 | omega | assumption | (refine i103 ?_; omega) | (refine i110 ?_; omega) | (refine i111 ?_; omega) | (refine i112 ?_; omega) | (simp only [List.map_cons, List.map_nil, List.sum_cons, List.sum_nil, cat_i, cat_r, cat_l, Nat.reduceAdd, Nat.reduceLeDiff]; done) | decide) only [s220_30, s220_32, tl_s, tl_n, nI_add, pk_mul, i_cl, row_s, u2_row, i_le, i_lt, i_eq, if_true, if_false, Nat.le_refl, Nat.reduceEqDiff, Nat.reduceLeDiff]
        exact h0
      · simp only [h3, if_true] at h h0
        obtain ⟨hx, hx1, hx2⟩ := inL_t h1
        obtain ⟨hy, hy1, hy2⟩ := inL_t h2
        obtain ⟨hn, hn1, hn2⟩ := inL_t h3
        have hz' := hz h1
        generalize tN x = s at *
        generalize tN n = j at *
        generalize tN y = o at *
        subst hx
        subst hn
        have ny : ¬ y = -1 := by rw [hy, nI_m1 (show o < 2147483648 by omega)]; exact id
        simp (disch := first | exact ok_i | exact ok_r | exact ok_n | exact cat_i | exact cat_r | exact t103 | exact t110 | exact t111 | exact t112 | exact ro_0 | exact ro_1 | omega | assumption | (refine i103 ?_; omega) | (refine i110 ?_; omega) | (refine i111 ?_; omega) | (refine i112 ?_; omega) | (simp only [List.map_cons, List.map_nil, List.sum_cons, List.sum_nil, cat_i, cat_r, cat_l, Nat.reduceAdd, Nat.reduceLeDiff]; done) | decide) only [s220_33, s220_34, s220_37, s220_38, s220_39, s220_40, tl_s, tl_n, nI_add, pk_mul, i_cl, row_s, u2_row, i_le, i_lt, i_eq, if_true, if_false, Nat.le_refl, Nat.reduceEqDiff, Nat.reduceLeDiff, row_n, Bool.true_eq_false]
        by_cases h4 : I 110 s = -1
        · simp only [h4, if_true] at h0
          simp (disch := first | exact ok_i | exact ok_r | exact ok_n | exact cat_i | exact cat_r | exact t103 | exact t110 | exact t111 | exact t112 | exact ro_0 | exact ro_1 | omega | assumption | (refine i103 ?_; omega) | (refine i110 ?_; omega) | (refine i111 ?_; omega) | (refine i112 ?_; omega) | (simp only [List.map_cons, List.map_nil, List.sum_cons, List.sum_nil, cat_i, cat_r, cat_l, Nat.reduceAdd, Nat.reduceLeDiff]; done) | decide) only [h4, s220_56, s220_57, s220_60, s220_61, s220_62, s220_63, s220_66, s220_68, tl_s, tl_n, nI_add, pk_mul, i_cl, row_s, u2_row, i_le, i_lt, i_eq, if_true, if_false, Nat.le_refl, Nat.reduceEqDiff, Nat.reduceLeDiff, row_n]
          exact h0
        · simp only [h4, if_false] at h h0
          simp (disch := first | exact ok_i | exact ok_r | exact ok_n | exact cat_i | exact cat_r | exact t103 | exact t110 | exact t111 | exact t112 | exact ro_0 | exact ro_1 | omega | assumption | (refine i103 ?_; omega) | (refine i110 ?_; omega) | (refine i111 ?_; omega) | (refine i112 ?_; omega) | (simp only [List.map_cons, List.map_nil, List.sum_cons, List.sum_nil, cat_i, cat_r, cat_l, Nat.reduceAdd, Nat.reduceLeDiff]; done) | decide) only [h4, s220_43, s220_44, s220_47, s220_48, s220_49, s220_50, tl_s, tl_n, nI_add, pk_mul, i_cl, row_s, u2_row, i_le, i_lt, i_eq, if_true, if_false, Nat.le_refl, Nat.reduceEqDiff, Nat.reduceLeDiff, row_n]
          by_cases h5 : I 110 s = y
          · simp only [h5, if_true] at h
            simp (disch := first | exact ok_i | exact ok_r | exact ok_n | exact cat_i | exact cat_r | exact t103 | exact t110 | exact t111 | exact t112 | exact ro_0 | exact ro_1 | omega | assumption | (refine i103 ?_; omega) | (refine i110 ?_; omega) | (refine i111 ?_; omega) | (refine i112 ?_; omega) | (simp only [List.map_cons, List.map_nil, List.sum_cons, List.sum_nil, cat_i, cat_r, cat_l, Nat.reduceAdd, Nat.reduceLeDiff]; done) | decide) only [h5, ny, s220_56, s220_57, s220_60, s220_61, s220_62, s220_63, s220_66, s220_68, s220_69, s220_70, s220_72, s220_73, tl_s, tl_n, nI_add, pk_mul, i_cl, row_s, u2_row, i_le, i_lt, i_eq, if_true, if_false, Nat.le_refl, Nat.reduceEqDiff, Nat.reduceLeDiff, row_n]
            have key := c_ldLoop (X := X) (d := d) (I := I) (Q := Q) (f := f) (k := k) (y := y) (w := w) (n := j) (show s < 4 by omega) hz' hz4 hI ht hn2 j (Nat.le_refl _) N m 0 I none rfl hB Sm.refl h
            rw [Nat.sub_self] at key
            exact key
          · simp only [h5, if_false] at h0
            simp (disch := first | exact ok_i | exact ok_r | exact ok_n | exact cat_i | exact cat_r | exact t103 | exact t110 | exact t111 | exact t112 | exact ro_0 | exact ro_1 | omega | assumption | (refine i103 ?_; omega) | (refine i110 ?_; omega) | (refine i111 ?_; omega) | (refine i112 ?_; omega) | (simp only [List.map_cons, List.map_nil, List.sum_cons, List.sum_nil, cat_i, cat_r, cat_l, Nat.reduceAdd, Nat.reduceLeDiff]; done) | decide) only [h5, s220_53, s220_55, tl_s, tl_n, nI_add, pk_mul, i_cl, row_s, u2_row, i_le, i_lt, i_eq, if_true, if_false, Nat.le_refl, Nat.reduceEqDiff, Nat.reduceLeDiff]
            exact h0
end
