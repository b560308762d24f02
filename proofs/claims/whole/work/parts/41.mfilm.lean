/-! the model: filming, loading -/
def fiS (N : Nat → Int32) (m k c s : Nat) (R : Nat → Int32) : Nat → (Nat → Int32) × (Nat → Int32) := itr (fun i st => ((psS st.1 m k).1, upd st.2 (40 * s + i) (cf (psS st.1 m k).1 c 3))) (N, R)
theorem fiS_o {N : Nat → Int32} {m k c s a : Nat} {R : Nat → Int32} (hm4 : m ≤ 40) (hk4 : k ≤ 4) (h : fixP a) : ∀ {n : Nat}, (fiS N m k c s R n).1 a = N a
  | 0 => rfl
  | n + 1 => by
    show (psS (fiS N m k c s R n).1 m k).1 a = N a
    rw [psS_o hm4 h hk4, fiS_o hm4 hk4 h]
def fiI (I : pI) (N : Nat → Int32) (m k c s n : Nat) : pI := row (shN I s (nI 0) (nI n)) 112 (fiS N m k c s (shN I s (nI 0) (nI n) 112) n).2
def filI (I : pI) (N : Nat → Int32) (m k : Nat) (x y n : Int32) : pI := if (inL x 0 3 && inR y k && inL n 0 30) = true then fiI I N m k (tN y) (tN x) (tN n) else I
theorem shN_o {I : pI} {s a : Nat} {y n : Int32} (h : a ≠ 110) (h2 : a ≠ 111) (h3 : a ≠ 112) : shN I s y n a = I a := by
  unfold shN zrI
  rw [row_n h3]
  funext j
  unfold upd2
  rw [if_neg (fun e => h2 e.1), if_neg (fun e => h e.1)]
theorem rest_le {z a : Nat} {x : Int32} (hz : z ≤ 40) (ha : a ≤ 100) : (nI z - nI a - nI 3 < x) ↔ (z : Int) < x.toInt + a + 3 := by
  have h1 : (nI z - nI a).toInt = (z : Int) - (a : Int) := by
    rw [Int32.toInt_sub, i_toInt (show z < 2147483648 by omega), i_toInt (show a < 2147483648 by omega)]
    exact Int.bmod_eq_of_le (by omega) (by omega)
  have h2 : (nI z - nI a - nI 3).toInt = (z : Int) - (a : Int) - 3 := by
    rw [Int32.toInt_sub, h1, i_toInt (show 3 < 2147483648 by omega)]
    exact Int.bmod_eq_of_le (by omega) (by omega)
  rw [Int32.lt_iff_toInt_lt, h2]
  omega
/-- loading: r groups are left of n -/
def ldR (it : Nat → Int32) (f k : Nat) (x : Int32) (z n : Nat) : Nat → (Nat → Int32) → Nat → Int32 × (Nat → Int32)
  | 0, N, c => (nI c, N)
  | r + 1, N, c => if 0 ≤ x.toInt ∧ x.toInt + (3 * (n - (r + 1)) : Nat) + 3 ≤ z then
      ldR it f k x z n r (clN N f (mOf N) k (it (tN x + 3 * (n - (r + 1)))) (it (tN x + 3 * (n - (r + 1)) + 1)) (it (tN x + 3 * (n - (r + 1)) + 2))) (c + if nI 0 ≤ clV N f (mOf N) k (it (tN x + 3 * (n - (r + 1)))) (it (tN x + 3 * (n - (r + 1)) + 1)) (it (tN x + 3 * (n - (r + 1)) + 2)) then 1 else 0)
    else (-12, N)
def lodR (I : pI) (N : Nat → Int32) (f k z : Nat) (s y w n : Int32) : Int32 × (Nat → Int32) := if (inL s 0 3 && inL y 0 1 && inL n 0 6) = true then (if I 110 (tN s) = -1 then (-11, N) else if I 110 (tN s) = y then ldR (fun i => I 112 (40 * tN s + i)) f k w z (tN n) (tN n) N 0 else (-13, N)) else (-2, N)
section
variable {X : pX} {d : Nat} {I : pI} {Q : Option Value → pG → pI → Prop} {N : Nat → Int32} {G : pG}
theorem c_film {m k t : Nat} {x y n : Int32} (hm : N 446 = nI m) (hm4 : m ≤ 40) (hk : N 445 = nI k) (hk1 : 1 ≤ k) (hk4 : k ≤ 4) (hI : I 102 4 = nI t) (ht : t < 4)
    (h : ∀ J, Sm t (filI I N m k x y n) J → Q (some (.int (if (inL x 0 3 && inR y k && inL n 0 30) = true then n else -2))) G0 (row J 103 N)) : Call X (d + 9) 219 [.ref 102, .int x, .int y, .int n] G0 (row I 103 N) Q := by
  have h0 := h _ Sm.refl
  unfold filI at h h0
  simp (disch := first | exact ok_i | exact ok_r | exact ok_n | exact cat_i | exact cat_r | exact t103 | exact t110 | exact t111 | exact t112 | exact ro_0 | exact ro_1 | omega | assumption | (refine i103 ?_; omega) | (refine i110 ?_; omega) | (refine i111 ?_; omega) | (refine i112 ?_; omega) | (simp only [List.map_cons, List.map_nil, List.sum_cons, List.sum_nil, cat_i, cat_r, cat_l, Nat.reduceAdd, Nat.reduceLeDiff]; done) | decide) only [e219, s219_0, s219_1, s219_4, tl_s, tl_n, nI_add, pk_mul, i_cl, row_s, u2_row, i_le, i_lt, i_eq, if_true, if_false, Nat.le_refl, Nat.reduceEqDiff, Nat.reduceLeDiff, c_isSheet, b2i_0]
  cases h1 : inL x 0 3
  · simp only [h1, Bool.false_and, Bool.false_eq_true, if_false] at h0
    simp (disch := first | exact ok_i | exact ok_r | exact ok_n | exact cat_i | exact cat_r | exact t103 | exact t110 | exact t111 | exact t112 | exact ro_0 | exact ro_1 | omega | assumption | (refine i103 ?_; omega) | (refine i110 ?_; omega) | (refine i111 ?_; omega) | (refine i112 ?_; omega) | (simp only [List.map_cons, List.map_nil, List.sum_cons, List.sum_nil, cat_i, cat_r, cat_l, Nat.reduceAdd, Nat.reduceLeDiff]; done) | decide) only [s219_27, s219_29, tl_s, tl_n, nI_add, pk_mul, i_cl, row_s, u2_row, i_le, i_lt, i_eq, if_true, if_false, Nat.le_refl, Nat.reduceEqDiff, Nat.reduceLeDiff]
    exact h0
  · simp only [h1, Bool.true_and] at h h0
    simp (disch := first | exact ok_i | exact ok_r | exact ok_n | exact cat_i | exact cat_r | exact t103 | exact t110 | exact t111 | exact t112 | exact ro_0 | exact ro_1 | omega | assumption | (refine i103 ?_; omega) | (refine i110 ?_; omega) | (refine i111 ?_; omega) | (refine i112 ?_; omega) | (simp only [List.map_cons, List.map_nil, List.sum_cons, List.sum_nil, cat_i, cat_r, cat_l, Nat.reduceAdd, Nat.reduceLeDiff]; done) | decide) only [s219_7, s219_8, s219_9, s219_12, tl_s, tl_n, nI_add, pk_mul, i_cl, row_s, u2_row, i_le, i_lt, i_eq, if_true, if_false, Nat.le_refl, Nat.reduceEqDiff, Nat.reduceLeDiff, c_car hk hk1 hk4, b2i_0, Bool.true_eq_false]
    cases h2 : inR y k
    · simp only [h2, Bool.false_and, Bool.false_eq_true, if_false] at h0
      simp (disch := first | exact ok_i | exact ok_r | exact ok_n | exact cat_i | exact cat_r | exact t103 | exact t110 | exact t111 | exact t112 | exact ro_0 | exact ro_1 | omega | assumption | (refine i103 ?_; omega) | (refine i110 ?_; omega) | (refine i111 ?_; omega) | (refine i112 ?_; omega) | (simp only [List.map_cons, List.map_nil, List.sum_cons, List.sum_nil, cat_i, cat_r, cat_l, Nat.reduceAdd, Nat.reduceLeDiff]; done) | decide) only [s219_27, s219_29, tl_s, tl_n, nI_add, pk_mul, i_cl, row_s, u2_row, i_le, i_lt, i_eq, if_true, if_false, Nat.le_refl, Nat.reduceEqDiff, Nat.reduceLeDiff]
      exact h0
    · simp only [h2, Bool.true_and] at h h0
      simp (disch := first | exact ok_i | exact ok_r | exact ok_n | exact cat_i | exact cat_r | exact t103 | exact t110 | exact t111 | exact t112 | exact ro_0 | exact ro_1 | omega | assumption | (refine i103 ?_; omega) | (refine i110 ?_; omega) | (refine i111 ?_; omega) | (refine i112 ?_; omega) | (simp only [List.map_cons, List.map_nil, List.sum_cons, List.sum_nil, cat_i, cat_r, cat_l, Nat.reduceAdd, Nat.reduceLeDiff]; done) | decide) only [s219_15, s219_16, s219_17, s219_18, s219_21, s219_24, tl_s, tl_n, nI_add, pk_mul, i_cl, row_s, u2_row, i_le, i_lt, i_eq, if_true, if_false, Nat.le_refl, Nat.reduceEqDiff, Nat.reduceLeDiff, c_inL, b2i_0, Bool.true_eq_false]
      cases h3 : inL n 0 30
      · simp only [h3, Bool.false_eq_true, if_false] at h0
        simp (disch := first | exact ok_i | exact ok_r | exact ok_n | exact cat_i | exact cat_r | exact t103 | exact t110 | exact t111 | exact t112 | exact ro_0 | exact ro_1 | omega | assumption | (refine i103 ?_; omega) | (refine i110 ?_; omega) | (refine i111 ?_; omega) | (refine i112 ?_; omega) | (simp only [List.map_cons, List.map_nil, List.sum_cons, List.sum_nil, cat_i, cat_r, cat_l, Nat.reduceAdd, Nat.reduceLeDiff]; done) | decide) only [s219_27, s219_29, tl_s, tl_n, nI_add, pk_mul, i_cl, row_s, u2_row, i_le, i_lt, i_eq, if_true, if_false, Nat.le_refl, Nat.reduceEqDiff, Nat.reduceLeDiff]
        exact h0
      · simp only [h3, if_true] at h
        obtain ⟨hx, hx1, hx2⟩ := inL_t h1
        obtain ⟨hy, hy1⟩ := inR_t h2
        obtain ⟨hn, hn1, hn2⟩ := inL_t h3
        have hsh : shI I x (nI 0) n = shN I (tN x) (nI 0) n := by
          unfold shI shOk
          have e1 : sortB (nI 0) = true := by decide
          have e2 : n ≤ nI 40 := by rw [hn, i_le (by omega) (by omega)]; omega
          have e3 : nI 0 ≤ n := by rw [hn, i_le (by omega) (by omega)]; omega
          simp only [h1, e1, e2, e3, decide_true, Bool.or_true, Bool.and_self, if_true]
        generalize tN x = s at *
        generalize tN y = c at *
        generalize tN n = j at *
        have hxx := hx
        subst hx
        subst hy
        subst hn
        simp (disch := first | exact ok_i | exact ok_r | exact ok_n | exact cat_i | exact cat_r | exact t103 | exact t110 | exact t111 | exact t112 | exact ro_0 | exact ro_1 | omega | assumption | (refine i103 ?_; omega) | (refine i110 ?_; omega) | (refine i111 ?_; omega) | (refine i112 ?_; omega) | (simp only [List.map_cons, List.map_nil, List.sum_cons, List.sum_nil, cat_i, cat_r, cat_l, Nat.reduceAdd, Nat.reduceLeDiff]; done) | decide) only [s219_30, s219_31, s219_32, s219_33, s219_34, s219_37, s219_39, s219_40, tl_s, tl_n, nI_add, pk_mul, i_cl, row_s, u2_row, i_le, i_lt, i_eq, if_true, if_false, Nat.le_refl, Nat.reduceEqDiff, Nat.reduceLeDiff, c_sheet, hsh, Bool.true_eq_false]
        have hI1 : shN I s (nI 0) (nI j) 102 4 = nI t := by rw [shN_o (by decide) (by decide) (by decide), hI]
        generalize hSI : shN I s (nI 0) (nI j) = I1 at *
        simp (disch := first | exact ok_i | exact ok_r | exact ok_n | exact cat_i | exact cat_r | exact t103 | exact t110 | exact t111 | exact t112 | exact ro_0 | exact ro_1 | omega | assumption | (refine i103 ?_; omega) | (refine i110 ?_; omega) | (refine i111 ?_; omega) | (refine i112 ?_; omega) | (simp only [List.map_cons, List.map_nil, List.sum_cons, List.sum_nil, cat_i, cat_r, cat_l, Nat.reduceAdd, Nat.reduceLeDiff]; done) | decide) only [s219_43, s219_44, tl_s, tl_n, nI_add, pk_mul, i_cl, row_s, u2_row, i_le, i_lt, i_eq, if_true, if_false, Nat.le_refl, Nat.reduceEqDiff, Nat.reduceLeDiff, c_thinks hI1 ht]
        have fin : At X (d + 8) 219 46 [some (.ref 102), some (.int (nI s)), some (.int (nI c)), some (.int (nI j)), some (.int (shV (nI s) (nI 0) (nI j))), some (.int (nI 0))] [] G0 (row (row (thk I1 t N) 112 (fiS N m k c s (I1 112) 0).2) 103 (fiS N m k c s (I1 112) 0).1) Q := by
          refine loop_imp (P := fun i => At X (d + 8) 219 46 [some (.ref 102), some (.int (nI s)), some (.int (nI c)), some (.int (nI j)), some (.int (shV (nI s) (nI 0) (nI j))), some (.int (nI i))] [] G0 (row (row (thk I1 t N) 112 (fiS N m k c s (I1 112) i).2) 103 (fiS N m k c s (I1 112) i).1) Q) (n := j) ?_ ?_ 0 (Nat.zero_le _)
          · have hb := back_N (N := N) (N' := (fiS N m k c s (I1 112) j).1) (J := thk I1 t N) (I := I1) (t := t) Sm.refl (fun i hi => fiS_o hm4 hk4 (by unfold fixP; omega))
            have e4 : row (thk I1 t N) 112 (fiS N m k c s (I1 112) j).2 102 4 = nI (t + 1) := by rw [row_n (by decide), thk_102]
            have e5 : ∀ i, row (upd2 (thk I1 t N) 102 4 (nI t)) 112 (fiS N m k c s (I1 112) j).2 105 i = upd2 (thk I1 t N) 102 4 (nI t) 105 i := fun i => by rw [row_n (by decide)]
            simp (disch := first | exact ok_i | exact ok_r | exact ok_n | exact cat_i | exact cat_r | exact t103 | exact t110 | exact t111 | exact t112 | exact ro_0 | exact ro_1 | omega | assumption | (refine i103 ?_; omega) | (refine i110 ?_; omega) | (refine i111 ?_; omega) | (refine i112 ?_; omega) | (simp only [List.map_cons, List.map_nil, List.sum_cons, List.sum_nil, cat_i, cat_r, cat_l, Nat.reduceAdd, Nat.reduceLeDiff]; done) | decide) only [s219_46, s219_48, s219_49, s219_81, s219_82, s219_85, s219_86, tl_s, tl_n, nI_add, pk_mul, i_cl, row_s, u2_row, i_le, i_lt, i_eq, if_true, if_false, Nat.le_refl, Nat.reduceEqDiff, Nat.reduceLeDiff, c_laysBack e4 ht, u2_n, e5, hb]
            refine h _ ?_
            unfold fiI
            rw [hSI]
            have hs := thk_Sm (N := N) hI1
            refine ⟨fun a ha => ?_, fun i hi => ?_⟩
            · by_cases h4 : a = 112
              · rw [h4, row_s, row_s]
              · rw [row_n h4, row_n h4, hs.1 a ha]
            · rw [row_n (by decide), row_n (by decide), hs.2 i hi]
          · intro i hi ih
            have n1 : ¬ j ≤ i := by omega
            have hm2 : (fiS N m k c s (I1 112) i).1 446 = nI m := by rw [fiS_o hm4 hk4 (by unfold fixP; omega), hm]
            have hk2 : (fiS N m k c s (I1 112) i).1 445 = nI k := by rw [fiS_o hm4 hk4 (by unfold fixP; omega), hk]
            have e6 : fiS N m k c s (I1 112) (i + 1) = ((psS (fiS N m k c s (I1 112) i).1 m k).1, upd (fiS N m k c s (I1 112) i).2 (40 * s + i) (cf (psS (fiS N m k c s (I1 112) i).1 m k).1 c 3)) := rfl
            rw [e6] at ih
            dsimp only at ih
            rw [s219_46]
            simp (disch := first | exact ok_i | exact ok_r | exact ok_n | exact cat_i | exact cat_r | exact t103 | exact t110 | exact t111 | exact t112 | exact ro_0 | exact ro_1 | omega | assumption | (refine i103 ?_; omega) | (refine i110 ?_; omega) | (refine i111 ?_; omega) | (refine i112 ?_; omega) | (simp only [List.map_cons, List.map_nil, List.sum_cons, List.sum_nil, cat_i, cat_r, cat_l, Nat.reduceAdd, Nat.reduceLeDiff]; done) | decide) only [s219_48, s219_49, s219_52, s219_53, s219_56, s219_57, s219_58, s219_61, s219_63, s219_64, s219_65, s219_67, s219_68, s219_69, s219_70, s219_71, s219_74, s219_75, s219_78, tl_s, tl_n, nI_add, pk_mul, i_cl, row_s, u2_row, i_le, i_lt, i_eq, if_true, if_false, Nat.le_refl, Nat.reduceEqDiff, Nat.reduceLeDiff, n1, c_passes hm2 hm4 hk2 hk4, c_of, u2_n]
            exact ih
        have e7 : row (thk I1 t N) 112 (fiS N m k c s (I1 112) 0).2 = thk I1 t N := by
          funext a i
          unfold row
          by_cases h4 : a = 112
          · rw [if_pos h4, h4, thk_n (by decide) (by omega)]
            rfl
          · rw [if_neg h4]
        rw [e7] at fin
        exact fin
theorem c_ldStep {f k t z s n r m : Nat} {y w : Int32} {c : Nat} {l : Option Value} (hl : okL l = true) (hB : Bnd N f k m) (hs : s < 4) (hz : I 111 s = nI z) (hz4 : z ≤ 40) (hI : I 102 4 = nI t) (ht : t < 4) (hn : n ≤ 6) (hr : r + 1 ≤ n)
    (hout : ¬ (0 ≤ w.toInt ∧ w.toInt + (3 * (n - (r + 1)) : Nat) + 3 ≤ z) → Q (some (.int (-12))) G0 (row I 103 N))
    (h : (0 ≤ w.toInt ∧ w.toInt + (3 * (n - (r + 1)) : Nat) + 3 ≤ z) → ∀ J l', Sm t I J → okL l' = true → At X (d + 12) 220 75 [some (.ref 102), some (.int (nI s)), some (.int y), some (.int w), some (.int (nI n)), some (.int (nI (c + if nI 0 ≤ clV N f m k (I 112 (40 * s + (tN w + 3 * (n - (r + 1))))) (I 112 (40 * s + (tN w + 3 * (n - (r + 1)) + 1))) (I 112 (40 * s + (tN w + 3 * (n - (r + 1)) + 2))) then 1 else 0))), some (.int (nI (n - r))), l'] [] G0 (row J 103 (clN N f m k (I 112 (40 * s + (tN w + 3 * (n - (r + 1))))) (I 112 (40 * s + (tN w + 3 * (n - (r + 1)) + 1))) (I 112 (40 * s + (tN w + 3 * (n - (r + 1)) + 2))))) Q) :
    At X (d + 12) 220 75 [some (.ref 102), some (.int (nI s)), some (.int y), some (.int w), some (.int (nI n)), some (.int (nI c)), some (.int (nI (n - (r + 1)))), l] [] G0 (row I 103 N) Q := by
  have n1 : ¬ n ≤ n - (r + 1) := by omega
  have e1 : n - (r + 1) + 1 = n - r := by omega
  have z0 : (nI 0).toInt = 0 := by decide
  obtain ⟨⟨hf, hf1, hf4⟩, ⟨hk, hk1, hk4⟩, hm, hm4⟩ := hB
  rw [s220_75]
  simp (disch := first | exact ok_i | exact ok_r | exact ok_n | exact cat_i | exact cat_r | exact t103 | exact t110 | exact t111 | exact t112 | exact ro_0 | exact ro_1 | omega | assumption | (refine i103 ?_; omega) | (refine i110 ?_; omega) | (refine i111 ?_; omega) | (refine i112 ?_; omega) | (simp only [List.map_cons, List.map_nil, List.sum_cons, List.sum_nil, cat_i, cat_r, cat_l, Nat.reduceAdd, Nat.reduceLeDiff]; done) | decide) only [s220_77, s220_79, s220_82, tl_s, tl_n, nI_add, pk_mul, i_cl, row_s, u2_row, i_le, i_lt, i_eq, if_true, if_false, Nat.le_refl, Nat.reduceEqDiff, Nat.reduceLeDiff, n1]
  rw [s220_83]
  by_cases c1 : w < nI 0
  · have c1' : ¬ 0 ≤ w.toInt := by rw [Int32.lt_iff_toInt_lt, z0] at c1; omega
    have hh := hout (fun e => c1' e.1)
    rw [if_pos c1]
    simp (disch := first | exact ok_i | exact ok_r | exact ok_n | exact cat_i | exact cat_r | exact t103 | exact t110 | exact t111 | exact t112 | exact ro_0 | exact ro_1 | omega | assumption | (refine i103 ?_; omega) | (refine i110 ?_; omega) | (refine i111 ?_; omega) | (refine i112 ?_; omega) | (simp only [List.map_cons, List.map_nil, List.sum_cons, List.sum_nil, cat_i, cat_r, cat_l, Nat.reduceAdd, Nat.reduceLeDiff]; done) | decide) only [s220_103, s220_105, tl_s, tl_n, nI_add, pk_mul, i_cl, row_s, u2_row, i_le, i_lt, i_eq, if_true, if_false, Nat.le_refl, Nat.reduceEqDiff, Nat.reduceLeDiff]
    exact hh
  · have c1' : 0 ≤ w.toInt := by rw [Int32.lt_iff_toInt_lt, z0] at c1; omega
    rw [if_neg c1]
    have e2 := rest_le (z := z) (a := 3 * (n - (r + 1))) (x := w) hz4 (by omega)
    simp (disch := first | exact ok_i | exact ok_r | exact ok_n | exact cat_i | exact cat_r | exact t103 | exact t110 | exact t111 | exact t112 | exact ro_0 | exact ro_1 | omega | assumption | (refine i103 ?_; omega) | (refine i110 ?_; omega) | (refine i111 ?_; omega) | (refine i112 ?_; omega) | (simp only [List.map_cons, List.map_nil, List.sum_cons, List.sum_nil, cat_i, cat_r, cat_l, Nat.reduceAdd, Nat.reduceLeDiff]; done) | decide) only [s220_86, s220_87, s220_88, s220_91, s220_92, s220_93, s220_94, s220_96, s220_97, s220_98, s220_99, s220_100, tl_s, tl_n, nI_add, pk_mul, i_cl, row_s, u2_row, i_le, i_lt, i_eq, if_true, if_false, Nat.le_refl, Nat.reduceEqDiff, Nat.reduceLeDiff, row_n, hz]
    by_cases c2 : nI z - nI (3 * (n - (r + 1))) - nI 3 < w
    · have c2' := e2.mp c2
      have hh := hout (fun e => by omega)
      have c3 : ¬ w ≤ nI z - nI (3 * (n - (r + 1))) - nI 3 := Int32.not_le.mpr c2
      simp (disch := first | exact ok_i | exact ok_r | exact ok_n | exact cat_i | exact cat_r | exact t103 | exact t110 | exact t111 | exact t112 | exact ro_0 | exact ro_1 | omega | assumption | (refine i103 ?_; omega) | (refine i110 ?_; omega) | (refine i111 ?_; omega) | (refine i112 ?_; omega) | (simp only [List.map_cons, List.map_nil, List.sum_cons, List.sum_nil, cat_i, cat_r, cat_l, Nat.reduceAdd, Nat.reduceLeDiff]; done) | decide) only [c3, s220_103, s220_105, tl_s, tl_n, nI_add, pk_mul, i_cl, row_s, u2_row, i_le, i_lt, i_eq, if_true, if_false, Nat.le_refl, Nat.reduceEqDiff, Nat.reduceLeDiff]
      exact hh
    · have c2' : ¬ (z : Int) < w.toInt + (3 * (n - (r + 1)) : Nat) + 3 := fun e => c2 (e2.mpr e)
      have c3 : w ≤ nI z - nI (3 * (n - (r + 1))) - nI 3 := Int32.not_lt.mp c2
      have h' := h ⟨c1', by omega⟩
      have ew : w = nI (tN w) := nI_nat c1'
      have bw : tN w = w.toInt.toNat := rfl
      have lw : tN w + 3 * (n - (r + 1)) + 3 ≤ 40 := by omega
      generalize tN w = a at *
      clear e2 c2 c2' hout h c1 c1' bw
      subst ew
      have q1 : 40 * s + a + 3 * (n - (r + 1)) = 40 * s + (a + 3 * (n - (r + 1))) := by omega
      have q2 : 40 * s + (a + 3 * (n - (r + 1))) + 1 = 40 * s + (a + 3 * (n - (r + 1)) + 1) := by omega
      have q3 : 40 * s + (a + 3 * (n - (r + 1))) + 2 = 40 * s + (a + 3 * (n - (r + 1)) + 2) := by omega
      simp (disch := first | exact ok_i | exact ok_r | exact ok_n | exact cat_i | exact cat_r | exact t103 | exact t110 | exact t111 | exact t112 | exact ro_0 | exact ro_1 | omega | assumption | (refine i103 ?_; omega) | (refine i110 ?_; omega) | (refine i111 ?_; omega) | (refine i112 ?_; omega) | (simp only [List.map_cons, List.map_nil, List.sum_cons, List.sum_nil, cat_i, cat_r, cat_l, Nat.reduceAdd, Nat.reduceLeDiff]; done) | decide) only [c3, s220_106, s220_108, s220_109, s220_110, s220_111, s220_112, s220_113, s220_115, s220_116, s220_117, s220_119, s220_121, s220_122, s220_123, s220_126, s220_128, s220_129, s220_130, s220_133, s220_135, s220_136, s220_137, s220_138, s220_139, s220_142, s220_144, s220_145, s220_146, tl_s, tl_n, nI_add, pk_mul, i_cl, row_s, u2_row, i_le, i_lt, i_eq, if_true, if_false, Nat.le_refl, Nat.reduceEqDiff, Nat.reduceLeDiff, row_n, q1, q2, q3]
      rw [s220_147 (by simp only [List.map_cons, List.map_nil, List.sum_cons, List.sum_nil, cat_i, cat_r, cat_l, Nat.reduceAdd, Nat.reduceLeDiff])]
      refine c_call hf hf1 hf4 hm hm4 hk hk1 hk4 hI ht (fun J hJ => ?_)
      have hh := h' J (some (.int (nI (40 * s + (a + 3 * (n - (r + 1))))))) hJ rfl
      generalize clV N f m k (I 112 (40 * s + (a + 3 * (n - (r + 1))))) (I 112 (40 * s + (a + 3 * (n - (r + 1)) + 1))) (I 112 (40 * s + (a + 3 * (n - (r + 1)) + 2))) = v at *
      rw [tl_s, s220_150]
      by_cases c4 : nI 0 ≤ v
      · have c4' : ¬ v < nI 0 := Int32.not_lt.mpr c4
        rw [if_pos c4] at hh
        simp (disch := first | exact ok_i | exact ok_r | exact ok_n | exact cat_i | exact cat_r | exact t103 | exact t110 | exact t111 | exact t112 | exact ro_0 | exact ro_1 | omega | assumption | (refine i103 ?_; omega) | (refine i110 ?_; omega) | (refine i111 ?_; omega) | (refine i112 ?_; omega) | (simp only [List.map_cons, List.map_nil, List.sum_cons, List.sum_nil, cat_i, cat_r, cat_l, Nat.reduceAdd, Nat.reduceLeDiff]; done) | decide) only [c4', s220_153, s220_154, s220_157, s220_158, s220_159, s220_161, s220_164, tl_s, tl_n, nI_add, pk_mul, i_cl, row_s, u2_row, i_le, i_lt, i_eq, if_true, if_false, Nat.le_refl, Nat.reduceEqDiff, Nat.reduceLeDiff, e1]
        exact hh
      · have c4' : v < nI 0 := Int32.not_le.mp c4
        rw [if_neg c4] at hh
        simp (disch := first | exact ok_i | exact ok_r | exact ok_n | exact cat_i | exact cat_r | exact t103 | exact t110 | exact t111 | exact t112 | exact ro_0 | exact ro_1 | omega | assumption | (refine i103 ?_; omega) | (refine i110 ?_; omega) | (refine i111 ?_; omega) | (refine i112 ?_; omega) | (simp only [List.map_cons, List.map_nil, List.sum_cons, List.sum_nil, cat_i, cat_r, cat_l, Nat.reduceAdd, Nat.reduceLeDiff]; done) | decide) only [c4', s220_157, s220_158, s220_159, s220_161, s220_164, tl_s, tl_n, nI_add, pk_mul, i_cl, row_s, u2_row, i_le, i_lt, i_eq, if_true, if_false, Nat.le_refl, Nat.reduceEqDiff, Nat.reduceLeDiff, e1]
        exact hh
end
