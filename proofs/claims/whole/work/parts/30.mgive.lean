/-! the model: giving anew, parking, small answers -/
def inR (x : Int32) (n : Nat) : Bool := decide (0 ≤ x.toInt ∧ x.toInt < n)
def inL (x : Int32) (a b : Nat) : Bool := decide ((a : Int) ≤ x.toInt ∧ x.toInt ≤ b)
def tN (x : Int32) : Nat := x.toInt.toNat
theorem inR_t {x : Int32} {n : Nat} (h : inR x n = true) : x = nI (tN x) ∧ tN x < n := by
  unfold inR at h
  rw [decide_eq_true_eq] at h
  refine ⟨nI_nat h.1, ?_⟩
  unfold tN
  omega
theorem inL_t {x : Int32} {a b : Nat} (h : inL x a b = true) : x = nI (tN x) ∧ a ≤ tN x ∧ tN x ≤ b := by
  unfold inL at h
  rw [decide_eq_true_eq] at h
  refine ⟨nI_nat (by omega), ?_, ?_⟩ <;> unfold tN <;> omega
theorem n10 : (nI 1 = nI 0) = False := by rw [i_eq (by decide) (by decide)]; simp
section
variable {X : pX} {d : Nat} {I : pI} {Q : Option Value → pG → pI → Prop} {N : Nat → Int32}
theorem c_inL {G : pG} {x : Int32} {a b : Nat} (ha : a < 2147483648) (hb : b < 2147483648) : Call X (d + 1) 123 [.long x.toInt64, .long (lN a), .long (lN b)] G I Q ↔ Q (some (.int (b2i (inL x a b)))) G I := by
  rw [c_in]
  have e0 := l_xn (x := x) ha
  have e1 := l_nx (x := x) hb
  unfold inL b2i
  by_cases h1 : x.toInt64 < lN a
  · rw [if_pos h1]
    rw [e0] at h1
    rw [if_neg (by rw [decide_eq_true_eq]; omega)]
  · rw [if_neg h1]
    rw [e0] at h1
    by_cases h2 : lN b < x.toInt64
    · rw [if_pos h2]
      rw [e1] at h2
      rw [if_neg (by rw [decide_eq_true_eq]; omega)]
    · rw [if_neg h2]
      rw [e1] at h2
      rw [if_pos (by rw [decide_eq_true_eq]; omega)]
theorem c_inU {G : pG} {x : Int32} {m : Nat} (hm : m < 2147483648) : Call X (d + 1) 123 [.long x.toInt64, .long (lN 0), .long (nI m - nI 1).toInt64] G I Q ↔ Q (some (.int (b2i (inR x m)))) G I := by
  rw [c_in]
  have e0 := l_xn (x := x) (a := 0) (by decide)
  have e1 : ((nI m - nI 1).toInt64 < x.toInt64) = ((m : Int) ≤ x.toInt ∨ (m = 0 ∧ ¬ x.toInt < 0 )) := by
    by_cases hm0 : m = 0
    · subst hm0
      have e : (nI 0 - nI 1).toInt64 = (-1) := by decide
      rw [e]
      apply propext
      rw [Int64.lt_iff_toInt_lt, Int32.toInt_toInt64]
      show (-1 : Int) < x.toInt ↔ _
      omega
    · rw [i_sub (by omega), nI_l (by omega), l_nx (by omega)]
      apply propext
      omega
  unfold inR b2i
  by_cases h1 : x.toInt64 < lN 0
  · rw [if_pos h1]
    rw [e0] at h1
    rw [if_neg (by rw [decide_eq_true_eq]; omega)]
  · rw [if_neg h1]
    rw [e0] at h1
    by_cases h2 : (nI m - nI 1).toInt64 < x.toInt64
    · rw [if_pos h2]
      rw [e1] at h2
      rw [if_neg (by rw [decide_eq_true_eq]; omega)]
    · rw [if_neg h2]
      rw [e1] at h2
      rw [if_pos (by rw [decide_eq_true_eq]; omega)]
theorem c_car {x : Int32} {k : Nat} (hk : N 445 = nI k) (hk1 : 1 ≤ k) (hk4 : k ≤ 4) : Call X (d + 2) 130 [.ref 102, .int x] G0 (row I 103 N) Q ↔ Q (some (.int (b2i (inR x k)))) G0 (row I 103 N) := by
  simp (disch := first | exact ok_i | exact ok_r | exact ok_n | exact cat_i | exact cat_r | exact t103 | exact ro_0 | exact ro_1 | omega | assumption | (refine i103 ?_; omega) | (simp only [List.map_cons, List.map_nil, List.sum_cons, List.sum_nil, cat_i, cat_r, cat_l, Nat.reduceAdd, Nat.reduceLeDiff]; done) | decide) only [e130, s130_0, s130_1, s130_2, s130_3, s130_4, s130_7, s130_10, s130_11, s130_12, s130_13, s130_14, s130_17, tl_s, tl_n, nI_add, pk_mul, i_cl, row_s, u2_row, i_le, i_lt, i_eq, if_true, if_false, Nat.le_refl, Nat.reduceEqDiff, Nat.reduceLeDiff, hk, nI_l, c_inU]
  cases inR x k <;> simp (disch := first | exact ok_i | exact ok_r | exact ok_n | exact cat_i | exact cat_r | exact t103 | exact ro_0 | exact ro_1 | omega | assumption | (refine i103 ?_; omega) | (simp only [List.map_cons, List.map_nil, List.sum_cons, List.sum_nil, cat_i, cat_r, cat_l, Nat.reduceAdd, Nat.reduceLeDiff]; done) | decide) only [s130_0, s130_1, s130_2, s130_3, s130_4, s130_7, s130_10, s130_11, s130_12, s130_13, s130_14, s130_17, b2i, tl_s, tl_n, nI_add, pk_mul, i_cl, row_s, u2_row, i_le, i_lt, i_eq, if_true, if_false, Nat.le_refl, Nat.reduceEqDiff, Nat.reduceLeDiff, Bool.false_eq_true]
theorem c_floor {x : Int32} {f : Nat} (hf : N 444 = nI f) (hf1 : 2 ≤ f) (hf4 : f ≤ 12) : Call X (d + 2) 131 [.ref 102, .int x] G0 (row I 103 N) Q ↔ Q (some (.int (b2i (inR x f)))) G0 (row I 103 N) := by
  simp (disch := first | exact ok_i | exact ok_r | exact ok_n | exact cat_i | exact cat_r | exact t103 | exact ro_0 | exact ro_1 | omega | assumption | (refine i103 ?_; omega) | (simp only [List.map_cons, List.map_nil, List.sum_cons, List.sum_nil, cat_i, cat_r, cat_l, Nat.reduceAdd, Nat.reduceLeDiff]; done) | decide) only [e131, s131_0, s131_1, s131_2, s131_3, s131_4, s131_7, s131_8, s131_9, s131_10, s131_13, tl_s, tl_n, nI_add, pk_mul, i_cl, row_s, u2_row, i_le, i_lt, i_eq, if_true, if_false, Nat.le_refl, Nat.reduceEqDiff, Nat.reduceLeDiff, c_floors, hf, nI_l, c_inU]
  cases inR x f <;> simp (disch := first | exact ok_i | exact ok_r | exact ok_n | exact cat_i | exact cat_r | exact t103 | exact ro_0 | exact ro_1 | omega | assumption | (refine i103 ?_; omega) | (simp only [List.map_cons, List.map_nil, List.sum_cons, List.sum_nil, cat_i, cat_r, cat_l, Nat.reduceAdd, Nat.reduceLeDiff]; done) | decide) only [s131_0, s131_1, s131_2, s131_3, s131_4, s131_7, s131_8, s131_9, s131_10, s131_13, b2i, tl_s, tl_n, nI_add, pk_mul, i_cl, row_s, u2_row, i_le, i_lt, i_eq, if_true, if_false, Nat.le_refl, Nat.reduceEqDiff, Nat.reduceLeDiff, Bool.false_eq_true]
theorem c_group {x : Int32} {m : Nat} (hm : N 446 = nI m) (hm4 : m ≤ 40) : Call X (d + 2) 132 [.ref 102, .int x] G0 (row I 103 N) Q ↔ Q (some (.int (b2i (inR x m)))) G0 (row I 103 N) := by
  simp (disch := first | exact ok_i | exact ok_r | exact ok_n | exact cat_i | exact cat_r | exact t103 | exact ro_0 | exact ro_1 | omega | assumption | (refine i103 ?_; omega) | (simp only [List.map_cons, List.map_nil, List.sum_cons, List.sum_nil, cat_i, cat_r, cat_l, Nat.reduceAdd, Nat.reduceLeDiff]; done) | decide) only [e132, s132_0, s132_1, s132_2, s132_3, s132_4, s132_7, s132_10, s132_11, s132_12, s132_13, s132_14, s132_17, tl_s, tl_n, nI_add, pk_mul, i_cl, row_s, u2_row, i_le, i_lt, i_eq, if_true, if_false, Nat.le_refl, Nat.reduceEqDiff, Nat.reduceLeDiff, hm, nI_l, c_inU]
  cases inR x m <;> simp (disch := first | exact ok_i | exact ok_r | exact ok_n | exact cat_i | exact cat_r | exact t103 | exact ro_0 | exact ro_1 | omega | assumption | (refine i103 ?_; omega) | (simp only [List.map_cons, List.map_nil, List.sum_cons, List.sum_nil, cat_i, cat_r, cat_l, Nat.reduceAdd, Nat.reduceLeDiff]; done) | decide) only [s132_0, s132_1, s132_2, s132_3, s132_4, s132_7, s132_10, s132_11, s132_12, s132_13, s132_14, s132_17, b2i, tl_s, tl_n, nI_add, pk_mul, i_cl, row_s, u2_row, i_le, i_lt, i_eq, if_true, if_false, Nat.le_refl, Nat.reduceEqDiff, Nat.reduceLeDiff, Bool.false_eq_true]
theorem c_pass {g : Nat} (hg : g < 40) : Call X (d + 2) 177 [.ref 102, .int (nI g)] G0 (row I 103 N) Q ↔ Q (some (.int (b2i (decide (gf N g 4 = nI 0))))) G0 (row I 103 N) := by
  rw [c_isWaiting hg]
  by_cases h : gf N g 4 = nI 0 <;> simp only [h, if_true, if_false, decide_true, decide_false, b2i, Bool.false_eq_true]
end
def anewN (N : Nat → Int32) (g c : Nat) : Nat → Int32 :=
  let N1 := ownN N g c
  hapM (upd N1 (32 + 8 * g + 7) (gf N1 g 7 + nI 1)) (nI 3) g
theorem anewN_o {N : Nat → Int32} {g c a : Nat} (hg : g < 40) (hc : c < 4) (h : 444 ≤ a) (h2 : a ≠ 451) : anewN N g c a = N a := by
  unfold anewN
  rw [hap_o (by omega), up_n (by omega), ownN_o hg hc (by omega)]
def givV (N : Nat → Int32) (m k : Nat) (x y : Int32) : Int32 := if (inR x m && inR y k) = true then (if gf N (tN x) 4 = nI 0 ∧ ¬ gf N (tN x) 3 = y ∧ ¬ gf N (tN x) 7 = nI 2 ∧ ¬ cf N (tN y) 2 < gf N (tN x) 2 then gf (anewN N (tN x) (tN y)) (tN x) 7 else -3) else -2
def givN (N : Nat → Int32) (m k : Nat) (x y : Int32) : Nat → Int32 := if (inR x m && inR y k) = true then (if gf N (tN x) 4 = nI 0 ∧ ¬ gf N (tN x) 3 = y ∧ ¬ gf N (tN x) 7 = nI 2 ∧ ¬ cf N (tN y) 2 < gf N (tN x) 2 then anewN N (tN x) (tN y) else N) else N
section
variable {X : pX} {d : Nat} {I : pI} {Q : Option Value → pG → pI → Prop} {N : Nat → Int32}
theorem c_givesAnew {g c : Nat} (hg : g < 40) (hc : c < 4) : Call X (d + 3) 179 [.ref 102, .int (nI g), .int (nI c)] G0 (row I 103 N) Q ↔ Q none G0 (row I 103 (anewN N g c)) := by
  simp (disch := first | exact ok_i | exact ok_r | exact ok_n | exact cat_i | exact cat_r | exact t103 | exact ro_0 | exact ro_1 | omega | assumption | (refine i103 ?_; omega) | (simp only [List.map_cons, List.map_nil, List.sum_cons, List.sum_nil, cat_i, cat_r, cat_l, Nat.reduceAdd, Nat.reduceLeDiff]; done) | decide) only [e179, s179_0, s179_1, s179_2, s179_3, s179_6, s179_7, s179_8, s179_10, s179_11, s179_12, s179_14, s179_17, s179_18, s179_19, s179_22, s179_23, s179_24, s179_25, s179_28, tl_s, tl_n, nI_add, pk_mul, i_cl, row_s, u2_row, i_le, i_lt, i_eq, if_true, if_false, Nat.le_refl, Nat.reduceEqDiff, Nat.reduceLeDiff, c_becomesOwn, c_ofGroup, c_setsGroup, c_happens, anewN]
theorem c_give {m k : Nat} {x y : Int32} (hm : N 446 = nI m) (hm4 : m ≤ 40) (hk : N 445 = nI k) (hk1 : 1 ≤ k) (hk4 : k ≤ 4) : Call X (d + 4) 180 [.ref 102, .int x, .int y] G0 (row I 103 N) Q ↔ Q (some (.int (givV N m k x y))) G0 (row I 103 (givN N m k x y)) := by
  unfold givV givN
  simp (disch := first | exact ok_i | exact ok_r | exact ok_n | exact cat_i | exact cat_r | exact t103 | exact ro_0 | exact ro_1 | omega | assumption | (refine i103 ?_; omega) | (simp only [List.map_cons, List.map_nil, List.sum_cons, List.sum_nil, cat_i, cat_r, cat_l, Nat.reduceAdd, Nat.reduceLeDiff]; done) | decide) only [e180, s180_0, s180_1, s180_2, s180_5, tl_s, tl_n, nI_add, pk_mul, i_cl, row_s, u2_row, i_le, i_lt, i_eq, if_true, if_false, Nat.le_refl, Nat.reduceEqDiff, Nat.reduceLeDiff, c_group hm hm4, b2i_0]
  cases h1 : inR x m
  · simp (disch := first | exact ok_i | exact ok_r | exact ok_n | exact cat_i | exact cat_r | exact t103 | exact ro_0 | exact ro_1 | omega | assumption | (refine i103 ?_; omega) | (simp only [List.map_cons, List.map_nil, List.sum_cons, List.sum_nil, cat_i, cat_r, cat_l, Nat.reduceAdd, Nat.reduceLeDiff]; done) | decide) only [s180_16, s180_18, tl_s, tl_n, nI_add, pk_mul, i_cl, row_s, u2_row, i_le, i_lt, i_eq, if_true, if_false, Nat.le_refl, Nat.reduceEqDiff, Nat.reduceLeDiff, Bool.false_and, Bool.false_eq_true]
  · simp (disch := first | exact ok_i | exact ok_r | exact ok_n | exact cat_i | exact cat_r | exact t103 | exact ro_0 | exact ro_1 | omega | assumption | (refine i103 ?_; omega) | (simp only [List.map_cons, List.map_nil, List.sum_cons, List.sum_nil, cat_i, cat_r, cat_l, Nat.reduceAdd, Nat.reduceLeDiff]; done) | decide) only [s180_8, s180_9, s180_10, s180_13, tl_s, tl_n, nI_add, pk_mul, i_cl, row_s, u2_row, i_le, i_lt, i_eq, if_true, if_false, Nat.le_refl, Nat.reduceEqDiff, Nat.reduceLeDiff, c_car hk hk1 hk4, b2i_0, Bool.true_eq_false, Bool.true_and]
    cases h2 : inR y k
    · simp (disch := first | exact ok_i | exact ok_r | exact ok_n | exact cat_i | exact cat_r | exact t103 | exact ro_0 | exact ro_1 | omega | assumption | (refine i103 ?_; omega) | (simp only [List.map_cons, List.map_nil, List.sum_cons, List.sum_nil, cat_i, cat_r, cat_l, Nat.reduceAdd, Nat.reduceLeDiff]; done) | decide) only [s180_16, s180_18, tl_s, tl_n, nI_add, pk_mul, i_cl, row_s, u2_row, i_le, i_lt, i_eq, if_true, if_false, Nat.le_refl, Nat.reduceEqDiff, Nat.reduceLeDiff, Bool.false_eq_true]
    · obtain ⟨hx, hx4⟩ := inR_t h1
      obtain ⟨hy, hy4⟩ := inR_t h2
      generalize tN x = g at *
      generalize tN y = c at *
      subst hx
      subst hy
      simp (disch := first | exact ok_i | exact ok_r | exact ok_n | exact cat_i | exact cat_r | exact t103 | exact ro_0 | exact ro_1 | omega | assumption | (refine i103 ?_; omega) | (simp only [List.map_cons, List.map_nil, List.sum_cons, List.sum_nil, cat_i, cat_r, cat_l, Nat.reduceAdd, Nat.reduceLeDiff]; done) | decide) only [s180_19, s180_20, s180_21, s180_24, tl_s, tl_n, nI_add, pk_mul, i_cl, row_s, u2_row, i_le, i_lt, i_eq, if_true, if_false, Nat.le_refl, Nat.reduceEqDiff, Nat.reduceLeDiff, c_pass, b2i_0, Bool.true_eq_false]
      by_cases h3 : gf N g 4 = nI 0
      · simp (disch := first | exact ok_i | exact ok_r | exact ok_n | exact cat_i | exact cat_r | exact t103 | exact ro_0 | exact ro_1 | omega | assumption | (refine i103 ?_; omega) | (simp only [List.map_cons, List.map_nil, List.sum_cons, List.sum_nil, cat_i, cat_r, cat_l, Nat.reduceAdd, Nat.reduceLeDiff]; done) | decide) only [h3, s180_27, s180_28, s180_29, s180_30, s180_33, s180_34, tl_s, tl_n, nI_add, pk_mul, i_cl, row_s, u2_row, i_le, i_lt, i_eq, if_true, if_false, Nat.le_refl, Nat.reduceEqDiff, Nat.reduceLeDiff, c_ofGroup, decide_true, Bool.true_eq_false, true_and]
        by_cases h4 : gf N g 3 = nI c
        · simp (disch := first | exact ok_i | exact ok_r | exact ok_n | exact cat_i | exact cat_r | exact t103 | exact ro_0 | exact ro_1 | omega | assumption | (refine i103 ?_; omega) | (simp only [List.map_cons, List.map_nil, List.sum_cons, List.sum_nil, cat_i, cat_r, cat_l, Nat.reduceAdd, Nat.reduceLeDiff]; done) | decide) only [h4, s180_62, s180_64, tl_s, tl_n, nI_add, pk_mul, i_cl, row_s, u2_row, i_le, i_lt, i_eq, if_true, if_false, Nat.le_refl, Nat.reduceEqDiff, Nat.reduceLeDiff, not_true, false_and]
        · simp (disch := first | exact ok_i | exact ok_r | exact ok_n | exact cat_i | exact cat_r | exact t103 | exact ro_0 | exact ro_1 | omega | assumption | (refine i103 ?_; omega) | (simp only [List.map_cons, List.map_nil, List.sum_cons, List.sum_nil, cat_i, cat_r, cat_l, Nat.reduceAdd, Nat.reduceLeDiff]; done) | decide) only [h4, s180_37, s180_38, s180_39, s180_41, s180_44, s180_45, tl_s, tl_n, nI_add, pk_mul, i_cl, row_s, u2_row, i_le, i_lt, i_eq, if_true, if_false, Nat.le_refl, Nat.reduceEqDiff, Nat.reduceLeDiff, c_ofGroup, not_false_eq_true, true_and]
          by_cases h5 : gf N g 7 = nI 2
          · simp (disch := first | exact ok_i | exact ok_r | exact ok_n | exact cat_i | exact cat_r | exact t103 | exact ro_0 | exact ro_1 | omega | assumption | (refine i103 ?_; omega) | (simp only [List.map_cons, List.map_nil, List.sum_cons, List.sum_nil, cat_i, cat_r, cat_l, Nat.reduceAdd, Nat.reduceLeDiff]; done) | decide) only [h5, s180_62, s180_64, tl_s, tl_n, nI_add, pk_mul, i_cl, row_s, u2_row, i_le, i_lt, i_eq, if_true, if_false, Nat.le_refl, Nat.reduceEqDiff, Nat.reduceLeDiff, not_true, false_and]
          · simp (disch := first | exact ok_i | exact ok_r | exact ok_n | exact cat_i | exact cat_r | exact t103 | exact ro_0 | exact ro_1 | omega | assumption | (refine i103 ?_; omega) | (simp only [List.map_cons, List.map_nil, List.sum_cons, List.sum_nil, cat_i, cat_r, cat_l, Nat.reduceAdd, Nat.reduceLeDiff]; done) | decide) only [h5, s180_48, s180_49, s180_50, s180_51, s180_52, s180_53, s180_56, s180_59, tl_s, tl_n, nI_add, pk_mul, i_cl, row_s, u2_row, i_le, i_lt, i_eq, if_true, if_false, Nat.le_refl, Nat.reduceEqDiff, Nat.reduceLeDiff, c_ofGroup, c_hasRoom, not_false_eq_true, true_and]
            by_cases h6 : cf N c 2 < gf N g 2
            · simp (disch := first | exact ok_i | exact ok_r | exact ok_n | exact cat_i | exact cat_r | exact t103 | exact ro_0 | exact ro_1 | omega | assumption | (refine i103 ?_; omega) | (simp only [List.map_cons, List.map_nil, List.sum_cons, List.sum_nil, cat_i, cat_r, cat_l, Nat.reduceAdd, Nat.reduceLeDiff]; done) | decide) only [h6, s180_62, s180_64, tl_s, tl_n, nI_add, pk_mul, i_cl, row_s, u2_row, i_le, i_lt, i_eq, if_true, if_false, Nat.le_refl, Nat.reduceEqDiff, Nat.reduceLeDiff, not_true]
            · simp (disch := first | exact ok_i | exact ok_r | exact ok_n | exact cat_i | exact cat_r | exact t103 | exact ro_0 | exact ro_1 | omega | assumption | (refine i103 ?_; omega) | (simp only [List.map_cons, List.map_nil, List.sum_cons, List.sum_nil, cat_i, cat_r, cat_l, Nat.reduceAdd, Nat.reduceLeDiff]; done) | decide) only [h6, n10, s180_65, s180_66, s180_67, s180_68, s180_71, s180_72, s180_73, s180_75, s180_78, tl_s, tl_n, nI_add, pk_mul, i_cl, row_s, u2_row, i_le, i_lt, i_eq, if_true, if_false, Nat.le_refl, Nat.reduceEqDiff, Nat.reduceLeDiff, c_givesAnew, c_ofGroup, not_false_eq_true]
      · simp (disch := first | exact ok_i | exact ok_r | exact ok_n | exact cat_i | exact cat_r | exact t103 | exact ro_0 | exact ro_1 | omega | assumption | (refine i103 ?_; omega) | (simp only [List.map_cons, List.map_nil, List.sum_cons, List.sum_nil, cat_i, cat_r, cat_l, Nat.reduceAdd, Nat.reduceLeDiff]; done) | decide) only [h3, s180_62, s180_64, tl_s, tl_n, nI_add, pk_mul, i_cl, row_s, u2_row, i_le, i_lt, i_eq, if_true, if_false, Nat.le_refl, Nat.reduceEqDiff, Nat.reduceLeDiff, decide_false, false_and]
end
