/-! the model: sheets -/
def sortB (x : Int32) : Bool := decide (-1 ≤ x.toInt ∧ x.toInt ≤ 1)
def zrI (I : pI) (s n : Nat) : pI := row I 112 (fun j => if 40 * s ≤ j ∧ j < 40 * s + n then nI 0 else I 112 j)
theorem zrI_0 {I : pI} {s : Nat} : zrI I s 0 = I := by
  funext a j
  unfold zrI row
  by_cases h : a = 112
  · rw [if_pos h, if_neg (by omega), h]
  · rw [if_neg h]
theorem zrI_s {I : pI} {s n : Nat} : upd2 (zrI I s n) 112 (40 * s + n) (nI 0) = zrI I s (n + 1) := by
  funext a j
  unfold zrI row upd2
  by_cases h : a = 112
  · by_cases h2 : j = 40 * s + n
    · have h3 : 40 * s ≤ j ∧ j < 40 * s + (n + 1) := by omega
      simp only [h, h2, h3, and_self, if_true]
      rw [if_pos (by omega)]
    · by_cases h3 : 40 * s ≤ j ∧ j < 40 * s + n
      · have h4 : 40 * s ≤ j ∧ j < 40 * s + (n + 1) := by omega
        simp only [h, h2, h3, h4, eq_self, and_false, if_false, if_true]
      · have h4 : ¬ (40 * s ≤ j ∧ j < 40 * s + (n + 1)) := by omega
        simp only [h, h2, h3, h4, eq_self, and_false, if_false, if_true]
  · simp only [h, false_and, if_false]
def shN (I : pI) (s : Nat) (y n : Int32) : pI := zrI (upd2 (upd2 I 110 s y) 111 s (if y = -1 then nI 0 else n)) s 40
def shOk (x y n : Int32) : Bool := inL x 0 3 && sortB y && (decide (y = -1) || decide (n ≤ nI 40))
def shV (x y n : Int32) : Int32 := if shOk x y n = true then (if (decide (y = -1) || decide (nI 0 ≤ n)) = true then nI 1 else -14) else -2
def shI (I : pI) (x y n : Int32) : pI := if shOk x y n = true then (if (decide (y = -1) || decide (nI 0 ≤ n)) = true then shN I (tN x) y n else I) else I
def putV (I : pI) (z : Nat) (x i : Int32) : Int32 := if inL x 0 3 = true then (if I 110 (tN x) = -1 then -11 else if inR i z = true then nI 1 else -12) else -2
def putI (I : pI) (z : Nat) (x i v : Int32) : pI := if inL x 0 3 = true then (if I 110 (tN x) = -1 then I else if inR i z = true then upd2 I 112 (40 * tN x + tN i) (if I 110 (tN x) = nI 0 then v.toInt8.toInt32 else v) else I) else I
section
variable {X : pX} {d : Nat} {I : pI} {Q : Option Value → pG → pI → Prop} {N : Nat → Int32} {G : pG}
theorem c_inM {x : Int32} : Call X (d + 1) 123 [.long x.toInt64, .long (-1), .long (lN 1)] G I Q ↔ Q (some (.int (b2i (sortB x)))) G I := by
  rw [c_in]
  have e0 := l_xm (x := x)
  have e1 := l_nx (x := x) (a := 1) (by decide)
  unfold sortB b2i
  by_cases h1 : x.toInt64 < (-1)
  · rw [if_pos h1]
    rw [e0] at h1
    rw [if_neg (by rw [decide_eq_true_eq]; omega)]
  · rw [if_neg h1]
    rw [e0] at h1
    by_cases h2 : lN 1 < x.toInt64
    · rw [if_pos h2]
      rw [e1] at h2
      rw [if_neg (by rw [decide_eq_true_eq]; omega)]
    · rw [if_neg h2]
      rw [e1] at h2
      rw [if_pos (by rw [decide_eq_true_eq]; omega)]
theorem c_isSheet {x : Int32} : Call X (d + 2) 212 [.int x] G I Q ↔ Q (some (.int (b2i (inL x 0 3)))) G I := by
  simp (disch := first | exact ok_i | exact ok_r | exact ok_n | exact cat_i | exact cat_r | exact t103 | exact t110 | exact t111 | exact t112 | exact ro_0 | exact ro_1 | omega | assumption | (refine i103 ?_; omega) | (refine i110 ?_; omega) | (refine i111 ?_; omega) | (refine i112 ?_; omega) | (simp only [List.map_cons, List.map_nil, List.sum_cons, List.sum_nil, cat_i, cat_r, cat_l, Nat.reduceAdd, Nat.reduceLeDiff]; done) | decide) only [e212, s212_0, s212_1, s212_2, s212_3, s212_6, s212_9, tl_s, tl_n, nI_add, pk_mul, i_cl, row_s, u2_row, i_le, i_lt, i_eq, if_true, if_false, Nat.le_refl, Nat.reduceEqDiff, Nat.reduceLeDiff, c_inL]
  cases inL x 0 3 <;> simp (disch := first | exact ok_i | exact ok_r | exact ok_n | exact cat_i | exact cat_r | exact t103 | exact t110 | exact t111 | exact t112 | exact ro_0 | exact ro_1 | omega | assumption | (refine i103 ?_; omega) | (refine i110 ?_; omega) | (refine i111 ?_; omega) | (refine i112 ?_; omega) | (simp only [List.map_cons, List.map_nil, List.sum_cons, List.sum_nil, cat_i, cat_r, cat_l, Nat.reduceAdd, Nat.reduceLeDiff]; done) | decide) only [s212_0, s212_1, s212_2, s212_3, s212_6, s212_9, b2i, tl_s, tl_n, nI_add, pk_mul, i_cl, row_s, u2_row, i_le, i_lt, i_eq, if_true, if_false, Nat.le_refl, Nat.reduceEqDiff, Nat.reduceLeDiff, Bool.false_eq_true]
theorem c_sheetZ {s : Nat} {y n : Int32} (hs : s < 4) (I' : pI) : At X (d + 2) 213 68 [some (.ref 102), some (.int (nI s)), some (.int y), some (.int n), none] [] G0 (row I' 103 N) Q ↔ Q (some (.int (nI 1))) G0 (row (zrI I' s 40) 103 N) := by
  simp (disch := first | exact ok_i | exact ok_r | exact ok_n | exact cat_i | exact cat_r | exact t103 | exact t110 | exact t111 | exact t112 | exact ro_0 | exact ro_1 | omega | assumption | (refine i103 ?_; omega) | (refine i110 ?_; omega) | (refine i111 ?_; omega) | (refine i112 ?_; omega) | (simp only [List.map_cons, List.map_nil, List.sum_cons, List.sum_nil, cat_i, cat_r, cat_l, Nat.reduceAdd, Nat.reduceLeDiff]; done) | decide) only [s213_68, s213_69, tl_s, tl_n, nI_add, pk_mul, i_cl, row_s, u2_row, i_le, i_lt, i_eq, if_true, if_false, Nat.le_refl, Nat.reduceEqDiff, Nat.reduceLeDiff]
  have h : At X (d + 2) 213 71 [some (.ref 102), some (.int (nI s)), some (.int y), some (.int n), some (.int (nI 0))] [] G0 (row (zrI I' s 0) 103 N) Q ↔ Q (some (.int (nI 1))) G0 (row (zrI I' s 40) 103 N) := by
    refine loop_up (P := fun i => At X (d + 2) 213 71 [some (.ref 102), some (.int (nI s)), some (.int y), some (.int n), some (.int (nI i))] [] G0 (row (zrI I' s i) 103 N) Q) (n := 40) ?_ ?_ 0 (Nat.zero_le _)
    · simp (disch := first | exact ok_i | exact ok_r | exact ok_n | exact cat_i | exact cat_r | exact t103 | exact t110 | exact t111 | exact t112 | exact ro_0 | exact ro_1 | omega | assumption | (refine i103 ?_; omega) | (refine i110 ?_; omega) | (refine i111 ?_; omega) | (refine i112 ?_; omega) | (simp only [List.map_cons, List.map_nil, List.sum_cons, List.sum_nil, cat_i, cat_r, cat_l, Nat.reduceAdd, Nat.reduceLeDiff]; done) | decide) only [s213_71, s213_73, s213_75, s213_97, s213_98, tl_s, tl_n, nI_add, pk_mul, i_cl, row_s, u2_row, i_le, i_lt, i_eq, if_true, if_false, Nat.le_refl, Nat.reduceEqDiff, Nat.reduceLeDiff]
    · intro i hi
      have n1 : ¬ 40 ≤ i := by omega
      rw [s213_71, ← zrI_s]
      simp (disch := first | exact ok_i | exact ok_r | exact ok_n | exact cat_i | exact cat_r | exact t103 | exact t110 | exact t111 | exact t112 | exact ro_0 | exact ro_1 | omega | assumption | (refine i103 ?_; omega) | (refine i110 ?_; omega) | (refine i111 ?_; omega) | (refine i112 ?_; omega) | (simp only [List.map_cons, List.map_nil, List.sum_cons, List.sum_nil, cat_i, cat_r, cat_l, Nat.reduceAdd, Nat.reduceLeDiff]; done) | decide) only [s213_73, s213_75, s213_78, s213_79, s213_82, s213_84, s213_85, s213_86, s213_88, s213_89, s213_90, s213_91, s213_94, tl_s, tl_n, nI_add, pk_mul, i_cl, row_s, u2_row, i_le, i_lt, i_eq, if_true, if_false, Nat.le_refl, Nat.reduceEqDiff, Nat.reduceLeDiff, n1, u2_n]
  rw [zrI_0] at h
  exact h
theorem c_sheet {x y n : Int32} : Call X (d + 3) 213 [.ref 102, .int x, .int y, .int n] G0 (row I 103 N) Q ↔ Q (some (.int (shV x y n))) G0 (row (shI I x y n) 103 N) := by
  unfold shV shI shOk
  simp (disch := first | exact ok_i | exact ok_r | exact ok_n | exact cat_i | exact cat_r | exact t103 | exact t110 | exact t111 | exact t112 | exact ro_0 | exact ro_1 | omega | assumption | (refine i103 ?_; omega) | (refine i110 ?_; omega) | (refine i111 ?_; omega) | (refine i112 ?_; omega) | (simp only [List.map_cons, List.map_nil, List.sum_cons, List.sum_nil, cat_i, cat_r, cat_l, Nat.reduceAdd, Nat.reduceLeDiff]; done) | decide) only [e213, s213_0, s213_1, s213_4, tl_s, tl_n, nI_add, pk_mul, i_cl, row_s, u2_row, i_le, i_lt, i_eq, if_true, if_false, Nat.le_refl, Nat.reduceEqDiff, Nat.reduceLeDiff, c_isSheet, b2i_0]
  cases h1 : inL x 0 3
  · simp (disch := first | exact ok_i | exact ok_r | exact ok_n | exact cat_i | exact cat_r | exact t103 | exact t110 | exact t111 | exact t112 | exact ro_0 | exact ro_1 | omega | assumption | (refine i103 ?_; omega) | (refine i110 ?_; omega) | (refine i111 ?_; omega) | (refine i112 ?_; omega) | (simp only [List.map_cons, List.map_nil, List.sum_cons, List.sum_nil, cat_i, cat_r, cat_l, Nat.reduceAdd, Nat.reduceLeDiff]; done) | decide) only [s213_30, s213_32, tl_s, tl_n, nI_add, pk_mul, i_cl, row_s, u2_row, i_le, i_lt, i_eq, if_true, if_false, Nat.le_refl, Nat.reduceEqDiff, Nat.reduceLeDiff, Bool.false_and, Bool.false_eq_true]
  · simp (disch := first | exact ok_i | exact ok_r | exact ok_n | exact cat_i | exact cat_r | exact t103 | exact t110 | exact t111 | exact t112 | exact ro_0 | exact ro_1 | omega | assumption | (refine i103 ?_; omega) | (refine i110 ?_; omega) | (refine i111 ?_; omega) | (refine i112 ?_; omega) | (simp only [List.map_cons, List.map_nil, List.sum_cons, List.sum_nil, cat_i, cat_r, cat_l, Nat.reduceAdd, Nat.reduceLeDiff]; done) | decide) only [s213_7, s213_8, s213_9, s213_12, s213_13, s213_16, tl_s, tl_n, nI_add, pk_mul, i_cl, row_s, u2_row, i_le, i_lt, i_eq, if_true, if_false, Nat.le_refl, Nat.reduceEqDiff, Nat.reduceLeDiff, c_inM, b2i_0, Bool.true_eq_false, Bool.true_and]
    cases h2 : sortB y
    · simp (disch := first | exact ok_i | exact ok_r | exact ok_n | exact cat_i | exact cat_r | exact t103 | exact t110 | exact t111 | exact t112 | exact ro_0 | exact ro_1 | omega | assumption | (refine i103 ?_; omega) | (refine i110 ?_; omega) | (refine i111 ?_; omega) | (refine i112 ?_; omega) | (simp only [List.map_cons, List.map_nil, List.sum_cons, List.sum_nil, cat_i, cat_r, cat_l, Nat.reduceAdd, Nat.reduceLeDiff]; done) | decide) only [s213_30, s213_32, tl_s, tl_n, nI_add, pk_mul, i_cl, row_s, u2_row, i_le, i_lt, i_eq, if_true, if_false, Nat.le_refl, Nat.reduceEqDiff, Nat.reduceLeDiff, Bool.false_and, Bool.false_eq_true]
    · obtain ⟨hx, hx1, hx2⟩ := inL_t h1
      generalize tN x = s at *
      subst hx
      simp (disch := first | exact ok_i | exact ok_r | exact ok_n | exact cat_i | exact cat_r | exact t103 | exact t110 | exact t111 | exact t112 | exact ro_0 | exact ro_1 | omega | assumption | (refine i103 ?_; omega) | (refine i110 ?_; omega) | (refine i111 ?_; omega) | (refine i112 ?_; omega) | (simp only [List.map_cons, List.map_nil, List.sum_cons, List.sum_nil, cat_i, cat_r, cat_l, Nat.reduceAdd, Nat.reduceLeDiff]; done) | decide) only [s213_19, s213_20, s213_21, tl_s, tl_n, nI_add, pk_mul, i_cl, row_s, u2_row, i_le, i_lt, i_eq, if_true, if_false, Nat.le_refl, Nat.reduceEqDiff, Nat.reduceLeDiff, Bool.true_and, Bool.true_eq_false]
      by_cases h3 : y = -1
      · simp (disch := first | exact ok_i | exact ok_r | exact ok_n | exact cat_i | exact cat_r | exact t103 | exact t110 | exact t111 | exact t112 | exact ro_0 | exact ro_1 | omega | assumption | (refine i103 ?_; omega) | (refine i110 ?_; omega) | (refine i111 ?_; omega) | (refine i112 ?_; omega) | (simp only [List.map_cons, List.map_nil, List.sum_cons, List.sum_nil, cat_i, cat_r, cat_l, Nat.reduceAdd, Nat.reduceLeDiff]; done) | decide) only [h3, s213_33, s213_34, s213_35, s213_45, s213_46, s213_49, s213_50, s213_51, s213_52, s213_53, s213_56, s213_57, s213_58, s213_59, s213_62, s213_63, s213_66, s213_67, tl_s, tl_n, nI_add, pk_mul, i_cl, row_s, u2_row, i_le, i_lt, i_eq, if_true, if_false, Nat.le_refl, Nat.reduceEqDiff, Nat.reduceLeDiff, u2_n, decide_true, Bool.true_or, c_sheetZ (show s < 4 by omega), shN]
      · simp (disch := first | exact ok_i | exact ok_r | exact ok_n | exact cat_i | exact cat_r | exact t103 | exact t110 | exact t111 | exact t112 | exact ro_0 | exact ro_1 | omega | assumption | (refine i103 ?_; omega) | (refine i110 ?_; omega) | (refine i111 ?_; omega) | (refine i112 ?_; omega) | (simp only [List.map_cons, List.map_nil, List.sum_cons, List.sum_nil, cat_i, cat_r, cat_l, Nat.reduceAdd, Nat.reduceLeDiff]; done) | decide) only [h3, s213_24, s213_25, s213_27, tl_s, tl_n, nI_add, pk_mul, i_cl, row_s, u2_row, i_le, i_lt, i_eq, if_true, if_false, Nat.le_refl, Nat.reduceEqDiff, Nat.reduceLeDiff, decide_false, Bool.false_or]
        by_cases h4 : n ≤ nI 40
        · simp (disch := first | exact ok_i | exact ok_r | exact ok_n | exact cat_i | exact cat_r | exact t103 | exact t110 | exact t111 | exact t112 | exact ro_0 | exact ro_1 | omega | assumption | (refine i103 ?_; omega) | (refine i110 ?_; omega) | (refine i111 ?_; omega) | (refine i112 ?_; omega) | (simp only [List.map_cons, List.map_nil, List.sum_cons, List.sum_nil, cat_i, cat_r, cat_l, Nat.reduceAdd, Nat.reduceLeDiff]; done) | decide) only [h3, h4, s213_33, s213_34, s213_35, s213_38, s213_39, tl_s, tl_n, nI_add, pk_mul, i_cl, row_s, u2_row, i_le, i_lt, i_eq, if_true, if_false, Nat.le_refl, Nat.reduceEqDiff, Nat.reduceLeDiff, decide_true]
          by_cases h5 : nI 0 ≤ n
          · simp (disch := first | exact ok_i | exact ok_r | exact ok_n | exact cat_i | exact cat_r | exact t103 | exact t110 | exact t111 | exact t112 | exact ro_0 | exact ro_1 | omega | assumption | (refine i103 ?_; omega) | (refine i110 ?_; omega) | (refine i111 ?_; omega) | (refine i112 ?_; omega) | (simp only [List.map_cons, List.map_nil, List.sum_cons, List.sum_nil, cat_i, cat_r, cat_l, Nat.reduceAdd, Nat.reduceLeDiff]; done) | decide) only [h3, h5, s213_45, s213_46, s213_49, s213_50, s213_51, s213_52, s213_53, s213_56, s213_57, s213_58, s213_59, s213_62, s213_63, s213_66, s213_67, tl_s, tl_n, nI_add, pk_mul, i_cl, row_s, u2_row, i_le, i_lt, i_eq, if_true, if_false, Nat.le_refl, Nat.reduceEqDiff, Nat.reduceLeDiff, u2_n, decide_true, c_sheetZ (show s < 4 by omega), shN]
          · simp (disch := first | exact ok_i | exact ok_r | exact ok_n | exact cat_i | exact cat_r | exact t103 | exact t110 | exact t111 | exact t112 | exact ro_0 | exact ro_1 | omega | assumption | (refine i103 ?_; omega) | (refine i110 ?_; omega) | (refine i111 ?_; omega) | (refine i112 ?_; omega) | (simp only [List.map_cons, List.map_nil, List.sum_cons, List.sum_nil, cat_i, cat_r, cat_l, Nat.reduceAdd, Nat.reduceLeDiff]; done) | decide) only [h5, s213_42, s213_44, tl_s, tl_n, nI_add, pk_mul, i_cl, row_s, u2_row, i_le, i_lt, i_eq, if_true, if_false, Nat.le_refl, Nat.reduceEqDiff, Nat.reduceLeDiff, decide_false, Bool.false_eq_true]
        · simp (disch := first | exact ok_i | exact ok_r | exact ok_n | exact cat_i | exact cat_r | exact t103 | exact t110 | exact t111 | exact t112 | exact ro_0 | exact ro_1 | omega | assumption | (refine i103 ?_; omega) | (refine i110 ?_; omega) | (refine i111 ?_; omega) | (refine i112 ?_; omega) | (simp only [List.map_cons, List.map_nil, List.sum_cons, List.sum_nil, cat_i, cat_r, cat_l, Nat.reduceAdd, Nat.reduceLeDiff]; done) | decide) only [h4, s213_30, s213_32, tl_s, tl_n, nI_add, pk_mul, i_cl, row_s, u2_row, i_le, i_lt, i_eq, if_true, if_false, Nat.le_refl, Nat.reduceEqDiff, Nat.reduceLeDiff, decide_false, Bool.false_eq_true]
theorem c_put {z : Nat} {x i v : Int32} (hz : inL x 0 3 = true → I 111 (tN x) = nI z) (hz4 : z ≤ 40) : Call X (d + 3) 214 [.ref 102, .int x, .int i, .int v] G0 (row I 103 N) Q ↔ Q (some (.int (putV I z x i))) G0 (row (putI I z x i v) 103 N) := by
  unfold putV putI
  simp (disch := first | exact ok_i | exact ok_r | exact ok_n | exact cat_i | exact cat_r | exact t103 | exact t110 | exact t111 | exact t112 | exact ro_0 | exact ro_1 | omega | assumption | (refine i103 ?_; omega) | (refine i110 ?_; omega) | (refine i111 ?_; omega) | (refine i112 ?_; omega) | (simp only [List.map_cons, List.map_nil, List.sum_cons, List.sum_nil, cat_i, cat_r, cat_l, Nat.reduceAdd, Nat.reduceLeDiff]; done) | decide) only [e214, s214_0, s214_1, s214_4, tl_s, tl_n, nI_add, pk_mul, i_cl, row_s, u2_row, i_le, i_lt, i_eq, if_true, if_false, Nat.le_refl, Nat.reduceEqDiff, Nat.reduceLeDiff, c_isSheet, b2i_0]
  cases h1 : inL x 0 3
  · simp (disch := first | exact ok_i | exact ok_r | exact ok_n | exact cat_i | exact cat_r | exact t103 | exact t110 | exact t111 | exact t112 | exact ro_0 | exact ro_1 | omega | assumption | (refine i103 ?_; omega) | (refine i110 ?_; omega) | (refine i111 ?_; omega) | (refine i112 ?_; omega) | (simp only [List.map_cons, List.map_nil, List.sum_cons, List.sum_nil, cat_i, cat_r, cat_l, Nat.reduceAdd, Nat.reduceLeDiff]; done) | decide) only [s214_7, s214_9, tl_s, tl_n, nI_add, pk_mul, i_cl, row_s, u2_row, i_le, i_lt, i_eq, if_true, if_false, Nat.le_refl, Nat.reduceEqDiff, Nat.reduceLeDiff, Bool.false_eq_true]
  · obtain ⟨hx, hx1, hx2⟩ := inL_t h1
    have hz' := hz h1
    generalize tN x = s at *
    subst hx
    simp (disch := first | exact ok_i | exact ok_r | exact ok_n | exact cat_i | exact cat_r | exact t103 | exact t110 | exact t111 | exact t112 | exact ro_0 | exact ro_1 | omega | assumption | (refine i103 ?_; omega) | (refine i110 ?_; omega) | (refine i111 ?_; omega) | (refine i112 ?_; omega) | (simp only [List.map_cons, List.map_nil, List.sum_cons, List.sum_nil, cat_i, cat_r, cat_l, Nat.reduceAdd, Nat.reduceLeDiff]; done) | decide) only [s214_10, s214_11, s214_14, s214_15, s214_16, s214_17, tl_s, tl_n, nI_add, pk_mul, i_cl, row_s, u2_row, i_le, i_lt, i_eq, if_true, if_false, Nat.le_refl, Nat.reduceEqDiff, Nat.reduceLeDiff, row_n, Bool.true_eq_false]
    by_cases h2 : I 110 s = -1
    · simp (disch := first | exact ok_i | exact ok_r | exact ok_n | exact cat_i | exact cat_r | exact t103 | exact t110 | exact t111 | exact t112 | exact ro_0 | exact ro_1 | omega | assumption | (refine i103 ?_; omega) | (refine i110 ?_; omega) | (refine i111 ?_; omega) | (refine i112 ?_; omega) | (simp only [List.map_cons, List.map_nil, List.sum_cons, List.sum_nil, cat_i, cat_r, cat_l, Nat.reduceAdd, Nat.reduceLeDiff]; done) | decide) only [h2, s214_20, s214_22, tl_s, tl_n, nI_add, pk_mul, i_cl, row_s, u2_row, i_le, i_lt, i_eq, if_true, if_false, Nat.le_refl, Nat.reduceEqDiff, Nat.reduceLeDiff]
    · simp (disch := first | exact ok_i | exact ok_r | exact ok_n | exact cat_i | exact cat_r | exact t103 | exact t110 | exact t111 | exact t112 | exact ro_0 | exact ro_1 | omega | assumption | (refine i103 ?_; omega) | (refine i110 ?_; omega) | (refine i111 ?_; omega) | (refine i112 ?_; omega) | (simp only [List.map_cons, List.map_nil, List.sum_cons, List.sum_nil, cat_i, cat_r, cat_l, Nat.reduceAdd, Nat.reduceLeDiff]; done) | decide) only [h2, s214_23, s214_24, s214_25, s214_26, s214_27, s214_30, s214_31, s214_32, s214_33, s214_34, s214_35, s214_38, tl_s, tl_n, nI_add, pk_mul, i_cl, row_s, u2_row, i_le, i_lt, i_eq, if_true, if_false, Nat.le_refl, Nat.reduceEqDiff, Nat.reduceLeDiff, row_n, hz', c_inU, b2i_0]
      cases h3 : inR i z
      · simp (disch := first | exact ok_i | exact ok_r | exact ok_n | exact cat_i | exact cat_r | exact t103 | exact t110 | exact t111 | exact t112 | exact ro_0 | exact ro_1 | omega | assumption | (refine i103 ?_; omega) | (refine i110 ?_; omega) | (refine i111 ?_; omega) | (refine i112 ?_; omega) | (simp only [List.map_cons, List.map_nil, List.sum_cons, List.sum_nil, cat_i, cat_r, cat_l, Nat.reduceAdd, Nat.reduceLeDiff]; done) | decide) only [s214_41, s214_43, tl_s, tl_n, nI_add, pk_mul, i_cl, row_s, u2_row, i_le, i_lt, i_eq, if_true, if_false, Nat.le_refl, Nat.reduceEqDiff, Nat.reduceLeDiff, Bool.false_eq_true]
      · obtain ⟨hi, hi1⟩ := inR_t h3
        generalize tN i = j at *
        subst hi
        simp (disch := first | exact ok_i | exact ok_r | exact ok_n | exact cat_i | exact cat_r | exact t103 | exact t110 | exact t111 | exact t112 | exact ro_0 | exact ro_1 | omega | assumption | (refine i103 ?_; omega) | (refine i110 ?_; omega) | (refine i111 ?_; omega) | (refine i112 ?_; omega) | (simp only [List.map_cons, List.map_nil, List.sum_cons, List.sum_nil, cat_i, cat_r, cat_l, Nat.reduceAdd, Nat.reduceLeDiff]; done) | decide) only [s214_44, s214_45, s214_48, s214_50, s214_51, s214_52, s214_53, s214_54, s214_55, s214_58, s214_59, s214_60, tl_s, tl_n, nI_add, pk_mul, i_cl, row_s, u2_row, i_le, i_lt, i_eq, if_true, if_false, Nat.le_refl, Nat.reduceEqDiff, Nat.reduceLeDiff, row_n, Bool.true_eq_false]
        by_cases h4 : I 110 s = nI 0
        · simp (disch := first | exact ok_i | exact ok_r | exact ok_n | exact cat_i | exact cat_r | exact t103 | exact t110 | exact t111 | exact t112 | exact ro_0 | exact ro_1 | omega | assumption | (refine i103 ?_; omega) | (refine i110 ?_; omega) | (refine i111 ?_; omega) | (refine i112 ?_; omega) | (simp only [List.map_cons, List.map_nil, List.sum_cons, List.sum_nil, cat_i, cat_r, cat_l, Nat.reduceAdd, Nat.reduceLeDiff]; done) | decide) only [h4, s214_63, s214_64, s214_65, s214_68, s214_69, s214_70, s214_71, tl_s, tl_n, nI_add, pk_mul, i_cl, row_s, u2_row, i_le, i_lt, i_eq, if_true, if_false, Nat.le_refl, Nat.reduceEqDiff, Nat.reduceLeDiff, u2_n]
        · simp (disch := first | exact ok_i | exact ok_r | exact ok_n | exact cat_i | exact cat_r | exact t103 | exact t110 | exact t111 | exact t112 | exact ro_0 | exact ro_1 | omega | assumption | (refine i103 ?_; omega) | (refine i110 ?_; omega) | (refine i111 ?_; omega) | (refine i112 ?_; omega) | (simp only [List.map_cons, List.map_nil, List.sum_cons, List.sum_nil, cat_i, cat_r, cat_l, Nat.reduceAdd, Nat.reduceLeDiff]; done) | decide) only [h4, s214_68, s214_69, s214_70, s214_71, tl_s, tl_n, nI_add, pk_mul, i_cl, row_s, u2_row, i_le, i_lt, i_eq, if_true, if_false, Nat.le_refl, Nat.reduceEqDiff, Nat.reduceLeDiff, u2_n]
end
/-! copying, telling, filming, loading -/
def cpyB (I : pI) (x y i j n : Int32) (z z2 : Nat) : Bool := decide (0 ≤ n.toInt) && decide (0 ≤ i.toInt) && decide (0 ≤ j.toInt) && decide (i ≤ nI z - n) && decide (j ≤ nI z2 - n)
def cpyV (I : pI) (z z2 : Nat) (x i y j n : Int32) : Int32 := if (inL x 0 3 && inL y 0 3) = true then (if I 110 (tN x) = -1 ∨ I 110 (tN y) = -1 then -11 else if I 110 (tN x) = I 110 (tN y) then (if cpyB I x y i j n z z2 = true then n else -12) else -13) else -2
def cpyI (I : pI) (z z2 : Nat) (x i y j n : Int32) : pI := if (inL x 0 3 && inL y 0 3) = true then (if I 110 (tN x) = -1 ∨ I 110 (tN y) = -1 then I else if I 110 (tN x) = I 110 (tN y) then (if cpyB I x y i j n z z2 = true then cpy2 I 112 (40 * tN x + tN i) 112 (40 * tN y + tN j) (tN n) else I) else I) else I
theorem sub_le {i n : Int32} {z : Nat} (hz : z ≤ 40) (hn : 0 ≤ n.toInt) (hi : 0 ≤ i.toInt) : (i ≤ nI z - n) ↔ i.toInt + n.toInt ≤ z := by
  have hlt := Int32.toInt_lt n
  have e := nI_nat hn
  generalize hN : n.toInt.toNat = a at *
  have ha : a < 2147483648 := by omega
  rw [Int32.le_iff_toInt_le, Int32.toInt_sub, e, i_toInt (show z < 2147483648 by omega), i_toInt ha]
  have e2 : ((z : Int) - (a : Int)).bmod (2 ^ 32) = (z : Int) - (a : Int) := Int.bmod_eq_of_le (by omega) (by omega)
  rw [e2]
  omega
theorem cpy_n {I : pI} {N : Nat → Int32} {p q n : Nat} : cpy2 (row I 103 N) 112 p 112 q n = row (cpy2 I 112 p 112 q n) 103 N := by
  funext a j
  unfold cpy2 row
  by_cases h : a = 103
  · subst h
    simp
  · simp only [h, if_false]
    rfl
theorem inR_i {x : Int32} {n : Nat} : inR x n = true ↔ 0 ≤ x.toInt ∧ x.toInt < n := by unfold inR; rw [decide_eq_true_eq]
section
variable {X : pX} {d : Nat} {I : pI} {Q : Option Value → pG → pI → Prop} {N : Nat → Int32} {G : pG}
theorem c_copy {z z2 : Nat} {x i y j n : Int32} (hz : inL x 0 3 = true → I 111 (tN x) = nI z) (hz4 : z ≤ 40) (hz2 : inL y 0 3 = true → I 111 (tN y) = nI z2) (hz24 : z2 ≤ 40) : Call X (d + 3) 215 [.ref 102, .int x, .int i, .int y, .int j, .int n] G0 (row I 103 N) Q ↔ Q (some (.int (cpyV I z z2 x i y j n))) G0 (row (cpyI I z z2 x i y j n) 103 N) := by
  unfold cpyV cpyI
  simp (disch := first | exact ok_i | exact ok_r | exact ok_n | exact cat_i | exact cat_r | exact t103 | exact t110 | exact t111 | exact t112 | exact ro_0 | exact ro_1 | omega | assumption | (refine i103 ?_; omega) | (refine i110 ?_; omega) | (refine i111 ?_; omega) | (refine i112 ?_; omega) | (simp only [List.map_cons, List.map_nil, List.sum_cons, List.sum_nil, cat_i, cat_r, cat_l, Nat.reduceAdd, Nat.reduceLeDiff]; done) | decide) only [e215, s215_0, s215_1, s215_4, tl_s, tl_n, nI_add, pk_mul, i_cl, row_s, u2_row, i_le, i_lt, i_eq, if_true, if_false, Nat.le_refl, Nat.reduceEqDiff, Nat.reduceLeDiff, c_isSheet, b2i_0]
  cases h1 : inL x 0 3
  · simp (disch := first | exact ok_i | exact ok_r | exact ok_n | exact cat_i | exact cat_r | exact t103 | exact t110 | exact t111 | exact t112 | exact ro_0 | exact ro_1 | omega | assumption | (refine i103 ?_; omega) | (refine i110 ?_; omega) | (refine i111 ?_; omega) | (refine i112 ?_; omega) | (simp only [List.map_cons, List.map_nil, List.sum_cons, List.sum_nil, cat_i, cat_r, cat_l, Nat.reduceAdd, Nat.reduceLeDiff]; done) | decide) only [s215_14, s215_16, tl_s, tl_n, nI_add, pk_mul, i_cl, row_s, u2_row, i_le, i_lt, i_eq, if_true, if_false, Nat.le_refl, Nat.reduceEqDiff, Nat.reduceLeDiff, Bool.false_and, Bool.false_eq_true]
  · simp (disch := first | exact ok_i | exact ok_r | exact ok_n | exact cat_i | exact cat_r | exact t103 | exact t110 | exact t111 | exact t112 | exact ro_0 | exact ro_1 | omega | assumption | (refine i103 ?_; omega) | (refine i110 ?_; omega) | (refine i111 ?_; omega) | (refine i112 ?_; omega) | (simp only [List.map_cons, List.map_nil, List.sum_cons, List.sum_nil, cat_i, cat_r, cat_l, Nat.reduceAdd, Nat.reduceLeDiff]; done) | decide) only [s215_7, s215_8, s215_11, tl_s, tl_n, nI_add, pk_mul, i_cl, row_s, u2_row, i_le, i_lt, i_eq, if_true, if_false, Nat.le_refl, Nat.reduceEqDiff, Nat.reduceLeDiff, c_isSheet, b2i_0, Bool.true_eq_false, Bool.true_and]
    cases h2 : inL y 0 3
    · simp (disch := first | exact ok_i | exact ok_r | exact ok_n | exact cat_i | exact cat_r | exact t103 | exact t110 | exact t111 | exact t112 | exact ro_0 | exact ro_1 | omega | assumption | (refine i103 ?_; omega) | (refine i110 ?_; omega) | (refine i111 ?_; omega) | (refine i112 ?_; omega) | (simp only [List.map_cons, List.map_nil, List.sum_cons, List.sum_nil, cat_i, cat_r, cat_l, Nat.reduceAdd, Nat.reduceLeDiff]; done) | decide) only [s215_14, s215_16, tl_s, tl_n, nI_add, pk_mul, i_cl, row_s, u2_row, i_le, i_lt, i_eq, if_true, if_false, Nat.le_refl, Nat.reduceEqDiff, Nat.reduceLeDiff, Bool.false_eq_true]
    · obtain ⟨hx, hx1, hx2⟩ := inL_t h1
      obtain ⟨hy, hy1, hy2⟩ := inL_t h2
      have hz' := hz h1
      have hz2' := hz2 h2
      generalize tN x = s at *
      generalize tN y = s2 at *
      subst hx
      subst hy
      simp (disch := first | exact ok_i | exact ok_r | exact ok_n | exact cat_i | exact cat_r | exact t103 | exact t110 | exact t111 | exact t112 | exact ro_0 | exact ro_1 | omega | assumption | (refine i103 ?_; omega) | (refine i110 ?_; omega) | (refine i111 ?_; omega) | (refine i112 ?_; omega) | (simp only [List.map_cons, List.map_nil, List.sum_cons, List.sum_nil, cat_i, cat_r, cat_l, Nat.reduceAdd, Nat.reduceLeDiff]; done) | decide) only [s215_17, s215_18, s215_21, s215_22, s215_23, s215_24, tl_s, tl_n, nI_add, pk_mul, i_cl, row_s, u2_row, i_le, i_lt, i_eq, if_true, if_false, Nat.le_refl, Nat.reduceEqDiff, Nat.reduceLeDiff, row_n, Bool.true_eq_false]
      by_cases h3 : I 110 s = -1
      · simp (disch := first | exact ok_i | exact ok_r | exact ok_n | exact cat_i | exact cat_r | exact t103 | exact t110 | exact t111 | exact t112 | exact ro_0 | exact ro_1 | omega | assumption | (refine i103 ?_; omega) | (refine i110 ?_; omega) | (refine i111 ?_; omega) | (refine i112 ?_; omega) | (simp only [List.map_cons, List.map_nil, List.sum_cons, List.sum_nil, cat_i, cat_r, cat_l, Nat.reduceAdd, Nat.reduceLeDiff]; done) | decide) only [h3, s215_37, s215_39, tl_s, tl_n, nI_add, pk_mul, i_cl, row_s, u2_row, i_le, i_lt, i_eq, if_true, if_false, Nat.le_refl, Nat.reduceEqDiff, Nat.reduceLeDiff, true_or]
      · simp (disch := first | exact ok_i | exact ok_r | exact ok_n | exact cat_i | exact cat_r | exact t103 | exact t110 | exact t111 | exact t112 | exact ro_0 | exact ro_1 | omega | assumption | (refine i103 ?_; omega) | (refine i110 ?_; omega) | (refine i111 ?_; omega) | (refine i112 ?_; omega) | (simp only [List.map_cons, List.map_nil, List.sum_cons, List.sum_nil, cat_i, cat_r, cat_l, Nat.reduceAdd, Nat.reduceLeDiff]; done) | decide) only [h3, s215_27, s215_28, s215_31, s215_32, s215_33, s215_34, tl_s, tl_n, nI_add, pk_mul, i_cl, row_s, u2_row, i_le, i_lt, i_eq, if_true, if_false, Nat.le_refl, Nat.reduceEqDiff, Nat.reduceLeDiff, row_n, false_or]
        by_cases h4 : I 110 s2 = -1
        · simp (disch := first | exact ok_i | exact ok_r | exact ok_n | exact cat_i | exact cat_r | exact t103 | exact t110 | exact t111 | exact t112 | exact ro_0 | exact ro_1 | omega | assumption | (refine i103 ?_; omega) | (refine i110 ?_; omega) | (refine i111 ?_; omega) | (refine i112 ?_; omega) | (simp only [List.map_cons, List.map_nil, List.sum_cons, List.sum_nil, cat_i, cat_r, cat_l, Nat.reduceAdd, Nat.reduceLeDiff]; done) | decide) only [h4, s215_37, s215_39, tl_s, tl_n, nI_add, pk_mul, i_cl, row_s, u2_row, i_le, i_lt, i_eq, if_true, if_false, Nat.le_refl, Nat.reduceEqDiff, Nat.reduceLeDiff]
        · simp (disch := first | exact ok_i | exact ok_r | exact ok_n | exact cat_i | exact cat_r | exact t103 | exact t110 | exact t111 | exact t112 | exact ro_0 | exact ro_1 | omega | assumption | (refine i103 ?_; omega) | (refine i110 ?_; omega) | (refine i111 ?_; omega) | (refine i112 ?_; omega) | (simp only [List.map_cons, List.map_nil, List.sum_cons, List.sum_nil, cat_i, cat_r, cat_l, Nat.reduceAdd, Nat.reduceLeDiff]; done) | decide) only [h4, s215_40, s215_41, s215_44, s215_45, s215_46, s215_47, s215_50, s215_51, s215_52, tl_s, tl_n, nI_add, pk_mul, i_cl, row_s, u2_row, i_le, i_lt, i_eq, if_true, if_false, Nat.le_refl, Nat.reduceEqDiff, Nat.reduceLeDiff, row_n]
          by_cases h5 : I 110 s = I 110 s2
          · have bad : cpyB I (nI s) (nI s2) i j n z z2 = false → (At X (d + 2) 215 99 [some (.ref 102), some (.int (nI s)), some (.int i), some (.int (nI s2)), some (.int j), some (.int n)] [] G0 (row I 103 N) Q ↔ Q (some (.int (if cpyB I (nI s) (nI s2) i j n z z2 = true then n else -12))) G0 (row (if cpyB I (nI s) (nI s2) i j n z z2 = true then cpy2 I 112 (40 * s + tN i) 112 (40 * s2 + tN j) (tN n) else I) 103 N)) := by
              intro hb
              simp (disch := first | exact ok_i | exact ok_r | exact ok_n | exact cat_i | exact cat_r | exact t103 | exact t110 | exact t111 | exact t112 | exact ro_0 | exact ro_1 | omega | assumption | (refine i103 ?_; omega) | (refine i110 ?_; omega) | (refine i111 ?_; omega) | (refine i112 ?_; omega) | (simp only [List.map_cons, List.map_nil, List.sum_cons, List.sum_nil, cat_i, cat_r, cat_l, Nat.reduceAdd, Nat.reduceLeDiff]; done) | decide) only [hb, s215_99, s215_101, tl_s, tl_n, nI_add, pk_mul, i_cl, row_s, u2_row, i_le, i_lt, i_eq, if_true, if_false, Nat.le_refl, Nat.reduceEqDiff, Nat.reduceLeDiff, Bool.false_eq_true]
            have z0 : (nI 0).toInt = 0 := by decide
            simp only [h5, if_true]
            rw [s215_58, s215_60]
            by_cases c1 : n < nI 0
            · have c1' : ¬ 0 ≤ n.toInt := by rw [Int32.lt_iff_toInt_lt, z0] at c1; omega
              rw [if_pos c1]
              exact bad (by unfold cpyB; simp only [c1', decide_false, Bool.false_and])
            · have c1' : 0 ≤ n.toInt := by rw [Int32.lt_iff_toInt_lt, z0] at c1; omega
              rw [if_neg c1, s215_63, s215_64]
              by_cases c2 : i < nI 0
              · have c2' : ¬ 0 ≤ i.toInt := by rw [Int32.lt_iff_toInt_lt, z0] at c2; omega
                rw [if_pos c2]
                exact bad (by unfold cpyB; simp only [c2', decide_false, Bool.and_false, Bool.false_and])
              · have c2' : 0 ≤ i.toInt := by rw [Int32.lt_iff_toInt_lt, z0] at c2; omega
                rw [if_neg c2, s215_67, s215_69]
                by_cases c3 : j < nI 0
                · have c3' : ¬ 0 ≤ j.toInt := by rw [Int32.lt_iff_toInt_lt, z0] at c3; omega
                  rw [if_pos c3]
                  exact bad (by unfold cpyB; simp only [c3', decide_false, Bool.and_false, Bool.false_and])
                · have c3' : 0 ≤ j.toInt := by rw [Int32.lt_iff_toInt_lt, z0] at c3; omega
                  simp (disch := first | exact ok_i | exact ok_r | exact ok_n | exact cat_i | exact cat_r | exact t103 | exact t110 | exact t111 | exact t112 | exact ro_0 | exact ro_1 | omega | assumption | (refine i103 ?_; omega) | (refine i110 ?_; omega) | (refine i111 ?_; omega) | (refine i112 ?_; omega) | (simp only [List.map_cons, List.map_nil, List.sum_cons, List.sum_nil, cat_i, cat_r, cat_l, Nat.reduceAdd, Nat.reduceLeDiff]; done) | decide) only [c3, s215_72, s215_73, s215_74, s215_77, s215_78, s215_79, s215_81, s215_82, tl_s, tl_n, nI_add, pk_mul, i_cl, row_s, u2_row, i_le, i_lt, i_eq, if_true, if_false, Nat.le_refl, Nat.reduceEqDiff, Nat.reduceLeDiff, row_n, hz']
                  by_cases c4 : i ≤ nI z - n
                  · have c4' : ¬ nI z - n < i := Int32.not_lt.mpr c4
                    simp (disch := first | exact ok_i | exact ok_r | exact ok_n | exact cat_i | exact cat_r | exact t103 | exact t110 | exact t111 | exact t112 | exact ro_0 | exact ro_1 | omega | assumption | (refine i103 ?_; omega) | (refine i110 ?_; omega) | (refine i111 ?_; omega) | (refine i112 ?_; omega) | (simp only [List.map_cons, List.map_nil, List.sum_cons, List.sum_nil, cat_i, cat_r, cat_l, Nat.reduceAdd, Nat.reduceLeDiff]; done) | decide) only [c4', s215_85, s215_87, s215_88, s215_91, s215_92, s215_93, s215_95, s215_96, tl_s, tl_n, nI_add, pk_mul, i_cl, row_s, u2_row, i_le, i_lt, i_eq, if_true, if_false, Nat.le_refl, Nat.reduceEqDiff, Nat.reduceLeDiff, row_n, hz2']
                    by_cases c5 : j ≤ nI z2 - n
                    · have hb : cpyB I (nI s) (nI s2) i j n z z2 = true := by unfold cpyB; simp only [c1', c2', c3', c4, c5, decide_true, Bool.and_self]
                      have k4 := (sub_le hz4 c1' c2').mp c4
                      have k5 := (sub_le hz24 c1' c3').mp c5
                      have en := nI_nat c1'
                      have ei := nI_nat c2'
                      have ej := nI_nat c3'
                      rw [hb]
                      change n = nI (tN n) at en
                      change i = nI (tN i) at ei
                      change j = nI (tN j) at ej
                      have bn : tN n = n.toInt.toNat := rfl
                      have bi : tN i = i.toInt.toNat := rfl
                      have bj : tN j = j.toInt.toNat := rfl
                      have l1 : tN i + tN n ≤ 40 := by omega
                      have l2 : tN j + tN n ≤ 40 := by omega
                      simp only [c5, if_true]
                      clear bn bi bj k4 k5 c4 c5 c4' c1 c2 c3 c1' c2' c3' bad hb hz hz2
                      generalize tN n = n' at *
                      generalize tN i = i' at *
                      generalize tN j = j' at *
                      subst en
                      subst ei
                      subst ej
                      simp (disch := first | exact ok_i | exact ok_r | exact ok_n | exact cat_i | exact cat_r | exact t103 | exact t110 | exact t111 | exact t112 | exact ro_0 | exact ro_1 | omega | assumption | (refine i103 ?_; omega) | (refine i110 ?_; omega) | (refine i111 ?_; omega) | (refine i112 ?_; omega) | (simp only [List.map_cons, List.map_nil, List.sum_cons, List.sum_nil, cat_i, cat_r, cat_l, Nat.reduceAdd, Nat.reduceLeDiff]; done) | decide) only [s215_102, s215_103, s215_106, s215_108, s215_109, s215_110, s215_111, s215_112, s215_113, s215_116, s215_118, s215_119, s215_120, s215_122, s215_123, tl_s, tl_n, nI_add, pk_mul, i_cl, row_s, u2_row, i_le, i_lt, i_eq, if_true, if_false, Nat.le_refl, Nat.reduceEqDiff, Nat.reduceLeDiff]
                      rw [s215_125 t112 t112 (nI_pos' (by omega)) (nI_pos' (by omega)) (nI_pos' (by omega)) (by rw [i_cl (by omega), i_cl (by omega), n112]; omega) (by rw [i_cl (by omega), i_cl (by omega), n112]; omega) (by decide), i_cl (by omega), i_cl (by omega), i_cl (by omega), cpy_n]
                      simp (disch := first | exact ok_i | exact ok_r | exact ok_n | exact cat_i | exact cat_r | exact t103 | exact t110 | exact t111 | exact t112 | exact ro_0 | exact ro_1 | omega | assumption | (refine i103 ?_; omega) | (refine i110 ?_; omega) | (refine i111 ?_; omega) | (refine i112 ?_; omega) | (simp only [List.map_cons, List.map_nil, List.sum_cons, List.sum_nil, cat_i, cat_r, cat_l, Nat.reduceAdd, Nat.reduceLeDiff]; done) | decide) only [s215_128, s215_130, tl_s, tl_n, nI_add, pk_mul, i_cl, row_s, u2_row, i_le, i_lt, i_eq, if_true, if_false, Nat.le_refl, Nat.reduceEqDiff, Nat.reduceLeDiff]
                    · simp only [c5, if_false]
                      exact bad (by unfold cpyB; simp only [c5, decide_false, Bool.and_false])
                  · have c4' : nI z - n < i := Int32.not_le.mp c4
                    simp only [c4', if_true]
                    exact bad (by unfold cpyB; simp only [c4, decide_false, Bool.and_false, Bool.false_and])
          · simp (disch := first | exact ok_i | exact ok_r | exact ok_n | exact cat_i | exact cat_r | exact t103 | exact t110 | exact t111 | exact t112 | exact ro_0 | exact ro_1 | omega | assumption | (refine i103 ?_; omega) | (refine i110 ?_; omega) | (refine i111 ?_; omega) | (refine i112 ?_; omega) | (simp only [List.map_cons, List.map_nil, List.sum_cons, List.sum_nil, cat_i, cat_r, cat_l, Nat.reduceAdd, Nat.reduceLeDiff]; done) | decide) only [h5, s215_55, s215_57, tl_s, tl_n, nI_add, pk_mul, i_cl, row_s, u2_row, i_le, i_lt, i_eq, if_true, if_false, Nat.le_refl, Nat.reduceEqDiff, Nat.reduceLeDiff]
end
