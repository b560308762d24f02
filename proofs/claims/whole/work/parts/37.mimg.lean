/-! the model: building, images, counting -/
def zrN (N : Nat → Int32) (n : Nat) : Nat → Int32 := fun a => if a < n then nI 0 else N a
theorem zrN_s {N : Nat → Int32} {n : Nat} : upd (zrN N n) n (nI 0) = zrN N (n + 1) := by
  funext a
  unfold upd zrN
  by_cases h : a = n
  · rw [if_pos h, if_pos (by omega)]
  · rw [if_neg h]
    by_cases h2 : a < n
    · have h3 : a < n + 1 := by omega
      simp only [h2, h3, if_true]
    · have h3 : ¬ a < n + 1 := by omega
      simp only [h2, h3, if_false]
def rmN (N : Nat → Int32) : Nat → Nat → Int32 := itr (fun c M => upd (upd M (8 * c + 2) (nI 4)) (8 * c + 7) (-1)) N
def bldN (N : Nat → Int32) (f k : Int32) : Nat → Int32 := rmN (upd (upd (upd (upd (zrN N 452) 448 (N 448)) 449 (N 449)) 444 f) 445 k) 4
def imgI (I : pI) (N : Nat → Int32) : pI := upd2 (row I 104 (fun j => if j < 452 then N j else I 104 j)) 102 2 (nI 1)
def bckN (I : pI) (N : Nat → Int32) : Nat → Int32 := if I 102 2 = nI 0 then N else fun j => if j < 452 then I 104 j else N j
def cntV (I : pI) (N : Nat → Int32) (f m : Nat) (x : Int32) : Int32 := if inL x 20 31 = true then (if tN x - 20 < f then N (352 + (tN x - 20)) else -1)
  else if x = nI 0 then N 444 else if x = nI 1 then N 445 else if x = nI 2 then N 446 else if x = nI 3 then nI (manyM N (nI 0) m) else if x = nI 4 then nI (manyM N (nI 1) m) else if x = nI 5 then nI (manyM N (nI 2) m)
  else if x = nI 6 then N 451 else if x = nI 7 then I 102 6 else if x = nI 8 then N 447 else if x = nI 9 then N 448 else if x = nI 10 then N 449 else -2
theorem cpy_img {I : pI} {N : Nat → Int32} : cpy2 (row I 103 N) 103 0 104 0 452 = row (row I 104 (fun j => if j < 452 then N j else I 104 j)) 103 N := by
  funext a j
  unfold cpy2 row
  by_cases h1 : a = 104
  · by_cases h2 : j < 452
    · rw [if_pos ⟨h1, by omega⟩, if_neg (show ¬ a = 103 by omega), if_pos h1, if_pos rfl, if_pos h2, Nat.zero_add, Nat.sub_zero]
    · rw [if_neg (fun e => h2 (by omega)), if_neg (show ¬ a = 103 by omega), if_neg (show ¬ a = 103 by omega), if_pos h1, if_neg h2, h1]
  · rw [if_neg (fun e => h1 e.1)]
    by_cases h2 : a = 103
    · rw [if_pos h2, if_pos h2]
    · rw [if_neg h2, if_neg h2, if_neg h1]
theorem cpy_bck {I : pI} {N : Nat → Int32} : cpy2 (row I 103 N) 104 0 103 0 452 = row I 103 (fun j => if j < 452 then I 104 j else N j) := by
  funext a j
  unfold cpy2 row
  by_cases h1 : a = 103
  · by_cases h2 : j < 452
    · rw [if_pos ⟨h1, by omega⟩, if_neg (by decide), if_pos h1, if_pos h2, Nat.sub_zero, Nat.zero_add]
    · rw [if_neg (fun e => h2 (by omega)), if_pos h1, if_pos h1, if_neg h2]
  · rw [if_neg (fun e => h1 e.1), if_neg h1, if_neg h1]
section
variable {X : pX} {d : Nat} {I : pI} {Q : Option Value → pG → pI → Prop} {N : Nat → Int32} {G : pG}
theorem c_builds {f k : Int32} : Call X (d + 2) 127 [.ref 102, .int f, .int k] G0 (row I 103 N) Q ↔ Q none G0 (row I 103 (bldN N f k)) := by
  simp (disch := first | exact ok_i | exact ok_r | exact ok_n | exact cat_i | exact cat_r | exact t103 | exact ro_0 | exact ro_1 | omega | assumption | (refine i103 ?_; omega) | (simp only [List.map_cons, List.map_nil, List.sum_cons, List.sum_nil, cat_i, cat_r, cat_l, Nat.reduceAdd, Nat.reduceLeDiff]; done) | decide) only [e127, s127_0, s127_1, s127_4, s127_7, s127_8, s127_9, s127_10, s127_13, s127_16, s127_17, s127_19, s127_20, tl_s, tl_n, nI_add, pk_mul, i_cl, row_s, u2_row, i_le, i_lt, i_eq, if_true, if_false, Nat.le_refl, Nat.reduceEqDiff, Nat.reduceLeDiff]
  have h2 : At X (d + 1) 127 84 [some (.ref 102), some (.int f), some (.int k), some (.int (N 448)), some (.int (N 449)), some (.int (nI 0))] [] G0 (row I 103 (upd (upd (upd (upd (zrN N 452) 448 (N 448)) 449 (N 449)) 444 f) 445 k)) Q ↔ Q none G0 (row I 103 (bldN N f k)) := by
    unfold bldN
    generalize (upd (upd (upd (upd (zrN N 452) 448 (N 448)) 449 (N 449)) 444 f) 445 k) = M
    refine loop_up (P := fun c => At X (d + 1) 127 84 [some (.ref 102), some (.int f), some (.int k), some (.int (N 448)), some (.int (N 449)), some (.int (nI c))] [] G0 (row I 103 (rmN M c)) Q) (n := 4) ?_ ?_ 0 (Nat.zero_le _)
    · simp (disch := first | exact ok_i | exact ok_r | exact ok_n | exact cat_i | exact cat_r | exact t103 | exact ro_0 | exact ro_1 | omega | assumption | (refine i103 ?_; omega) | (simp only [List.map_cons, List.map_nil, List.sum_cons, List.sum_nil, cat_i, cat_r, cat_l, Nat.reduceAdd, Nat.reduceLeDiff]; done) | decide) only [s127_84, s127_86, s127_87, s127_113, tl_s, tl_n, nI_add, pk_mul, i_cl, row_s, u2_row, i_le, i_lt, i_eq, if_true, if_false, Nat.le_refl, Nat.reduceEqDiff, Nat.reduceLeDiff]
    · intro c hc
      have n1 : ¬ 4 ≤ c := by omega
      have e1 : rmN M (c + 1) = upd (upd (rmN M c) (8 * c + 2) (nI 4)) (8 * c + 7) (-1) := rfl
      rw [s127_84, e1]
      simp (disch := first | exact ok_i | exact ok_r | exact ok_n | exact cat_i | exact cat_r | exact t103 | exact ro_0 | exact ro_1 | omega | assumption | (refine i103 ?_; omega) | (simp only [List.map_cons, List.map_nil, List.sum_cons, List.sum_nil, cat_i, cat_r, cat_l, Nat.reduceAdd, Nat.reduceLeDiff]; done) | decide) only [s127_86, s127_87, s127_90, s127_91, s127_93, s127_94, s127_95, s127_98, s127_99, s127_101, s127_103, s127_104, s127_107, s127_110, tl_s, tl_n, nI_add, pk_mul, i_cl, row_s, u2_row, i_le, i_lt, i_eq, if_true, if_false, Nat.le_refl, Nat.reduceEqDiff, Nat.reduceLeDiff, n1, c_sets]
  have e0 : N = zrN N 0 := rfl
  have h1 : At X (d + 1) 127 22 [some (.ref 102), some (.int f), some (.int k), some (.int (N 448)), some (.int (N 449)), some (.int (nI 0))] [] G0 (row I 103 (zrN N 0)) Q ↔ Q none G0 (row I 103 (bldN N f k)) := by
    refine loop_up (P := fun i => At X (d + 1) 127 22 [some (.ref 102), some (.int f), some (.int k), some (.int (N 448)), some (.int (N 449)), some (.int (nI i))] [] G0 (row I 103 (zrN N i)) Q) (n := 452) ?_ ?_ 0 (Nat.zero_le _)
    · simp (disch := first | exact ok_i | exact ok_r | exact ok_n | exact cat_i | exact cat_r | exact t103 | exact ro_0 | exact ro_1 | omega | assumption | (refine i103 ?_; omega) | (simp only [List.map_cons, List.map_nil, List.sum_cons, List.sum_nil, cat_i, cat_r, cat_l, Nat.reduceAdd, Nat.reduceLeDiff]; done) | decide) only [s127_22, s127_24, s127_27, s127_44, s127_45, s127_48, s127_51, s127_52, s127_53, s127_54, s127_57, s127_60, s127_62, s127_63, s127_64, s127_67, s127_70, s127_71, s127_72, s127_73, s127_76, s127_79, s127_80, s127_81, s127_82, tl_s, tl_n, nI_add, pk_mul, i_cl, row_s, u2_row, i_le, i_lt, i_eq, if_true, if_false, Nat.le_refl, Nat.reduceEqDiff, Nat.reduceLeDiff, h2]
    · intro i hi
      have n1 : ¬ 452 ≤ i := by omega
      rw [s127_22, ← zrN_s]
      simp (disch := first | exact ok_i | exact ok_r | exact ok_n | exact cat_i | exact cat_r | exact t103 | exact ro_0 | exact ro_1 | omega | assumption | (refine i103 ?_; omega) | (simp only [List.map_cons, List.map_nil, List.sum_cons, List.sum_nil, cat_i, cat_r, cat_l, Nat.reduceAdd, Nat.reduceLeDiff]; done) | decide) only [s127_24, s127_27, s127_30, s127_31, s127_34, s127_36, s127_37, s127_38, s127_41, tl_s, tl_n, nI_add, pk_mul, i_cl, row_s, u2_row, i_le, i_lt, i_eq, if_true, if_false, Nat.le_refl, Nat.reduceEqDiff, Nat.reduceLeDiff, n1]
  exact h1
theorem c_build {f k : Int32} : Call X (d + 3) 128 [.ref 102, .int f, .int k] G0 (row I 103 N) Q ↔ Q (some (.int (if (inL f 2 12 && inL k 1 4) = true then N 444 else -2))) G0 (row I 103 (if (inL f 2 12 && inL k 1 4) = true then bldN N f k else N)) := by
  simp (disch := first | exact ok_i | exact ok_r | exact ok_n | exact cat_i | exact cat_r | exact t103 | exact ro_0 | exact ro_1 | omega | assumption | (refine i103 ?_; omega) | (simp only [List.map_cons, List.map_nil, List.sum_cons, List.sum_nil, cat_i, cat_r, cat_l, Nat.reduceAdd, Nat.reduceLeDiff]; done) | decide) only [e128, s128_0, s128_1, s128_2, s128_5, s128_8, s128_11, tl_s, tl_n, nI_add, pk_mul, i_cl, row_s, u2_row, i_le, i_lt, i_eq, if_true, if_false, Nat.le_refl, Nat.reduceEqDiff, Nat.reduceLeDiff, c_inL, b2i_0]
  cases h1 : inL f 2 12
  · simp (disch := first | exact ok_i | exact ok_r | exact ok_n | exact cat_i | exact cat_r | exact t103 | exact ro_0 | exact ro_1 | omega | assumption | (refine i103 ?_; omega) | (simp only [List.map_cons, List.map_nil, List.sum_cons, List.sum_nil, cat_i, cat_r, cat_l, Nat.reduceAdd, Nat.reduceLeDiff]; done) | decide) only [s128_26, s128_28, tl_s, tl_n, nI_add, pk_mul, i_cl, row_s, u2_row, i_le, i_lt, i_eq, if_true, if_false, Nat.le_refl, Nat.reduceEqDiff, Nat.reduceLeDiff, Bool.false_and, Bool.false_eq_true]
  · simp (disch := first | exact ok_i | exact ok_r | exact ok_n | exact cat_i | exact cat_r | exact t103 | exact ro_0 | exact ro_1 | omega | assumption | (refine i103 ?_; omega) | (simp only [List.map_cons, List.map_nil, List.sum_cons, List.sum_nil, cat_i, cat_r, cat_l, Nat.reduceAdd, Nat.reduceLeDiff]; done) | decide) only [s128_14, s128_15, s128_16, s128_17, s128_20, s128_23, tl_s, tl_n, nI_add, pk_mul, i_cl, row_s, u2_row, i_le, i_lt, i_eq, if_true, if_false, Nat.le_refl, Nat.reduceEqDiff, Nat.reduceLeDiff, c_inL, b2i_0, Bool.true_eq_false, Bool.true_and]
    cases h2 : inL k 1 4
    · simp (disch := first | exact ok_i | exact ok_r | exact ok_n | exact cat_i | exact cat_r | exact t103 | exact ro_0 | exact ro_1 | omega | assumption | (refine i103 ?_; omega) | (simp only [List.map_cons, List.map_nil, List.sum_cons, List.sum_nil, cat_i, cat_r, cat_l, Nat.reduceAdd, Nat.reduceLeDiff]; done) | decide) only [s128_26, s128_28, tl_s, tl_n, nI_add, pk_mul, i_cl, row_s, u2_row, i_le, i_lt, i_eq, if_true, if_false, Nat.le_refl, Nat.reduceEqDiff, Nat.reduceLeDiff, Bool.false_eq_true]
    · simp (disch := first | exact ok_i | exact ok_r | exact ok_n | exact cat_i | exact cat_r | exact t103 | exact ro_0 | exact ro_1 | omega | assumption | (refine i103 ?_; omega) | (simp only [List.map_cons, List.map_nil, List.sum_cons, List.sum_nil, cat_i, cat_r, cat_l, Nat.reduceAdd, Nat.reduceLeDiff]; done) | decide) only [s128_29, s128_30, s128_33, s128_36, s128_37, s128_38, s128_39, s128_40, s128_41, s128_44, s128_45, tl_s, tl_n, nI_add, pk_mul, i_cl, row_s, u2_row, i_le, i_lt, i_eq, if_true, if_false, Nat.le_refl, Nat.reduceEqDiff, Nat.reduceLeDiff, c_builds, Bool.true_eq_false]
theorem c_image : Call X (d + 2) 221 [.ref 102] G0 (row I 103 N) Q ↔ Q (some (.int (N 446))) G0 (row (imgI I N) 103 N) := by
  simp (disch := first | exact ok_i | exact ok_r | exact ok_n | exact cat_i | exact cat_r | exact t103 | exact ro_0 | exact ro_1 | omega | assumption | (refine i103 ?_; omega) | (simp only [List.map_cons, List.map_nil, List.sum_cons, List.sum_nil, cat_i, cat_r, cat_l, Nat.reduceAdd, Nat.reduceLeDiff]; done) | decide) only [e221, s221_0, s221_1, s221_4, s221_5, s221_6, s221_9, s221_10, tl_s, tl_n, nI_add, pk_mul, i_cl, row_s, u2_row, i_le, i_lt, i_eq, if_true, if_false, Nat.le_refl, Nat.reduceEqDiff, Nat.reduceLeDiff]
  rw [s221_13 t103 t104 (by decide) (by decide) (by decide) (by rw [n103]; decide) (by rw [n104]; decide) (by decide), i_cl (by omega), i_cl (by omega), cpy_img]
  simp (disch := first | exact ok_i | exact ok_r | exact ok_n | exact cat_i | exact cat_r | exact t103 | exact ro_0 | exact ro_1 | omega | assumption | (refine i103 ?_; omega) | (simp only [List.map_cons, List.map_nil, List.sum_cons, List.sum_nil, cat_i, cat_r, cat_l, Nat.reduceAdd, Nat.reduceLeDiff]; done) | decide) only [s221_16, s221_17, s221_18, s221_21, s221_22, s221_25, s221_28, s221_29, tl_s, tl_n, nI_add, pk_mul, i_cl, row_s, u2_row, i_le, i_lt, i_eq, if_true, if_false, Nat.le_refl, Nat.reduceEqDiff, Nat.reduceLeDiff, u2_n, imgI]
theorem c_back : Call X (d + 2) 222 [.ref 102] G0 (row I 103 N) Q ↔ Q (some (.int (if I 102 2 = nI 0 then -3 else I 104 446))) G0 (row I 103 (bckN I N)) := by
  have e1 : row I 103 N 102 2 = I 102 2 := by rw [row_n (by decide)]
  simp (disch := first | exact ok_i | exact ok_r | exact ok_n | exact cat_i | exact cat_r | exact t103 | exact ro_0 | exact ro_1 | omega | assumption | (refine i103 ?_; omega) | (simp only [List.map_cons, List.map_nil, List.sum_cons, List.sum_nil, cat_i, cat_r, cat_l, Nat.reduceAdd, Nat.reduceLeDiff]; done) | decide) only [e222, s222_0, s222_1, s222_4, tl_s, tl_n, nI_add, pk_mul, i_cl, row_s, u2_row, i_le, i_lt, i_eq, if_true, if_false, Nat.le_refl, Nat.reduceEqDiff, Nat.reduceLeDiff, e1, bckN]
  by_cases h : I 102 2 = nI 0
  · simp (disch := first | exact ok_i | exact ok_r | exact ok_n | exact cat_i | exact cat_r | exact t103 | exact ro_0 | exact ro_1 | omega | assumption | (refine i103 ?_; omega) | (simp only [List.map_cons, List.map_nil, List.sum_cons, List.sum_nil, cat_i, cat_r, cat_l, Nat.reduceAdd, Nat.reduceLeDiff]; done) | decide) only [h, s222_7, s222_9, tl_s, tl_n, nI_add, pk_mul, i_cl, row_s, u2_row, i_le, i_lt, i_eq, if_true, if_false, Nat.le_refl, Nat.reduceEqDiff, Nat.reduceLeDiff]
  · simp (disch := first | exact ok_i | exact ok_r | exact ok_n | exact cat_i | exact cat_r | exact t103 | exact ro_0 | exact ro_1 | omega | assumption | (refine i103 ?_; omega) | (simp only [List.map_cons, List.map_nil, List.sum_cons, List.sum_nil, cat_i, cat_r, cat_l, Nat.reduceAdd, Nat.reduceLeDiff]; done) | decide) only [h, s222_10, s222_11, s222_14, s222_15, s222_16, s222_19, s222_20, tl_s, tl_n, nI_add, pk_mul, i_cl, row_s, u2_row, i_le, i_lt, i_eq, if_true, if_false, Nat.le_refl, Nat.reduceEqDiff, Nat.reduceLeDiff]
    rw [s222_23 t104 t103 (by decide) (by decide) (by decide) (by rw [n104]; decide) (by rw [n103]; decide) (by decide), i_cl (by omega), i_cl (by omega), cpy_bck]
    have e2 : (446 < 452) = True := by simp
    simp (disch := first | exact ok_i | exact ok_r | exact ok_n | exact cat_i | exact cat_r | exact t103 | exact ro_0 | exact ro_1 | omega | assumption | (refine i103 ?_; omega) | (simp only [List.map_cons, List.map_nil, List.sum_cons, List.sum_nil, cat_i, cat_r, cat_l, Nat.reduceAdd, Nat.reduceLeDiff]; done) | decide) only [s222_26, s222_27, s222_30, s222_33, s222_34, tl_s, tl_n, nI_add, pk_mul, i_cl, row_s, u2_row, i_le, i_lt, i_eq, if_true, if_false, Nat.le_refl, Nat.reduceEqDiff, Nat.reduceLeDiff, e2]
theorem c_count {f m : Nat} {x : Int32} (hf : N 444 = nI f) (hf1 : 2 ≤ f) (hf4 : f ≤ 12) (hm : N 446 = nI m) (hm4 : m ≤ 40) : Call X (d + 3) 223 [.ref 102, .int x] G0 (row I 103 N) Q ↔ Q (some (.int (cntV I N f m x))) G0 (row I 103 N) := by
  have e1 : row I 103 N 102 6 = I 102 6 := by rw [row_n (by decide)]
  unfold cntV
  simp (disch := first | exact ok_i | exact ok_r | exact ok_n | exact cat_i | exact cat_r | exact t103 | exact ro_0 | exact ro_1 | omega | assumption | (refine i103 ?_; omega) | (simp only [List.map_cons, List.map_nil, List.sum_cons, List.sum_nil, cat_i, cat_r, cat_l, Nat.reduceAdd, Nat.reduceLeDiff]; done) | decide) only [e223, s223_0, s223_1, s223_2, s223_5, s223_8, s223_11, tl_s, tl_n, nI_add, pk_mul, i_cl, row_s, u2_row, i_le, i_lt, i_eq, if_true, if_false, Nat.le_refl, Nat.reduceEqDiff, Nat.reduceLeDiff, c_inL, b2i_0]
  cases h1 : inL x 20 31
  · simp only [if_true, if_false, Bool.false_eq_true]
    rw [s223_43, s223_44]
    by_cases h0 : x = nI 0
    · simp (disch := first | exact ok_i | exact ok_r | exact ok_n | exact cat_i | exact cat_r | exact t103 | exact ro_0 | exact ro_1 | omega | assumption | (refine i103 ?_; omega) | (simp only [List.map_cons, List.map_nil, List.sum_cons, List.sum_nil, cat_i, cat_r, cat_l, Nat.reduceAdd, Nat.reduceLeDiff]; done) | decide) only [h0, s223_104, s223_105, s223_108, tl_s, tl_n, nI_add, pk_mul, i_cl, row_s, u2_row, i_le, i_lt, i_eq, if_true, if_false, Nat.le_refl, Nat.reduceEqDiff, Nat.reduceLeDiff, c_floors]
    · by_cases h1 : x = nI 1
      · simp (disch := first | exact ok_i | exact ok_r | exact ok_n | exact cat_i | exact cat_r | exact t103 | exact ro_0 | exact ro_1 | omega | assumption | (refine i103 ?_; omega) | (simp only [List.map_cons, List.map_nil, List.sum_cons, List.sum_nil, cat_i, cat_r, cat_l, Nat.reduceAdd, Nat.reduceLeDiff]; done) | decide) only [h0, h1, s223_109, s223_110, s223_113, s223_116, s223_117, tl_s, tl_n, nI_add, pk_mul, i_cl, row_s, u2_row, i_le, i_lt, i_eq, if_true, if_false, Nat.le_refl, Nat.reduceEqDiff, Nat.reduceLeDiff]
      · by_cases h2 : x = nI 2
        · simp (disch := first | exact ok_i | exact ok_r | exact ok_n | exact cat_i | exact cat_r | exact t103 | exact ro_0 | exact ro_1 | omega | assumption | (refine i103 ?_; omega) | (simp only [List.map_cons, List.map_nil, List.sum_cons, List.sum_nil, cat_i, cat_r, cat_l, Nat.reduceAdd, Nat.reduceLeDiff]; done) | decide) only [h0, h1, h2, s223_118, s223_119, s223_122, s223_125, s223_126, tl_s, tl_n, nI_add, pk_mul, i_cl, row_s, u2_row, i_le, i_lt, i_eq, if_true, if_false, Nat.le_refl, Nat.reduceEqDiff, Nat.reduceLeDiff]
        · by_cases h3 : x = nI 3
          · simp (disch := first | exact ok_i | exact ok_r | exact ok_n | exact cat_i | exact cat_r | exact t103 | exact ro_0 | exact ro_1 | omega | assumption | (refine i103 ?_; omega) | (simp only [List.map_cons, List.map_nil, List.sum_cons, List.sum_nil, cat_i, cat_r, cat_l, Nat.reduceAdd, Nat.reduceLeDiff]; done) | decide) only [h0, h1, h2, h3, s223_127, s223_128, s223_129, s223_130, s223_131, s223_134, tl_s, tl_n, nI_add, pk_mul, i_cl, row_s, u2_row, i_le, i_lt, i_eq, if_true, if_false, Nat.le_refl, Nat.reduceEqDiff, Nat.reduceLeDiff, i_sub, c_many hm hm4]
          · by_cases h4 : x = nI 4
            · simp (disch := first | exact ok_i | exact ok_r | exact ok_n | exact cat_i | exact cat_r | exact t103 | exact ro_0 | exact ro_1 | omega | assumption | (refine i103 ?_; omega) | (simp only [List.map_cons, List.map_nil, List.sum_cons, List.sum_nil, cat_i, cat_r, cat_l, Nat.reduceAdd, Nat.reduceLeDiff]; done) | decide) only [h0, h1, h2, h3, h4, s223_127, s223_128, s223_129, s223_130, s223_131, s223_134, tl_s, tl_n, nI_add, pk_mul, i_cl, row_s, u2_row, i_le, i_lt, i_eq, if_true, if_false, Nat.le_refl, Nat.reduceEqDiff, Nat.reduceLeDiff, i_sub, c_many hm hm4]
            · by_cases h5 : x = nI 5
              · simp (disch := first | exact ok_i | exact ok_r | exact ok_n | exact cat_i | exact cat_r | exact t103 | exact ro_0 | exact ro_1 | omega | assumption | (refine i103 ?_; omega) | (simp only [List.map_cons, List.map_nil, List.sum_cons, List.sum_nil, cat_i, cat_r, cat_l, Nat.reduceAdd, Nat.reduceLeDiff]; done) | decide) only [h0, h1, h2, h3, h4, h5, s223_127, s223_128, s223_129, s223_130, s223_131, s223_134, tl_s, tl_n, nI_add, pk_mul, i_cl, row_s, u2_row, i_le, i_lt, i_eq, if_true, if_false, Nat.le_refl, Nat.reduceEqDiff, Nat.reduceLeDiff, i_sub, c_many hm hm4]
              · by_cases h6 : x = nI 6
                · simp (disch := first | exact ok_i | exact ok_r | exact ok_n | exact cat_i | exact cat_r | exact t103 | exact ro_0 | exact ro_1 | omega | assumption | (refine i103 ?_; omega) | (simp only [List.map_cons, List.map_nil, List.sum_cons, List.sum_nil, cat_i, cat_r, cat_l, Nat.reduceAdd, Nat.reduceLeDiff]; done) | decide) only [h0, h1, h2, h3, h4, h5, h6, s223_135, s223_136, s223_139, s223_142, s223_143, tl_s, tl_n, nI_add, pk_mul, i_cl, row_s, u2_row, i_le, i_lt, i_eq, if_true, if_false, Nat.le_refl, Nat.reduceEqDiff, Nat.reduceLeDiff]
                · by_cases h7 : x = nI 7
                  · simp (disch := first | exact ok_i | exact ok_r | exact ok_n | exact cat_i | exact cat_r | exact t103 | exact ro_0 | exact ro_1 | omega | assumption | (refine i103 ?_; omega) | (simp only [List.map_cons, List.map_nil, List.sum_cons, List.sum_nil, cat_i, cat_r, cat_l, Nat.reduceAdd, Nat.reduceLeDiff]; done) | decide) only [h0, h1, h2, h3, h4, h5, h6, h7, s223_144, s223_145, s223_148, tl_s, tl_n, nI_add, pk_mul, i_cl, row_s, u2_row, i_le, i_lt, i_eq, if_true, if_false, Nat.le_refl, Nat.reduceEqDiff, Nat.reduceLeDiff, e1]
                  · by_cases h8 : x = nI 8
                    · simp (disch := first | exact ok_i | exact ok_r | exact ok_n | exact cat_i | exact cat_r | exact t103 | exact ro_0 | exact ro_1 | omega | assumption | (refine i103 ?_; omega) | (simp only [List.map_cons, List.map_nil, List.sum_cons, List.sum_nil, cat_i, cat_r, cat_l, Nat.reduceAdd, Nat.reduceLeDiff]; done) | decide) only [h0, h1, h2, h3, h4, h5, h6, h7, h8, s223_149, s223_150, s223_153, s223_156, s223_157, tl_s, tl_n, nI_add, pk_mul, i_cl, row_s, u2_row, i_le, i_lt, i_eq, if_true, if_false, Nat.le_refl, Nat.reduceEqDiff, Nat.reduceLeDiff]
                    · by_cases h9 : x = nI 9
                      · simp (disch := first | exact ok_i | exact ok_r | exact ok_n | exact cat_i | exact cat_r | exact t103 | exact ro_0 | exact ro_1 | omega | assumption | (refine i103 ?_; omega) | (simp only [List.map_cons, List.map_nil, List.sum_cons, List.sum_nil, cat_i, cat_r, cat_l, Nat.reduceAdd, Nat.reduceLeDiff]; done) | decide) only [h0, h1, h2, h3, h4, h5, h6, h7, h8, h9, s223_158, s223_159, s223_162, s223_165, s223_166, tl_s, tl_n, nI_add, pk_mul, i_cl, row_s, u2_row, i_le, i_lt, i_eq, if_true, if_false, Nat.le_refl, Nat.reduceEqDiff, Nat.reduceLeDiff]
                      · by_cases h10 : x = nI 10
                        · simp (disch := first | exact ok_i | exact ok_r | exact ok_n | exact cat_i | exact cat_r | exact t103 | exact ro_0 | exact ro_1 | omega | assumption | (refine i103 ?_; omega) | (simp only [List.map_cons, List.map_nil, List.sum_cons, List.sum_nil, cat_i, cat_r, cat_l, Nat.reduceAdd, Nat.reduceLeDiff]; done) | decide) only [h0, h1, h2, h3, h4, h5, h6, h7, h8, h9, h10, s223_167, s223_168, s223_171, s223_174, s223_175, tl_s, tl_n, nI_add, pk_mul, i_cl, row_s, u2_row, i_le, i_lt, i_eq, if_true, if_false, Nat.le_refl, Nat.reduceEqDiff, Nat.reduceLeDiff]
                        · simp (disch := first | exact ok_i | exact ok_r | exact ok_n | exact cat_i | exact cat_r | exact t103 | exact ro_0 | exact ro_1 | omega | assumption | (refine i103 ?_; omega) | (simp only [List.map_cons, List.map_nil, List.sum_cons, List.sum_nil, cat_i, cat_r, cat_l, Nat.reduceAdd, Nat.reduceLeDiff]; done) | decide) only [h0, h1, h2, h3, h4, h5, h6, h7, h8, h9, h10, s223_176, s223_178, tl_s, tl_n, nI_add, pk_mul, i_cl, row_s, u2_row, i_le, i_lt, i_eq, if_true, if_false, Nat.le_refl, Nat.reduceEqDiff, Nat.reduceLeDiff]
  · obtain ⟨hx, hx1, hx2⟩ := inL_t h1
    generalize tN x = a at *
    subst hx
    have e2 : inR (nI (a - 20)) f = decide (a - 20 < f) := by
      unfold inR
      rw [i_toInt (by omega)]
      by_cases h2 : a - 20 < f
      · rw [decide_eq_true h2, decide_eq_true (by omega)]
      · rw [decide_eq_false h2, decide_eq_false (by omega)]
    have e3 : 352 + a - 20 = 352 + (a - 20) := by omega
    simp (disch := first | exact ok_i | exact ok_r | exact ok_n | exact cat_i | exact cat_r | exact t103 | exact ro_0 | exact ro_1 | omega | assumption | (refine i103 ?_; omega) | (simp only [List.map_cons, List.map_nil, List.sum_cons, List.sum_nil, cat_i, cat_r, cat_l, Nat.reduceAdd, Nat.reduceLeDiff]; done) | decide) only [s223_14, s223_15, s223_16, s223_18, s223_19, s223_22, tl_s, tl_n, nI_add, pk_mul, i_cl, row_s, u2_row, i_le, i_lt, i_eq, if_true, if_false, Nat.le_refl, Nat.reduceEqDiff, Nat.reduceLeDiff, i_sub, c_floor hf hf1 hf4, e2, b2i_0, Bool.true_eq_false]
    by_cases h2 : a - 20 < f
    · simp (disch := first | exact ok_i | exact ok_r | exact ok_n | exact cat_i | exact cat_r | exact t103 | exact ro_0 | exact ro_1 | omega | assumption | (refine i103 ?_; omega) | (simp only [List.map_cons, List.map_nil, List.sum_cons, List.sum_nil, cat_i, cat_r, cat_l, Nat.reduceAdd, Nat.reduceLeDiff]; done) | decide) only [h2, decide_true, s223_25, s223_26, s223_29, s223_32, s223_33, s223_34, s223_36, s223_37, s223_38, s223_41, s223_42, tl_s, tl_n, nI_add, pk_mul, i_cl, row_s, u2_row, i_le, i_lt, i_eq, if_true, if_false, Nat.le_refl, Nat.reduceEqDiff, Nat.reduceLeDiff, i_sub, e3, Bool.true_eq_false]
    · simp (disch := first | exact ok_i | exact ok_r | exact ok_n | exact cat_i | exact cat_r | exact t103 | exact ro_0 | exact ro_1 | omega | assumption | (refine i103 ?_; omega) | (simp only [List.map_cons, List.map_nil, List.sum_cons, List.sum_nil, cat_i, cat_r, cat_l, Nat.reduceAdd, Nat.reduceLeDiff]; done) | decide) only [h2, decide_false, s223_41, s223_42, tl_s, tl_n, nI_add, pk_mul, i_cl, row_s, u2_row, i_le, i_lt, i_eq, if_true, if_false, Nat.le_refl, Nat.reduceEqDiff, Nat.reduceLeDiff]
end
