/-! the model: calls -/
theorem nI_nat {x : Int32} (h : 0 ≤ x.toInt) : x = nI x.toInt.toNat := by
  apply Int32.toInt_inj.mp
  have hlt := Int32.toInt_lt x
  rw [nI_toInt (by omega)]
  omega
/-- a call that is not refused as it stands -/
def okC (f : Nat) (x y s : Int32) : Bool := decide (0 ≤ x.toInt ∧ x.toInt < f) && decide (0 ≤ y.toInt ∧ y.toInt < f) && !decide (x = y) && decide (1 ≤ s.toInt ∧ s.toInt ≤ 8)
theorem okC_iff {f : Nat} {x y s : Int32} : okC f x y s = true ↔ (0 ≤ x.toInt ∧ x.toInt < f) ∧ (0 ≤ y.toInt ∧ y.toInt < f) ∧ ¬ x = y ∧ 1 ≤ s.toInt ∧ s.toInt ≤ 8 := by
  unfold okC
  rw [Bool.and_eq_true, Bool.and_eq_true, Bool.and_eq_true, decide_eq_true_eq, decide_eq_true_eq, decide_eq_true_eq, Bool.not_eq_true', decide_eq_false_iff_not, and_assoc, and_assoc]
def roomM (N : Nat → Int32) (s : Int32) : Nat → Bool := itr (fun c b => b || !decide (cf N c 2 < s)) false
def newN (N : Nat → Int32) (m a : Nat) (y s : Int32) : Nat → Int32 :=
  let N1 := upd (upd (upd (upd (upd N (32 + 8 * m + 0) (nI a)) (32 + 8 * m + 1) y) (32 + 8 * m + 2) s) (32 + 8 * m + 3) (-1)) (32 + 8 * m + 4) (nI 0)
  let N2 := upd (upd (upd N1 (32 + 8 * m + 5) (N1 447)) (32 + 8 * m + 6) (nI 0)) (32 + 8 * m + 7) (nI 0)
  let N3 := upd N2 446 (N2 446 + nI 1)
  upd N3 (352 + a) (N3 (352 + a) + nI 1)
def takeN (N : Nat → Int32) (m k a : Nat) (y s : Int32) : Nat → Int32 :=
  let N1 := newN N m a y s
  hapM (ownN N1 m (chS N1 (m + 1) k m (k - 1)).1) (nI 0) m
def fullM (N : Nat → Int32) (m : Nat) : Bool := decide (m = 40) || decide (manyM N (nI 0) m + manyM N (nI 1) m = 12)
def clV (N : Nat → Int32) (f m k : Nat) (x y s : Int32) : Int32 := if okC f x y s = true then (if roomM N s k = true then (if fullM N m = true then -4 else nI m) else -3) else -2
def clN (N : Nat → Int32) (f m k : Nat) (x y s : Int32) : Nat → Int32 := if (okC f x y s && roomM N s k && !fullM N m) = true then takeN N m k x.toInt.toNat y s else N
theorem manyM_le {N : Nat → Int32} {h : Int32} : ∀ {m : Nat}, manyM N h m ≤ m
  | 0 => Nat.le_refl _
  | m + 1 => by
    have hh := manyM_le (N := N) (h := h) (m := m)
    show manyM N h m + (if gf N m 4 = h then 1 else 0) ≤ m + 1
    split <;> omega
section
variable {X : pX} {d : Nat} {I : pI} {Q : Option Value → pG → pI → Prop} {N : Nat → Int32}
theorem c_isRoomFor {k : Nat} {s : Int32} (hk : N 445 = nI k) (hk4 : k ≤ 4) : Call X (d + 3) 173 [.ref 102, .int s] G0 (row I 103 N) Q ↔ Q (some (.int (b2i (roomM N s k)))) G0 (row I 103 N) := by
  simp (disch := first | exact ok_i | exact ok_r | exact ok_n | exact cat_i | exact cat_r | exact t103 | exact ro_0 | exact ro_1 | omega | assumption | (refine i103 ?_; omega) | (simp only [List.map_cons, List.map_nil, List.sum_cons, List.sum_nil, cat_i, cat_r, cat_l, Nat.reduceAdd, Nat.reduceLeDiff]; done) | decide) only [e173, s173_0, s173_1, s173_2, s173_3, tl_s, tl_n, nI_add, pk_mul, i_cl, row_s, u2_row, i_le, i_lt, i_eq, if_true, if_false, Nat.le_refl, Nat.reduceEqDiff, Nat.reduceLeDiff]
  refine loop_up (P := fun c => At X (d + 2) 173 4 [some (.ref 102), some (.int s), some (.int (b2i (roomM N s c))), some (.int (nI c))] [] G0 (row I 103 N) Q) (n := k) ?_ ?_ 0 (Nat.zero_le _)
  · simp (disch := first | exact ok_i | exact ok_r | exact ok_n | exact cat_i | exact cat_r | exact t103 | exact ro_0 | exact ro_1 | omega | assumption | (refine i103 ?_; omega) | (simp only [List.map_cons, List.map_nil, List.sum_cons, List.sum_nil, cat_i, cat_r, cat_l, Nat.reduceAdd, Nat.reduceLeDiff]; done) | decide) only [s173_4, s173_5, s173_6, s173_9, s173_12, s173_13, s173_41, tl_s, tl_n, nI_add, pk_mul, i_cl, row_s, u2_row, i_le, i_lt, i_eq, if_true, if_false, Nat.le_refl, Nat.reduceEqDiff, Nat.reduceLeDiff, hk]
    cases roomM N s k <;> simp (disch := first | exact ok_i | exact ok_r | exact ok_n | exact cat_i | exact cat_r | exact t103 | exact ro_0 | exact ro_1 | omega | assumption | (refine i103 ?_; omega) | (simp only [List.map_cons, List.map_nil, List.sum_cons, List.sum_nil, cat_i, cat_r, cat_l, Nat.reduceAdd, Nat.reduceLeDiff]; done) | decide) only [s173_42, b2i, tl_s, tl_n, nI_add, pk_mul, i_cl, row_s, u2_row, i_le, i_lt, i_eq, if_true, if_false, Nat.le_refl, Nat.reduceEqDiff, Nat.reduceLeDiff, Bool.false_eq_true]
  · intro c hc
    have n1 : ¬ k ≤ c := by omega
    have e1 : roomM N s (c + 1) = (roomM N s c || !decide (cf N c 2 < s)) := rfl
    rw [s173_4, e1]
    simp (disch := first | exact ok_i | exact ok_r | exact ok_n | exact cat_i | exact cat_r | exact t103 | exact ro_0 | exact ro_1 | omega | assumption | (refine i103 ?_; omega) | (simp only [List.map_cons, List.map_nil, List.sum_cons, List.sum_nil, cat_i, cat_r, cat_l, Nat.reduceAdd, Nat.reduceLeDiff]; done) | decide) only [s173_5, s173_6, s173_9, s173_12, s173_13, s173_16, s173_17, s173_20, s173_21, s173_22, s173_23, s173_26, s173_29, s173_30, s173_33, s173_34, s173_35, s173_38, tl_s, tl_n, nI_add, pk_mul, i_cl, row_s, u2_row, i_le, i_lt, i_eq, if_true, if_false, Nat.le_refl, Nat.reduceEqDiff, Nat.reduceLeDiff, hk, n1, b2i_0, c_hasRoom]
    cases roomM N s c
    · by_cases h1 : cf N c 2 < s
      · simp (disch := first | exact ok_i | exact ok_r | exact ok_n | exact cat_i | exact cat_r | exact t103 | exact ro_0 | exact ro_1 | omega | assumption | (refine i103 ?_; omega) | (simp only [List.map_cons, List.map_nil, List.sum_cons, List.sum_nil, cat_i, cat_r, cat_l, Nat.reduceAdd, Nat.reduceLeDiff]; done) | decide) only [h1, tl_s, tl_n, nI_add, pk_mul, i_cl, row_s, u2_row, i_le, i_lt, i_eq, if_true, if_false, Nat.le_refl, Nat.reduceEqDiff, Nat.reduceLeDiff, decide_true, Bool.not_true, Bool.or_self, b2i, Bool.false_eq_true]
      · have n10 : (nI 1 = nI 0) = False := by rw [i_eq (by decide) (by decide)]; simp
        simp (disch := first | exact ok_i | exact ok_r | exact ok_n | exact cat_i | exact cat_r | exact t103 | exact ro_0 | exact ro_1 | omega | assumption | (refine i103 ?_; omega) | (simp only [List.map_cons, List.map_nil, List.sum_cons, List.sum_nil, cat_i, cat_r, cat_l, Nat.reduceAdd, Nat.reduceLeDiff]; done) | decide) only [h1, n10, tl_s, tl_n, nI_add, pk_mul, i_cl, row_s, u2_row, i_le, i_lt, i_eq, if_true, if_false, Nat.le_refl, Nat.reduceEqDiff, Nat.reduceLeDiff, decide_false, Bool.not_false, Bool.or_true, b2i]
    · simp (disch := first | exact ok_i | exact ok_r | exact ok_n | exact cat_i | exact cat_r | exact t103 | exact ro_0 | exact ro_1 | omega | assumption | (refine i103 ?_; omega) | (simp only [List.map_cons, List.map_nil, List.sum_cons, List.sum_nil, cat_i, cat_r, cat_l, Nat.reduceAdd, Nat.reduceLeDiff]; done) | decide) only [tl_s, tl_n, nI_add, pk_mul, i_cl, row_s, u2_row, i_le, i_lt, i_eq, if_true, if_false, Nat.le_refl, Nat.reduceEqDiff, Nat.reduceLeDiff, Bool.true_or, Bool.true_eq_false, b2i]
theorem c_isWaiting {g : Nat} (hg : g < 40) : Call X (d + 2) 177 [.ref 102, .int (nI g)] G0 (row I 103 N) Q ↔ if gf N g 4 = nI 0 then Q (some (.int (nI 1))) G0 (row I 103 N) else Q (some (.int (nI 0))) G0 (row I 103 N) := by
  simp (disch := first | exact ok_i | exact ok_r | exact ok_n | exact cat_i | exact cat_r | exact t103 | exact ro_0 | exact ro_1 | omega | assumption | (refine i103 ?_; omega) | (simp only [List.map_cons, List.map_nil, List.sum_cons, List.sum_nil, cat_i, cat_r, cat_l, Nat.reduceAdd, Nat.reduceLeDiff]; done) | decide) only [e177, s177_0, s177_1, s177_2, s177_3, s177_6, s177_9, s177_10, s177_13, s177_14, tl_s, tl_n, nI_add, pk_mul, i_cl, row_s, u2_row, i_le, i_lt, i_eq, if_true, if_false, Nat.le_refl, Nat.reduceEqDiff, Nat.reduceLeDiff, c_ofGroup, ro_0, ro_1]
theorem c_isGroup {x : Int32} {m : Nat} (hm : N 446 = nI m) (hm4 : m ≤ 40) : Call X (d + 2) 132 [.ref 102, .int x] G0 (row I 103 N) Q ↔ if 0 ≤ x.toInt ∧ x.toInt < m then Q (some (.int (nI 1))) G0 (row I 103 N) else Q (some (.int (nI 0))) G0 (row I 103 N) := by
  by_cases hm0 : m = 0
  · subst hm0
    have n1 : ¬ (0 ≤ x.toInt ∧ x.toInt < ((0 : Nat) : Int)) := by omega
    have e1 : (nI 0 - nI 1).toInt64 = (-1) := by decide
    simp (disch := first | exact ok_i | exact ok_r | exact ok_n | exact cat_i | exact cat_r | exact t103 | exact ro_0 | exact ro_1 | omega | assumption | (refine i103 ?_; omega) | (simp only [List.map_cons, List.map_nil, List.sum_cons, List.sum_nil, cat_i, cat_r, cat_l, Nat.reduceAdd, Nat.reduceLeDiff]; done) | decide) only [e132, s132_0, s132_1, s132_2, s132_3, s132_4, s132_7, s132_10, s132_11, s132_12, s132_13, s132_14, tl_s, tl_n, nI_add, pk_mul, i_cl, row_s, u2_row, i_le, i_lt, i_eq, if_true, if_false, Nat.le_refl, Nat.reduceEqDiff, Nat.reduceLeDiff, hm, e1, nI_l, c_in, l_xn, n1]
    by_cases h1 : x.toInt < ((0 : Nat) : Int)
    · simp (disch := first | exact ok_i | exact ok_r | exact ok_n | exact cat_i | exact cat_r | exact t103 | exact ro_0 | exact ro_1 | omega | assumption | (refine i103 ?_; omega) | (simp only [List.map_cons, List.map_nil, List.sum_cons, List.sum_nil, cat_i, cat_r, cat_l, Nat.reduceAdd, Nat.reduceLeDiff]; done) | decide) only [h1, s132_0, s132_1, s132_2, s132_3, s132_4, s132_7, s132_10, s132_11, s132_12, s132_13, s132_14, s132_17, tl_s, tl_n, nI_add, pk_mul, i_cl, row_s, u2_row, i_le, i_lt, i_eq, if_true, if_false, Nat.le_refl, Nat.reduceEqDiff, Nat.reduceLeDiff]
    · have h2 : ((-1 : Int64) < x.toInt64) := by
        rw [Int64.lt_iff_toInt_lt, Int32.toInt_toInt64]
        show (-1 : Int) < x.toInt
        omega
      simp (disch := first | exact ok_i | exact ok_r | exact ok_n | exact cat_i | exact cat_r | exact t103 | exact ro_0 | exact ro_1 | omega | assumption | (refine i103 ?_; omega) | (simp only [List.map_cons, List.map_nil, List.sum_cons, List.sum_nil, cat_i, cat_r, cat_l, Nat.reduceAdd, Nat.reduceLeDiff]; done) | decide) only [h1, h2, s132_0, s132_1, s132_2, s132_3, s132_4, s132_7, s132_10, s132_11, s132_12, s132_13, s132_14, s132_17, tl_s, tl_n, nI_add, pk_mul, i_cl, row_s, u2_row, i_le, i_lt, i_eq, if_true, if_false, Nat.le_refl, Nat.reduceEqDiff, Nat.reduceLeDiff]
  · simp (disch := first | exact ok_i | exact ok_r | exact ok_n | exact cat_i | exact cat_r | exact t103 | exact ro_0 | exact ro_1 | omega | assumption | (refine i103 ?_; omega) | (simp only [List.map_cons, List.map_nil, List.sum_cons, List.sum_nil, cat_i, cat_r, cat_l, Nat.reduceAdd, Nat.reduceLeDiff]; done) | decide) only [e132, s132_0, s132_1, s132_2, s132_3, s132_4, s132_7, s132_10, s132_11, s132_12, s132_13, s132_14, tl_s, tl_n, nI_add, pk_mul, i_cl, row_s, u2_row, i_le, i_lt, i_eq, if_true, if_false, Nat.le_refl, Nat.reduceEqDiff, Nat.reduceLeDiff, hm, i_sub, nI_l, c_in, l_xn, l_nx]
    by_cases h1 : x.toInt < ((0 : Nat) : Int)
    · have n1 : ¬ (0 ≤ x.toInt ∧ x.toInt < m) := by omega
      simp (disch := first | exact ok_i | exact ok_r | exact ok_n | exact cat_i | exact cat_r | exact t103 | exact ro_0 | exact ro_1 | omega | assumption | (refine i103 ?_; omega) | (simp only [List.map_cons, List.map_nil, List.sum_cons, List.sum_nil, cat_i, cat_r, cat_l, Nat.reduceAdd, Nat.reduceLeDiff]; done) | decide) only [h1, n1, s132_0, s132_1, s132_2, s132_3, s132_4, s132_7, s132_10, s132_11, s132_12, s132_13, s132_14, s132_17, tl_s, tl_n, nI_add, pk_mul, i_cl, row_s, u2_row, i_le, i_lt, i_eq, if_true, if_false, Nat.le_refl, Nat.reduceEqDiff, Nat.reduceLeDiff]
    · by_cases h2 : ((m - 1 : Nat) : Int) < x.toInt
      · have n1 : ¬ (0 ≤ x.toInt ∧ x.toInt < m) := by omega
        simp (disch := first | exact ok_i | exact ok_r | exact ok_n | exact cat_i | exact cat_r | exact t103 | exact ro_0 | exact ro_1 | omega | assumption | (refine i103 ?_; omega) | (simp only [List.map_cons, List.map_nil, List.sum_cons, List.sum_nil, cat_i, cat_r, cat_l, Nat.reduceAdd, Nat.reduceLeDiff]; done) | decide) only [h1, h2, n1, s132_0, s132_1, s132_2, s132_3, s132_4, s132_7, s132_10, s132_11, s132_12, s132_13, s132_14, s132_17, tl_s, tl_n, nI_add, pk_mul, i_cl, row_s, u2_row, i_le, i_lt, i_eq, if_true, if_false, Nat.le_refl, Nat.reduceEqDiff, Nat.reduceLeDiff]
      · have n1 : 0 ≤ x.toInt ∧ x.toInt < m := by omega
        simp (disch := first | exact ok_i | exact ok_r | exact ok_n | exact cat_i | exact cat_r | exact t103 | exact ro_0 | exact ro_1 | omega | assumption | (refine i103 ?_; omega) | (simp only [List.map_cons, List.map_nil, List.sum_cons, List.sum_nil, cat_i, cat_r, cat_l, Nat.reduceAdd, Nat.reduceLeDiff]; done) | decide) only [h1, h2, if_pos n1, s132_0, s132_1, s132_2, s132_3, s132_4, s132_7, s132_10, s132_11, s132_12, s132_13, s132_14, s132_17, tl_s, tl_n, nI_add, pk_mul, i_cl, row_s, u2_row, i_le, i_lt, i_eq, if_true, if_false, Nat.le_refl, Nat.reduceEqDiff, Nat.reduceLeDiff]
theorem newN_o {m a i : Nat} {y s : Int32} (ha : a < 12) (hm : m < 40) (h : 444 ≤ i) (h2 : i ≠ 446) : newN N m a y s i = N i := by
  unfold newN
  rw [up_n (by omega), up_n (by omega), up_n (by omega), up_n (by omega), up_n (by omega), up_n (by omega), up_n (by omega), up_n (by omega), up_n (by omega), up_n (by omega)]
theorem newN_m {m a : Nat} {y s : Int32} (ha : a < 12) (hm4 : m < 40) (hm : N 446 = nI m) : newN N m a y s 446 = nI (m + 1) := by
  unfold newN
  rw [up_n (by omega), up_s, up_n (by omega), up_n (by omega), up_n (by omega), up_n (by omega), up_n (by omega), up_n (by omega), up_n (by omega), up_n (by omega), hm, nI_add]
theorem c_callNew {m a k t : Nat} {y s : Int32} (ha : a < 12) (hm : N 446 = nI m) (hm4 : m < 40) (hk : N 445 = nI k) (hk1 : 1 ≤ k) (hk4 : k ≤ 4) (hI : I 102 4 = nI t) (ht : t < 4)
    (h : ∀ J, Sm t I J → Q (some (.int (nI m))) G0 (row J 103 (takeN N m k a y s))) : At X (d + 11) 174 83 [some (.ref 102), some (.int (nI a)), some (.int y), some (.int s), some (.int (nI m))] [] G0 (row I 103 N) Q := by
  have hm2 := newN_m (y := y) (s := s) ha hm4 hm
  have hk2 : newN N m a y s 445 = nI k := by rw [newN_o ha hm4 (by omega) (by omega), hk]
  simp (disch := first | exact ok_i | exact ok_r | exact ok_n | exact cat_i | exact cat_r | exact t103 | exact ro_0 | exact ro_1 | omega | assumption | (refine i103 ?_; omega) | (simp only [List.map_cons, List.map_nil, List.sum_cons, List.sum_nil, cat_i, cat_r, cat_l, Nat.reduceAdd, Nat.reduceLeDiff]; done) | decide) only [s174_83, s174_84, s174_86, s174_87, s174_88, s174_91, s174_92, s174_94, s174_95, s174_96, s174_99, s174_100, s174_102, s174_103, s174_104, s174_107, s174_108, s174_110, s174_111, s174_112, s174_115, s174_116, s174_118, s174_119, s174_120, s174_123, s174_124, s174_126, s174_127, s174_128, s174_131, s174_134, s174_135, s174_138, s174_139, s174_141, s174_143, s174_144, s174_147, s174_148, s174_150, s174_152, s174_153, s174_156, s174_157, s174_160, s174_163, s174_164, s174_165, s174_166, s174_167, s174_168, s174_169, s174_172, s174_175, s174_176, s174_177, s174_178, s174_179, s174_180, s174_181, s174_182, s174_183, s174_185, s174_186, tl_s, tl_n, nI_add, pk_mul, i_cl, row_s, u2_row, i_le, i_lt, i_eq, if_true, if_false, Nat.le_refl, Nat.reduceEqDiff, Nat.reduceLeDiff, c_setsGroup]
  rw [s174_188 (by simp only [List.map_cons, List.map_nil, List.sum_cons, List.sum_nil, cat_i, cat_r, cat_l, Nat.reduceAdd, Nat.reduceLeDiff])]
  refine c_cheapest (N := newN N m a y s) (m := m + 1) hm4 hm2 (by omega) hk2 hk1 hk4 hI ht (fun J hJ => ?_)
  have hb : (chS (newN N m a y s) (m + 1) k m (k - 1)).1 ≤ k - 1 := chS_le
  simp (disch := first | exact ok_i | exact ok_r | exact ok_n | exact cat_i | exact cat_r | exact t103 | exact ro_0 | exact ro_1 | omega | assumption | (refine i103 ?_; omega) | (simp only [List.map_cons, List.map_nil, List.sum_cons, List.sum_nil, cat_i, cat_r, cat_l, Nat.reduceAdd, Nat.reduceLeDiff]; done) | decide) only [s174_191, s174_194, s174_195, s174_196, s174_198, s174_201, s174_203, tl_s, tl_n, nI_add, pk_mul, i_cl, row_s, u2_row, i_le, i_lt, i_eq, if_true, if_false, Nat.le_refl, Nat.reduceEqDiff, Nat.reduceLeDiff, c_becomesOwn, c_happens]
  exact h J hJ
theorem c_call {f m k t : Nat} {x y s : Int32} (hf : N 444 = nI f) (hf1 : 2 ≤ f) (hf4 : f ≤ 12) (hm : N 446 = nI m) (hm4 : m ≤ 40) (hk : N 445 = nI k) (hk1 : 1 ≤ k) (hk4 : k ≤ 4) (hI : I 102 4 = nI t) (ht : t < 4)
    (h : ∀ J, Sm t I J → Q (some (.int (clV N f m k x y s))) G0 (row J 103 (clN N f m k x y s))) : Call X (d + 12) 174 [.ref 102, .int x, .int y, .int s] G0 (row I 103 N) Q := by
  have h0 := h I Sm.refl
  simp (disch := first | exact ok_i | exact ok_r | exact ok_n | exact cat_i | exact cat_r | exact t103 | exact ro_0 | exact ro_1 | omega | assumption | (refine i103 ?_; omega) | (simp only [List.map_cons, List.map_nil, List.sum_cons, List.sum_nil, cat_i, cat_r, cat_l, Nat.reduceAdd, Nat.reduceLeDiff]; done) | decide) only [e174, s174_0, s174_1, s174_2, s174_5, tl_s, tl_n, nI_add, pk_mul, i_cl, row_s, u2_row, i_le, i_lt, i_eq, if_true, if_false, Nat.le_refl, Nat.reduceEqDiff, Nat.reduceLeDiff, c_isFloor hf hf1 hf4]
  have bad : ¬ okC f x y s = true → At X (d + 11) 174 33 [some (.ref 102), some (.int x), some (.int y), some (.int s), none] [] G0 (row I 103 N) Q := by
    intro hn
    simp (disch := first | exact ok_i | exact ok_r | exact ok_n | exact cat_i | exact cat_r | exact t103 | exact ro_0 | exact ro_1 | omega | assumption | (refine i103 ?_; omega) | (simp only [List.map_cons, List.map_nil, List.sum_cons, List.sum_nil, cat_i, cat_r, cat_l, Nat.reduceAdd, Nat.reduceLeDiff]; done) | decide) only [s174_33, s174_35, tl_s, tl_n, nI_add, pk_mul, i_cl, row_s, u2_row, i_le, i_lt, i_eq, if_true, if_false, Nat.le_refl, Nat.reduceEqDiff, Nat.reduceLeDiff]
    unfold clV clN at h0
    rw [Bool.not_eq_true] at hn
    simp only [hn, Bool.false_and, Bool.false_eq_true, if_false] at h0
    exact h0
  by_cases h1 : 0 ≤ x.toInt ∧ x.toInt < f
  · simp (disch := first | exact ok_i | exact ok_r | exact ok_n | exact cat_i | exact cat_r | exact t103 | exact ro_0 | exact ro_1 | omega | assumption | (refine i103 ?_; omega) | (simp only [List.map_cons, List.map_nil, List.sum_cons, List.sum_nil, cat_i, cat_r, cat_l, Nat.reduceAdd, Nat.reduceLeDiff]; done) | decide) only [if_pos h1, s174_8, s174_9, s174_10, s174_13, tl_s, tl_n, nI_add, pk_mul, i_cl, row_s, u2_row, i_le, i_lt, i_eq, if_true, if_false, Nat.le_refl, Nat.reduceEqDiff, Nat.reduceLeDiff, c_isFloor hf hf1 hf4]
    by_cases h2 : 0 ≤ y.toInt ∧ y.toInt < f
    · simp (disch := first | exact ok_i | exact ok_r | exact ok_n | exact cat_i | exact cat_r | exact t103 | exact ro_0 | exact ro_1 | omega | assumption | (refine i103 ?_; omega) | (simp only [List.map_cons, List.map_nil, List.sum_cons, List.sum_nil, cat_i, cat_r, cat_l, Nat.reduceAdd, Nat.reduceLeDiff]; done) | decide) only [if_pos h2, s174_16, s174_17, s174_18, tl_s, tl_n, nI_add, pk_mul, i_cl, row_s, u2_row, i_le, i_lt, i_eq, if_true, if_false, Nat.le_refl, Nat.reduceEqDiff, Nat.reduceLeDiff]
      by_cases h3 : x = y
      · simp only [if_pos h3]
        exact bad (fun e => (okC_iff.mp e).2.2.1 h3)
      · simp (disch := first | exact ok_i | exact ok_r | exact ok_n | exact cat_i | exact cat_r | exact t103 | exact ro_0 | exact ro_1 | omega | assumption | (refine i103 ?_; omega) | (simp only [List.map_cons, List.map_nil, List.sum_cons, List.sum_nil, cat_i, cat_r, cat_l, Nat.reduceAdd, Nat.reduceLeDiff]; done) | decide) only [if_neg h3, s174_21, s174_22, s174_23, s174_24, s174_27, s174_30, tl_s, tl_n, nI_add, pk_mul, i_cl, row_s, u2_row, i_le, i_lt, i_eq, if_true, if_false, Nat.le_refl, Nat.reduceEqDiff, Nat.reduceLeDiff, c_in, l_xn, l_nx]
        by_cases h4 : s.toInt < ((1 : Nat) : Int)
        · simp (disch := first | exact ok_i | exact ok_r | exact ok_n | exact cat_i | exact cat_r | exact t103 | exact ro_0 | exact ro_1 | omega | assumption | (refine i103 ?_; omega) | (simp only [List.map_cons, List.map_nil, List.sum_cons, List.sum_nil, cat_i, cat_r, cat_l, Nat.reduceAdd, Nat.reduceLeDiff]; done) | decide) only [if_pos h4, tl_s, tl_n, nI_add, pk_mul, i_cl, row_s, u2_row, i_le, i_lt, i_eq, if_true, if_false, Nat.le_refl, Nat.reduceEqDiff, Nat.reduceLeDiff]
          exact bad (fun e => by have := (okC_iff.mp e).2.2.2.1; omega)
        · by_cases h5 : ((8 : Nat) : Int) < s.toInt
          · simp (disch := first | exact ok_i | exact ok_r | exact ok_n | exact cat_i | exact cat_r | exact t103 | exact ro_0 | exact ro_1 | omega | assumption | (refine i103 ?_; omega) | (simp only [List.map_cons, List.map_nil, List.sum_cons, List.sum_nil, cat_i, cat_r, cat_l, Nat.reduceAdd, Nat.reduceLeDiff]; done) | decide) only [if_neg h4, if_pos h5, tl_s, tl_n, nI_add, pk_mul, i_cl, row_s, u2_row, i_le, i_lt, i_eq, if_true, if_false, Nat.le_refl, Nat.reduceEqDiff, Nat.reduceLeDiff]
            exact bad (fun e => by have := (okC_iff.mp e).2.2.2.2; omega)
          · have hok : okC f x y s = true := okC_iff.mpr ⟨h1, h2, h3, by omega, by omega⟩
            simp (disch := first | exact ok_i | exact ok_r | exact ok_n | exact cat_i | exact cat_r | exact t103 | exact ro_0 | exact ro_1 | omega | assumption | (refine i103 ?_; omega) | (simp only [List.map_cons, List.map_nil, List.sum_cons, List.sum_nil, cat_i, cat_r, cat_l, Nat.reduceAdd, Nat.reduceLeDiff]; done) | decide) only [if_neg h4, if_neg h5, s174_36, s174_37, s174_38, s174_41, tl_s, tl_n, nI_add, pk_mul, i_cl, row_s, u2_row, i_le, i_lt, i_eq, if_true, if_false, Nat.le_refl, Nat.reduceEqDiff, Nat.reduceLeDiff, c_isRoomFor hk hk4, b2i_0]
            unfold clV clN at h h0
            simp only [hok, if_true, Bool.true_and] at h h0
            cases h6 : roomM N s k
            · simp only [h6, Bool.false_eq_true, Bool.false_and, if_false] at h0
              simp (disch := first | exact ok_i | exact ok_r | exact ok_n | exact cat_i | exact cat_r | exact t103 | exact ro_0 | exact ro_1 | omega | assumption | (refine i103 ?_; omega) | (simp only [List.map_cons, List.map_nil, List.sum_cons, List.sum_nil, cat_i, cat_r, cat_l, Nat.reduceAdd, Nat.reduceLeDiff]; done) | decide) only [s174_44, s174_46, tl_s, tl_n, nI_add, pk_mul, i_cl, row_s, u2_row, i_le, i_lt, i_eq, if_true, if_false, Nat.le_refl, Nat.reduceEqDiff, Nat.reduceLeDiff]
              exact h0
            · simp only [h6, if_true, Bool.true_and] at h h0
              simp (disch := first | exact ok_i | exact ok_r | exact ok_n | exact cat_i | exact cat_r | exact t103 | exact ro_0 | exact ro_1 | omega | assumption | (refine i103 ?_; omega) | (simp only [List.map_cons, List.map_nil, List.sum_cons, List.sum_nil, cat_i, cat_r, cat_l, Nat.reduceAdd, Nat.reduceLeDiff]; done) | decide) only [s174_47, s174_48, s174_51, s174_54, s174_55, s174_57, s174_59, s174_61, tl_s, tl_n, nI_add, pk_mul, i_cl, row_s, u2_row, i_le, i_lt, i_eq, if_true, if_false, Nat.le_refl, Nat.reduceEqDiff, Nat.reduceLeDiff, hm, Bool.true_eq_false]
              by_cases h7 : m = 40
              · have hful : fullM N m = true := by unfold fullM; simp only [h7, decide_true, Bool.true_or]
                simp only [hful, Bool.not_true, Bool.false_eq_true, if_true, if_false] at h0
                simp (disch := first | exact ok_i | exact ok_r | exact ok_n | exact cat_i | exact cat_r | exact t103 | exact ro_0 | exact ro_1 | omega | assumption | (refine i103 ?_; omega) | (simp only [List.map_cons, List.map_nil, List.sum_cons, List.sum_nil, cat_i, cat_r, cat_l, Nat.reduceAdd, Nat.reduceLeDiff]; done) | decide) only [if_pos h7, s174_80, s174_82, tl_s, tl_n, nI_add, pk_mul, i_cl, row_s, u2_row, i_le, i_lt, i_eq, if_true, if_false, Nat.le_refl, Nat.reduceEqDiff, Nat.reduceLeDiff]
                exact h0
              · have l1 : manyM N (nI 0) m ≤ m := manyM_le
                have l2 : manyM N (nI 1) m ≤ m := manyM_le
                simp (disch := first | exact ok_i | exact ok_r | exact ok_n | exact cat_i | exact cat_r | exact t103 | exact ro_0 | exact ro_1 | omega | assumption | (refine i103 ?_; omega) | (simp only [List.map_cons, List.map_nil, List.sum_cons, List.sum_nil, cat_i, cat_r, cat_l, Nat.reduceAdd, Nat.reduceLeDiff]; done) | decide) only [if_neg h7, s174_64, s174_65, s174_66, s174_69, s174_70, s174_71, s174_74, s174_75, s174_77, tl_s, tl_n, nI_add, pk_mul, i_cl, row_s, u2_row, i_le, i_lt, i_eq, if_true, if_false, Nat.le_refl, Nat.reduceEqDiff, Nat.reduceLeDiff, c_many hm hm4]
                by_cases h8 : manyM N (nI 0) m + manyM N (nI 1) m = 12
                · have hful : fullM N m = true := by unfold fullM; simp only [h8, decide_true, Bool.or_true]
                  simp only [hful, Bool.not_true, Bool.false_eq_true, if_true, if_false] at h0
                  simp (disch := first | exact ok_i | exact ok_r | exact ok_n | exact cat_i | exact cat_r | exact t103 | exact ro_0 | exact ro_1 | omega | assumption | (refine i103 ?_; omega) | (simp only [List.map_cons, List.map_nil, List.sum_cons, List.sum_nil, cat_i, cat_r, cat_l, Nat.reduceAdd, Nat.reduceLeDiff]; done) | decide) only [if_pos h8, s174_80, s174_82, tl_s, tl_n, nI_add, pk_mul, i_cl, row_s, u2_row, i_le, i_lt, i_eq, if_true, if_false, Nat.le_refl, Nat.reduceEqDiff, Nat.reduceLeDiff]
                  exact h0
                · have hful : fullM N m = false := by unfold fullM; simp only [h7, h8, decide_false, Bool.or_self]
                  simp only [hful, Bool.not_false, Bool.false_eq_true, if_true, if_false] at h
                  simp only [if_neg h8]
                  have e1 := nI_nat h1.1
                  have key := c_callNew (X := X) (d := d) (I := I) (Q := Q) (y := y) (s := s) (show x.toInt.toNat < 12 by omega) hm (by omega) hk hk1 hk4 hI ht h
                  rw [← e1] at key
                  exact key
    · simp (disch := first | exact ok_i | exact ok_r | exact ok_n | exact cat_i | exact cat_r | exact t103 | exact ro_0 | exact ro_1 | omega | assumption | (refine i103 ?_; omega) | (simp only [List.map_cons, List.map_nil, List.sum_cons, List.sum_nil, cat_i, cat_r, cat_l, Nat.reduceAdd, Nat.reduceLeDiff]; done) | decide) only [if_neg h2, tl_s, tl_n, nI_add, pk_mul, i_cl, row_s, u2_row, i_le, i_lt, i_eq, if_true, if_false, Nat.le_refl, Nat.reduceEqDiff, Nat.reduceLeDiff]
      exact bad (fun e => h2 (okC_iff.mp e).2.1)
  · simp (disch := first | exact ok_i | exact ok_r | exact ok_n | exact cat_i | exact cat_r | exact t103 | exact ro_0 | exact ro_1 | omega | assumption | (refine i103 ?_; omega) | (simp only [List.map_cons, List.map_nil, List.sum_cons, List.sum_nil, cat_i, cat_r, cat_l, Nat.reduceAdd, Nat.reduceLeDiff]; done) | decide) only [if_neg h1, tl_s, tl_n, nI_add, pk_mul, i_cl, row_s, u2_row, i_le, i_lt, i_eq, if_true, if_false, Nat.le_refl, Nat.reduceEqDiff, Nat.reduceLeDiff]
    exact bad (fun e => h1 (okC_iff.mp e).1)
end
