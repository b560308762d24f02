/-! the model: tokens -/
def st3 (I : pI) (p b v : Int32) : pI := fun a j => if a = 102 then (if j = 9 then p else if j = 10 then b else if j = 11 then v else I a j) else I a j
section
variable {I : pI} {p b v x : Int32}
theorem st3_9 : upd2 (st3 I p b v) 102 9 x = st3 I x b v := by
  funext a j
  unfold upd2 st3
  by_cases h : a = 102 <;> by_cases h2 : j = 9 <;> simp [h, h2]
theorem st3_10 : upd2 (st3 I p b v) 102 10 x = st3 I p x v := by
  funext a j
  unfold upd2 st3
  by_cases h : a = 102
  · by_cases h2 : j = 10
    · subst h2; simp [h]
    · simp [h, h2]
  · simp [h]
theorem st3_11 : upd2 (st3 I p b v) 102 11 x = st3 I p b x := by
  funext a j
  unfold upd2 st3
  by_cases h : a = 102
  · by_cases h2 : j = 11
    · subst h2; simp [h]
    · simp [h, h2]
  · simp [h]
theorem st3_g9 : st3 I p b v 102 9 = p := rfl
theorem st3_g10 : st3 I p b v 102 10 = b := rfl
theorem st3_g11 : st3 I p b v 102 11 = v := rfl
theorem st3_g6 : st3 I p b v 102 6 = I 102 6 := rfl
theorem st3_n {a : Nat} (h : a ≠ 102) : st3 I p b v a = I a := by
  funext j
  unfold st3
  rw [if_neg h]
theorem bytA_3 {T i : Nat} : bytA (st3 I p b v) T i = bytA I T i := by
  unfold bytA
  rw [st3_n (by decide)]
theorem wfR_3 {e f : Nat} : ∀ {r : Nat}, wfR (st3 I p b v) e f r = wfR I e f r
  | 0 => rfl
  | r + 1 => by
    unfold wfR
    rw [wfR_3]
    unfold mtB
    rw [st3_n (by decide), st3_n (by decide)]
end
def skR (I : pI) (T : Nat) : Nat → Nat → Nat
  | 0, q => q
  | r + 1, q => if bytA I T q = nI 32 ∨ bytA I T q = nI 10 then skR I T r (q + 1) else q
def lwR (I : pI) (T : Nat) : Nat → Nat → Nat
  | 0, q => q
  | r + 1, q => if inL (bytA I T q) 97 122 = true then lwR I T r (q + 1) else q
def dgR (I : pI) (T b : Nat) : Nat → Nat → Int32 → Nat × Int32
  | 0, q, v => (q, v)
  | r + 1, q, v => if inL (bytA I T q) 48 57 = true then dgR I T b r (q + 1) (if q - b < 2 then nI 10 * v + bytA I T q - nI 48 else v) else (q, v)
theorem bytA_T {I : pI} {T : Nat} : bytA I T T = -1 := by unfold bytA; rw [if_neg (Nat.lt_irrefl _)]
theorem skR_le {I : pI} {T : Nat} : ∀ {r q : Nat}, q ≤ skR I T r q ∧ skR I T r q ≤ q + r
  | 0, q => ⟨Nat.le_refl _, Nat.le_refl _⟩
  | r + 1, q => by
    have h := skR_le (I := I) (T := T) (r := r) (q := q + 1)
    unfold skR
    split <;> omega
theorem lwR_le {I : pI} {T : Nat} : ∀ {r q : Nat}, q ≤ lwR I T r q ∧ lwR I T r q ≤ q + r
  | 0, q => ⟨Nat.le_refl _, Nat.le_refl _⟩
  | r + 1, q => by
    have h := lwR_le (I := I) (T := T) (r := r) (q := q + 1)
    unfold lwR
    split <;> omega
theorem dgR_le {I : pI} {T b : Nat} : ∀ {r q : Nat} {v : Int32}, q ≤ (dgR I T b r q v).1 ∧ (dgR I T b r q v).1 ≤ q + r
  | 0, q, v => ⟨Nat.le_refl _, Nat.le_refl _⟩
  | r + 1, q, v => by
    have h := dgR_le (I := I) (T := T) (b := b) (r := r) (q := q + 1) (v := if q - b < 2 then nI 10 * v + bytA I T q - nI 48 else v)
    unfold dgR
    split
    · omega
    · dsimp only; omega
/-- the next token: where it begins, where it ends, what it is -/
def nxB (I : pI) (T p : Nat) : Nat := skR I T (T - p) p
def nxE (I : pI) (T p : Nat) : Nat := if inL (bytA I T (nxB I T p)) 97 122 = true then lwR I T (T - nxB I T p) (nxB I T p) else if inL (bytA I T (nxB I T p)) 48 57 = true then (dgR I T (nxB I T p) (T - nxB I T p) (nxB I T p) (nI 0)).1 else if bytA I T (nxB I T p) = nI 59 then nxB I T p + 1 else nxB I T p
def nxT (I : pI) (T p : Nat) : Int32 := if inL (bytA I T (nxB I T p)) 97 122 = true then o2i (wfR I (nxB I T p) (lwR I T (T - nxB I T p) (nxB I T p)) 6) else if inL (bytA I T (nxB I T p)) 48 57 = true then (if 2 < (dgR I T (nxB I T p) (T - nxB I T p) (nxB I T p) (nI 0)).1 - nxB I T p then -1 else nI 100 + (dgR I T (nxB I T p) (T - nxB I T p) (nxB I T p) (nI 0)).2) else if bytA I T (nxB I T p) = nI 59 then nI 200 else if bytA I T (nxB I T p) = -1 then nI 300 else -1
section
variable {X : pX} {d : Nat} {I : pI} {Q : Option Value → pG → pI → Prop} {N : Nat → Int32} {G : pG}
theorem c_byte3 {T i : Nat} {p b v : Int32} (hT : I 102 6 = nI T) (hT2 : T ≤ 60) (hi : i ≤ 60) : Call X (d + 1) 205 [.ref 102, .int (nI i)] G0 (row (st3 I p b v) 103 N) Q ↔ Q (some (.int (bytA I T i))) G0 (row (st3 I p b v) 103 N) := by
  rw [c_byteAt (I := st3 I p b v) hT hT2 hi, bytA_3]
theorem c_nxSkip {T : Nat} {b v : Int32} (hT : I 102 6 = nI T) (hT2 : T ≤ 60) : ∀ r q, q + r = T → (At X (d + 1) 207 0 [some (.ref 102), none, none] [] G0 (row (st3 I (nI q) b v) 103 N) Q ↔ At X (d + 1) 207 39 [some (.ref 102), none, none] [] G0 (row (st3 I (nI (skR I T r q)) b v) 103 N) Q) := by
  intro r
  induction r with
  | zero =>
    intro q hq
    have e1 : bytA I T q = -1 := by rw [show q = T by omega]; exact bytA_T
    have n1 : ((-1 : Int32) = nI 32) = False := by simp; decide
    have n2 : ((-1 : Int32) = nI 10) = False := by simp; decide
    rw [s207_0]
    simp (disch := first | exact ok_i | exact ok_r | exact ok_n | exact cat_i | exact cat_r | exact t103 | exact t106 | exact t109 | exact t110 | exact t111 | exact t112 | exact ro_0 | exact ro_1 | omega | assumption | (refine i103 ?_; omega) | (refine i106 ?_; omega) | (refine i109 ?_; omega) | (refine i110 ?_; omega) | (refine i111 ?_; omega) | (refine i112 ?_; omega) | (simp only [List.map_cons, List.map_nil, List.sum_cons, List.sum_nil, cat_i, cat_r, cat_l, Nat.reduceAdd, Nat.reduceLeDiff]; done) | decide) only [s207_1, s207_2, s207_5, s207_8, s207_10, s207_13, s207_14, s207_15, s207_18, s207_21, s207_23, tl_s, tl_n, nI_add, pk_mul, i_cl, row_s, u2_row, i_le, i_lt, i_eq, if_true, if_false, Nat.le_refl, Nat.reduceEqDiff, Nat.reduceLeDiff, row_n, st3_g9, c_byte3 hT hT2, e1, n1, n2, skR]
  | succ r ih =>
    intro q hq
    have ih' := ih (q + 1) (by omega)
    unfold skR
    rw [s207_0]
    simp (disch := first | exact ok_i | exact ok_r | exact ok_n | exact cat_i | exact cat_r | exact t103 | exact t106 | exact t109 | exact t110 | exact t111 | exact t112 | exact ro_0 | exact ro_1 | omega | assumption | (refine i103 ?_; omega) | (refine i106 ?_; omega) | (refine i109 ?_; omega) | (refine i110 ?_; omega) | (refine i111 ?_; omega) | (refine i112 ?_; omega) | (simp only [List.map_cons, List.map_nil, List.sum_cons, List.sum_nil, cat_i, cat_r, cat_l, Nat.reduceAdd, Nat.reduceLeDiff]; done) | decide) only [s207_1, s207_2, s207_5, s207_8, s207_10, tl_s, tl_n, nI_add, pk_mul, i_cl, row_s, u2_row, i_le, i_lt, i_eq, if_true, if_false, Nat.le_refl, Nat.reduceEqDiff, Nat.reduceLeDiff, row_n, st3_g9, c_byte3 hT hT2]
    by_cases h1 : bytA I T q = nI 32
    · simp (disch := first | exact ok_i | exact ok_r | exact ok_n | exact cat_i | exact cat_r | exact t103 | exact t106 | exact t109 | exact t110 | exact t111 | exact t112 | exact ro_0 | exact ro_1 | omega | assumption | (refine i103 ?_; omega) | (refine i106 ?_; omega) | (refine i109 ?_; omega) | (refine i110 ?_; omega) | (refine i111 ?_; omega) | (refine i112 ?_; omega) | (simp only [List.map_cons, List.map_nil, List.sum_cons, List.sum_nil, cat_i, cat_r, cat_l, Nat.reduceAdd, Nat.reduceLeDiff]; done) | decide) only [h1, s207_26, s207_27, s207_28, s207_31, s207_32, s207_33, s207_36, tl_s, tl_n, nI_add, pk_mul, i_cl, row_s, u2_row, i_le, i_lt, i_eq, if_true, if_false, Nat.le_refl, Nat.reduceEqDiff, Nat.reduceLeDiff, row_n, st3_g9, st3_9, u2_n, ih', true_or]
    · simp (disch := first | exact ok_i | exact ok_r | exact ok_n | exact cat_i | exact cat_r | exact t103 | exact t106 | exact t109 | exact t110 | exact t111 | exact t112 | exact ro_0 | exact ro_1 | omega | assumption | (refine i103 ?_; omega) | (refine i106 ?_; omega) | (refine i109 ?_; omega) | (refine i110 ?_; omega) | (refine i111 ?_; omega) | (refine i112 ?_; omega) | (simp only [List.map_cons, List.map_nil, List.sum_cons, List.sum_nil, cat_i, cat_r, cat_l, Nat.reduceAdd, Nat.reduceLeDiff]; done) | decide) only [h1, s207_13, s207_14, s207_15, s207_18, s207_21, s207_23, tl_s, tl_n, nI_add, pk_mul, i_cl, row_s, u2_row, i_le, i_lt, i_eq, if_true, if_false, Nat.le_refl, Nat.reduceEqDiff, Nat.reduceLeDiff, row_n, st3_g9, c_byte3 hT hT2, false_or]
      by_cases h2 : bytA I T q = nI 10
      · simp (disch := first | exact ok_i | exact ok_r | exact ok_n | exact cat_i | exact cat_r | exact t103 | exact t106 | exact t109 | exact t110 | exact t111 | exact t112 | exact ro_0 | exact ro_1 | omega | assumption | (refine i103 ?_; omega) | (refine i106 ?_; omega) | (refine i109 ?_; omega) | (refine i110 ?_; omega) | (refine i111 ?_; omega) | (refine i112 ?_; omega) | (simp only [List.map_cons, List.map_nil, List.sum_cons, List.sum_nil, cat_i, cat_r, cat_l, Nat.reduceAdd, Nat.reduceLeDiff]; done) | decide) only [h2, s207_26, s207_27, s207_28, s207_31, s207_32, s207_33, s207_36, tl_s, tl_n, nI_add, pk_mul, i_cl, row_s, u2_row, i_le, i_lt, i_eq, if_true, if_false, Nat.le_refl, Nat.reduceEqDiff, Nat.reduceLeDiff, row_n, st3_g9, st3_9, u2_n, ih']
      · simp (disch := first | exact ok_i | exact ok_r | exact ok_n | exact cat_i | exact cat_r | exact t103 | exact t106 | exact t109 | exact t110 | exact t111 | exact t112 | exact ro_0 | exact ro_1 | omega | assumption | (refine i103 ?_; omega) | (refine i106 ?_; omega) | (refine i109 ?_; omega) | (refine i110 ?_; omega) | (refine i111 ?_; omega) | (refine i112 ?_; omega) | (simp only [List.map_cons, List.map_nil, List.sum_cons, List.sum_nil, cat_i, cat_r, cat_l, Nat.reduceAdd, Nat.reduceLeDiff]; done) | decide) only [h2, tl_s, tl_n, nI_add, pk_mul, i_cl, row_s, u2_row, i_le, i_lt, i_eq, if_true, if_false, Nat.le_refl, Nat.reduceEqDiff, Nat.reduceLeDiff]
theorem c_nxWord {T : Nat} {b v c : Int32} (hT : I 102 6 = nI T) (hT2 : T ≤ 60) : ∀ r q, q + r = T → (At X (d + 1) 207 86 [some (.ref 102), some (.int c), none] [] G0 (row (st3 I (nI q) b v) 103 N) Q ↔ At X (d + 1) 207 120 [some (.ref 102), some (.int c), none] [] G0 (row (st3 I (nI (lwR I T r q)) b v) 103 N) Q) := by
  intro r
  induction r with
  | zero =>
    intro q hq
    have e1 : bytA I T q = -1 := by rw [show q = T by omega]; exact bytA_T
    have n1 : inL (-1) 97 122 = false := by decide
    rw [s207_86]
    simp (disch := first | exact ok_i | exact ok_r | exact ok_n | exact cat_i | exact cat_r | exact t103 | exact t106 | exact t109 | exact t110 | exact t111 | exact t112 | exact ro_0 | exact ro_1 | omega | assumption | (refine i103 ?_; omega) | (refine i106 ?_; omega) | (refine i109 ?_; omega) | (refine i110 ?_; omega) | (refine i111 ?_; omega) | (refine i112 ?_; omega) | (simp only [List.map_cons, List.map_nil, List.sum_cons, List.sum_nil, cat_i, cat_r, cat_l, Nat.reduceAdd, Nat.reduceLeDiff]; done) | decide) only [s207_87, s207_88, s207_91, s207_94, s207_95, s207_98, s207_101, s207_104, tl_s, tl_n, nI_add, pk_mul, i_cl, row_s, u2_row, i_le, i_lt, i_eq, if_true, if_false, Nat.le_refl, Nat.reduceEqDiff, Nat.reduceLeDiff, row_n, st3_g9, c_byte3 hT hT2, e1, c_inL, n1, b2i_0, lwR]
  | succ r ih =>
    intro q hq
    have ih' := ih (q + 1) (by omega)
    unfold lwR
    rw [s207_86]
    simp (disch := first | exact ok_i | exact ok_r | exact ok_n | exact cat_i | exact cat_r | exact t103 | exact t106 | exact t109 | exact t110 | exact t111 | exact t112 | exact ro_0 | exact ro_1 | omega | assumption | (refine i103 ?_; omega) | (refine i106 ?_; omega) | (refine i109 ?_; omega) | (refine i110 ?_; omega) | (refine i111 ?_; omega) | (refine i112 ?_; omega) | (simp only [List.map_cons, List.map_nil, List.sum_cons, List.sum_nil, cat_i, cat_r, cat_l, Nat.reduceAdd, Nat.reduceLeDiff]; done) | decide) only [s207_87, s207_88, s207_91, s207_94, s207_95, s207_98, s207_101, s207_104, tl_s, tl_n, nI_add, pk_mul, i_cl, row_s, u2_row, i_le, i_lt, i_eq, if_true, if_false, Nat.le_refl, Nat.reduceEqDiff, Nat.reduceLeDiff, row_n, st3_g9, c_byte3 hT hT2, c_inL, b2i_0]
    cases h1 : inL (bytA I T q) 97 122
    · simp (disch := first | exact ok_i | exact ok_r | exact ok_n | exact cat_i | exact cat_r | exact t103 | exact t106 | exact t109 | exact t110 | exact t111 | exact t112 | exact ro_0 | exact ro_1 | omega | assumption | (refine i103 ?_; omega) | (refine i106 ?_; omega) | (refine i109 ?_; omega) | (refine i110 ?_; omega) | (refine i111 ?_; omega) | (refine i112 ?_; omega) | (simp only [List.map_cons, List.map_nil, List.sum_cons, List.sum_nil, cat_i, cat_r, cat_l, Nat.reduceAdd, Nat.reduceLeDiff]; done) | decide) only [tl_s, tl_n, nI_add, pk_mul, i_cl, row_s, u2_row, i_le, i_lt, i_eq, if_true, if_false, Nat.le_refl, Nat.reduceEqDiff, Nat.reduceLeDiff, Bool.false_eq_true]
    · simp (disch := first | exact ok_i | exact ok_r | exact ok_n | exact cat_i | exact cat_r | exact t103 | exact t106 | exact t109 | exact t110 | exact t111 | exact t112 | exact ro_0 | exact ro_1 | omega | assumption | (refine i103 ?_; omega) | (refine i106 ?_; omega) | (refine i109 ?_; omega) | (refine i110 ?_; omega) | (refine i111 ?_; omega) | (refine i112 ?_; omega) | (simp only [List.map_cons, List.map_nil, List.sum_cons, List.sum_nil, cat_i, cat_r, cat_l, Nat.reduceAdd, Nat.reduceLeDiff]; done) | decide) only [s207_107, s207_108, s207_109, s207_112, s207_113, s207_114, s207_117, tl_s, tl_n, nI_add, pk_mul, i_cl, row_s, u2_row, i_le, i_lt, i_eq, if_true, if_false, Nat.le_refl, Nat.reduceEqDiff, Nat.reduceLeDiff, row_n, st3_g9, st3_9, u2_n, ih', Bool.true_eq_false]
theorem c_nxDig {T b : Nat} {v c : Int32} (hT : I 102 6 = nI T) (hT2 : T ≤ 60) : ∀ r q, q + r = T → b ≤ q → ∀ u : Int32, (At X (d + 1) 207 155 [some (.ref 102), some (.int c), some (.int u)] [] G0 (row (st3 I (nI q) (nI b) v) 103 N) Q ↔ At X (d + 1) 207 223 [some (.ref 102), some (.int c), some (.int (dgR I T b r q u).2)] [] G0 (row (st3 I (nI (dgR I T b r q u).1) (nI b) v) 103 N) Q) := by
  intro r
  induction r with
  | zero =>
    intro q hq hb u
    have e1 : bytA I T q = -1 := by rw [show q = T by omega]; exact bytA_T
    have n1 : inL (-1) 48 57 = false := by decide
    rw [s207_155]
    simp (disch := first | exact ok_i | exact ok_r | exact ok_n | exact cat_i | exact cat_r | exact t103 | exact t106 | exact t109 | exact t110 | exact t111 | exact t112 | exact ro_0 | exact ro_1 | omega | assumption | (refine i103 ?_; omega) | (refine i106 ?_; omega) | (refine i109 ?_; omega) | (refine i110 ?_; omega) | (refine i111 ?_; omega) | (refine i112 ?_; omega) | (simp only [List.map_cons, List.map_nil, List.sum_cons, List.sum_nil, cat_i, cat_r, cat_l, Nat.reduceAdd, Nat.reduceLeDiff]; done) | decide) only [s207_156, s207_157, s207_160, s207_163, s207_164, s207_167, s207_170, s207_173, tl_s, tl_n, nI_add, pk_mul, i_cl, row_s, u2_row, i_le, i_lt, i_eq, if_true, if_false, Nat.le_refl, Nat.reduceEqDiff, Nat.reduceLeDiff, row_n, st3_g9, c_byte3 hT hT2, e1, c_inL, n1, b2i_0, dgR]
  | succ r ih =>
    intro q hq hb u
    have ih' := ih (q + 1) (by omega) (by omega)
    unfold dgR
    rw [s207_155]
    simp (disch := first | exact ok_i | exact ok_r | exact ok_n | exact cat_i | exact cat_r | exact t103 | exact t106 | exact t109 | exact t110 | exact t111 | exact t112 | exact ro_0 | exact ro_1 | omega | assumption | (refine i103 ?_; omega) | (refine i106 ?_; omega) | (refine i109 ?_; omega) | (refine i110 ?_; omega) | (refine i111 ?_; omega) | (refine i112 ?_; omega) | (simp only [List.map_cons, List.map_nil, List.sum_cons, List.sum_nil, cat_i, cat_r, cat_l, Nat.reduceAdd, Nat.reduceLeDiff]; done) | decide) only [s207_156, s207_157, s207_160, s207_163, s207_164, s207_167, s207_170, s207_173, tl_s, tl_n, nI_add, pk_mul, i_cl, row_s, u2_row, i_le, i_lt, i_eq, if_true, if_false, Nat.le_refl, Nat.reduceEqDiff, Nat.reduceLeDiff, row_n, st3_g9, c_byte3 hT hT2, c_inL, b2i_0]
    cases h1 : inL (bytA I T q) 48 57
    · simp (disch := first | exact ok_i | exact ok_r | exact ok_n | exact cat_i | exact cat_r | exact t103 | exact t106 | exact t109 | exact t110 | exact t111 | exact t112 | exact ro_0 | exact ro_1 | omega | assumption | (refine i103 ?_; omega) | (refine i106 ?_; omega) | (refine i109 ?_; omega) | (refine i110 ?_; omega) | (refine i111 ?_; omega) | (refine i112 ?_; omega) | (simp only [List.map_cons, List.map_nil, List.sum_cons, List.sum_nil, cat_i, cat_r, cat_l, Nat.reduceAdd, Nat.reduceLeDiff]; done) | decide) only [tl_s, tl_n, nI_add, pk_mul, i_cl, row_s, u2_row, i_le, i_lt, i_eq, if_true, if_false, Nat.le_refl, Nat.reduceEqDiff, Nat.reduceLeDiff, Bool.false_eq_true]
    · simp (disch := first | exact ok_i | exact ok_r | exact ok_n | exact cat_i | exact cat_r | exact t103 | exact t106 | exact t109 | exact t110 | exact t111 | exact t112 | exact ro_0 | exact ro_1 | omega | assumption | (refine i103 ?_; omega) | (refine i106 ?_; omega) | (refine i109 ?_; omega) | (refine i110 ?_; omega) | (refine i111 ?_; omega) | (refine i112 ?_; omega) | (simp only [List.map_cons, List.map_nil, List.sum_cons, List.sum_nil, cat_i, cat_r, cat_l, Nat.reduceAdd, Nat.reduceLeDiff]; done) | decide) only [s207_176, s207_177, s207_180, s207_181, s207_184, s207_185, s207_186, tl_s, tl_n, nI_add, pk_mul, i_cl, row_s, u2_row, i_le, i_lt, i_eq, if_true, if_false, Nat.le_refl, Nat.reduceEqDiff, Nat.reduceLeDiff, row_n, st3_g9, st3_g10, i_sub, Bool.true_eq_false]
      by_cases h2 : q - b < 2
      · have h2' : ¬ 2 ≤ q - b := by omega
        simp (disch := first | exact ok_i | exact ok_r | exact ok_n | exact cat_i | exact cat_r | exact t103 | exact t106 | exact t109 | exact t110 | exact t111 | exact t112 | exact ro_0 | exact ro_1 | omega | assumption | (refine i103 ?_; omega) | (refine i106 ?_; omega) | (refine i109 ?_; omega) | (refine i110 ?_; omega) | (refine i111 ?_; omega) | (refine i112 ?_; omega) | (simp only [List.map_cons, List.map_nil, List.sum_cons, List.sum_nil, cat_i, cat_r, cat_l, Nat.reduceAdd, Nat.reduceLeDiff]; done) | decide) only [h2, h2', s207_189, s207_191, s207_192, s207_193, s207_194, s207_195, s207_198, s207_201, s207_202, s207_204, s207_205, s207_208, s207_209, s207_210, s207_211, s207_212, s207_215, s207_216, s207_217, s207_220, tl_s, tl_n, nI_add, pk_mul, i_cl, row_s, u2_row, i_le, i_lt, i_eq, if_true, if_false, Nat.le_refl, Nat.reduceEqDiff, Nat.reduceLeDiff, row_n, st3_g9, st3_9, u2_n, c_byte3 hT hT2, ih']
      · have h2' : 2 ≤ q - b := by omega
        simp (disch := first | exact ok_i | exact ok_r | exact ok_n | exact cat_i | exact cat_r | exact t103 | exact t106 | exact t109 | exact t110 | exact t111 | exact t112 | exact ro_0 | exact ro_1 | omega | assumption | (refine i103 ?_; omega) | (refine i106 ?_; omega) | (refine i109 ?_; omega) | (refine i110 ?_; omega) | (refine i111 ?_; omega) | (refine i112 ?_; omega) | (simp only [List.map_cons, List.map_nil, List.sum_cons, List.sum_nil, cat_i, cat_r, cat_l, Nat.reduceAdd, Nat.reduceLeDiff]; done) | decide) only [h2, h2', s207_208, s207_209, s207_210, s207_211, s207_212, s207_215, s207_216, s207_217, s207_220, tl_s, tl_n, nI_add, pk_mul, i_cl, row_s, u2_row, i_le, i_lt, i_eq, if_true, if_false, Nat.le_refl, Nat.reduceEqDiff, Nat.reduceLeDiff, row_n, st3_g9, st3_9, u2_n, ih']
theorem c_next {T p : Nat} {b v : Int32} (hT : I 102 6 = nI T) (hT2 : T ≤ 60) (hp : p ≤ T) : Call X (d + 2) 207 [.ref 102] G0 (row (st3 I (nI p) b v) 103 N) Q ↔ Q none G0 (row (st3 I (nI (nxE I T p)) (nI (nxB I T p)) (nxT I T p)) 103 N) := by
  have k1 := skR_le (I := I) (T := T) (r := T - p) (q := p)
  unfold nxE nxT
  simp (disch := first | exact ok_i | exact ok_r | exact ok_n | exact cat_i | exact cat_r | exact t103 | exact t106 | exact t109 | exact t110 | exact t111 | exact t112 | exact ro_0 | exact ro_1 | omega | assumption | (refine i103 ?_; omega) | (refine i106 ?_; omega) | (refine i109 ?_; omega) | (refine i110 ?_; omega) | (refine i111 ?_; omega) | (refine i112 ?_; omega) | (simp only [List.map_cons, List.map_nil, List.sum_cons, List.sum_nil, cat_i, cat_r, cat_l, Nat.reduceAdd, Nat.reduceLeDiff]; done) | decide) only [e207, tl_s, tl_n, nI_add, pk_mul, i_cl, row_s, u2_row, i_le, i_lt, i_eq, if_true, if_false, Nat.le_refl, Nat.reduceEqDiff, Nat.reduceLeDiff]
  rw [c_nxSkip hT hT2 (T - p) p (by omega)]
  have hB : skR I T (T - p) p = nxB I T p := rfl
  rw [hB] at k1 ⊢
  generalize nxB I T p = q at *
  have kw := lwR_le (I := I) (T := T) (r := T - q) (q := q)
  have kd := dgR_le (I := I) (T := T) (b := q) (r := T - q) (q := q) (v := nI 0)
  simp (disch := first | exact ok_i | exact ok_r | exact ok_n | exact cat_i | exact cat_r | exact t103 | exact t106 | exact t109 | exact t110 | exact t111 | exact t112 | exact ro_0 | exact ro_1 | omega | assumption | (refine i103 ?_; omega) | (refine i106 ?_; omega) | (refine i109 ?_; omega) | (refine i110 ?_; omega) | (refine i111 ?_; omega) | (refine i112 ?_; omega) | (simp only [List.map_cons, List.map_nil, List.sum_cons, List.sum_nil, cat_i, cat_r, cat_l, Nat.reduceAdd, Nat.reduceLeDiff]; done) | decide) only [s207_39, s207_40, s207_41, s207_44, s207_47, s207_48, s207_49, s207_52, s207_55, s207_56, s207_57, s207_58, s207_59, tl_s, tl_n, nI_add, pk_mul, i_cl, row_s, u2_row, i_le, i_lt, i_eq, if_true, if_false, Nat.le_refl, Nat.reduceEqDiff, Nat.reduceLeDiff, row_n, st3_g9, st3_10, u2_n, c_byte3 hT hT2]
  have rest : ∀ v2 : Int32, (v2 = if bytA I T q = -1 then nI 300 else -1) → (At X (d + 1) 207 69 [some (.ref 102), some (.int (bytA I T q)), none] [.int v2, .ref 102] G0 (row (st3 I (nI q) (nI q) v) 103 N) Q ↔ Q none G0 (row (st3 I (nI (if inL (bytA I T q) 97 122 = true then lwR I T (T - q) q else if inL (bytA I T q) 48 57 = true then (dgR I T q (T - q) q (nI 0)).1 else if bytA I T q = nI 59 then q + 1 else q)) (nI q) (if inL (bytA I T q) 97 122 = true then o2i (wfR I q (lwR I T (T - q) q) 6) else if inL (bytA I T q) 48 57 = true then (if 2 < (dgR I T q (T - q) q (nI 0)).1 - q then -1 else nI 100 + (dgR I T q (T - q) q (nI 0)).2) else if bytA I T q = nI 59 then nI 200 else if bytA I T q = -1 then nI 300 else -1)) 103 N)) := by
    intro v2 hv2
    rw [← hv2]
    simp (disch := first | exact ok_i | exact ok_r | exact ok_n | exact cat_i | exact cat_r | exact t103 | exact t106 | exact t109 | exact t110 | exact t111 | exact t112 | exact ro_0 | exact ro_1 | omega | assumption | (refine i103 ?_; omega) | (refine i106 ?_; omega) | (refine i109 ?_; omega) | (refine i110 ?_; omega) | (refine i111 ?_; omega) | (refine i112 ?_; omega) | (simp only [List.map_cons, List.map_nil, List.sum_cons, List.sum_nil, cat_i, cat_r, cat_l, Nat.reduceAdd, Nat.reduceLeDiff]; done) | decide) only [s207_69, s207_72, s207_73, s207_74, s207_77, s207_80, s207_83, tl_s, tl_n, nI_add, pk_mul, i_cl, row_s, u2_row, i_le, i_lt, i_eq, if_true, if_false, Nat.le_refl, Nat.reduceEqDiff, Nat.reduceLeDiff, st3_11, u2_n, c_inL, b2i_0]
    cases h1 : inL (bytA I T q) 97 122
    · simp (disch := first | exact ok_i | exact ok_r | exact ok_n | exact cat_i | exact cat_r | exact t103 | exact t106 | exact t109 | exact t110 | exact t111 | exact t112 | exact ro_0 | exact ro_1 | omega | assumption | (refine i103 ?_; omega) | (refine i106 ?_; omega) | (refine i109 ?_; omega) | (refine i110 ?_; omega) | (refine i111 ?_; omega) | (refine i112 ?_; omega) | (simp only [List.map_cons, List.map_nil, List.sum_cons, List.sum_nil, cat_i, cat_r, cat_l, Nat.reduceAdd, Nat.reduceLeDiff]; done) | decide) only [s207_139, s207_140, s207_141, s207_144, s207_147, s207_150, tl_s, tl_n, nI_add, pk_mul, i_cl, row_s, u2_row, i_le, i_lt, i_eq, if_true, if_false, Nat.le_refl, Nat.reduceEqDiff, Nat.reduceLeDiff, c_inL, b2i_0, Bool.false_eq_true]
      cases h2 : inL (bytA I T q) 48 57
      · simp (disch := first | exact ok_i | exact ok_r | exact ok_n | exact cat_i | exact cat_r | exact t103 | exact t106 | exact t109 | exact t110 | exact t111 | exact t112 | exact ro_0 | exact ro_1 | omega | assumption | (refine i103 ?_; omega) | (refine i106 ?_; omega) | (refine i109 ?_; omega) | (refine i110 ?_; omega) | (refine i111 ?_; omega) | (refine i112 ?_; omega) | (simp only [List.map_cons, List.map_nil, List.sum_cons, List.sum_nil, cat_i, cat_r, cat_l, Nat.reduceAdd, Nat.reduceLeDiff]; done) | decide) only [s207_251, s207_252, s207_254, tl_s, tl_n, nI_add, pk_mul, i_cl, row_s, u2_row, i_le, i_lt, i_eq, if_true, if_false, Nat.le_refl, Nat.reduceEqDiff, Nat.reduceLeDiff, Bool.false_eq_true]
        by_cases h3 : bytA I T q = nI 59
        · simp (disch := first | exact ok_i | exact ok_r | exact ok_n | exact cat_i | exact cat_r | exact t103 | exact t106 | exact t109 | exact t110 | exact t111 | exact t112 | exact ro_0 | exact ro_1 | omega | assumption | (refine i103 ?_; omega) | (refine i106 ?_; omega) | (refine i109 ?_; omega) | (refine i110 ?_; omega) | (refine i111 ?_; omega) | (refine i112 ?_; omega) | (simp only [List.map_cons, List.map_nil, List.sum_cons, List.sum_nil, cat_i, cat_r, cat_l, Nat.reduceAdd, Nat.reduceLeDiff]; done) | decide) only [h3, s207_257, s207_258, s207_261, s207_264, s207_265, s207_266, s207_269, s207_270, s207_271, s207_274, tl_s, tl_n, nI_add, pk_mul, i_cl, row_s, u2_row, i_le, i_lt, i_eq, if_true, if_false, Nat.le_refl, Nat.reduceEqDiff, Nat.reduceLeDiff, row_n, st3_g9, st3_9, st3_11, u2_n]
        · simp (disch := first | exact ok_i | exact ok_r | exact ok_n | exact cat_i | exact cat_r | exact t103 | exact t106 | exact t109 | exact t110 | exact t111 | exact t112 | exact ro_0 | exact ro_1 | omega | assumption | (refine i103 ?_; omega) | (refine i106 ?_; omega) | (refine i109 ?_; omega) | (refine i110 ?_; omega) | (refine i111 ?_; omega) | (refine i112 ?_; omega) | (simp only [List.map_cons, List.map_nil, List.sum_cons, List.sum_nil, cat_i, cat_r, cat_l, Nat.reduceAdd, Nat.reduceLeDiff]; done) | decide) only [h3, s207_274, tl_s, tl_n, nI_add, pk_mul, i_cl, row_s, u2_row, i_le, i_lt, i_eq, if_true, if_false, Nat.le_refl, Nat.reduceEqDiff, Nat.reduceLeDiff]
      · simp (disch := first | exact ok_i | exact ok_r | exact ok_n | exact cat_i | exact cat_r | exact t103 | exact t106 | exact t109 | exact t110 | exact t111 | exact t112 | exact ro_0 | exact ro_1 | omega | assumption | (refine i103 ?_; omega) | (refine i106 ?_; omega) | (refine i109 ?_; omega) | (refine i110 ?_; omega) | (refine i111 ?_; omega) | (refine i112 ?_; omega) | (simp only [List.map_cons, List.map_nil, List.sum_cons, List.sum_nil, cat_i, cat_r, cat_l, Nat.reduceAdd, Nat.reduceLeDiff]; done) | decide) only [s207_153, s207_154, tl_s, tl_n, nI_add, pk_mul, i_cl, row_s, u2_row, i_le, i_lt, i_eq, if_true, if_false, Nat.le_refl, Nat.reduceEqDiff, Nat.reduceLeDiff, Bool.true_eq_false]
        rw [c_nxDig hT hT2 (T - q) q (by omega) (Nat.le_refl _)]
        generalize dgR I T q (T - q) q (nI 0) = s at *
        simp (disch := first | exact ok_i | exact ok_r | exact ok_n | exact cat_i | exact cat_r | exact t103 | exact t106 | exact t109 | exact t110 | exact t111 | exact t112 | exact ro_0 | exact ro_1 | omega | assumption | (refine i103 ?_; omega) | (refine i106 ?_; omega) | (refine i109 ?_; omega) | (refine i110 ?_; omega) | (refine i111 ?_; omega) | (refine i112 ?_; omega) | (simp only [List.map_cons, List.map_nil, List.sum_cons, List.sum_nil, cat_i, cat_r, cat_l, Nat.reduceAdd, Nat.reduceLeDiff]; done) | decide) only [s207_223, s207_224, s207_225, s207_228, s207_229, s207_232, s207_233, s207_234, tl_s, tl_n, nI_add, pk_mul, i_cl, row_s, u2_row, i_le, i_lt, i_eq, if_true, if_false, Nat.le_refl, Nat.reduceEqDiff, Nat.reduceLeDiff, row_n, st3_g9, st3_g10, i_sub]
        by_cases h3 : 2 < s.1 - q
        · have h3' : ¬ s.1 - q ≤ 2 := by omega
          simp (disch := first | exact ok_i | exact ok_r | exact ok_n | exact cat_i | exact cat_r | exact t103 | exact t106 | exact t109 | exact t110 | exact t111 | exact t112 | exact ro_0 | exact ro_1 | omega | assumption | (refine i103 ?_; omega) | (refine i106 ?_; omega) | (refine i109 ?_; omega) | (refine i110 ?_; omega) | (refine i111 ?_; omega) | (refine i112 ?_; omega) | (simp only [List.map_cons, List.map_nil, List.sum_cons, List.sum_nil, cat_i, cat_r, cat_l, Nat.reduceAdd, Nat.reduceLeDiff]; done) | decide) only [h3, h3', s207_237, s207_238, s207_241, s207_243, s207_244, s207_245, s207_248, s207_274, tl_s, tl_n, nI_add, pk_mul, i_cl, row_s, u2_row, i_le, i_lt, i_eq, if_true, if_false, Nat.le_refl, Nat.reduceEqDiff, Nat.reduceLeDiff, st3_11, u2_n]
        · have h3' : s.1 - q ≤ 2 := by omega
          simp (disch := first | exact ok_i | exact ok_r | exact ok_n | exact cat_i | exact cat_r | exact t103 | exact t106 | exact t109 | exact t110 | exact t111 | exact t112 | exact ro_0 | exact ro_1 | omega | assumption | (refine i103 ?_; omega) | (refine i106 ?_; omega) | (refine i109 ?_; omega) | (refine i110 ?_; omega) | (refine i111 ?_; omega) | (refine i112 ?_; omega) | (simp only [List.map_cons, List.map_nil, List.sum_cons, List.sum_nil, cat_i, cat_r, cat_l, Nat.reduceAdd, Nat.reduceLeDiff]; done) | decide) only [h3, h3', s207_241, s207_243, s207_244, s207_245, s207_248, s207_274, tl_s, tl_n, nI_add, pk_mul, i_cl, row_s, u2_row, i_le, i_lt, i_eq, if_true, if_false, Nat.le_refl, Nat.reduceEqDiff, Nat.reduceLeDiff, st3_11, u2_n]
    · simp only [if_true, if_false, Bool.true_eq_false]
      rw [c_nxWord hT hT2 (T - q) q (by omega)]
      generalize lwR I T (T - q) q = e at *
      have hw := fun (Q' : Option Value → pG → pI → Prop) => c_wordFrom (X := X) (d := d) (I := st3 I (nI e) (nI q) v2) (Q := Q') (N := N) (b := q) (e := e) (by omega) (by omega)
      rw [wfR_3] at hw
      simp (disch := first | exact ok_i | exact ok_r | exact ok_n | exact cat_i | exact cat_r | exact t103 | exact t106 | exact t109 | exact t110 | exact t111 | exact t112 | exact ro_0 | exact ro_1 | omega | assumption | (refine i103 ?_; omega) | (refine i106 ?_; omega) | (refine i109 ?_; omega) | (refine i110 ?_; omega) | (refine i111 ?_; omega) | (refine i112 ?_; omega) | (simp only [List.map_cons, List.map_nil, List.sum_cons, List.sum_nil, cat_i, cat_r, cat_l, Nat.reduceAdd, Nat.reduceLeDiff]; done) | decide) only [s207_120, s207_121, s207_122, s207_123, s207_126, s207_127, s207_130, s207_133, s207_136, s207_274, tl_s, tl_n, nI_add, pk_mul, i_cl, row_s, u2_row, i_le, i_lt, i_eq, if_true, if_false, Nat.le_refl, Nat.reduceEqDiff, Nat.reduceLeDiff, row_n, st3_g9, st3_g10, st3_11, u2_n, hw]
  by_cases h0 : bytA I T q = -1
  · rw [if_pos h0]
    simp (disch := first | exact ok_i | exact ok_r | exact ok_n | exact cat_i | exact cat_r | exact t103 | exact t106 | exact t109 | exact t110 | exact t111 | exact t112 | exact ro_0 | exact ro_1 | omega | assumption | (refine i103 ?_; omega) | (refine i106 ?_; omega) | (refine i109 ?_; omega) | (refine i110 ?_; omega) | (refine i111 ?_; omega) | (refine i112 ?_; omega) | (simp only [List.map_cons, List.map_nil, List.sum_cons, List.sum_nil, cat_i, cat_r, cat_l, Nat.reduceAdd, Nat.reduceLeDiff]; done) | decide) only [s207_62, s207_65, tl_s, tl_n, nI_add, pk_mul, i_cl, row_s, u2_row, i_le, i_lt, i_eq, if_true, if_false, Nat.le_refl, Nat.reduceEqDiff, Nat.reduceLeDiff]
    exact rest _ (by rw [if_pos h0])
  · rw [if_neg h0]
    simp (disch := first | exact ok_i | exact ok_r | exact ok_n | exact cat_i | exact cat_r | exact t103 | exact t106 | exact t109 | exact t110 | exact t111 | exact t112 | exact ro_0 | exact ro_1 | omega | assumption | (refine i103 ?_; omega) | (refine i106 ?_; omega) | (refine i109 ?_; omega) | (refine i110 ?_; omega) | (refine i111 ?_; omega) | (refine i112 ?_; omega) | (simp only [List.map_cons, List.map_nil, List.sum_cons, List.sum_nil, cat_i, cat_r, cat_l, Nat.reduceAdd, Nat.reduceLeDiff]; done) | decide) only [s207_68, tl_s, tl_n, nI_add, pk_mul, i_cl, row_s, u2_row, i_le, i_lt, i_eq, if_true, if_false, Nat.le_refl, Nat.reduceEqDiff, Nat.reduceLeDiff]
    exact rest _ (by rw [if_neg h0])
end
