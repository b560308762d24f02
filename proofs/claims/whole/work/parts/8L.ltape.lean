/-! the class: the tape is fed, and read token by token -/
theorem t89 : tagW G0 89 = 5 := rfl
theorem t90 : tagW G0 90 = 20 := rfl
theorem t91 : tagW G0 91 = 20 := rfl
theorem t92 : tagW G0 92 = 20 := rfl
theorem r89_2 : refW G0 89 2 = .ref 90 := rfl
theorem r89_3 : refW G0 89 3 = .ref 91 := rfl
theorem r89_4 : refW G0 89 4 = .ref 92 := rfl
theorem i90 {j : Nat} (h : j < 60) : inb (nI j) (lenW G0 90) = true := i_inb h (by decide)
theorem i91 {j : Nat} (h : j < 60) : inb (nI j) (lenW G0 91) = true := i_inb h (by decide)
theorem i92 {j : Nat} (h : j < 180) : inb (nI j) (lenW G0 92) = true := i_inb h (by decide)
/-- start, end, token of the tape -/
def tpI (I : pI) (b e : Nat) (t : Int32) : pI := fun a j => if a = 89 then (if j = 5 then t else if j = 6 then nI b else if j = 7 then nI e else I a j) else I a j
section
variable {I : pI} {b e q : Nat} {t x : Int32}
theorem tp_5 : upd2 (tpI I b e t) 89 5 x = tpI I b e x := by
  funext a j
  unfold upd2 tpI
  by_cases h : a = 89 <;> by_cases h2 : j = 5 <;> simp [h, h2]
theorem tp_6 : upd2 (tpI I b e t) 89 6 (nI q) = tpI I q e t := by
  funext a j
  unfold upd2 tpI
  by_cases h : a = 89 <;> by_cases h2 : j = 6 <;> simp [h, h2]
theorem tp_7 : upd2 (tpI I b e t) 89 7 (nI q) = tpI I b q t := by
  funext a j
  unfold upd2 tpI
  by_cases h : a = 89 <;> by_cases h2 : j = 7 <;> simp [h, h2]
theorem tp_g5 : tpI I b e t 89 5 = t := rfl
theorem tp_g6 : tpI I b e t 89 6 = nI b := rfl
theorem tp_g7 : tpI I b e t 89 7 = nI e := rfl
theorem tp_g0 : tpI I b e t 89 0 = I 89 0 := rfl
theorem tp_g1 : tpI I b e t 89 1 = I 89 1 := rfl
theorem tp_n {a : Nat} (h : a ≠ 89) : tpI I b e t a = I a := by
  funext j
  unfold tpI
  rw [if_neg h]
theorem tp_u {a k : Nat} (h : a ≠ 89 ∨ k < 5) : upd2 (tpI I b e t) a k x = tpI (upd2 I a k x) b e t := by
  funext c j
  unfold upd2 tpI
  by_cases h1 : c = 89
  · by_cases h5 : j = 5
    · have : ¬ (c = a ∧ j = k) := fun e => by omega
      simp [h1, h5] at this ⊢
      intro e1 e2
      exact absurd e2 (this e1)
    · by_cases h6 : j = 6
      · have : ¬ (c = a ∧ j = k) := fun e => by omega
        simp [h1, h6] at this ⊢
        intro e1 e2
        exact absurd e2 (this e1)
      · by_cases h7 : j = 7
        · have : ¬ (c = a ∧ j = k) := fun e => by omega
          simp [h1, h7] at this ⊢
          intro e1 e2
          exact absurd e2 (this e1)
        · simp [h1, h5, h6, h7]
  · simp [h1]
theorem tp_id {e0 : Nat} (h6 : I 89 6 = nI b) (h7 : I 89 7 = nI e) : tpI I b e (I 89 5) = I := by
  funext a j
  unfold tpI
  by_cases h : a = 89
  · subst h
    by_cases h5 : j = 5
    · subst h5; rw [if_pos rfl, if_pos rfl]
    · by_cases h6' : j = 6
      · subst h6'; rw [if_pos rfl, if_neg h5, if_pos rfl, h6]
      · by_cases h7' : j = 7
        · subst h7'; rw [if_pos rfl, if_neg h5, if_neg h6', if_pos rfl, h7]
        · rw [if_pos rfl, if_neg h5, if_neg h6', if_neg h7']
  · rw [if_neg h]
end
def srt (x : Int32) : Int32 := if inL x 97 122 = true then nI 1 else if inL x 48 57 = true then nI 2 else if x = nI 32 ∨ x = nI 10 then nI 4 else if x = nI 59 then nI 3 else nI 5
def ByOk (I : pI) (T : Nat) : Prop := ∀ j, j < T → I 90 j = I 106 j ∧ ∃ v, v ≤ 255 ∧ I 106 j = nI v
/-- the token's sort, its end, as the class has them -/
def tkS (I : pI) (T p : Nat) : Int32 := if T ≤ nxB I T p then nI 0 else srt (bytA I T (nxB I T p))
def nxF (I : pI) (T p : Nat) : Nat := if T ≤ nxB I T p then nxB I T p else if inL (bytA I T (nxB I T p)) 97 122 = true then lwR I T (T - nxB I T p) (nxB I T p) else if inL (bytA I T (nxB I T p)) 48 57 = true then (dgR I T (nxB I T p) (T - nxB I T p) (nxB I T p) (nI 0)).1 else nxB I T p + 1
section
variable {X : pX} {d : Nat} {I : pI} {Q : Option Value → pG → pI → Prop} {G : pG} {T : Nat}
theorem t_sortOf {x : Int32} : Call X (d + 1) 69 [.int x] G I Q ↔ Q (some (.int (srt x))) G I := by
  unfold srt
  have part2 : At X d 69 14 [some (.int x)] [] G I Q ↔ Q (some (.int (if inL x 48 57 = true then nI 2 else if x = nI 32 ∨ x = nI 10 then nI 4 else if x = nI 59 then nI 3 else nI 5))) G I := by
    have part3 : At X d 69 28 [some (.int x)] [] G I Q ↔ Q (some (.int (if x = nI 32 ∨ x = nI 10 then nI 4 else if x = nI 59 then nI 3 else nI 5))) G I := by
      simp (disch := first | exact ok_i | exact ok_r | exact ok_n | exact cat_i | exact cat_r | exact t103 | exact t106 | exact t108 | exact t109 | exact t110 | exact t111 | exact t112 | exact ro_0 | exact ro_1 | omega | assumption | (refine i103 ?_; omega) | (refine i106 ?_; omega) | (refine i108 ?_; omega) | (refine i109 ?_; omega) | (refine i110 ?_; omega) | (refine i111 ?_; omega) | (refine i112 ?_; omega) | (simp only [List.map_cons, List.map_nil, List.sum_cons, List.sum_nil, cat_i, cat_r, cat_l, Nat.reduceAdd, Nat.reduceLeDiff]; done) | decide) only [s69_28, s69_29, s69_31, tl_s, tl_n, nI_add, pk_mul, i_cl, row_s, u2_row, i_le, i_lt, i_eq, if_true, if_false, Nat.le_refl, Nat.reduceEqDiff, Nat.reduceLeDiff]
      by_cases h1 : x = nI 32
      · simp (disch := first | exact ok_i | exact ok_r | exact ok_n | exact cat_i | exact cat_r | exact t103 | exact t106 | exact t108 | exact t109 | exact t110 | exact t111 | exact t112 | exact ro_0 | exact ro_1 | omega | assumption | (refine i103 ?_; omega) | (refine i106 ?_; omega) | (refine i108 ?_; omega) | (refine i109 ?_; omega) | (refine i110 ?_; omega) | (refine i111 ?_; omega) | (refine i112 ?_; omega) | (simp only [List.map_cons, List.map_nil, List.sum_cons, List.sum_nil, cat_i, cat_r, cat_l, Nat.reduceAdd, Nat.reduceLeDiff]; done) | decide) only [h1, s69_40, s69_41, tl_s, tl_n, nI_add, pk_mul, i_cl, row_s, u2_row, i_le, i_lt, i_eq, if_true, if_false, Nat.le_refl, Nat.reduceEqDiff, Nat.reduceLeDiff, true_or]
      · simp (disch := first | exact ok_i | exact ok_r | exact ok_n | exact cat_i | exact cat_r | exact t103 | exact t106 | exact t108 | exact t109 | exact t110 | exact t111 | exact t112 | exact ro_0 | exact ro_1 | omega | assumption | (refine i103 ?_; omega) | (refine i106 ?_; omega) | (refine i108 ?_; omega) | (refine i109 ?_; omega) | (refine i110 ?_; omega) | (refine i111 ?_; omega) | (refine i112 ?_; omega) | (simp only [List.map_cons, List.map_nil, List.sum_cons, List.sum_nil, cat_i, cat_r, cat_l, Nat.reduceAdd, Nat.reduceLeDiff]; done) | decide) only [h1, s69_34, s69_35, s69_37, tl_s, tl_n, nI_add, pk_mul, i_cl, row_s, u2_row, i_le, i_lt, i_eq, if_true, if_false, Nat.le_refl, Nat.reduceEqDiff, Nat.reduceLeDiff, false_or]
        by_cases h2 : x = nI 10
        · simp (disch := first | exact ok_i | exact ok_r | exact ok_n | exact cat_i | exact cat_r | exact t103 | exact t106 | exact t108 | exact t109 | exact t110 | exact t111 | exact t112 | exact ro_0 | exact ro_1 | omega | assumption | (refine i103 ?_; omega) | (refine i106 ?_; omega) | (refine i108 ?_; omega) | (refine i109 ?_; omega) | (refine i110 ?_; omega) | (refine i111 ?_; omega) | (refine i112 ?_; omega) | (simp only [List.map_cons, List.map_nil, List.sum_cons, List.sum_nil, cat_i, cat_r, cat_l, Nat.reduceAdd, Nat.reduceLeDiff]; done) | decide) only [h2, s69_40, s69_41, tl_s, tl_n, nI_add, pk_mul, i_cl, row_s, u2_row, i_le, i_lt, i_eq, if_true, if_false, Nat.le_refl, Nat.reduceEqDiff, Nat.reduceLeDiff]
        · simp (disch := first | exact ok_i | exact ok_r | exact ok_n | exact cat_i | exact cat_r | exact t103 | exact t106 | exact t108 | exact t109 | exact t110 | exact t111 | exact t112 | exact ro_0 | exact ro_1 | omega | assumption | (refine i103 ?_; omega) | (refine i106 ?_; omega) | (refine i108 ?_; omega) | (refine i109 ?_; omega) | (refine i110 ?_; omega) | (refine i111 ?_; omega) | (refine i112 ?_; omega) | (simp only [List.map_cons, List.map_nil, List.sum_cons, List.sum_nil, cat_i, cat_r, cat_l, Nat.reduceAdd, Nat.reduceLeDiff]; done) | decide) only [h2, s69_42, s69_43, s69_45, tl_s, tl_n, nI_add, pk_mul, i_cl, row_s, u2_row, i_le, i_lt, i_eq, if_true, if_false, Nat.le_refl, Nat.reduceEqDiff, Nat.reduceLeDiff]
          by_cases h3 : x = nI 59
          · simp (disch := first | exact ok_i | exact ok_r | exact ok_n | exact cat_i | exact cat_r | exact t103 | exact t106 | exact t108 | exact t109 | exact t110 | exact t111 | exact t112 | exact ro_0 | exact ro_1 | omega | assumption | (refine i103 ?_; omega) | (refine i106 ?_; omega) | (refine i108 ?_; omega) | (refine i109 ?_; omega) | (refine i110 ?_; omega) | (refine i111 ?_; omega) | (refine i112 ?_; omega) | (simp only [List.map_cons, List.map_nil, List.sum_cons, List.sum_nil, cat_i, cat_r, cat_l, Nat.reduceAdd, Nat.reduceLeDiff]; done) | decide) only [h3, s69_48, s69_49, s69_52, s69_53, tl_s, tl_n, nI_add, pk_mul, i_cl, row_s, u2_row, i_le, i_lt, i_eq, if_true, if_false, Nat.le_refl, Nat.reduceEqDiff, Nat.reduceLeDiff]
          · simp (disch := first | exact ok_i | exact ok_r | exact ok_n | exact cat_i | exact cat_r | exact t103 | exact t106 | exact t108 | exact t109 | exact t110 | exact t111 | exact t112 | exact ro_0 | exact ro_1 | omega | assumption | (refine i103 ?_; omega) | (refine i106 ?_; omega) | (refine i108 ?_; omega) | (refine i109 ?_; omega) | (refine i110 ?_; omega) | (refine i111 ?_; omega) | (refine i112 ?_; omega) | (simp only [List.map_cons, List.map_nil, List.sum_cons, List.sum_nil, cat_i, cat_r, cat_l, Nat.reduceAdd, Nat.reduceLeDiff]; done) | decide) only [h3, s69_52, s69_53, tl_s, tl_n, nI_add, pk_mul, i_cl, row_s, u2_row, i_le, i_lt, i_eq, if_true, if_false, Nat.le_refl, Nat.reduceEqDiff, Nat.reduceLeDiff]
    simp (disch := first | exact ok_i | exact ok_r | exact ok_n | exact cat_i | exact cat_r | exact t103 | exact t106 | exact t108 | exact t109 | exact t110 | exact t111 | exact t112 | exact ro_0 | exact ro_1 | omega | assumption | (refine i103 ?_; omega) | (refine i106 ?_; omega) | (refine i108 ?_; omega) | (refine i109 ?_; omega) | (refine i110 ?_; omega) | (refine i111 ?_; omega) | (refine i112 ?_; omega) | (simp only [List.map_cons, List.map_nil, List.sum_cons, List.sum_nil, cat_i, cat_r, cat_l, Nat.reduceAdd, Nat.reduceLeDiff]; done) | decide) only [s69_14, s69_15, s69_17, tl_s, tl_n, nI_add, pk_mul, i_cl, row_s, u2_row, i_le, i_lt, i_eq, if_true, if_false, Nat.le_refl, Nat.reduceEqDiff, Nat.reduceLeDiff, c_lt]
    cases c : inL x 48 57
    · simp only [Bool.false_eq_true, if_false]
      rcases inL_n c with h | h
      · simp (disch := first | exact ok_i | exact ok_r | exact ok_n | exact cat_i | exact cat_r | exact t103 | exact t106 | exact t108 | exact t109 | exact t110 | exact t111 | exact t112 | exact ro_0 | exact ro_1 | omega | assumption | (refine i103 ?_; omega) | (refine i106 ?_; omega) | (refine i108 ?_; omega) | (refine i109 ?_; omega) | (refine i110 ?_; omega) | (refine i111 ?_; omega) | (refine i112 ?_; omega) | (simp only [List.map_cons, List.map_nil, List.sum_cons, List.sum_nil, cat_i, cat_r, cat_l, Nat.reduceAdd, Nat.reduceLeDiff]; done) | decide) only [h, tl_s, tl_n, nI_add, pk_mul, i_cl, row_s, u2_row, i_le, i_lt, i_eq, if_true, if_false, Nat.le_refl, Nat.reduceEqDiff, Nat.reduceLeDiff]
        exact part3
      · have n1 : ¬ x.toInt < ((48 : Nat) : Int) := by omega
        simp (disch := first | exact ok_i | exact ok_r | exact ok_n | exact cat_i | exact cat_r | exact t103 | exact t106 | exact t108 | exact t109 | exact t110 | exact t111 | exact t112 | exact ro_0 | exact ro_1 | omega | assumption | (refine i103 ?_; omega) | (refine i106 ?_; omega) | (refine i108 ?_; omega) | (refine i109 ?_; omega) | (refine i110 ?_; omega) | (refine i111 ?_; omega) | (refine i112 ?_; omega) | (simp only [List.map_cons, List.map_nil, List.sum_cons, List.sum_nil, cat_i, cat_r, cat_l, Nat.reduceAdd, Nat.reduceLeDiff]; done) | decide) only [n1, h, s69_20, s69_21, s69_23, tl_s, tl_n, nI_add, pk_mul, i_cl, row_s, u2_row, i_le, i_lt, i_eq, if_true, if_false, Nat.le_refl, Nat.reduceEqDiff, Nat.reduceLeDiff, c_gt]
        exact part3
    · have h := inL_i.mp c
      have n1 : ¬ x.toInt < ((48 : Nat) : Int) := by omega
      have n2 : ¬ ((57 : Nat) : Int) < x.toInt := by omega
      simp (disch := first | exact ok_i | exact ok_r | exact ok_n | exact cat_i | exact cat_r | exact t103 | exact t106 | exact t108 | exact t109 | exact t110 | exact t111 | exact t112 | exact ro_0 | exact ro_1 | omega | assumption | (refine i103 ?_; omega) | (refine i106 ?_; omega) | (refine i108 ?_; omega) | (refine i109 ?_; omega) | (refine i110 ?_; omega) | (refine i111 ?_; omega) | (refine i112 ?_; omega) | (simp only [List.map_cons, List.map_nil, List.sum_cons, List.sum_nil, cat_i, cat_r, cat_l, Nat.reduceAdd, Nat.reduceLeDiff]; done) | decide) only [n1, n2, s69_20, s69_21, s69_23, s69_26, s69_27, tl_s, tl_n, nI_add, pk_mul, i_cl, row_s, u2_row, i_le, i_lt, i_eq, if_true, if_false, Nat.le_refl, Nat.reduceEqDiff, Nat.reduceLeDiff, c_gt]
  simp (disch := first | exact ok_i | exact ok_r | exact ok_n | exact cat_i | exact cat_r | exact t103 | exact t106 | exact t108 | exact t109 | exact t110 | exact t111 | exact t112 | exact ro_0 | exact ro_1 | omega | assumption | (refine i103 ?_; omega) | (refine i106 ?_; omega) | (refine i108 ?_; omega) | (refine i109 ?_; omega) | (refine i110 ?_; omega) | (refine i111 ?_; omega) | (refine i112 ?_; omega) | (simp only [List.map_cons, List.map_nil, List.sum_cons, List.sum_nil, cat_i, cat_r, cat_l, Nat.reduceAdd, Nat.reduceLeDiff]; done) | decide) only [e69, s69_0, s69_1, s69_3, tl_s, tl_n, nI_add, pk_mul, i_cl, row_s, u2_row, i_le, i_lt, i_eq, if_true, if_false, Nat.le_refl, Nat.reduceEqDiff, Nat.reduceLeDiff, c_lt]
  cases c : inL x 97 122
  · simp only [Bool.false_eq_true, if_false]
    rcases inL_n c with h | h
    · simp (disch := first | exact ok_i | exact ok_r | exact ok_n | exact cat_i | exact cat_r | exact t103 | exact t106 | exact t108 | exact t109 | exact t110 | exact t111 | exact t112 | exact ro_0 | exact ro_1 | omega | assumption | (refine i103 ?_; omega) | (refine i106 ?_; omega) | (refine i108 ?_; omega) | (refine i109 ?_; omega) | (refine i110 ?_; omega) | (refine i111 ?_; omega) | (refine i112 ?_; omega) | (simp only [List.map_cons, List.map_nil, List.sum_cons, List.sum_nil, cat_i, cat_r, cat_l, Nat.reduceAdd, Nat.reduceLeDiff]; done) | decide) only [h, tl_s, tl_n, nI_add, pk_mul, i_cl, row_s, u2_row, i_le, i_lt, i_eq, if_true, if_false, Nat.le_refl, Nat.reduceEqDiff, Nat.reduceLeDiff]
      exact part2
    · have n1 : ¬ x.toInt < ((97 : Nat) : Int) := by omega
      simp (disch := first | exact ok_i | exact ok_r | exact ok_n | exact cat_i | exact cat_r | exact t103 | exact t106 | exact t108 | exact t109 | exact t110 | exact t111 | exact t112 | exact ro_0 | exact ro_1 | omega | assumption | (refine i103 ?_; omega) | (refine i106 ?_; omega) | (refine i108 ?_; omega) | (refine i109 ?_; omega) | (refine i110 ?_; omega) | (refine i111 ?_; omega) | (refine i112 ?_; omega) | (simp only [List.map_cons, List.map_nil, List.sum_cons, List.sum_nil, cat_i, cat_r, cat_l, Nat.reduceAdd, Nat.reduceLeDiff]; done) | decide) only [n1, h, s69_6, s69_7, s69_9, tl_s, tl_n, nI_add, pk_mul, i_cl, row_s, u2_row, i_le, i_lt, i_eq, if_true, if_false, Nat.le_refl, Nat.reduceEqDiff, Nat.reduceLeDiff, c_gt]
      exact part2
  · have h := inL_i.mp c
    have n1 : ¬ x.toInt < ((97 : Nat) : Int) := by omega
    have n2 : ¬ ((122 : Nat) : Int) < x.toInt := by omega
    simp (disch := first | exact ok_i | exact ok_r | exact ok_n | exact cat_i | exact cat_r | exact t103 | exact t106 | exact t108 | exact t109 | exact t110 | exact t111 | exact t112 | exact ro_0 | exact ro_1 | omega | assumption | (refine i103 ?_; omega) | (refine i106 ?_; omega) | (refine i108 ?_; omega) | (refine i109 ?_; omega) | (refine i110 ?_; omega) | (refine i111 ?_; omega) | (refine i112 ?_; omega) | (simp only [List.map_cons, List.map_nil, List.sum_cons, List.sum_nil, cat_i, cat_r, cat_l, Nat.reduceAdd, Nat.reduceLeDiff]; done) | decide) only [n1, n2, s69_6, s69_7, s69_9, s69_12, s69_13, tl_s, tl_n, nI_add, pk_mul, i_cl, row_s, u2_row, i_le, i_lt, i_eq, if_true, if_false, Nat.le_refl, Nat.reduceEqDiff, Nat.reduceLeDiff, c_gt]
theorem bytA_lt {j : Nat} (h : j < T) : bytA I T j = I 106 j := by unfold bytA; rw [if_pos h]
theorem srt_4 {x : Int32} : (srt x = nI 4) = (x = nI 32 ∨ x = nI 10) := by
  unfold srt
  apply propext
  constructor
  · intro h
    split at h
    · exact absurd h (by decide)
    · split at h
      · exact absurd h (by decide)
      · split at h
        · assumption
        · split at h <;> exact absurd h (by decide)
  · rintro (h | h) <;> subst h <;> decide
theorem srt_1 {x : Int32} : (srt x = nI 1) = (inL x 97 122 = true) := by
  unfold srt
  apply propext
  constructor
  · intro h
    split at h
    · assumption
    · split at h
      · exact absurd h (by decide)
      · split at h
        · exact absurd h (by decide)
        · split at h <;> exact absurd h (by decide)
  · intro h; rw [if_pos h]
theorem not_both {x : Int32} (h : inL x 97 122 = true) : inL x 48 57 = false := by
  rw [← Bool.not_eq_true]
  intro h2
  have h3 := inL_i.mp h
  have h4 := inL_i.mp h2
  omega
theorem srt_2 {x : Int32} : (srt x = nI 2) = (inL x 48 57 = true) := by
  unfold srt
  apply propext
  constructor
  · intro h
    split at h
    · exact absurd h (by decide)
    · split at h
      · assumption
      · split at h
        · exact absurd h (by decide)
        · split at h <;> exact absurd h (by decide)
  · intro h
    have : ¬ inL x 97 122 = true := fun e => by rw [not_both e] at h; cases h
    rw [if_neg this, if_pos h]
theorem t_skip {b : Nat} {t : Int32} (hT : I 89 0 = nI T) (hT2 : T ≤ 60) (hB : ByOk I T) : ∀ r q, q + r = T → (At X (d + 1) 68 0 [some (.ref 89)] [] G0 (tpI I b q t) Q ↔ At X (d + 1) 68 40 [some (.ref 89)] [] G0 (tpI I b (skR I T r q) t) Q) := by
  intro r
  induction r with
  | zero =>
    intro q hq
    have n1 : ¬ q < T := by omega
    have e0 : T ≤ q := by omega
    rw [s68_0]
    simp (disch := first | exact ok_i | exact ok_r | exact ok_n | exact cat_i | exact cat_r | exact t103 | exact t106 | exact t108 | exact t109 | exact t110 | exact t111 | exact t112 | exact ro_0 | exact ro_1 | omega | assumption | (refine i103 ?_; omega) | (refine i106 ?_; omega) | (refine i108 ?_; omega) | (refine i109 ?_; omega) | (refine i110 ?_; omega) | (refine i111 ?_; omega) | (refine i112 ?_; omega) | (simp only [List.map_cons, List.map_nil, List.sum_cons, List.sum_nil, cat_i, cat_r, cat_l, Nat.reduceAdd, Nat.reduceLeDiff]; done) | decide) only [s68_1, s68_4, s68_5, s68_8, tl_s, tl_n, nI_add, pk_mul, i_cl, row_s, u2_row, i_le, i_lt, i_eq, if_true, if_false, Nat.le_refl, Nat.reduceEqDiff, Nat.reduceLeDiff, tp_g7, tp_g0, hT, t89, e0, skR]
  | succ r ih =>
    intro q hq
    have n1 : ¬ T ≤ q := by omega
    have ih' := ih (q + 1) (by omega)
    obtain ⟨h1, h2⟩ := hB q (by omega)
    have e1 : tpI I b q t 90 = I 90 := tp_n (by decide)
    have e2 : skR I T (r + 1) q = if I 106 q = nI 32 ∨ I 106 q = nI 10 then skR I T r (q + 1) else q := by
      show (if bytA I T q = nI 32 ∨ bytA I T q = nI 10 then skR I T r (q + 1) else q) = _
      rw [bytA_lt (by omega)]
    rw [e2, s68_0]
    simp (disch := first | exact ok_i | exact ok_r | exact ok_n | exact cat_i | exact cat_r | exact t89 | exact t90 | exact t91 | exact t92 | exact ro_0 | exact ro_1 | (refine i90 ?_; omega) | (refine i91 ?_; omega) | (refine i92 ?_; omega) | omega | assumption | (simp only [List.map_cons, List.map_nil, List.sum_cons, List.sum_nil, cat_i, cat_r, cat_l, Nat.reduceAdd, Nat.reduceLeDiff]; done) | decide) only [s68_1, s68_4, s68_5, s68_8, s68_11, s68_12, s68_15, s68_16, s68_19, s68_20, s68_23, s68_24, tl_s, tl_n, nI_add, pk_mul, i_cl, row_s, u2_row, i_le, i_lt, i_eq, if_true, if_false, Nat.le_refl, Nat.reduceEqDiff, Nat.reduceLeDiff, tp_g7, tp_g0, hT, n1, r89_2, e1, h1, t_sortOf, srt_4]
    by_cases c : I 106 q = nI 32 ∨ I 106 q = nI 10
    · rw [if_pos c, if_pos c]
      simp (disch := first | exact ok_i | exact ok_r | exact ok_n | exact cat_i | exact cat_r | exact t89 | exact t90 | exact t91 | exact t92 | exact ro_0 | exact ro_1 | (refine i90 ?_; omega) | (refine i91 ?_; omega) | (refine i92 ?_; omega) | omega | assumption | (simp only [List.map_cons, List.map_nil, List.sum_cons, List.sum_nil, cat_i, cat_r, cat_l, Nat.reduceAdd, Nat.reduceLeDiff]; done) | decide) only [s68_27, s68_28, s68_29, s68_32, s68_33, s68_34, s68_37, tl_s, tl_n, nI_add, pk_mul, i_cl, row_s, u2_row, i_le, i_lt, i_eq, if_true, if_false, Nat.le_refl, Nat.reduceEqDiff, Nat.reduceLeDiff, tp_g7, tp_7]
      exact ih'
    · rw [if_neg c, if_neg c]
theorem t_ext {b : Nat} {w : Bool} {u : Int32} (hT : I 89 0 = nI T) (hT2 : T ≤ 60) (hB : ByOk I T) (b0 : Nat) : ∀ r q, q + r = T → ∀ u : Int32, (At X (d + 1) 68 107 [some (.ref 89)] [] G0 (tpI I b q (if w = true then nI 1 else nI 2)) Q ↔ Q none G0 (tpI I b (if w = true then lwR I T r q else (dgR I T b0 r q u).1) (if w = true then nI 1 else nI 2))) := by
  intro r
  induction r with
  | zero =>
    intro q hq u
    have e0 : T ≤ q := by omega
    rw [s68_107]
    simp (disch := first | exact ok_i | exact ok_r | exact ok_n | exact cat_i | exact cat_r | exact t89 | exact t90 | exact t91 | exact t92 | exact ro_0 | exact ro_1 | (refine i90 ?_; omega) | (refine i91 ?_; omega) | (refine i92 ?_; omega) | omega | assumption | (simp only [List.map_cons, List.map_nil, List.sum_cons, List.sum_nil, cat_i, cat_r, cat_l, Nat.reduceAdd, Nat.reduceLeDiff]; done) | decide) only [s68_108, s68_111, s68_112, s68_115, s68_150, tl_s, tl_n, nI_add, pk_mul, i_cl, row_s, u2_row, i_le, i_lt, i_eq, if_true, if_false, Nat.le_refl, Nat.reduceEqDiff, Nat.reduceLeDiff, tp_g7, tp_g0, hT, e0]
    have e1 : (if w = true then lwR I T 0 q else (dgR I T b0 0 q u).1) = q := by cases w <;> rfl
    rw [e1]
  | succ r ih =>
    intro q hq u
    have n1 : ¬ T ≤ q := by omega
    obtain ⟨h1, h2⟩ := hB q (by omega)
    have e1 : tpI I b q (if w = true then nI 1 else nI 2) 90 = I 90 := tp_n (by decide)
    have e2 : lwR I T (r + 1) q = if inL (I 106 q) 97 122 = true then lwR I T r (q + 1) else q := by
      show (if inL (bytA I T q) 97 122 = true then lwR I T r (q + 1) else q) = _
      rw [bytA_lt (by omega)]
    have e3 : dgR I T b0 (r + 1) q u = if inL (I 106 q) 48 57 = true then dgR I T b0 r (q + 1) (if q - b0 < 2 then nI 10 * u + I 106 q - nI 48 else u) else (q, u) := by
      show (if inL (bytA I T q) 48 57 = true then dgR I T b0 r (q + 1) (if q - b0 < 2 then nI 10 * u + bytA I T q - nI 48 else u) else (q, u)) = _
      rw [bytA_lt (by omega)]
    rw [e2, e3, s68_107]
    have e4 : ((if w = true then nI 1 else nI 2 : Int32) = srt (I 106 q)) = (srt (I 106 q) = (if w = true then nI 1 else nI 2)) := propext eq_comm
    simp (disch := first | exact ok_i | exact ok_r | exact ok_n | exact cat_i | exact cat_r | exact t89 | exact t90 | exact t91 | exact t92 | exact ro_0 | exact ro_1 | (refine i90 ?_; omega) | (refine i91 ?_; omega) | (refine i92 ?_; omega) | omega | assumption | (simp only [List.map_cons, List.map_nil, List.sum_cons, List.sum_nil, cat_i, cat_r, cat_l, Nat.reduceAdd, Nat.reduceLeDiff]; done) | decide) only [s68_108, s68_111, s68_112, s68_115, s68_118, s68_119, s68_122, s68_123, s68_126, s68_127, s68_130, s68_131, tl_s, tl_n, nI_add, pk_mul, i_cl, row_s, u2_row, i_le, i_lt, i_eq, if_true, if_false, Nat.le_refl, Nat.reduceEqDiff, Nat.reduceLeDiff, tp_g7, tp_g0, tp_g5, hT, n1, r89_2, e1, h1, t_sortOf]
    cases w
    · simp only [Bool.false_eq_true, if_false] at ih ⊢
      rw [s68_134]
      simp only [srt_2]
      by_cases c : inL (I 106 q) 48 57 = true
      · rw [if_pos c, if_pos c]
        simp (disch := first | exact ok_i | exact ok_r | exact ok_n | exact cat_i | exact cat_r | exact t89 | exact t90 | exact t91 | exact t92 | exact ro_0 | exact ro_1 | (refine i90 ?_; omega) | (refine i91 ?_; omega) | (refine i92 ?_; omega) | omega | assumption | (simp only [List.map_cons, List.map_nil, List.sum_cons, List.sum_nil, cat_i, cat_r, cat_l, Nat.reduceAdd, Nat.reduceLeDiff]; done) | decide) only [s68_137, s68_138, s68_139, s68_142, s68_143, s68_144, s68_147, tl_s, tl_n, nI_add, pk_mul, i_cl, row_s, u2_row, i_le, i_lt, i_eq, if_true, if_false, Nat.le_refl, Nat.reduceEqDiff, Nat.reduceLeDiff, tp_g7, tp_7]
        exact ih (q + 1) (by omega) _
      · rw [if_neg c, if_neg c]
        simp (disch := first | exact ok_i | exact ok_r | exact ok_n | exact cat_i | exact cat_r | exact t89 | exact t90 | exact t91 | exact t92 | exact ro_0 | exact ro_1 | (refine i90 ?_; omega) | (refine i91 ?_; omega) | (refine i92 ?_; omega) | omega | assumption | (simp only [List.map_cons, List.map_nil, List.sum_cons, List.sum_nil, cat_i, cat_r, cat_l, Nat.reduceAdd, Nat.reduceLeDiff]; done) | decide) only [s68_150, tl_s, tl_n, nI_add, pk_mul, i_cl, row_s, u2_row, i_le, i_lt, i_eq, if_true, if_false, Nat.le_refl, Nat.reduceEqDiff, Nat.reduceLeDiff]
    · simp only [if_true] at ih ⊢
      rw [s68_134]
      simp only [srt_1]
      by_cases c : inL (I 106 q) 97 122 = true
      · rw [if_pos c, if_pos c]
        simp (disch := first | exact ok_i | exact ok_r | exact ok_n | exact cat_i | exact cat_r | exact t89 | exact t90 | exact t91 | exact t92 | exact ro_0 | exact ro_1 | (refine i90 ?_; omega) | (refine i91 ?_; omega) | (refine i92 ?_; omega) | omega | assumption | (simp only [List.map_cons, List.map_nil, List.sum_cons, List.sum_nil, cat_i, cat_r, cat_l, Nat.reduceAdd, Nat.reduceLeDiff]; done) | decide) only [s68_137, s68_138, s68_139, s68_142, s68_143, s68_144, s68_147, tl_s, tl_n, nI_add, pk_mul, i_cl, row_s, u2_row, i_le, i_lt, i_eq, if_true, if_false, Nat.le_refl, Nat.reduceEqDiff, Nat.reduceLeDiff, tp_g7, tp_7]
        exact ih (q + 1) (by omega) u
      · rw [if_neg c, if_neg c]
        simp (disch := first | exact ok_i | exact ok_r | exact ok_n | exact cat_i | exact cat_r | exact t89 | exact t90 | exact t91 | exact t92 | exact ro_0 | exact ro_1 | (refine i90 ?_; omega) | (refine i91 ?_; omega) | (refine i92 ?_; omega) | omega | assumption | (simp only [List.map_cons, List.map_nil, List.sum_cons, List.sum_nil, cat_i, cat_r, cat_l, Nat.reduceAdd, Nat.reduceLeDiff]; done) | decide) only [s68_150, tl_s, tl_n, nI_add, pk_mul, i_cl, row_s, u2_row, i_le, i_lt, i_eq, if_true, if_false, Nat.le_refl, Nat.reduceEqDiff, Nat.reduceLeDiff]
theorem sk_le {p : Nat} (hp : p ≤ T) : p ≤ nxB I T p ∧ nxB I T p ≤ T := by
  have := skR_le (I := I) (T := T) (r := T - p) (q := p)
  unfold nxB
  omega
theorem t_advance {b p : Nat} {t : Int32} (hT : I 89 0 = nI T) (hT2 : T ≤ 60) (hB : ByOk I T) (hp : p ≤ T) : Call X (d + 2) 68 [.ref 89] G0 (tpI I b p t) Q ↔ Q none G0 (tpI I (nxB I T p) (nxF I T p) (tkS I T p)) := by
  rw [e68, t_skip hT hT2 hB (T - p) p (by omega)]
  obtain ⟨s1, s2⟩ := sk_le (I := I) hp
  have eb : skR I T (T - p) p = nxB I T p := rfl
  rw [eb]
  unfold nxF tkS
  generalize nxB I T p = q at *
  simp (disch := first | exact ok_i | exact ok_r | exact ok_n | exact cat_i | exact cat_r | exact t89 | exact t90 | exact t91 | exact t92 | exact ro_0 | exact ro_1 | (refine i90 ?_; omega) | (refine i91 ?_; omega) | (refine i92 ?_; omega) | omega | assumption | (simp only [List.map_cons, List.map_nil, List.sum_cons, List.sum_nil, cat_i, cat_r, cat_l, Nat.reduceAdd, Nat.reduceLeDiff]; done) | decide) only [s68_40, s68_41, s68_42, s68_45, s68_48, s68_49, s68_52, s68_53, s68_56, tl_s, tl_n, nI_add, pk_mul, i_cl, row_s, u2_row, i_le, i_lt, i_eq, if_true, if_false, Nat.le_refl, Nat.reduceEqDiff, Nat.reduceLeDiff, tp_g7, tp_g0, tp_6, hT]
  by_cases c0 : T ≤ q
  · have n1 : ¬ q < T := by omega
    simp (disch := first | exact ok_i | exact ok_r | exact ok_n | exact cat_i | exact cat_r | exact t89 | exact t90 | exact t91 | exact t92 | exact ro_0 | exact ro_1 | (refine i90 ?_; omega) | (refine i91 ?_; omega) | (refine i92 ?_; omega) | omega | assumption | (simp only [List.map_cons, List.map_nil, List.sum_cons, List.sum_nil, cat_i, cat_r, cat_l, Nat.reduceAdd, Nat.reduceLeDiff]; done) | decide) only [n1, c0, s68_59, s68_60, s68_61, s68_64, tl_s, tl_n, nI_add, pk_mul, i_cl, row_s, u2_row, i_le, i_lt, i_eq, if_true, if_false, Nat.le_refl, Nat.reduceEqDiff, Nat.reduceLeDiff, tp_5]
  · have n1 : q < T := by omega
    obtain ⟨h1, h2⟩ := hB q n1
    have e1 : tpI I q q t 90 = I 90 := tp_n (by decide)
    rw [bytA_lt n1]
    simp (disch := first | exact ok_i | exact ok_r | exact ok_n | exact cat_i | exact cat_r | exact t89 | exact t90 | exact t91 | exact t92 | exact ro_0 | exact ro_1 | (refine i90 ?_; omega) | (refine i91 ?_; omega) | (refine i92 ?_; omega) | omega | assumption | (simp only [List.map_cons, List.map_nil, List.sum_cons, List.sum_nil, cat_i, cat_r, cat_l, Nat.reduceAdd, Nat.reduceLeDiff]; done) | decide) only [n1, c0, s68_65, s68_66, s68_67, s68_70, s68_71, s68_74, s68_75, tl_s, tl_n, nI_add, pk_mul, i_cl, row_s, u2_row, i_le, i_lt, i_eq, if_true, if_false, Nat.le_refl, Nat.reduceEqDiff, Nat.reduceLeDiff, tp_g7, r89_2, e1, h1, t_sortOf]
    simp (disch := first | exact ok_i | exact ok_r | exact ok_n | exact cat_i | exact cat_r | exact t89 | exact t90 | exact t91 | exact t92 | exact ro_0 | exact ro_1 | (refine i90 ?_; omega) | (refine i91 ?_; omega) | (refine i92 ?_; omega) | omega | assumption | (simp only [List.map_cons, List.map_nil, List.sum_cons, List.sum_nil, cat_i, cat_r, cat_l, Nat.reduceAdd, Nat.reduceLeDiff]; done) | decide) only [s68_78, s68_81, s68_82, s68_83, s68_86, s68_87, s68_88, s68_91, s68_92, s68_95, tl_s, tl_n, nI_add, pk_mul, i_cl, row_s, u2_row, i_le, i_lt, i_eq, if_true, if_false, Nat.le_refl, Nat.reduceEqDiff, Nat.reduceLeDiff, tp_g7, tp_7, tp_5, tp_g5]
    have eL : lwR I T (T - q) q = if inL (I 106 q) 97 122 = true then lwR I T (T - q - 1) (q + 1) else q := by
      obtain ⟨r, hr⟩ : ∃ r, T - q = r + 1 := ⟨T - q - 1, by omega⟩
      rw [hr]
      show (if inL (bytA I T q) 97 122 = true then lwR I T r (q + 1) else q) = _
      rw [bytA_lt n1]
      rfl
    have eD : dgR I T q (T - q) q (nI 0) = if inL (I 106 q) 48 57 = true then dgR I T q (T - q - 1) (q + 1) (if q - q < 2 then nI 10 * nI 0 + I 106 q - nI 48 else nI 0) else (q, nI 0) := by
      obtain ⟨r, hr⟩ : ∃ r, T - q = r + 1 := ⟨T - q - 1, by omega⟩
      rw [hr]
      show (if inL (bytA I T q) 48 57 = true then dgR I T q r (q + 1) (if q - q < 2 then nI 10 * nI 0 + bytA I T q - nI 48 else nI 0) else (q, nI 0)) = _
      rw [bytA_lt n1]
      rfl
    rw [eL, eD]
    have extW := t_ext (X := X) (d := d) (Q := Q) (b := q) (w := true) (u := nI 0) hT hT2 hB 0 (T - q - 1) (q + 1) (by omega) (nI 0)
    have extD := t_ext (X := X) (d := d) (Q := Q) (b := q) (w := false) (u := nI 0) hT hT2 hB q (T - q - 1) (q + 1) (by omega) (if q - q < 2 then nI 10 * nI 0 + I 106 q - nI 48 else nI 0)
    simp only [Bool.false_eq_true, if_false, if_true] at extW extD
    rw [s68_96]
    simp only [srt_1]
    by_cases c1 : inL (I 106 q) 97 122 = true
    · have es : srt (I 106 q) = nI 1 := by rw [srt_1]; exact c1
      rw [if_pos c1, if_pos c1, if_pos c1, es]
      exact extW
    · rw [if_neg c1, if_neg c1]
      simp (disch := first | exact ok_i | exact ok_r | exact ok_n | exact cat_i | exact cat_r | exact t89 | exact t90 | exact t91 | exact t92 | exact ro_0 | exact ro_1 | (refine i90 ?_; omega) | (refine i91 ?_; omega) | (refine i92 ?_; omega) | omega | assumption | (simp only [List.map_cons, List.map_nil, List.sum_cons, List.sum_nil, cat_i, cat_r, cat_l, Nat.reduceAdd, Nat.reduceLeDiff]; done) | decide) only [s68_99, s68_100, s68_103, tl_s, tl_n, nI_add, pk_mul, i_cl, row_s, u2_row, i_le, i_lt, i_eq, if_true, if_false, Nat.le_refl, Nat.reduceEqDiff, Nat.reduceLeDiff, tp_g5]
      rw [s68_104]
      simp only [srt_2]
      by_cases c2 : inL (I 106 q) 48 57 = true
      · have es : srt (I 106 q) = nI 2 := by rw [srt_2]; exact c2
        rw [if_pos c2, if_pos c2, if_pos c2, es]
        exact extD
      · rw [if_neg c2, if_neg c2]
        simp (disch := first | exact ok_i | exact ok_r | exact ok_n | exact cat_i | exact cat_r | exact t89 | exact t90 | exact t91 | exact t92 | exact ro_0 | exact ro_1 | (refine i90 ?_; omega) | (refine i91 ?_; omega) | (refine i92 ?_; omega) | omega | assumption | (simp only [List.map_cons, List.map_nil, List.sum_cons, List.sum_nil, cat_i, cat_r, cat_l, Nat.reduceAdd, Nat.reduceLeDiff]; done) | decide) only [s68_150, tl_s, tl_n, nI_add, pk_mul, i_cl, row_s, u2_row, i_le, i_lt, i_eq, if_true, if_false, Nat.le_refl, Nat.reduceEqDiff, Nat.reduceLeDiff]
end
