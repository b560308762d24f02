/-! lowest terms -/
theorem bmod_n {q : Nat} (h : q < 2147483648) : ((q : Nat) : Int).bmod (2 ^ 32) = (q : Int) := Int.bmod_eq_of_le (by omega) (by omega)
theorem div_n {a b : Nat} (ha : a < 2147483648) (hb : b < 2147483648) : nI a / nI b = nI (a / b) := by
  have h1 : (a / b) < 2147483648 := Nat.lt_of_le_of_lt (Nat.div_le_self a b) ha
  apply Int32.toInt_inj.mp
  rw [Int32.toInt_div, i_toInt ha, i_toInt hb, i_toInt h1]
  exact bmod_n h1
theorem irm_n {a b : Nat} (ha : a < 2147483648) (hb : b < 2147483648) : irm (nI a) (nI b) = nI (a % b) := by
  have h2 : a / b * b ≤ a := Nat.div_mul_le_self a b
  unfold irm
  rw [div_n ha hb, pk_mul, i_sub h2]
  have h3 := Nat.div_add_mod a b
  rw [Nat.mul_comm] at h3
  have h4 : a - a / b * b = a % b := by omega
  rw [h4]
section
variable {X : pX} {d : Nat} {I : pI} {Q : Option Value → pG → pI → Prop} {N : Nat → Int32} {G : pG}
theorem c_lowL {p : Int32} {u v : Nat} (hu : u < 2147483648) (hv : v < 2147483648) : ∀ n, ∀ a b : Nat, b ≤ n → a < 2147483648 → b < 2147483648 → 0 < a + b → ∀ l : Option Value, okL l = true →
    (At X d 185 5 [some (.int (nI u)), some (.int (nI v)), some (.int p), some (.int (nI a)), some (.int (nI b)), l] [] G I Q ↔ Q (some (.int (nI ((if p = nI 0 then u else v) / Nat.gcd a b)))) G I) := by
  intro n
  induction n with
  | zero =>
    intro a b hb ha hb2 hab l hl
    have hb0 : b = 0 := by omega
    subst hb0
    have ha0 : nI a ≠ 0 := by
      intro e
      have e' : nI a = nI 0 := e
      rw [i_eq ha (by decide)] at e'
      omega
    rw [s185_5, Nat.gcd_zero_right]
    by_cases h1 : p = nI 0
    · simp (disch := first | exact ok_i | exact ok_r | exact ok_n | exact cat_i | exact cat_r | exact t103 | exact ro_0 | exact ro_1 | omega | assumption | (refine i103 ?_; omega) | (simp only [List.map_cons, List.map_nil, List.sum_cons, List.sum_nil, cat_i, cat_r, cat_l, Nat.reduceAdd, Nat.reduceLeDiff]; done) | decide) only [h1, s185_7, s185_10, s185_11, s185_13, s185_14, s185_16, s185_18, s185_19, s185_21, s185_23, s185_26, s185_27, s185_30, s185_31, s185_34, s185_35, s185_36, s185_37, tl_s, tl_n, nI_add, pk_mul, i_cl, row_s, u2_row, i_le, i_lt, i_eq, if_true, if_false, Nat.le_refl, Nat.reduceEqDiff, Nat.reduceLeDiff, div_n]
    · simp (disch := first | exact ok_i | exact ok_r | exact ok_n | exact cat_i | exact cat_r | exact t103 | exact ro_0 | exact ro_1 | omega | assumption | (refine i103 ?_; omega) | (simp only [List.map_cons, List.map_nil, List.sum_cons, List.sum_nil, cat_i, cat_r, cat_l, Nat.reduceAdd, Nat.reduceLeDiff]; done) | decide) only [h1, s185_7, s185_10, s185_11, s185_13, s185_14, s185_16, s185_18, s185_19, s185_21, s185_23, s185_26, s185_27, s185_30, s185_31, s185_34, s185_35, s185_36, s185_37, tl_s, tl_n, nI_add, pk_mul, i_cl, row_s, u2_row, i_le, i_lt, i_eq, if_true, if_false, Nat.le_refl, Nat.reduceEqDiff, Nat.reduceLeDiff, div_n]
  | succ n ih =>
    intro a b hb ha hb2 hab l hl
    by_cases hb0 : b = 0
    · exact ih a b (by omega) ha hb2 hab l hl
    · have hm : a % b < b := Nat.mod_lt _ (by omega)
      have n0 : nI b ≠ 0 := by
        intro e
        have e' : nI b = nI 0 := e
        rw [i_eq hb2 (by decide)] at e'
        exact hb0 e'
      have ih' := ih b (a % b) (by omega) hb2 (by omega) (by omega) (some (.int (nI (a % b)))) rfl
      rw [show Nat.gcd a b = Nat.gcd b (a % b) by rw [Nat.gcd_comm a b, Nat.gcd_rec, Nat.gcd_comm], ← ih']
      rw [s185_5]
      simp (disch := first | exact ok_i | exact ok_r | exact ok_n | exact cat_i | exact cat_r | exact t103 | exact ro_0 | exact ro_1 | omega | assumption | (refine i103 ?_; omega) | (simp only [List.map_cons, List.map_nil, List.sum_cons, List.sum_nil, cat_i, cat_r, cat_l, Nat.reduceAdd, Nat.reduceLeDiff]; done) | decide) only [hb0, s185_7, s185_10, s185_11, s185_13, s185_14, s185_16, s185_18, s185_19, s185_21, s185_23, tl_s, tl_n, nI_add, pk_mul, i_cl, row_s, u2_row, i_le, i_lt, i_eq, if_true, if_false, Nat.le_refl, Nat.reduceEqDiff, Nat.reduceLeDiff, irm_n]
theorem c_lowest {p : Int32} {u v : Nat} (hu : u < 2147483648) (hv : v < 2147483648) (h : 0 < u + v) : Call X (d + 1) 185 [.int (nI u), .int (nI v), .int p] G I Q ↔ Q (some (.int (nI ((if p = nI 0 then u else v) / Nat.gcd u v)))) G I := by
  simp (disch := first | exact ok_i | exact ok_r | exact ok_n | exact cat_i | exact cat_r | exact t103 | exact ro_0 | exact ro_1 | omega | assumption | (refine i103 ?_; omega) | (simp only [List.map_cons, List.map_nil, List.sum_cons, List.sum_nil, cat_i, cat_r, cat_l, Nat.reduceAdd, Nat.reduceLeDiff]; done) | decide) only [e185, s185_0, s185_1, s185_2, s185_3, tl_s, tl_n, nI_add, pk_mul, i_cl, row_s, u2_row, i_le, i_lt, i_eq, if_true, if_false, Nat.le_refl, Nat.reduceEqDiff, Nat.reduceLeDiff]
  exact c_lowL hu hv v u v (Nat.le_refl _) hu hv h none rfl
theorem c_isPart {x : Int32} : Call X (d + 2) 186 [.int x] G I Q ↔ Q (some (.int (b2i (inL x 0 1)))) G I := by
  simp (disch := first | exact ok_i | exact ok_r | exact ok_n | exact cat_i | exact cat_r | exact t103 | exact ro_0 | exact ro_1 | omega | assumption | (refine i103 ?_; omega) | (simp only [List.map_cons, List.map_nil, List.sum_cons, List.sum_nil, cat_i, cat_r, cat_l, Nat.reduceAdd, Nat.reduceLeDiff]; done) | decide) only [e186, s186_0, s186_1, s186_2, s186_3, s186_4, s186_7, tl_s, tl_n, nI_add, pk_mul, i_cl, row_s, u2_row, i_le, i_lt, i_eq, if_true, if_false, Nat.le_refl, Nat.reduceEqDiff, Nat.reduceLeDiff, c_inL]
  cases inL x 0 1 <;> simp (disch := first | exact ok_i | exact ok_r | exact ok_n | exact cat_i | exact cat_r | exact t103 | exact ro_0 | exact ro_1 | omega | assumption | (refine i103 ?_; omega) | (simp only [List.map_cons, List.map_nil, List.sum_cons, List.sum_nil, cat_i, cat_r, cat_l, Nat.reduceAdd, Nat.reduceLeDiff]; done) | decide) only [s186_0, s186_1, s186_2, s186_3, s186_4, s186_7, b2i, tl_s, tl_n, nI_add, pk_mul, i_cl, row_s, u2_row, i_le, i_lt, i_eq, if_true, if_false, Nat.le_refl, Nat.reduceEqDiff, Nat.reduceLeDiff, Bool.false_eq_true]
def demV (N : Nat → Int32) (f m : Nat) (x p : Int32) : Int32 := if (inR x f && inL p 0 1) = true then (if m = 0 then -3 else nI ((if p = nI 0 then (N (352 + tN x)).toNatClampNeg else m) / Nat.gcd (N (352 + tN x)).toNatClampNeg m)) else -2
theorem c_demand {f m q : Nat} {x p : Int32} (hf : N 444 = nI f) (hf1 : 2 ≤ f) (hf4 : f ≤ 12) (hm : N 446 = nI m) (hm4 : m ≤ 40) (hq : N (352 + tN x) = nI q) (hq2 : q < 2147483648) : Call X (d + 3) 187 [.ref 102, .int x, .int p] G0 (row I 103 N) Q ↔ Q (some (.int (demV N f m x p))) G0 (row I 103 N) := by
  unfold demV
  rw [hq, i_cl hq2]
  simp (disch := first | exact ok_i | exact ok_r | exact ok_n | exact cat_i | exact cat_r | exact t103 | exact ro_0 | exact ro_1 | omega | assumption | (refine i103 ?_; omega) | (simp only [List.map_cons, List.map_nil, List.sum_cons, List.sum_nil, cat_i, cat_r, cat_l, Nat.reduceAdd, Nat.reduceLeDiff]; done) | decide) only [e187, s187_0, s187_1, s187_2, s187_5, tl_s, tl_n, nI_add, pk_mul, i_cl, row_s, u2_row, i_le, i_lt, i_eq, if_true, if_false, Nat.le_refl, Nat.reduceEqDiff, Nat.reduceLeDiff, c_floor hf hf1 hf4, b2i_0]
  cases h1 : inR x f
  · simp (disch := first | exact ok_i | exact ok_r | exact ok_n | exact cat_i | exact cat_r | exact t103 | exact ro_0 | exact ro_1 | omega | assumption | (refine i103 ?_; omega) | (simp only [List.map_cons, List.map_nil, List.sum_cons, List.sum_nil, cat_i, cat_r, cat_l, Nat.reduceAdd, Nat.reduceLeDiff]; done) | decide) only [s187_15, s187_17, tl_s, tl_n, nI_add, pk_mul, i_cl, row_s, u2_row, i_le, i_lt, i_eq, if_true, if_false, Nat.le_refl, Nat.reduceEqDiff, Nat.reduceLeDiff, Bool.false_and, Bool.false_eq_true]
  · simp (disch := first | exact ok_i | exact ok_r | exact ok_n | exact cat_i | exact cat_r | exact t103 | exact ro_0 | exact ro_1 | omega | assumption | (refine i103 ?_; omega) | (simp only [List.map_cons, List.map_nil, List.sum_cons, List.sum_nil, cat_i, cat_r, cat_l, Nat.reduceAdd, Nat.reduceLeDiff]; done) | decide) only [s187_8, s187_9, s187_12, tl_s, tl_n, nI_add, pk_mul, i_cl, row_s, u2_row, i_le, i_lt, i_eq, if_true, if_false, Nat.le_refl, Nat.reduceEqDiff, Nat.reduceLeDiff, c_isPart, b2i_0, Bool.true_eq_false, Bool.true_and]
    cases h2 : inL p 0 1
    · simp (disch := first | exact ok_i | exact ok_r | exact ok_n | exact cat_i | exact cat_r | exact t103 | exact ro_0 | exact ro_1 | omega | assumption | (refine i103 ?_; omega) | (simp only [List.map_cons, List.map_nil, List.sum_cons, List.sum_nil, cat_i, cat_r, cat_l, Nat.reduceAdd, Nat.reduceLeDiff]; done) | decide) only [s187_15, s187_17, tl_s, tl_n, nI_add, pk_mul, i_cl, row_s, u2_row, i_le, i_lt, i_eq, if_true, if_false, Nat.le_refl, Nat.reduceEqDiff, Nat.reduceLeDiff, Bool.false_eq_true]
    · obtain ⟨hx, hx4⟩ := inR_t h1
      generalize tN x = a at *
      subst hx
      simp (disch := first | exact ok_i | exact ok_r | exact ok_n | exact cat_i | exact cat_r | exact t103 | exact ro_0 | exact ro_1 | omega | assumption | (refine i103 ?_; omega) | (simp only [List.map_cons, List.map_nil, List.sum_cons, List.sum_nil, cat_i, cat_r, cat_l, Nat.reduceAdd, Nat.reduceLeDiff]; done) | decide) only [s187_18, s187_19, s187_22, s187_25, s187_26, tl_s, tl_n, nI_add, pk_mul, i_cl, row_s, u2_row, i_le, i_lt, i_eq, if_true, if_false, Nat.le_refl, Nat.reduceEqDiff, Nat.reduceLeDiff, hm, Bool.true_eq_false]
      by_cases h3 : m = 0
      · simp (disch := first | exact ok_i | exact ok_r | exact ok_n | exact cat_i | exact cat_r | exact t103 | exact ro_0 | exact ro_1 | omega | assumption | (refine i103 ?_; omega) | (simp only [List.map_cons, List.map_nil, List.sum_cons, List.sum_nil, cat_i, cat_r, cat_l, Nat.reduceAdd, Nat.reduceLeDiff]; done) | decide) only [h3, s187_29, s187_31, s187_56, tl_s, tl_n, nI_add, pk_mul, i_cl, row_s, u2_row, i_le, i_lt, i_eq, if_true, if_false, Nat.le_refl, Nat.reduceEqDiff, Nat.reduceLeDiff]
      · simp (disch := first | exact ok_i | exact ok_r | exact ok_n | exact cat_i | exact cat_r | exact t103 | exact ro_0 | exact ro_1 | omega | assumption | (refine i103 ?_; omega) | (simp only [List.map_cons, List.map_nil, List.sum_cons, List.sum_nil, cat_i, cat_r, cat_l, Nat.reduceAdd, Nat.reduceLeDiff]; done) | decide) only [h3, s187_34, s187_35, s187_38, s187_41, s187_42, s187_43, s187_44, s187_45, s187_48, s187_51, s187_52, tl_s, tl_n, nI_add, pk_mul, i_cl, row_s, u2_row, i_le, i_lt, i_eq, if_true, if_false, Nat.le_refl, Nat.reduceEqDiff, Nat.reduceLeDiff, hm, hq]
        rw [s187_53 (by simp only [List.map_cons, List.map_nil, List.sum_cons, List.sum_nil, cat_i, cat_r, cat_l, Nat.reduceAdd, Nat.reduceLeDiff]), c_lowest hq2 (by omega) (by omega)]
        simp (disch := first | exact ok_i | exact ok_r | exact ok_n | exact cat_i | exact cat_r | exact t103 | exact ro_0 | exact ro_1 | omega | assumption | (refine i103 ?_; omega) | (simp only [List.map_cons, List.map_nil, List.sum_cons, List.sum_nil, cat_i, cat_r, cat_l, Nat.reduceAdd, Nat.reduceLeDiff]; done) | decide) only [s187_56, tl_s, tl_n, nI_add, pk_mul, i_cl, row_s, u2_row, i_le, i_lt, i_eq, if_true, if_false, Nat.le_refl, Nat.reduceEqDiff, Nat.reduceLeDiff]
end
