/-! the model: sweeps, what is near -/
/-- a car's bits say: a stop -/
def bitA (b x : Int32) : Bool := decide (shr b x &&& nI 1 = nI 1)
def nrI (N : Nat → Int32) (b b2 n : Int32) (f a : Nat) (s : Nat) : Nat → Nat := itr (fun j s => s + (if (bitA b (nI a) && bitA b2 (nI j)) = true ∧ mabs (nI a - nI j) ≤ n then 1 else 0)) s
def nrS (N : Nat → Int32) (b b2 n : Int32) (f : Nat) : Nat → Nat := itr (fun a s => nrI N b b2 n f a s f) 0
def neaV (N : Nat → Int32) (f k m : Nat) (x y n : Int32) : Int32 := if (inR x k && inR y k && inL n 0 11) = true then nI (nrS N (stopsM N (tN x) m) (stopsM N (tN y) m) n f f) else -2
def onF : Nat → Nat → Nat
  | 0, _ => 0
  | n + 1, b => if b = 0 then 0 else b % 2 + onF n (b / 2)
theorem bits12 : (List.range 4096).all (fun b => decide (shr (nI b) (nI 1) = nI (b / 2)) && decide (nI b &&& nI 1 = nI (b % 2))) = true := by decide +kernel
theorem bit_h {b : Nat} (h : b < 4096) : shr (nI b) (nI 1) = nI (b / 2) ∧ nI b &&& nI 1 = nI (b % 2) := by
  have h1 := List.all_eq_true.mp bits12 b (List.mem_range.mpr h)
  rw [Bool.and_eq_true, decide_eq_true_eq, decide_eq_true_eq] at h1
  exact h1
/-- the floor of step k in a sweep -/
def swA (fl st : Int32) (k : Nat) : Int32 := fl + (if k < 12 then nI k * st else -(nI (k - 12 + 1)) * st)
def swR (fl st b : Int32) (f : Nat) : Nat → Nat → Int32
  | 0, _ => -12
  | r + 1, left => if (inR (swA fl st (24 - (r + 1))) f && bitA b (swA fl st (24 - (r + 1)))) = true then (if left = 0 then swA fl st (24 - (r + 1)) else swR fl st b f r (left - 1)) else swR fl st b f r left
def swpV (N : Nat → Int32) (f k m q : Nat) (x i : Int32) : Int32 := if inR x k = true then (if i = -1 then nI (onF 12 q) else if inR i (onF 12 q) = true then swR (cf N (tN x) 3) (if cf N (tN x) 4 = nI 2 then -1 else nI 1) (stopsM N (tN x) m) f 24 (tN i) else -12) else -2
theorem onF_le : ∀ {n b : Nat}, onF n b ≤ n
  | 0, _ => Nat.le_refl _
  | n + 1, b => by
    have h := onF_le (n := n) (b := b / 2)
    unfold onF
    split <;> omega
section
variable {X : pX} {d : Nat} {I : pI} {Q : Option Value → pG → pI → Prop} {N : Nat → Int32} {G : pG}
theorem c_isStop2 {c m : Nat} {x : Int32} (hc : c < 4) (hm : N 446 = nI m) (hm4 : m ≤ 40) : Call X (d + 4) 150 [.ref 102, .int (nI c), .int x] G0 (row I 103 N) Q ↔ Q (some (.int (b2i (bitA (stopsM N c m) x)))) G0 (row I 103 N) := by
  rw [c_isStop hc hm hm4]
  unfold bitA b2i
  by_cases h : shr (stopsM N c m) x &&& nI 1 = nI 1 <;> simp only [h, if_true, if_false, decide_true, decide_false, Bool.false_eq_true]
theorem c_ones : ∀ n b s : Nat, b < 2 ^ n → n ≤ 12 → ∀ l0 : Int32, (At X d 188 4 [some (.int l0), some (.int (nI s)), some (.int (nI b))] [] G I Q ↔ Q (some (.int (nI (s + onF n b)))) G I) := by
  intro n
  induction n with
  | zero =>
    intro b s hb _ l0
    have hb0 : b = 0 := by omega
    subst hb0
    simp (disch := first | exact ok_i | exact ok_r | exact ok_n | exact cat_i | exact cat_r | exact t103 | exact ro_0 | exact ro_1 | omega | assumption | (refine i103 ?_; omega) | (simp only [List.map_cons, List.map_nil, List.sum_cons, List.sum_nil, cat_i, cat_r, cat_l, Nat.reduceAdd, Nat.reduceLeDiff]; done) | decide) only [s188_4, s188_5, s188_21, s188_22, tl_s, tl_n, nI_add, pk_mul, i_cl, row_s, u2_row, i_le, i_lt, i_eq, if_true, if_false, Nat.le_refl, Nat.reduceEqDiff, Nat.reduceLeDiff, onF, Nat.add_zero]
  | succ n ih =>
    intro b s hb hn l0
    have hp : 2 ^ (n + 1) ≤ 2 ^ 12 := Nat.pow_le_pow_right (by decide) hn
    have hb12 : b < 4096 := by omega
    have hb2 : b / 2 < 2 ^ n := by
      rw [Nat.pow_succ] at hb
      omega
    obtain ⟨e1, e2⟩ := bit_h hb12
    have ih' := ih (b / 2) (s + b % 2) hb2 (by omega) l0
    unfold onF
    rw [s188_4]
    by_cases h0 : b = 0
    · simp (disch := first | exact ok_i | exact ok_r | exact ok_n | exact cat_i | exact cat_r | exact t103 | exact ro_0 | exact ro_1 | omega | assumption | (refine i103 ?_; omega) | (simp only [List.map_cons, List.map_nil, List.sum_cons, List.sum_nil, cat_i, cat_r, cat_l, Nat.reduceAdd, Nat.reduceLeDiff]; done) | decide) only [h0, s188_5, s188_21, s188_22, tl_s, tl_n, nI_add, pk_mul, i_cl, row_s, u2_row, i_le, i_lt, i_eq, if_true, if_false, Nat.le_refl, Nat.reduceEqDiff, Nat.reduceLeDiff, Nat.add_zero]
    · have n1 : ¬ b ≤ 0 := by omega
      simp (disch := first | exact ok_i | exact ok_r | exact ok_n | exact cat_i | exact cat_r | exact t103 | exact ro_0 | exact ro_1 | omega | assumption | (refine i103 ?_; omega) | (simp only [List.map_cons, List.map_nil, List.sum_cons, List.sum_nil, cat_i, cat_r, cat_l, Nat.reduceAdd, Nat.reduceLeDiff]; done) | decide) only [h0, n1, s188_5, s188_8, s188_9, s188_10, s188_11, s188_12, s188_13, s188_14, s188_15, s188_16, s188_17, s188_18, tl_s, tl_n, nI_add, pk_mul, i_cl, row_s, u2_row, i_le, i_lt, i_eq, if_true, if_false, Nat.le_refl, Nat.reduceEqDiff, Nat.reduceLeDiff, e1, e2, ih', Nat.add_assoc]
theorem c_near_ {f k m : Nat} {x y n : Int32} (hf : N 444 = nI f) (hf4 : f ≤ 12) (hk : N 445 = nI k) (hk1 : 1 ≤ k) (hk4 : k ≤ 4) (hm : N 446 = nI m) (hm4 : m ≤ 40) : Call X (d + 5) 190 [.ref 102, .int x, .int y, .int n] G0 (row I 103 N) Q ↔ Q (some (.int (neaV N f k m x y n))) G0 (row I 103 N) := by
  unfold neaV
  simp (disch := first | exact ok_i | exact ok_r | exact ok_n | exact cat_i | exact cat_r | exact t103 | exact ro_0 | exact ro_1 | omega | assumption | (refine i103 ?_; omega) | (simp only [List.map_cons, List.map_nil, List.sum_cons, List.sum_nil, cat_i, cat_r, cat_l, Nat.reduceAdd, Nat.reduceLeDiff]; done) | decide) only [e190, s190_0, s190_1, s190_2, s190_5, tl_s, tl_n, nI_add, pk_mul, i_cl, row_s, u2_row, i_le, i_lt, i_eq, if_true, if_false, Nat.le_refl, Nat.reduceEqDiff, Nat.reduceLeDiff, c_car hk hk1 hk4, b2i_0]
  cases h1 : inR x k
  · simp (disch := first | exact ok_i | exact ok_r | exact ok_n | exact cat_i | exact cat_r | exact t103 | exact ro_0 | exact ro_1 | omega | assumption | (refine i103 ?_; omega) | (simp only [List.map_cons, List.map_nil, List.sum_cons, List.sum_nil, cat_i, cat_r, cat_l, Nat.reduceAdd, Nat.reduceLeDiff]; done) | decide) only [s190_28, s190_30, tl_s, tl_n, nI_add, pk_mul, i_cl, row_s, u2_row, i_le, i_lt, i_eq, if_true, if_false, Nat.le_refl, Nat.reduceEqDiff, Nat.reduceLeDiff, Bool.false_and, Bool.false_eq_true]
  · simp (disch := first | exact ok_i | exact ok_r | exact ok_n | exact cat_i | exact cat_r | exact t103 | exact ro_0 | exact ro_1 | omega | assumption | (refine i103 ?_; omega) | (simp only [List.map_cons, List.map_nil, List.sum_cons, List.sum_nil, cat_i, cat_r, cat_l, Nat.reduceAdd, Nat.reduceLeDiff]; done) | decide) only [s190_8, s190_9, s190_10, s190_13, tl_s, tl_n, nI_add, pk_mul, i_cl, row_s, u2_row, i_le, i_lt, i_eq, if_true, if_false, Nat.le_refl, Nat.reduceEqDiff, Nat.reduceLeDiff, c_car hk hk1 hk4, b2i_0, Bool.true_eq_false, Bool.true_and]
    cases h2 : inR y k
    · simp (disch := first | exact ok_i | exact ok_r | exact ok_n | exact cat_i | exact cat_r | exact t103 | exact ro_0 | exact ro_1 | omega | assumption | (refine i103 ?_; omega) | (simp only [List.map_cons, List.map_nil, List.sum_cons, List.sum_nil, cat_i, cat_r, cat_l, Nat.reduceAdd, Nat.reduceLeDiff]; done) | decide) only [s190_28, s190_30, tl_s, tl_n, nI_add, pk_mul, i_cl, row_s, u2_row, i_le, i_lt, i_eq, if_true, if_false, Nat.le_refl, Nat.reduceEqDiff, Nat.reduceLeDiff, Bool.false_and, Bool.false_eq_true]
    · simp (disch := first | exact ok_i | exact ok_r | exact ok_n | exact cat_i | exact cat_r | exact t103 | exact ro_0 | exact ro_1 | omega | assumption | (refine i103 ?_; omega) | (simp only [List.map_cons, List.map_nil, List.sum_cons, List.sum_nil, cat_i, cat_r, cat_l, Nat.reduceAdd, Nat.reduceLeDiff]; done) | decide) only [s190_16, s190_17, s190_18, s190_19, s190_22, s190_25, tl_s, tl_n, nI_add, pk_mul, i_cl, row_s, u2_row, i_le, i_lt, i_eq, if_true, if_false, Nat.le_refl, Nat.reduceEqDiff, Nat.reduceLeDiff, c_inL, b2i_0, Bool.true_eq_false, Bool.true_and]
      cases h3 : inL n 0 11
      · simp (disch := first | exact ok_i | exact ok_r | exact ok_n | exact cat_i | exact cat_r | exact t103 | exact ro_0 | exact ro_1 | omega | assumption | (refine i103 ?_; omega) | (simp only [List.map_cons, List.map_nil, List.sum_cons, List.sum_nil, cat_i, cat_r, cat_l, Nat.reduceAdd, Nat.reduceLeDiff]; done) | decide) only [s190_28, s190_30, tl_s, tl_n, nI_add, pk_mul, i_cl, row_s, u2_row, i_le, i_lt, i_eq, if_true, if_false, Nat.le_refl, Nat.reduceEqDiff, Nat.reduceLeDiff, Bool.false_eq_true]
      · obtain ⟨hx, hx4⟩ := inR_t h1
        obtain ⟨hy, hy4⟩ := inR_t h2
        generalize tN x = c at *
        generalize tN y = c2 at *
        subst hx
        subst hy
        simp (disch := first | exact ok_i | exact ok_r | exact ok_n | exact cat_i | exact cat_r | exact t103 | exact ro_0 | exact ro_1 | omega | assumption | (refine i103 ?_; omega) | (simp only [List.map_cons, List.map_nil, List.sum_cons, List.sum_nil, cat_i, cat_r, cat_l, Nat.reduceAdd, Nat.reduceLeDiff]; done) | decide) only [s190_31, s190_32, s190_34, s190_35, tl_s, tl_n, nI_add, pk_mul, i_cl, row_s, u2_row, i_le, i_lt, i_eq, if_true, if_false, Nat.le_refl, Nat.reduceEqDiff, Nat.reduceLeDiff, Bool.true_eq_false]
        have outer : ∀ r, r ≤ f → ∀ l : Option Value, okL l = true → (At X (d + 4) 190 37 [some (.ref 102), some (.int (nI c)), some (.int (nI c2)), some (.int n), some (.int (nI (nrS N (stopsM N c m) (stopsM N c2 m) n f (f - r)))), some (.int (nI (f - r))), l] [] G0 (row I 103 N) Q ↔ Q (some (.int (nI (nrS N (stopsM N c m) (stopsM N c2 m) n f f)))) G0 (row I 103 N)) := by
          intro r
          induction r with
          | zero =>
            intro _ l hl
            rw [s190_37]
            simp (disch := first | exact ok_i | exact ok_r | exact ok_n | exact cat_i | exact cat_r | exact t103 | exact ro_0 | exact ro_1 | omega | assumption | (refine i103 ?_; omega) | (simp only [List.map_cons, List.map_nil, List.sum_cons, List.sum_nil, cat_i, cat_r, cat_l, Nat.reduceAdd, Nat.reduceLeDiff]; done) | decide) only [s190_39, s190_40, s190_43, s190_112, s190_114, tl_s, tl_n, nI_add, pk_mul, i_cl, row_s, u2_row, i_le, i_lt, i_eq, if_true, if_false, Nat.le_refl, Nat.reduceEqDiff, Nat.reduceLeDiff, c_floors, hf, Nat.sub_zero]
          | succ r ih =>
            intro hr l hl
            have n1 : ¬ f ≤ f - (r + 1) := by omega
            have e1 : f - (r + 1) + 1 = f - r := by omega
            have ih' := ih (by omega) (some (.int (nI f))) rfl
            have e2 : nrS N (stopsM N c m) (stopsM N c2 m) n f (f - r) = nrI N (stopsM N c m) (stopsM N c2 m) n f (f - (r + 1)) (nrS N (stopsM N c m) (stopsM N c2 m) n f (f - (r + 1))) f := by rw [← e1]; rfl
            rw [e2] at ih'
            rw [s190_37]
            simp (disch := first | exact ok_i | exact ok_r | exact ok_n | exact cat_i | exact cat_r | exact t103 | exact ro_0 | exact ro_1 | omega | assumption | (refine i103 ?_; omega) | (simp only [List.map_cons, List.map_nil, List.sum_cons, List.sum_nil, cat_i, cat_r, cat_l, Nat.reduceAdd, Nat.reduceLeDiff]; done) | decide) only [s190_39, s190_40, s190_43, s190_46, s190_47, tl_s, tl_n, nI_add, pk_mul, i_cl, row_s, u2_row, i_le, i_lt, i_eq, if_true, if_false, Nat.le_refl, Nat.reduceEqDiff, Nat.reduceLeDiff, n1, c_floors, hf]
            refine loop_up (P := fun j => At X (d + 4) 190 49 [some (.ref 102), some (.int (nI c)), some (.int (nI c2)), some (.int n), some (.int (nI (nrI N (stopsM N c m) (stopsM N c2 m) n f (f - (r + 1)) (nrS N (stopsM N c m) (stopsM N c2 m) n f (f - (r + 1))) j))), some (.int (nI (f - (r + 1)))), some (.int (nI j))] [] G0 (row I 103 N) Q) (n := f) ?_ ?_ 0 (Nat.zero_le _)
            · simp (disch := first | exact ok_i | exact ok_r | exact ok_n | exact cat_i | exact cat_r | exact t103 | exact ro_0 | exact ro_1 | omega | assumption | (refine i103 ?_; omega) | (simp only [List.map_cons, List.map_nil, List.sum_cons, List.sum_nil, cat_i, cat_r, cat_l, Nat.reduceAdd, Nat.reduceLeDiff]; done) | decide) only [s190_49, s190_51, s190_52, s190_55, s190_106, s190_109, tl_s, tl_n, nI_add, pk_mul, i_cl, row_s, u2_row, i_le, i_lt, i_eq, if_true, if_false, Nat.le_refl, Nat.reduceEqDiff, Nat.reduceLeDiff, c_floors, hf, e1, ih']
            · intro j hj
              have n2 : ¬ f ≤ j := by omega
              generalize nrS N (stopsM N c m) (stopsM N c2 m) n f (f - (r + 1)) = s0
              have e3 : nrI N (stopsM N c m) (stopsM N c2 m) n f (f - (r + 1)) s0 (j + 1) = nrI N (stopsM N c m) (stopsM N c2 m) n f (f - (r + 1)) s0 j + (if (bitA (stopsM N c m) (nI (f - (r + 1))) && bitA (stopsM N c2 m) (nI j)) = true ∧ mabs (nI (f - (r + 1)) - nI j) ≤ n then 1 else 0) := rfl
              rw [s190_49, e3]
              simp (disch := first | exact ok_i | exact ok_r | exact ok_n | exact cat_i | exact cat_r | exact t103 | exact ro_0 | exact ro_1 | omega | assumption | (refine i103 ?_; omega) | (simp only [List.map_cons, List.map_nil, List.sum_cons, List.sum_nil, cat_i, cat_r, cat_l, Nat.reduceAdd, Nat.reduceLeDiff]; done) | decide) only [s190_51, s190_52, s190_55, s190_58, s190_60, s190_61, s190_62, s190_64, s190_67, tl_s, tl_n, nI_add, pk_mul, i_cl, row_s, u2_row, i_le, i_lt, i_eq, if_true, if_false, Nat.le_refl, Nat.reduceEqDiff, Nat.reduceLeDiff, n2, c_floors, hf, c_isStop2 (show c < 4 by omega) hm hm4, b2i_0]
              cases h4 : bitA (stopsM N c m) (nI (f - (r + 1)))
              · simp (disch := first | exact ok_i | exact ok_r | exact ok_n | exact cat_i | exact cat_r | exact t103 | exact ro_0 | exact ro_1 | omega | assumption | (refine i103 ?_; omega) | (simp only [List.map_cons, List.map_nil, List.sum_cons, List.sum_nil, cat_i, cat_r, cat_l, Nat.reduceAdd, Nat.reduceLeDiff]; done) | decide) only [s190_96, s190_97, s190_98, s190_100, s190_103, tl_s, tl_n, nI_add, pk_mul, i_cl, row_s, u2_row, i_le, i_lt, i_eq, if_true, if_false, Nat.le_refl, Nat.reduceEqDiff, Nat.reduceLeDiff, Bool.false_and, Bool.false_eq_true, false_and]
              · simp (disch := first | exact ok_i | exact ok_r | exact ok_n | exact cat_i | exact cat_r | exact t103 | exact ro_0 | exact ro_1 | omega | assumption | (refine i103 ?_; omega) | (simp only [List.map_cons, List.map_nil, List.sum_cons, List.sum_nil, cat_i, cat_r, cat_l, Nat.reduceAdd, Nat.reduceLeDiff]; done) | decide) only [s190_70, s190_71, s190_72, s190_74, s190_77, tl_s, tl_n, nI_add, pk_mul, i_cl, row_s, u2_row, i_le, i_lt, i_eq, if_true, if_false, Nat.le_refl, Nat.reduceEqDiff, Nat.reduceLeDiff, c_isStop2 (show c2 < 4 by omega) hm hm4, b2i_0, Bool.true_and, Bool.true_eq_false]
                cases h5 : bitA (stopsM N c2 m) (nI j)
                · simp (disch := first | exact ok_i | exact ok_r | exact ok_n | exact cat_i | exact cat_r | exact t103 | exact ro_0 | exact ro_1 | omega | assumption | (refine i103 ?_; omega) | (simp only [List.map_cons, List.map_nil, List.sum_cons, List.sum_nil, cat_i, cat_r, cat_l, Nat.reduceAdd, Nat.reduceLeDiff]; done) | decide) only [s190_96, s190_97, s190_98, s190_100, s190_103, tl_s, tl_n, nI_add, pk_mul, i_cl, row_s, u2_row, i_le, i_lt, i_eq, if_true, if_false, Nat.le_refl, Nat.reduceEqDiff, Nat.reduceLeDiff, Bool.false_eq_true, false_and]
                · simp (disch := first | exact ok_i | exact ok_r | exact ok_n | exact cat_i | exact cat_r | exact t103 | exact ro_0 | exact ro_1 | omega | assumption | (refine i103 ?_; omega) | (simp only [List.map_cons, List.map_nil, List.sum_cons, List.sum_nil, cat_i, cat_r, cat_l, Nat.reduceAdd, Nat.reduceLeDiff]; done) | decide) only [s190_80, s190_82, s190_84, s190_85, s190_88, s190_89, tl_s, tl_n, nI_add, pk_mul, i_cl, row_s, u2_row, i_le, i_lt, i_eq, if_true, if_false, Nat.le_refl, Nat.reduceEqDiff, Nat.reduceLeDiff, true_and, Bool.true_eq_false]
                  by_cases h6 : mabs (nI (f - (r + 1)) - nI j) ≤ n
                  · have h6' : ¬ n < mabs (nI (f - (r + 1)) - nI j) := Int32.not_lt.mpr h6
                    simp (disch := first | exact ok_i | exact ok_r | exact ok_n | exact cat_i | exact cat_r | exact t103 | exact ro_0 | exact ro_1 | omega | assumption | (refine i103 ?_; omega) | (simp only [List.map_cons, List.map_nil, List.sum_cons, List.sum_nil, cat_i, cat_r, cat_l, Nat.reduceAdd, Nat.reduceLeDiff]; done) | decide) only [h6, h6', s190_92, s190_93, s190_96, s190_97, s190_98, s190_100, s190_103, tl_s, tl_n, nI_add, pk_mul, i_cl, row_s, u2_row, i_le, i_lt, i_eq, if_true, if_false, Nat.le_refl, Nat.reduceEqDiff, Nat.reduceLeDiff]
                  · have h6' : n < mabs (nI (f - (r + 1)) - nI j) := Int32.not_le.mp h6
                    simp (disch := first | exact ok_i | exact ok_r | exact ok_n | exact cat_i | exact cat_r | exact t103 | exact ro_0 | exact ro_1 | omega | assumption | (refine i103 ?_; omega) | (simp only [List.map_cons, List.map_nil, List.sum_cons, List.sum_nil, cat_i, cat_r, cat_l, Nat.reduceAdd, Nat.reduceLeDiff]; done) | decide) only [h6, h6', s190_96, s190_97, s190_98, s190_100, s190_103, tl_s, tl_n, nI_add, pk_mul, i_cl, row_s, u2_row, i_le, i_lt, i_eq, if_true, if_false, Nat.le_refl, Nat.reduceEqDiff, Nat.reduceLeDiff]
        have k0 := outer f (Nat.le_refl _) none rfl
        rw [Nat.sub_self] at k0
        exact k0
theorem c_swLoop {f m c : Nat} {a st x i : Int32} (hf : N 444 = nI f) (hf1 : 2 ≤ f) (hf4 : f ≤ 12) (hc : c < 4) (hm : N 446 = nI m) (hm4 : m ≤ 40) : ∀ r, r ≤ 24 → ∀ left : Nat, left < 100 → ∀ l : Option Value, okL l = true →
    (At X (d + 4) 189 66 [some (.ref 102), some (.int (nI c)), some (.int i), some (.int a), some (.int st), some (.int (nI left)), some (.int (nI (24 - r))), l] [] G0 (row I 103 N) Q ↔ Q (some (.int (swR (cf N c 3) st (stopsM N c m) f r left))) G0 (row I 103 N)) := by
  intro r
  induction r with
  | zero =>
    intro _ left _ l hl
    rw [s189_66]
    simp (disch := first | exact ok_i | exact ok_r | exact ok_n | exact cat_i | exact cat_r | exact t103 | exact ro_0 | exact ro_1 | omega | assumption | (refine i103 ?_; omega) | (simp only [List.map_cons, List.map_nil, List.sum_cons, List.sum_nil, cat_i, cat_r, cat_l, Nat.reduceAdd, Nat.reduceLeDiff]; done) | decide) only [s189_68, s189_70, s189_144, s189_146, tl_s, tl_n, nI_add, pk_mul, i_cl, row_s, u2_row, i_le, i_lt, i_eq, if_true, if_false, Nat.le_refl, Nat.reduceEqDiff, Nat.reduceLeDiff, Nat.sub_zero, swR]
  | succ r ih =>
    intro hr left hleft l hl
    have n1 : ¬ 24 ≤ 24 - (r + 1) := by omega
    have e1 : 24 - (r + 1) + 1 = 24 - r := by omega
    have fin : At X (d + 4) 189 108 [some (.ref 102), some (.int (nI c)), some (.int i), some (.int a), some (.int st), some (.int (nI left)), some (.int (nI (24 - (r + 1)))), some (.int (swA (cf N c 3) st (24 - (r + 1))))] [] G0 (row I 103 N) Q ↔ Q (some (.int (swR (cf N c 3) st (stopsM N c m) f (r + 1) left))) G0 (row I 103 N) := by
      unfold swR
      generalize swA (cf N c 3) st (24 - (r + 1)) = v
      simp (disch := first | exact ok_i | exact ok_r | exact ok_n | exact cat_i | exact cat_r | exact t103 | exact ro_0 | exact ro_1 | omega | assumption | (refine i103 ?_; omega) | (simp only [List.map_cons, List.map_nil, List.sum_cons, List.sum_nil, cat_i, cat_r, cat_l, Nat.reduceAdd, Nat.reduceLeDiff]; done) | decide) only [s189_108, s189_109, s189_111, s189_114, tl_s, tl_n, nI_add, pk_mul, i_cl, row_s, u2_row, i_le, i_lt, i_eq, if_true, if_false, Nat.le_refl, Nat.reduceEqDiff, Nat.reduceLeDiff, c_floor hf hf1 hf4, b2i_0]
      cases h1 : inR v f
      · simp (disch := first | exact ok_i | exact ok_r | exact ok_n | exact cat_i | exact cat_r | exact t103 | exact ro_0 | exact ro_1 | omega | assumption | (refine i103 ?_; omega) | (simp only [List.map_cons, List.map_nil, List.sum_cons, List.sum_nil, cat_i, cat_r, cat_l, Nat.reduceAdd, Nat.reduceLeDiff]; done) | decide) only [s189_138, s189_141, tl_s, tl_n, nI_add, pk_mul, i_cl, row_s, u2_row, i_le, i_lt, i_eq, if_true, if_false, Nat.le_refl, Nat.reduceEqDiff, Nat.reduceLeDiff, e1, ih (show r ≤ 24 by omega) left hleft, Bool.false_and, Bool.false_eq_true]
      · simp (disch := first | exact ok_i | exact ok_r | exact ok_n | exact cat_i | exact cat_r | exact t103 | exact ro_0 | exact ro_1 | omega | assumption | (refine i103 ?_; omega) | (simp only [List.map_cons, List.map_nil, List.sum_cons, List.sum_nil, cat_i, cat_r, cat_l, Nat.reduceAdd, Nat.reduceLeDiff]; done) | decide) only [s189_117, s189_118, s189_119, s189_121, s189_124, tl_s, tl_n, nI_add, pk_mul, i_cl, row_s, u2_row, i_le, i_lt, i_eq, if_true, if_false, Nat.le_refl, Nat.reduceEqDiff, Nat.reduceLeDiff, c_isStop2 hc hm hm4, b2i_0, Bool.true_and, Bool.true_eq_false]
        cases h2 : bitA (stopsM N c m) v
        · simp (disch := first | exact ok_i | exact ok_r | exact ok_n | exact cat_i | exact cat_r | exact t103 | exact ro_0 | exact ro_1 | omega | assumption | (refine i103 ?_; omega) | (simp only [List.map_cons, List.map_nil, List.sum_cons, List.sum_nil, cat_i, cat_r, cat_l, Nat.reduceAdd, Nat.reduceLeDiff]; done) | decide) only [s189_138, s189_141, tl_s, tl_n, nI_add, pk_mul, i_cl, row_s, u2_row, i_le, i_lt, i_eq, if_true, if_false, Nat.le_refl, Nat.reduceEqDiff, Nat.reduceLeDiff, e1, ih (show r ≤ 24 by omega) left hleft, Bool.false_eq_true]
        · by_cases h3 : left = 0
          · simp (disch := first | exact ok_i | exact ok_r | exact ok_n | exact cat_i | exact cat_r | exact t103 | exact ro_0 | exact ro_1 | omega | assumption | (refine i103 ?_; omega) | (simp only [List.map_cons, List.map_nil, List.sum_cons, List.sum_nil, cat_i, cat_r, cat_l, Nat.reduceAdd, Nat.reduceLeDiff]; done) | decide) only [h3, s189_127, s189_129, s189_132, s189_134, tl_s, tl_n, nI_add, pk_mul, i_cl, row_s, u2_row, i_le, i_lt, i_eq, if_true, if_false, Nat.le_refl, Nat.reduceEqDiff, Nat.reduceLeDiff, Bool.true_eq_false]
          · have hd := i_dec (k := left) (by omega)
            simp (disch := first | exact ok_i | exact ok_r | exact ok_n | exact cat_i | exact cat_r | exact t103 | exact ro_0 | exact ro_1 | omega | assumption | (refine i103 ?_; omega) | (simp only [List.map_cons, List.map_nil, List.sum_cons, List.sum_nil, cat_i, cat_r, cat_l, Nat.reduceAdd, Nat.reduceLeDiff]; done) | decide) only [h3, hd, s189_127, s189_129, s189_135, s189_138, s189_141, tl_s, tl_n, nI_add, pk_mul, i_cl, row_s, u2_row, i_le, i_lt, i_eq, if_true, if_false, Nat.le_refl, Nat.reduceEqDiff, Nat.reduceLeDiff, e1, ih (show r ≤ 24 by omega) (left - 1) (by omega), Bool.true_eq_false]
    rw [← fin, s189_66]
    unfold swA
    simp (disch := first | exact ok_i | exact ok_r | exact ok_n | exact cat_i | exact cat_r | exact t103 | exact ro_0 | exact ro_1 | omega | assumption | (refine i103 ?_; omega) | (simp only [List.map_cons, List.map_nil, List.sum_cons, List.sum_nil, cat_i, cat_r, cat_l, Nat.reduceAdd, Nat.reduceLeDiff]; done) | decide) only [s189_68, s189_70, s189_73, s189_74, s189_75, s189_76, s189_79, s189_81, s189_83, tl_s, tl_n, nI_add, pk_mul, i_cl, row_s, u2_row, i_le, i_lt, i_eq, if_true, if_false, Nat.le_refl, Nat.reduceEqDiff, Nat.reduceLeDiff, n1, c_of]
    by_cases h4 : 24 - (r + 1) < 12
    · have h4' : ¬ 12 ≤ 24 - (r + 1) := by omega
      simp (disch := first | exact ok_i | exact ok_r | exact ok_n | exact cat_i | exact cat_r | exact t103 | exact ro_0 | exact ro_1 | omega | assumption | (refine i103 ?_; omega) | (simp only [List.map_cons, List.map_nil, List.sum_cons, List.sum_nil, cat_i, cat_r, cat_l, Nat.reduceAdd, Nat.reduceLeDiff]; done) | decide) only [h4, h4', s189_86, s189_88, s189_90, s189_91, s189_94, s189_96, s189_98, s189_99, s189_100, s189_101, s189_102, s189_104, s189_105, s189_106, tl_s, tl_n, nI_add, pk_mul, i_cl, row_s, u2_row, i_le, i_lt, i_eq, if_true, if_false, Nat.le_refl, Nat.reduceEqDiff, Nat.reduceLeDiff]
    · have h4' : 12 ≤ 24 - (r + 1) := by omega
      simp (disch := first | exact ok_i | exact ok_r | exact ok_n | exact cat_i | exact cat_r | exact t103 | exact ro_0 | exact ro_1 | omega | assumption | (refine i103 ?_; omega) | (simp only [List.map_cons, List.map_nil, List.sum_cons, List.sum_nil, cat_i, cat_r, cat_l, Nat.reduceAdd, Nat.reduceLeDiff]; done) | decide) only [h4, h4', s189_94, s189_96, s189_98, s189_99, s189_100, s189_101, s189_102, s189_104, s189_105, s189_106, tl_s, tl_n, nI_add, pk_mul, i_cl, row_s, u2_row, i_le, i_lt, i_eq, if_true, if_false, Nat.le_refl, Nat.reduceEqDiff, Nat.reduceLeDiff, i_sub]
theorem c_sweep {f k m q : Nat} {x i : Int32} (hf : N 444 = nI f) (hf1 : 2 ≤ f) (hf4 : f ≤ 12) (hk : N 445 = nI k) (hk1 : 1 ≤ k) (hk4 : k ≤ 4) (hm : N 446 = nI m) (hm4 : m ≤ 40) (hq : inR x k = true → stopsM N (tN x) m = nI q) (hq2 : q < 4096) : Call X (d + 5) 189 [.ref 102, .int x, .int i] G0 (row I 103 N) Q ↔ Q (some (.int (swpV N f k m q x i))) G0 (row I 103 N) := by
  unfold swpV
  simp (disch := first | exact ok_i | exact ok_r | exact ok_n | exact cat_i | exact cat_r | exact t103 | exact ro_0 | exact ro_1 | omega | assumption | (refine i103 ?_; omega) | (simp only [List.map_cons, List.map_nil, List.sum_cons, List.sum_nil, cat_i, cat_r, cat_l, Nat.reduceAdd, Nat.reduceLeDiff]; done) | decide) only [e189, s189_0, s189_1, s189_2, s189_5, tl_s, tl_n, nI_add, pk_mul, i_cl, row_s, u2_row, i_le, i_lt, i_eq, if_true, if_false, Nat.le_refl, Nat.reduceEqDiff, Nat.reduceLeDiff, c_car hk hk1 hk4, b2i_0]
  cases h1 : inR x k
  · simp (disch := first | exact ok_i | exact ok_r | exact ok_n | exact cat_i | exact cat_r | exact t103 | exact ro_0 | exact ro_1 | omega | assumption | (refine i103 ?_; omega) | (simp only [List.map_cons, List.map_nil, List.sum_cons, List.sum_nil, cat_i, cat_r, cat_l, Nat.reduceAdd, Nat.reduceLeDiff]; done) | decide) only [s189_8, s189_10, tl_s, tl_n, nI_add, pk_mul, i_cl, row_s, u2_row, i_le, i_lt, i_eq, if_true, if_false, Nat.le_refl, Nat.reduceEqDiff, Nat.reduceLeDiff, Bool.false_eq_true]
  · obtain ⟨hx, hx4⟩ := inR_t h1
    have hq' := hq h1
    generalize tN x = c at *
    subst hx
    have hones : ∀ Q' : Option Value → pG → pI → Prop, Call X (d + 3 + 1) 188 [.int (nI q)] G0 (row I 103 N) Q' ↔ Q' (some (.int (nI (onF 12 q)))) G0 (row I 103 N) := by
      intro Q'
      have h := c_ones (X := X) (d := d + 3) (G := G0) (I := row I 103 N) (Q := Q') 12 q 0 (by omega) (by omega) (nI q)
      rw [Nat.zero_add] at h
      rw [← h]
      simp (disch := first | exact ok_i | exact ok_r | exact ok_n | exact cat_i | exact cat_r | exact t103 | exact ro_0 | exact ro_1 | omega | assumption | (refine i103 ?_; omega) | (simp only [List.map_cons, List.map_nil, List.sum_cons, List.sum_nil, cat_i, cat_r, cat_l, Nat.reduceAdd, Nat.reduceLeDiff]; done) | decide) only [e188, s188_0, s188_1, s188_2, s188_3, tl_s, tl_n, nI_add, pk_mul, i_cl, row_s, u2_row, i_le, i_lt, i_eq, if_true, if_false, Nat.le_refl, Nat.reduceEqDiff, Nat.reduceLeDiff]
    have hb : onF 12 q ≤ 12 := onF_le
    simp (disch := first | exact ok_i | exact ok_r | exact ok_n | exact cat_i | exact cat_r | exact t103 | exact ro_0 | exact ro_1 | omega | assumption | (refine i103 ?_; omega) | (simp only [List.map_cons, List.map_nil, List.sum_cons, List.sum_nil, cat_i, cat_r, cat_l, Nat.reduceAdd, Nat.reduceLeDiff]; done) | decide) only [s189_11, s189_12, s189_13, s189_16, s189_19, s189_20, s189_21, s189_22, tl_s, tl_n, nI_add, pk_mul, i_cl, row_s, u2_row, i_le, i_lt, i_eq, if_true, if_false, Nat.le_refl, Nat.reduceEqDiff, Nat.reduceLeDiff, c_stops (show c < 4 by omega) hm hm4, hq', hones, Bool.true_eq_false]
    by_cases h2 : i = -1
    · simp (disch := first | exact ok_i | exact ok_r | exact ok_n | exact cat_i | exact cat_r | exact t103 | exact ro_0 | exact ro_1 | omega | assumption | (refine i103 ?_; omega) | (simp only [List.map_cons, List.map_nil, List.sum_cons, List.sum_nil, cat_i, cat_r, cat_l, Nat.reduceAdd, Nat.reduceLeDiff]; done) | decide) only [h2, s189_25, s189_26, tl_s, tl_n, nI_add, pk_mul, i_cl, row_s, u2_row, i_le, i_lt, i_eq, if_true, if_false, Nat.le_refl, Nat.reduceEqDiff, Nat.reduceLeDiff]
    · simp (disch := first | exact ok_i | exact ok_r | exact ok_n | exact cat_i | exact cat_r | exact t103 | exact ro_0 | exact ro_1 | omega | assumption | (refine i103 ?_; omega) | (simp only [List.map_cons, List.map_nil, List.sum_cons, List.sum_nil, cat_i, cat_r, cat_l, Nat.reduceAdd, Nat.reduceLeDiff]; done) | decide) only [h2, s189_27, s189_28, s189_29, s189_30, s189_31, s189_32, s189_33, s189_34, s189_37, tl_s, tl_n, nI_add, pk_mul, i_cl, row_s, u2_row, i_le, i_lt, i_eq, if_true, if_false, Nat.le_refl, Nat.reduceEqDiff, Nat.reduceLeDiff, c_inU, b2i_0]
      cases h3 : inR i (onF 12 q)
      · simp (disch := first | exact ok_i | exact ok_r | exact ok_n | exact cat_i | exact cat_r | exact t103 | exact ro_0 | exact ro_1 | omega | assumption | (refine i103 ?_; omega) | (simp only [List.map_cons, List.map_nil, List.sum_cons, List.sum_nil, cat_i, cat_r, cat_l, Nat.reduceAdd, Nat.reduceLeDiff]; done) | decide) only [s189_40, s189_42, tl_s, tl_n, nI_add, pk_mul, i_cl, row_s, u2_row, i_le, i_lt, i_eq, if_true, if_false, Nat.le_refl, Nat.reduceEqDiff, Nat.reduceLeDiff, Bool.false_eq_true]
      · obtain ⟨hi, hi4⟩ := inR_t h3
        generalize tN i = j at *
        subst hi
        have key := fun st => c_swLoop (X := X) (d := d) (I := I) (Q := Q) (a := nI (onF 12 q)) (st := st) (x := nI c) (i := nI j) hf hf1 hf4 (show c < 4 by omega) hm hm4 24 (by omega) j (by omega) none rfl
        rw [Nat.sub_self] at key
        rw [hq'] at key
        simp (disch := first | exact ok_i | exact ok_r | exact ok_n | exact cat_i | exact cat_r | exact t103 | exact ro_0 | exact ro_1 | omega | assumption | (refine i103 ?_; omega) | (simp only [List.map_cons, List.map_nil, List.sum_cons, List.sum_nil, cat_i, cat_r, cat_l, Nat.reduceAdd, Nat.reduceLeDiff]; done) | decide) only [s189_43, s189_44, s189_45, s189_46, s189_49, s189_50, tl_s, tl_n, nI_add, pk_mul, i_cl, row_s, u2_row, i_le, i_lt, i_eq, if_true, if_false, Nat.le_refl, Nat.reduceEqDiff, Nat.reduceLeDiff, c_of, Bool.true_eq_false]
        by_cases h5 : cf N c 4 = nI 2
        · simp (disch := first | exact ok_i | exact ok_r | exact ok_n | exact cat_i | exact cat_r | exact t103 | exact ro_0 | exact ro_1 | omega | assumption | (refine i103 ?_; omega) | (simp only [List.map_cons, List.map_nil, List.sum_cons, List.sum_nil, cat_i, cat_r, cat_l, Nat.reduceAdd, Nat.reduceLeDiff]; done) | decide) only [h5, s189_53, s189_54, s189_57, s189_58, s189_60, s189_61, s189_63, s189_64, tl_s, tl_n, nI_add, pk_mul, i_cl, row_s, u2_row, i_le, i_lt, i_eq, if_true, if_false, Nat.le_refl, Nat.reduceEqDiff, Nat.reduceLeDiff, key]
        · simp (disch := first | exact ok_i | exact ok_r | exact ok_n | exact cat_i | exact cat_r | exact t103 | exact ro_0 | exact ro_1 | omega | assumption | (refine i103 ?_; omega) | (simp only [List.map_cons, List.map_nil, List.sum_cons, List.sum_nil, cat_i, cat_r, cat_l, Nat.reduceAdd, Nat.reduceLeDiff]; done) | decide) only [h5, s189_57, s189_58, s189_60, s189_61, s189_63, s189_64, tl_s, tl_n, nI_add, pk_mul, i_cl, row_s, u2_row, i_le, i_lt, i_eq, if_true, if_false, Nat.le_refl, Nat.reduceEqDiff, Nat.reduceLeDiff, key]
end
