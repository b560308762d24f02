/-! the model: all clauses -/
def stS (I : pI) (s : rS) : pI := stC I s.2.1 s.2.2.1 s.2.2.2.1 s.2.2.2.2.1 s.2.2.2.2.2
def rIn (I : pI) : rS := (true, I 109, 0, 0, I 102 10, I 102 11)
def rAll (I : pI) (T : Nat) : rS := raR I T 40 (raF I T (rIn I))
theorem stS_in {I : pI} : upd2 (upd2 I 102 9 (nI 0)) 102 13 (nI 0) = stS I (rIn I) := by
  funext a j
  unfold stS rIn stC st3 upd2
  dsimp only
  by_cases h : a = 102
  · subst h
    by_cases h1 : j = 13
    · subst h1; simp
    · by_cases h2 : j = 9
      · subst h2; simp
      · by_cases h3 : j = 10
        · subst h3; simp
        · by_cases h4 : j = 11
          · subst h4; simp
          · simp [h1, h2, h3, h4, row_n (show (102 : Nat) ≠ 109 by decide)]
  · by_cases h5 : a = 109
    · subst h5
      simp [row_s]
    · simp [h, row_n h5]
section
variable {X : pX} {d : Nat} {I : pI} {Q : Option Value → pG → pI → Prop} {N : Nat → Int32}
theorem c_rd {T cm p : Nat} {C : Nat → Int32} (hT : I 102 6 = nI T) (hT2 : T ≤ 60) (hW : WanOk I) (hp : p ≤ T) (hcm : inL (nxT I T p) 0 5 = true → cm < 30) (hcm2 : cm < 1000) :
    Call X (d + 3) 208 [.ref 102] G0 (row (stC I C cm (nxE I T p) (nI (nxB I T p)) (nxT I T p)) 103 N) Q ↔ Q (some (.int (b2i (rdM I T cm C p).1))) G0 (row (stC I (rdM I T cm C p).2.1 (if (rdM I T cm C p).1 = true then cm + 1 else cm) (rdM I T cm C p).2.2.1 (rdM I T cm C p).2.2.2.1 (rdM I T cm C p).2.2.2.2) 103 N) := by
  have k1 := nxt_le (I := I) hp
  unfold rdM
  refine c_readsClause hT hT2 hcm hcm2 (fun hv => ?_) ?_ k1.2.2
  · rw [if_pos hv]
    exact (hW.at hv).1
  · by_cases hv : inL (nxT I T p) 0 5 = true
    · rw [if_pos hv]; exact (hW.at hv).2
    · rw [if_neg hv]; omega
theorem c_raEnd {s : rS} : At X (d + 3) 209 45 [some (.ref 102), some (.int (b2i s.1))] [] G0 (row (stS I s) 103 N) Q ↔ Q (some (.int (b2i (s.1 && decide (s.2.2.2.2.2 = nI 300))))) G0 (row (stS I s) 103 N) := by
  obtain ⟨ok, C, cm, p, b, v⟩ := s
  unfold stS
  dsimp only
  simp (disch := first | exact ok_i | exact ok_r | exact ok_n | exact cat_i | exact cat_r | exact t103 | exact t106 | exact t108 | exact t109 | exact t110 | exact t111 | exact t112 | exact ro_0 | exact ro_1 | omega | assumption | (refine i103 ?_; omega) | (refine i106 ?_; omega) | (refine i108 ?_; omega) | (refine i109 ?_; omega) | (refine i110 ?_; omega) | (refine i111 ?_; omega) | (refine i112 ?_; omega) | (simp only [List.map_cons, List.map_nil, List.sum_cons, List.sum_nil, cat_i, cat_r, cat_l, Nat.reduceAdd, Nat.reduceLeDiff]; done) | decide) only [s209_45, s209_46, tl_s, tl_n, nI_add, pk_mul, i_cl, row_s, u2_row, i_le, i_lt, i_eq, if_true, if_false, Nat.le_refl, Nat.reduceEqDiff, Nat.reduceLeDiff, b2i_0]
  cases ok
  · simp (disch := first | exact ok_i | exact ok_r | exact ok_n | exact cat_i | exact cat_r | exact t103 | exact t106 | exact t108 | exact t109 | exact t110 | exact t111 | exact t112 | exact ro_0 | exact ro_1 | omega | assumption | (refine i103 ?_; omega) | (refine i106 ?_; omega) | (refine i108 ?_; omega) | (refine i109 ?_; omega) | (refine i110 ?_; omega) | (refine i111 ?_; omega) | (refine i112 ?_; omega) | (simp only [List.map_cons, List.map_nil, List.sum_cons, List.sum_nil, cat_i, cat_r, cat_l, Nat.reduceAdd, Nat.reduceLeDiff]; done) | decide) only [s209_63, s209_64, tl_s, tl_n, nI_add, pk_mul, i_cl, row_s, u2_row, i_le, i_lt, i_eq, if_true, if_false, Nat.le_refl, Nat.reduceEqDiff, Nat.reduceLeDiff, Bool.false_and, b2i, Bool.false_eq_true]
  · simp (disch := first | exact ok_i | exact ok_r | exact ok_n | exact cat_i | exact cat_r | exact t103 | exact t106 | exact t108 | exact t109 | exact t110 | exact t111 | exact t112 | exact ro_0 | exact ro_1 | omega | assumption | (refine i103 ?_; omega) | (refine i106 ?_; omega) | (refine i108 ?_; omega) | (refine i109 ?_; omega) | (refine i110 ?_; omega) | (refine i111 ?_; omega) | (refine i112 ?_; omega) | (simp only [List.map_cons, List.map_nil, List.sum_cons, List.sum_nil, cat_i, cat_r, cat_l, Nat.reduceAdd, Nat.reduceLeDiff]; done) | decide) only [s209_49, s209_50, s209_53, s209_56, tl_s, tl_n, nI_add, pk_mul, i_cl, row_s, u2_row, i_le, i_lt, i_eq, if_true, if_false, Nat.le_refl, Nat.reduceEqDiff, Nat.reduceLeDiff, row_n, stC_11, Bool.true_and, Bool.true_eq_false]
    by_cases h : v = nI 300
    · simp (disch := first | exact ok_i | exact ok_r | exact ok_n | exact cat_i | exact cat_r | exact t103 | exact t106 | exact t108 | exact t109 | exact t110 | exact t111 | exact t112 | exact ro_0 | exact ro_1 | omega | assumption | (refine i103 ?_; omega) | (refine i106 ?_; omega) | (refine i108 ?_; omega) | (refine i109 ?_; omega) | (refine i110 ?_; omega) | (refine i111 ?_; omega) | (refine i112 ?_; omega) | (simp only [List.map_cons, List.map_nil, List.sum_cons, List.sum_nil, cat_i, cat_r, cat_l, Nat.reduceAdd, Nat.reduceLeDiff]; done) | decide) only [h, s209_59, s209_60, s209_63, s209_64, tl_s, tl_n, nI_add, pk_mul, i_cl, row_s, u2_row, i_le, i_lt, i_eq, if_true, if_false, Nat.le_refl, Nat.reduceEqDiff, Nat.reduceLeDiff, decide_true, b2i]
    · simp (disch := first | exact ok_i | exact ok_r | exact ok_n | exact cat_i | exact cat_r | exact t103 | exact t106 | exact t108 | exact t109 | exact t110 | exact t111 | exact t112 | exact ro_0 | exact ro_1 | omega | assumption | (refine i103 ?_; omega) | (refine i106 ?_; omega) | (refine i108 ?_; omega) | (refine i109 ?_; omega) | (refine i110 ?_; omega) | (refine i111 ?_; omega) | (refine i112 ?_; omega) | (simp only [List.map_cons, List.map_nil, List.sum_cons, List.sum_nil, cat_i, cat_r, cat_l, Nat.reduceAdd, Nat.reduceLeDiff]; done) | decide) only [h, s209_63, s209_64, tl_s, tl_n, nI_add, pk_mul, i_cl, row_s, u2_row, i_le, i_lt, i_eq, if_true, if_false, Nat.le_refl, Nat.reduceEqDiff, Nat.reduceLeDiff, decide_false, b2i, Bool.false_eq_true]
theorem c_raLoop {T : Nat} (hT : I 102 6 = nI T) (hT2 : T ≤ 60) (hW : WanOk I) : ∀ r (s : rS), raOk T s → (s.1 = true → s.2.2.2.2.2 = nI 200 → 31 ≤ s.2.2.1 + r) → s.2.2.1 ≤ 40 →
    (At X (d + 3) 209 19 [some (.ref 102), some (.int (b2i s.1))] [] G0 (row (stS I s) 103 N) Q ↔ At X (d + 3) 209 45 [some (.ref 102), some (.int (b2i (raR I T r s).1))] [] G0 (row (stS I (raR I T r s)) 103 N) Q) := by
  intro r
  induction r with
  | zero =>
    intro s hs hr hc
    obtain ⟨ok, C, cm, p, b, v⟩ := s
    unfold raR stS
    unfold raOk at hs
    dsimp only at hs hr hc ⊢
    rw [s209_19]
    simp (disch := first | exact ok_i | exact ok_r | exact ok_n | exact cat_i | exact cat_r | exact t103 | exact t106 | exact t108 | exact t109 | exact t110 | exact t111 | exact t112 | exact ro_0 | exact ro_1 | omega | assumption | (refine i103 ?_; omega) | (refine i106 ?_; omega) | (refine i108 ?_; omega) | (refine i109 ?_; omega) | (refine i110 ?_; omega) | (refine i111 ?_; omega) | (refine i112 ?_; omega) | (simp only [List.map_cons, List.map_nil, List.sum_cons, List.sum_nil, cat_i, cat_r, cat_l, Nat.reduceAdd, Nat.reduceLeDiff]; done) | decide) only [s209_20, tl_s, tl_n, nI_add, pk_mul, i_cl, row_s, u2_row, i_le, i_lt, i_eq, if_true, if_false, Nat.le_refl, Nat.reduceEqDiff, Nat.reduceLeDiff, b2i_0]
    cases ok
    · simp only [if_true]
    · simp (disch := first | exact ok_i | exact ok_r | exact ok_n | exact cat_i | exact cat_r | exact t103 | exact t106 | exact t108 | exact t109 | exact t110 | exact t111 | exact t112 | exact ro_0 | exact ro_1 | omega | assumption | (refine i103 ?_; omega) | (refine i106 ?_; omega) | (refine i108 ?_; omega) | (refine i109 ?_; omega) | (refine i110 ?_; omega) | (refine i111 ?_; omega) | (refine i112 ?_; omega) | (simp only [List.map_cons, List.map_nil, List.sum_cons, List.sum_nil, cat_i, cat_r, cat_l, Nat.reduceAdd, Nat.reduceLeDiff]; done) | decide) only [s209_23, s209_24, s209_27, s209_30, tl_s, tl_n, nI_add, pk_mul, i_cl, row_s, u2_row, i_le, i_lt, i_eq, if_true, if_false, Nat.le_refl, Nat.reduceEqDiff, Nat.reduceLeDiff, row_n, stC_11, Bool.true_eq_false]
      by_cases h : v = nI 200
      · have h1 := hr rfl h
        have h2 := hs.2 rfl h
        omega
      · simp only [h, if_false]
  | succ r ih =>
    intro s hs hr hc
    have hra : raR I T (r + 1) s = if (s.1 && decide (s.2.2.2.2.2 = nI 200)) = true then raR I T r (raF I T s) else s := rfl
    rw [hra, s209_19]
    obtain ⟨ok, C, cm, p, b, v⟩ := s
    unfold raOk at hs
    dsimp only at hs hr hc ⊢
    cases ok
    · simp (disch := first | exact ok_i | exact ok_r | exact ok_n | exact cat_i | exact cat_r | exact t103 | exact t106 | exact t108 | exact t109 | exact t110 | exact t111 | exact t112 | exact ro_0 | exact ro_1 | omega | assumption | (refine i103 ?_; omega) | (refine i106 ?_; omega) | (refine i108 ?_; omega) | (refine i109 ?_; omega) | (refine i110 ?_; omega) | (refine i111 ?_; omega) | (refine i112 ?_; omega) | (simp only [List.map_cons, List.map_nil, List.sum_cons, List.sum_nil, cat_i, cat_r, cat_l, Nat.reduceAdd, Nat.reduceLeDiff]; done) | decide) only [s209_20, tl_s, tl_n, nI_add, pk_mul, i_cl, row_s, u2_row, i_le, i_lt, i_eq, if_true, if_false, Nat.le_refl, Nat.reduceEqDiff, Nat.reduceLeDiff, b2i_0, Bool.false_and, Bool.false_eq_true]
    · by_cases h : v = nI 200
      · have h1 := hr rfl h
        have h2 := hs.2 rfl h
        obtain ⟨f1, f2⟩ := raF_ok (I := I) (T := T) (s := (true, C, cm, p, b, v)) hs.1 h2
        dsimp only at f2
        have hcm : inL (nxT I T p) 0 5 = true → cm < 30 := fun e => by have := f2 e; omega
        have e1 : raF I T (true, C, cm, p, b, v) = ((rdM I T cm C p).1, (rdM I T cm C p).2.1, if (rdM I T cm C p).1 = true then cm + 1 else cm, (rdM I T cm C p).2.2.1, (rdM I T cm C p).2.2.2.1, (rdM I T cm C p).2.2.2.2) := rfl
        have ih' := ih (raF I T (true, C, cm, p, b, v)) f1 (fun e1' e2' => by
          rw [e1] at e1' ⊢
          dsimp only at e1' ⊢
          rw [if_pos e1']
          omega) (by
          rw [e1]
          dsimp only
          split <;> omega)
        rw [show (true && decide (v = nI 200)) = true by rw [h]; rfl, if_pos rfl, ← ih', e1]
        unfold stS
        dsimp only
        simp (disch := first | exact ok_i | exact ok_r | exact ok_n | exact cat_i | exact cat_r | exact t103 | exact t106 | exact t108 | exact t109 | exact t110 | exact t111 | exact t112 | exact ro_0 | exact ro_1 | omega | assumption | (refine i103 ?_; omega) | (refine i106 ?_; omega) | (refine i108 ?_; omega) | (refine i109 ?_; omega) | (refine i110 ?_; omega) | (refine i111 ?_; omega) | (refine i112 ?_; omega) | (simp only [List.map_cons, List.map_nil, List.sum_cons, List.sum_nil, cat_i, cat_r, cat_l, Nat.reduceAdd, Nat.reduceLeDiff]; done) | decide) only [h, s209_20, s209_23, s209_24, s209_27, s209_30, s209_33, s209_34, s209_37, s209_38, s209_41, s209_42, tl_s, tl_n, nI_add, pk_mul, i_cl, row_s, u2_row, i_le, i_lt, i_eq, if_true, if_false, Nat.le_refl, Nat.reduceEqDiff, Nat.reduceLeDiff, b2i_0, row_n, stC_11, c_nextC hT hT2 hs.1, c_rd hT hT2 hW hs.1 hcm, Bool.true_eq_false]
      · have h3 : (true && decide (v = nI 200)) = false := by rw [decide_eq_false h]; rfl
        rw [h3, if_neg (by decide)]
        unfold stS
        dsimp only
        simp (disch := first | exact ok_i | exact ok_r | exact ok_n | exact cat_i | exact cat_r | exact t103 | exact t106 | exact t108 | exact t109 | exact t110 | exact t111 | exact t112 | exact ro_0 | exact ro_1 | omega | assumption | (refine i103 ?_; omega) | (refine i106 ?_; omega) | (refine i108 ?_; omega) | (refine i109 ?_; omega) | (refine i110 ?_; omega) | (refine i111 ?_; omega) | (refine i112 ?_; omega) | (simp only [List.map_cons, List.map_nil, List.sum_cons, List.sum_nil, cat_i, cat_r, cat_l, Nat.reduceAdd, Nat.reduceLeDiff]; done) | decide) only [h, s209_20, s209_23, s209_24, s209_27, s209_30, tl_s, tl_n, nI_add, pk_mul, i_cl, row_s, u2_row, i_le, i_lt, i_eq, if_true, if_false, Nat.le_refl, Nat.reduceEqDiff, Nat.reduceLeDiff, b2i_0, row_n, stC_11, Bool.true_eq_false]
theorem c_readsAll {T : Nat} (hT : I 102 6 = nI T) (hT2 : T ≤ 60) (hW : WanOk I) : Call X (d + 4) 209 [.ref 102] G0 (row I 103 N) Q ↔ Q (some (.int (b2i ((rAll I T).1 && decide ((rAll I T).2.2.2.2.2 = nI 300))))) G0 (row (stS I (rAll I T)) 103 N) := by
  have f := raF_ok (I := I) (T := T) (s := rIn I) (Nat.zero_le _) (Nat.le_refl _)
  have key := c_raLoop (X := X) (d := d) (I := I) (Q := Q) (N := N) hT hT2 hW 40 (raF I T (rIn I)) f.1 (fun _ _ => by omega) (by
    unfold raF rIn
    dsimp only
    split <;> omega)
  have e0 : raR I T 40 (raF I T (rIn I)) = rAll I T := rfl
  rw [e0, c_raEnd] at key
  rw [← key]
  unfold raF
  have hcm : inL (nxT I T 0) 0 5 = true → 0 < 30 := fun _ => by omega
  have c1 := fun (Q' : Option Value → pG → pI → Prop) => c_rd (X := X) (d := d) (Q := Q') (N := N) (C := I 109) (cm := 0) hT hT2 hW (Nat.zero_le T) hcm (by omega)
  have c2 := fun (Q' : Option Value → pG → pI → Prop) => c_nextC (X := X) (d := d + 1) (Q := Q') (N := N) (C := I 109) (cm := 0) (b := I 102 10) (v := I 102 11) hT hT2 (Nat.zero_le T)
  have e2 : stS I (rIn I) = stC I (I 109) 0 0 (I 102 10) (I 102 11) := rfl
  simp (disch := first | exact ok_i | exact ok_r | exact ok_n | exact cat_i | exact cat_r | exact t103 | exact t106 | exact t108 | exact t109 | exact t110 | exact t111 | exact t112 | exact ro_0 | exact ro_1 | omega | assumption | (refine i103 ?_; omega) | (refine i106 ?_; omega) | (refine i108 ?_; omega) | (refine i109 ?_; omega) | (refine i110 ?_; omega) | (refine i111 ?_; omega) | (refine i112 ?_; omega) | (simp only [List.map_cons, List.map_nil, List.sum_cons, List.sum_nil, cat_i, cat_r, cat_l, Nat.reduceAdd, Nat.reduceLeDiff]; done) | decide) only [e209, s209_0, s209_1, s209_2, s209_5, s209_6, s209_7, s209_10, s209_11, tl_s, tl_n, nI_add, pk_mul, i_cl, row_s, u2_row, i_le, i_lt, i_eq, if_true, if_false, Nat.le_refl, Nat.reduceEqDiff, Nat.reduceLeDiff, u2_n, stS_in, e2, c2]
  simp (disch := first | exact ok_i | exact ok_r | exact ok_n | exact cat_i | exact cat_r | exact t103 | exact t106 | exact t108 | exact t109 | exact t110 | exact t111 | exact t112 | exact ro_0 | exact ro_1 | omega | assumption | (refine i103 ?_; omega) | (refine i106 ?_; omega) | (refine i108 ?_; omega) | (refine i109 ?_; omega) | (refine i110 ?_; omega) | (refine i111 ?_; omega) | (refine i112 ?_; omega) | (simp only [List.map_cons, List.map_nil, List.sum_cons, List.sum_nil, cat_i, cat_r, cat_l, Nat.reduceAdd, Nat.reduceLeDiff]; done) | decide) only [s209_14, s209_15, s209_18, tl_s, tl_n, nI_add, pk_mul, i_cl, row_s, u2_row, i_le, i_lt, i_eq, if_true, if_false, Nat.le_refl, Nat.reduceEqDiff, Nat.reduceLeDiff, c1]
  rfl
end
