/-! the model: clauses -/
section
variable {I J : pI}
theorem bytA_c {T i : Nat} (h : J 106 = I 106) : bytA J T i = bytA I T i := by unfold bytA; rw [h]
theorem skR_c {T : Nat} (h : J 106 = I 106) : ∀ {r q : Nat}, skR J T r q = skR I T r q
  | 0, _ => rfl
  | r + 1, q => by unfold skR; rw [bytA_c h, skR_c h]
theorem lwR_c {T : Nat} (h : J 106 = I 106) : ∀ {r q : Nat}, lwR J T r q = lwR I T r q
  | 0, _ => rfl
  | r + 1, q => by unfold lwR; rw [bytA_c h, lwR_c h]
theorem dgR_c {T b : Nat} (h : J 106 = I 106) : ∀ {r q : Nat} {v : Int32}, dgR J T b r q v = dgR I T b r q v
  | 0, _, _ => rfl
  | r + 1, q, v => by unfold dgR; rw [bytA_c h, dgR_c h]
theorem wfR_c {b e : Nat} (h : J 106 = I 106) (h2 : J 107 = I 107) : ∀ {r : Nat}, wfR J b e r = wfR I b e r
  | 0 => rfl
  | r + 1 => by unfold wfR mtB; rw [wfR_c h h2, h, h2]
theorem nxB_c {T p : Nat} (h : J 106 = I 106) : nxB J T p = nxB I T p := skR_c h
theorem nxE_c {T p : Nat} (h : J 106 = I 106) : nxE J T p = nxE I T p := by
  unfold nxE
  rw [nxB_c h, bytA_c h, lwR_c h, dgR_c h]
theorem nxT_c {T p : Nat} (h : J 106 = I 106) (h2 : J 107 = I 107) : nxT J T p = nxT I T p := by
  unfold nxT
  rw [nxB_c h, bytA_c h, lwR_c h, dgR_c h, wfR_c h h2]
end
theorem st3_13 {I : pI} {p b v x : Int32} : upd2 (st3 I p b v) 102 13 x = st3 (upd2 I 102 13 x) p b v := by
  funext a j
  unfold upd2 st3
  by_cases h : a = 102
  · by_cases h2 : j = 13
    · subst h2; simp [h]
    · simp [h, h2]
  · simp [h]
theorem st3_u {I : pI} {p b v x : Int32} {a k : Nat} (h : a ≠ 102) : upd2 (st3 I p b v) a k x = st3 (upd2 I a k x) p b v := by
  funext a2 j
  unfold upd2 st3
  by_cases h1 : a2 = 102
  · have h3 : ¬ 102 = a := fun e => h e.symm
    simp [h1, h3]
  · simp [h1]
theorem st3_g13 {I : pI} {p b v : Int32} : st3 I p b v 102 13 = I 102 13 := rfl
theorem nxt_le {I : pI} {T p : Nat} (hp : p ≤ T) : p ≤ nxB I T p ∧ nxB I T p ≤ nxE I T p ∧ nxE I T p ≤ T := by
  have k1 := skR_le (I := I) (T := T) (r := T - p) (q := p)
  have hB : skR I T (T - p) p = nxB I T p := rfl
  rw [hB] at k1
  unfold nxE
  generalize nxB I T p = q at *
  have kw := lwR_le (I := I) (T := T) (r := T - q) (q := q)
  have kd := dgR_le (I := I) (T := T) (b := q) (r := T - q) (q := q) (v := nI 0)
  split
  · omega
  · split
    · omega
    · split
      · rename_i h3
        have : q < T := by
          by_cases h4 : q < T
          · exact h4
          · exfalso
            unfold bytA at h3
            rw [if_neg h4] at h3
            have n1 : ¬ ((-1 : Int32) = nI 59) := by decide
            exact n1 h3
        omega
      · omega
section
variable {X : pX} {d : Nat} {I J : pI} {Q : Option Value → pG → pI → Prop} {N : Nat → Int32}
theorem c_nextJ {T p : Nat} {b v : Int32} (h6 : J 106 = I 106) (h7 : J 107 = I 107) (hT : J 102 6 = nI T) (hT2 : T ≤ 60) (hp : p ≤ T) : Call X (d + 2) 207 [.ref 102] G0 (row (st3 J (nI p) b v) 103 N) Q ↔ Q none G0 (row (st3 J (nI (nxE I T p)) (nI (nxB I T p)) (nxT I T p)) 103 N) := by
  rw [c_next hT hT2 hp, nxE_c h6, nxB_c h6, nxT_c h6 h7]
end
/-- the numbers of a clause: r are left of n -/
def ncR (I : pI) (T k n : Nat) : Nat → (Nat → Int32) → Nat → Int32 → Int32 → Bool × (Nat → Int32) × Nat × Int32 × Int32
  | 0, C, p, b, v => (true, C, p, b, v)
  | r + 1, C, p, b, v => if inL v 100 199 = true then ncR I T k n r (upd C (k + (n - r)) (v - nI 100)) (nxE I T p) (nI (nxB I T p)) (nxT I T p) else (false, C, p, b, v)
/-- a clause: the next one is cm -/
def rcM (I : pI) (T cm n : Nat) (C : Nat → Int32) (p : Nat) (b v : Int32) : Bool × (Nat → Int32) × Nat × Int32 × Int32 := if inL v 0 5 = true then ncR I T (4 * cm) n n (upd C (4 * cm) v) (nxE I T p) (nI (nxB I T p)) (nxT I T p) else (false, C, p, b, v)
def stC (I : pI) (C : Nat → Int32) (cm p : Nat) (b v : Int32) : pI := st3 (upd2 (row I 109 C) 102 13 (nI cm)) (nI p) b v
theorem stC_106 {I : pI} {C : Nat → Int32} {cm p : Nat} {b v : Int32} {a : Nat} (h : a ≠ 102) (h2 : a ≠ 109) : stC I C cm p b v a = I a := by
  unfold stC
  rw [st3_n h]
  funext j
  unfold upd2
  rw [if_neg (fun e => h e.1), row_n h2]
theorem stC_109 {I : pI} {C : Nat → Int32} {cm p : Nat} {b v : Int32} : stC I C cm p b v 109 = C := by
  unfold stC
  rw [st3_n (by decide)]
  funext j
  unfold upd2
  rw [if_neg (by omega), row_s]
theorem stC_13 {I : pI} {C : Nat → Int32} {cm p : Nat} {b v : Int32} : stC I C cm p b v 102 13 = nI cm := by
  unfold stC upd2
  rw [st3_g13, if_pos ⟨rfl, rfl⟩]
theorem stC_11 {I : pI} {C : Nat → Int32} {cm p : Nat} {b v : Int32} : stC I C cm p b v 102 11 = v := rfl
theorem stC_10 {I : pI} {C : Nat → Int32} {cm p : Nat} {b v : Int32} : stC I C cm p b v 102 10 = b := rfl
theorem stC_u {I : pI} {C : Nat → Int32} {cm p k : Nat} {b v x : Int32} : upd2 (stC I C cm p b v) 109 k x = stC I (upd C k x) cm p b v := by
  unfold stC
  rw [st3_u (by decide)]
  have e : upd2 (upd2 (row I 109 C) 102 13 (nI cm)) 109 k x = upd2 (row I 109 (upd C k x)) 102 13 (nI cm) := by
    rw [← u2_row]
    funext a j
    unfold upd2
    by_cases h1 : a = 109
    · simp [h1]
    · simp [h1]
  rw [e]
theorem stC_m {I : pI} {C : Nat → Int32} {cm p cm2 : Nat} {b v : Int32} : upd2 (stC I C cm p b v) 102 13 (nI cm2) = stC I C cm2 p b v := by
  unfold stC
  rw [st3_13]
  have e : upd2 (upd2 (row I 109 C) 102 13 (nI cm)) 102 13 (nI cm2) = upd2 (row I 109 C) 102 13 (nI cm2) := by
    funext a j
    unfold upd2
    by_cases h1 : a = 102 ∧ j = 13
    · simp [h1]
    · simp only [h1, if_false]
  rw [e]
section
variable {X : pX} {d : Nat} {I : pI} {Q : Option Value → pG → pI → Prop} {N : Nat → Int32}
theorem c_nextC {T p cm : Nat} {C : Nat → Int32} {b v : Int32} (hT : I 102 6 = nI T) (hT2 : T ≤ 60) (hp : p ≤ T) : Call X (d + 2) 207 [.ref 102] G0 (row (stC I C cm p b v) 103 N) Q ↔ Q none G0 (row (stC I C cm (nxE I T p) (nI (nxB I T p)) (nxT I T p)) 103 N) := by
  have h6 : upd2 (row I 109 C) 102 13 (nI cm) 106 = I 106 := by
    funext j
    unfold upd2
    rw [if_neg (by omega), row_n (by decide)]
  have h7 : upd2 (row I 109 C) 102 13 (nI cm) 107 = I 107 := by
    funext j
    unfold upd2
    rw [if_neg (by omega), row_n (by decide)]
  have hT' : upd2 (row I 109 C) 102 13 (nI cm) 102 6 = nI T := by
    unfold upd2
    rw [if_neg (by omega), row_n (by decide), hT]
  exact c_nextJ h6 h7 hT' hT2 hp
theorem c_ncLoop {T cm n : Nat} (hT : I 102 6 = nI T) (hT2 : T ≤ 60) (hcm : cm < 30) (hn : n ≤ 3) : ∀ r, r ≤ n → ∀ (C : Nat → Int32) (p : Nat) (b v : Int32), p ≤ T →
    (At X (d + 2) 208 50 [some (.ref 102), some (.int (nI (4 * cm))), some (.int (nI n)), some (.int (nI (n - r + 1)))] [] G0 (row (stC I C cm p b v) 103 N) Q ↔ Q (some (.int (b2i (ncR I T (4 * cm) n r C p b v).1))) G0 (row (stC I (ncR I T (4 * cm) n r C p b v).2.1 (if (ncR I T (4 * cm) n r C p b v).1 = true then cm + 1 else cm) (ncR I T (4 * cm) n r C p b v).2.2.1 (ncR I T (4 * cm) n r C p b v).2.2.2.1 (ncR I T (4 * cm) n r C p b v).2.2.2.2) 103 N)) := by
  intro r
  induction r with
  | zero =>
    intro _ C p b v hp
    have n1 : n < n - 0 + 1 := by omega
    rw [s208_50]
    simp (disch := first | exact ok_i | exact ok_r | exact ok_n | exact cat_i | exact cat_r | exact t103 | exact t106 | exact t108 | exact t109 | exact t110 | exact t111 | exact t112 | exact ro_0 | exact ro_1 | omega | assumption | (refine i103 ?_; omega) | (refine i106 ?_; omega) | (refine i108 ?_; omega) | (refine i109 ?_; omega) | (refine i110 ?_; omega) | (refine i111 ?_; omega) | (refine i112 ?_; omega) | (simp only [List.map_cons, List.map_nil, List.sum_cons, List.sum_nil, cat_i, cat_r, cat_l, Nat.reduceAdd, Nat.reduceLeDiff]; done) | decide) only [s208_51, s208_52, s208_99, s208_100, s208_101, s208_104, s208_105, s208_106, s208_109, s208_110, tl_s, tl_n, nI_add, pk_mul, i_cl, row_s, u2_row, i_le, i_lt, i_eq, if_true, if_false, Nat.le_refl, Nat.reduceEqDiff, Nat.reduceLeDiff, n1, row_n, stC_13, stC_m, u2_n, ncR, b2i]
  | succ r ih =>
    intro hr C p b v hp
    have n1 : ¬ n < n - (r + 1) + 1 := by omega
    have e1 : n - (r + 1) + 1 = n - r := by omega
    have k1 := nxt_le (I := I) hp
    have ih' := ih (by omega) (upd C (4 * cm + (n - r)) (v - nI 100)) (nxE I T p) (nI (nxB I T p)) (nxT I T p) (by omega)
    unfold ncR
    rw [s208_50]
    simp (disch := first | exact ok_i | exact ok_r | exact ok_n | exact cat_i | exact cat_r | exact t103 | exact t106 | exact t108 | exact t109 | exact t110 | exact t111 | exact t112 | exact ro_0 | exact ro_1 | omega | assumption | (refine i103 ?_; omega) | (refine i106 ?_; omega) | (refine i108 ?_; omega) | (refine i109 ?_; omega) | (refine i110 ?_; omega) | (refine i111 ?_; omega) | (refine i112 ?_; omega) | (simp only [List.map_cons, List.map_nil, List.sum_cons, List.sum_nil, cat_i, cat_r, cat_l, Nat.reduceAdd, Nat.reduceLeDiff]; done) | decide) only [s208_51, s208_52, s208_55, s208_56, s208_59, s208_60, s208_63, s208_66, s208_69, tl_s, tl_n, nI_add, pk_mul, i_cl, row_s, u2_row, i_le, i_lt, i_eq, if_true, if_false, Nat.le_refl, Nat.reduceEqDiff, Nat.reduceLeDiff, n1, row_n, stC_11, c_inL, b2i_0]
    cases h1 : inL v 100 199
    · simp (disch := first | exact ok_i | exact ok_r | exact ok_n | exact cat_i | exact cat_r | exact t103 | exact t106 | exact t108 | exact t109 | exact t110 | exact t111 | exact t112 | exact ro_0 | exact ro_1 | omega | assumption | (refine i103 ?_; omega) | (refine i106 ?_; omega) | (refine i108 ?_; omega) | (refine i109 ?_; omega) | (refine i110 ?_; omega) | (refine i111 ?_; omega) | (refine i112 ?_; omega) | (simp only [List.map_cons, List.map_nil, List.sum_cons, List.sum_nil, cat_i, cat_r, cat_l, Nat.reduceAdd, Nat.reduceLeDiff]; done) | decide) only [s208_72, s208_73, tl_s, tl_n, nI_add, pk_mul, i_cl, row_s, u2_row, i_le, i_lt, i_eq, if_true, if_false, Nat.le_refl, Nat.reduceEqDiff, Nat.reduceLeDiff, b2i, Bool.false_eq_true]
    · simp (disch := first | exact ok_i | exact ok_r | exact ok_n | exact cat_i | exact cat_r | exact t103 | exact t106 | exact t108 | exact t109 | exact t110 | exact t111 | exact t112 | exact ro_0 | exact ro_1 | omega | assumption | (refine i103 ?_; omega) | (refine i106 ?_; omega) | (refine i108 ?_; omega) | (refine i109 ?_; omega) | (refine i110 ?_; omega) | (refine i111 ?_; omega) | (refine i112 ?_; omega) | (simp only [List.map_cons, List.map_nil, List.sum_cons, List.sum_nil, cat_i, cat_r, cat_l, Nat.reduceAdd, Nat.reduceLeDiff]; done) | decide) only [s208_74, s208_75, s208_78, s208_79, s208_80, s208_81, s208_82, s208_85, s208_87, s208_88, s208_89, s208_90, s208_93, s208_96, tl_s, tl_n, nI_add, pk_mul, i_cl, row_s, u2_row, i_le, i_lt, i_eq, if_true, if_false, Nat.le_refl, Nat.reduceEqDiff, Nat.reduceLeDiff, e1, row_n, stC_11, stC_u, u2_n, c_nextC hT hT2 hp, ih', Bool.true_eq_false]
theorem c_readsClause {T cm n p : Nat} {C : Nat → Int32} {b v : Int32} (hT : I 102 6 = nI T) (hT2 : T ≤ 60) (hcm : inL v 0 5 = true → cm < 30) (hcm2 : cm < 1000) (hw : inL v 0 5 = true → I 108 (tN v) = nI n) (hn : n ≤ 3) (hp : p ≤ T) :
    Call X (d + 3) 208 [.ref 102] G0 (row (stC I C cm p b v) 103 N) Q ↔ Q (some (.int (b2i (rcM I T cm n C p b v).1))) G0 (row (stC I (rcM I T cm n C p b v).2.1 (if (rcM I T cm n C p b v).1 = true then cm + 1 else cm) (rcM I T cm n C p b v).2.2.1 (rcM I T cm n C p b v).2.2.2.1 (rcM I T cm n C p b v).2.2.2.2) 103 N) := by
  unfold rcM
  simp (disch := first | exact ok_i | exact ok_r | exact ok_n | exact cat_i | exact cat_r | exact t103 | exact t106 | exact t108 | exact t109 | exact t110 | exact t111 | exact t112 | exact ro_0 | exact ro_1 | omega | assumption | (refine i103 ?_; omega) | (refine i106 ?_; omega) | (refine i108 ?_; omega) | (refine i109 ?_; omega) | (refine i110 ?_; omega) | (refine i111 ?_; omega) | (refine i112 ?_; omega) | (simp only [List.map_cons, List.map_nil, List.sum_cons, List.sum_nil, cat_i, cat_r, cat_l, Nat.reduceAdd, Nat.reduceLeDiff]; done) | decide) only [e208, s208_0, s208_1, s208_4, s208_5, s208_6, s208_9, s208_12, tl_s, tl_n, nI_add, pk_mul, i_cl, row_s, u2_row, i_le, i_lt, i_eq, if_true, if_false, Nat.le_refl, Nat.reduceEqDiff, Nat.reduceLeDiff, row_n, stC_11, c_inL, b2i_0]
  cases h1 : inL v 0 5
  · simp (disch := first | exact ok_i | exact ok_r | exact ok_n | exact cat_i | exact cat_r | exact t103 | exact t106 | exact t108 | exact t109 | exact t110 | exact t111 | exact t112 | exact ro_0 | exact ro_1 | omega | assumption | (refine i103 ?_; omega) | (refine i106 ?_; omega) | (refine i108 ?_; omega) | (refine i109 ?_; omega) | (refine i110 ?_; omega) | (refine i111 ?_; omega) | (refine i112 ?_; omega) | (simp only [List.map_cons, List.map_nil, List.sum_cons, List.sum_nil, cat_i, cat_r, cat_l, Nat.reduceAdd, Nat.reduceLeDiff]; done) | decide) only [s208_15, s208_16, tl_s, tl_n, nI_add, pk_mul, i_cl, row_s, u2_row, i_le, i_lt, i_eq, if_true, if_false, Nat.le_refl, Nat.reduceEqDiff, Nat.reduceLeDiff, b2i, Bool.false_eq_true]
  · obtain ⟨hv, hv1, hv2⟩ := inL_t h1
    have hw' := hw h1
    have hcm' := hcm h1
    have k1 := nxt_le (I := I) hp
    have key := c_ncLoop (X := X) (d := d) (I := I) (Q := Q) (N := N) (cm := cm) (n := n) hT hT2 hcm' hn n (Nat.le_refl _) (upd C (4 * cm) v) (nxE I T p) (nI (nxB I T p)) (nxT I T p) (by omega)
    rw [Nat.sub_self, Nat.zero_add] at key
    generalize tN v = w at *
    subst hv
    simp (disch := first | exact ok_i | exact ok_r | exact ok_n | exact cat_i | exact cat_r | exact t103 | exact t106 | exact t108 | exact t109 | exact t110 | exact t111 | exact t112 | exact ro_0 | exact ro_1 | omega | assumption | (refine i103 ?_; omega) | (refine i106 ?_; omega) | (refine i108 ?_; omega) | (refine i109 ?_; omega) | (refine i110 ?_; omega) | (refine i111 ?_; omega) | (refine i112 ?_; omega) | (simp only [List.map_cons, List.map_nil, List.sum_cons, List.sum_nil, cat_i, cat_r, cat_l, Nat.reduceAdd, Nat.reduceLeDiff]; done) | decide) only [s208_17, s208_18, s208_19, s208_22, s208_23, s208_24, s208_25, s208_28, s208_29, s208_30, s208_33, s208_34, s208_35, s208_38, s208_39, s208_42, s208_43, s208_44, s208_45, s208_48, s208_49, tl_s, tl_n, nI_add, pk_mul, i_cl, row_s, u2_row, i_le, i_lt, i_eq, if_true, if_false, Nat.le_refl, Nat.reduceEqDiff, Nat.reduceLeDiff, row_n, stC_13, stC_11, stC_106, stC_u, u2_n, c_nextC hT hT2 hp, hw', i108, t108, key, Bool.true_eq_false]
end
