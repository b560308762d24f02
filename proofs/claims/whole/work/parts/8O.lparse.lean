/-! the class: clauses are read -/
theorem nxF_c {I J : pI} {T p : Nat} (h : J 106 = I 106) : nxF J T p = nxF I T p := by
  unfold nxF
  rw [nxB_c h, bytA_c h, lwR_c h, dgR_c h]
theorem tkS_c {I J : pI} {T p : Nat} (h : J 106 = I 106) : tkS J T p = tkS I T p := by
  unfold tkS
  rw [nxB_c h, bytA_c h]
/-- what a token is, in both tongues -/
theorem tok_cases {I : pI} {T p : Nat} (hB : ByOk I T) (hp : p ≤ T) :
    (tkS I T p = nI 1 ∧ nxF I T p = nxE I T p ∧ nxT I T p = o2i (wfR I (nxB I T p) (nxE I T p) 6) ∧ (∀ j, nxB I T p ≤ j → j < nxE I T p → inL (I 106 j) 97 122 = true)) ∨
    (tkS I T p = nI 2 ∧ nxF I T p = nxE I T p ∧ ((2 < nxE I T p - nxB I T p ∧ nxT I T p = -1) ∨ (nxE I T p - nxB I T p ≤ 2 ∧ ∃ u, u ≤ 99 ∧ nxT I T p = nI (100 + u) ∧ vh I (nxB I T p) (nxE I T p - nxB I T p) = nI u))) ∨
    (tkS I T p = nI 3 ∧ nxF I T p = nxE I T p ∧ nxT I T p = nI 200) ∨ (tkS I T p = nI 0 ∧ nxF I T p = nxE I T p ∧ nxT I T p = nI 300) ∨ ((tkS I T p = nI 4 ∨ tkS I T p = nI 5) ∧ nxT I T p = -1) := by
  obtain ⟨s1, s2⟩ := sk_le (I := I) hp
  unfold tkS nxF nxE nxT
  generalize nxB I T p = q at *
  by_cases c0 : T ≤ q
  · have eq : bytA I T q = -1 := by unfold bytA; rw [if_neg (by omega)]
    have n1 : inL (-1) 97 122 = false := by decide
    have n2 : inL (-1) 48 57 = false := by decide
    have n3 : ¬ (-1 : Int32) = nI 59 := by decide
    rw [eq, n1, n2, if_pos c0, if_pos c0]
    simp only [Bool.false_eq_true, if_false, n3, if_true]
    exact Or.inr (Or.inr (Or.inr (Or.inl ⟨trivial, trivial, trivial⟩)))
  · obtain ⟨hb1, v, hv, hb2⟩ := hB q (by omega)
    have eq : bytA I T q = I 106 q := bytA_lt (by omega)
    have nm : ¬ I 106 q = -1 := by rw [hb2]; have := nI_m1 (a := v) (by omega); rw [this]; exact id
    rw [if_neg c0, if_neg c0, eq]
    by_cases c1 : inL (I 106 q) 97 122 = true
    · simp only [c1, if_true]
      refine Or.inl ⟨by rw [srt_1]; exact c1, trivial, trivial, fun j h1 h2 => ?_⟩
      have h3 := lw_all j h1 h2
      have h4 := lwR_le (I := I) (T := T) (r := T - q) (q := q)
      rwa [bytA_lt (by omega)] at h3
    · simp only [c1, Bool.false_eq_true, if_false]
      by_cases c2 : inL (I 106 q) 48 57 = true
      · simp only [c2, if_true]
        refine Or.inr (Or.inl ⟨by rw [srt_2]; exact c2, trivial, ?_⟩)
        have h1 := dgR_1 (I := I) (T := T) (q := q) (b := q) (v := nI 0) (by rw [eq]; exact c2)
        have h2 := dgR_le (I := I) (T := T) (b := q) (r := T - q) (q := q) (v := nI 0)
        have h3 := fun (j : Nat) (a1 : q ≤ j) (a2 : j < (dgR I T q (T - q) q (nI 0)).1) => dg_all (I := I) (T := T) (b := q) (r := T - q) (q := q) (v := nI 0) j a1 a2
        have h4 := dg_val (I := I) (T := T) (b := q) (r := T - q) (q := q) (v := nI 0) (Nat.le_refl q) (by omega)
        generalize dgR I T q (T - q) q (nI 0) = F at *
        obtain ⟨F, val⟩ := F
        dsimp only at h1 h2 h3 h4 ⊢
        by_cases c3 : 2 < F - q
        · rw [if_pos c3]; exact Or.inl ⟨c3, rfl⟩
        · rw [if_neg c3]
          refine Or.inr ⟨by omega, ?_⟩
          have h4 := h4 (by omega)
          have dg : ∀ j, q ≤ j → j < F → ∃ y, y ≤ 9 ∧ I 106 j = nI (48 + y) := fun j a1 a2 => by
            have h5 := h3 j a1 a2
            rw [bytA_lt (by omega)] at h5
            obtain ⟨b1, b2, b3⟩ := inL_t h5
            exact ⟨tN (I 106 j) - 48, by omega, by rw [show 48 + (tN (I 106 j) - 48) = tN (I 106 j) by omega]; exact b1⟩
          obtain ⟨y0, g0, g1⟩ := dg q (Nat.le_refl q) (by omega)
          have s0 : nI 10 * nI 0 + I 106 (q + 0) - nI 48 = nI y0 := by
            rw [Nat.add_zero, g1, pk_mul, nI_add, i_sub (by omega)]
            congr 1
            omega
          by_cases c4 : F - q = 1
          · rw [c4] at h4 ⊢
            have h6 : val = nI y0 := by rw [h4]; exact s0
            exact ⟨y0, by omega, by rw [h6, nI_add], by show nI 10 * nI 0 + I 106 (q + 0) - nI 48 = nI y0; exact s0⟩
          · have c5 : F - q = 2 := by omega
            obtain ⟨y1, g2, g3⟩ := dg (q + 1) (by omega) (by omega)
            have s1 : nI 10 * (nI 10 * nI 0 + I 106 (q + 0) - nI 48) + I 106 (q + 1) - nI 48 = nI (10 * y0 + y1) := by
              rw [s0, g3, pk_mul, nI_add, i_sub (by omega)]
              congr 1
              omega
            rw [c5] at h4 ⊢
            have h6 : val = nI (10 * y0 + y1) := by rw [h4]; exact s1
            exact ⟨10 * y0 + y1, by omega, by rw [h6, nI_add], by show nI 10 * (nI 10 * nI 0 + I 106 (q + 0) - nI 48) + I 106 (q + 1) - nI 48 = _; exact s1⟩
      · simp only [c2, Bool.false_eq_true, if_false]
        by_cases c3 : I 106 q = nI 59
        · simp only [c3, if_true]
          exact Or.inr (Or.inr (Or.inl ⟨by decide, trivial, trivial⟩))
        · simp only [c3, nm, if_false]
          refine Or.inr (Or.inr (Or.inr (Or.inr ⟨?_, trivial⟩)))
          unfold srt
          rw [if_neg c1, if_neg c2, if_neg c3]
          split
          · exact Or.inl rfl
          · exact Or.inr rfl
/-- only clause i of the class is written -/
def FrI (i : Nat) (I I' : pI) : Prop := ∀ a j, (a ≠ 91 ∨ j ≠ i) → (a ≠ 92 ∨ j < 3 * i ∨ 3 * i + 3 ≤ j) → I' a j = I a j
theorem FrI.row {i a : Nat} {I I' : pI} (h : FrI i I I') (h1 : a ≠ 91) (h2 : a ≠ 92) : I' a = I a := by
  funext j
  exact h a j (Or.inl h1) (Or.inl h2)
def ClR (I : pI) (C : Nat → Int32) (i : Nat) : Prop := ∃ w, w < 6 ∧ I 91 i = nI w ∧ C (4 * i) = nI w ∧ ∀ j, j < nN w → I 92 (3 * i + j) = C (4 * i + 1 + j)
def WanEq (I : pI) : Prop := ∀ w, w < 6 → I 108 w = nI (nN w)
theorem WanEq.ok {I : pI} (h : WanEq I) : WanOk I := fun w hw => ⟨nN w, nN_le hw, h w hw⟩
theorem ncR_o {I : pI} {T k n a : Nat} : ∀ {r : Nat} {C : Nat → Int32} {p : Nat} {b v : Int32}, r ≤ n → a ≤ k → (ncR I T k n r C p b v).2.1 a = C a
  | 0, _, _, _, _, _, _ => rfl
  | r + 1, C, p, b, v, hr, ha => by
    unfold ncR
    split
    · rw [ncR_o (by omega) ha, up_n (by omega)]
    · rfl
section
variable {X : pX} {d : Nat} {I : pI} {Q : Option Value → pG → pI → Prop} {G : pG} {T : Nat}
theorem byok_c {J : pI} (h : ByOk I T) (h1 : J 90 = I 90) (h2 : J 106 = I 106) : ByOk J T := fun j hj => by
  rw [h1, h2]
  exact h j hj
theorem t_numbers {i w : Nat} {C0 : Nat → Int32} (hi : i < 30) (hw : w < 6) (hT : I 89 0 = nI T) (hT2 : T ≤ 60) (hB : ByOk I T) :
    ∀ r, r ≤ nN w → ∀ (I1 : pI) (C : Nat → Int32) (b q : Nat) (t : Int32), FrI i I I1 → q ≤ T → I1 91 i = nI w → C (4 * i) = nI w → (∀ j, j < nN w - r → I1 92 (3 * i + j) = C (4 * i + 1 + j)) →
    (∀ I' s e t', FrI i I I' → s ≤ T → (ncR I T (4 * i) (nN w) r C (nxE I T q) (nI (nxB I T q)) (nxT I T q)).1 = false → (ncR I T (4 * i) (nN w) r C (nxE I T q) (nI (nxB I T q)) (nxT I T q)).2.2.2.1 = nI s → Q (some (.int (nI 0))) G0 (tpI I' s e t')) →
    (∀ I' s e t', FrI i I I' → e ≤ T → (ncR I T (4 * i) (nN w) r C (nxE I T q) (nI (nxB I T q)) (nxT I T q)).1 = true → (ncR I T (4 * i) (nN w) r C (nxE I T q) (nI (nxB I T q)) (nxT I T q)).2.2 = (nxE I T e, nI (nxB I T e), nxT I T e) → ClR I' (ncR I T (4 * i) (nN w) r C (nxE I T q) (nI (nxB I T q)) (nxT I T q)).2.1 i → Q (some (.int (nI 1))) G0 (tpI I' s e t')) →
    At X (d + 6) 67 37 [some (.ref 89), some (.int (nI i)), some (.int (nI w)), some (.int (nI (nN w - r)))] [] G0 (tpI I1 b q t) Q := by
  have hn := nN_le hw
  intro r
  induction r with
  | zero =>
    intro _ I1 C b q t hF hq h91 hC hrel hf hs
    rw [Nat.sub_zero] at hrel ⊢
    have e1 : ncR I T (4 * i) (nN w) 0 C (nxE I T q) (nI (nxB I T q)) (nxT I T q) = (true, C, nxE I T q, nI (nxB I T q), nxT I T q) := rfl
    rw [e1] at hs
    simp (disch := first | exact tag1002 | exact nums_0 | (refine inb1002 ?_; omega) | exact ok_i | exact ok_r | exact ok_n | exact ro_0 | exact ro_1 | omega) only [s67_37, s67_38, s67_41, s67_42, s67_42R, s67_43, s67_93, s67_94, tl_s, tl_n, nI_add, pk_mul, i_cl, row_s, u2_row, i_le, i_lt, i_eq, if_true, if_false, Nat.le_refl, Nat.reduceEqDiff, Nat.reduceLeDiff, roN hw]
    exact hs I1 b q t hF hq rfl rfl ⟨w, hw, h91, hC, hrel⟩
  | succ r ih =>
    intro hr I1 C b q t hF hq h91 hC hrel hf hs
    have n1 : ¬ nN w ≤ nN w - (r + 1) := by omega
    have h90 : I1 90 = I 90 := hF.row (by decide) (by decide)
    have h106 : I1 106 = I 106 := hF.row (by decide) (by decide)
    have h89 : I1 89 0 = nI T := by rw [hF.row (by decide) (by decide)]; exact hT
    have hB1 : ByOk I1 T := byok_c hB h90 h106
    have e1 : ncR I T (4 * i) (nN w) (r + 1) C (nxE I T q) (nI (nxB I T q)) (nxT I T q) = if inL (nxT I T q) 100 199 = true then ncR I T (4 * i) (nN w) r (upd C (4 * i + (nN w - r)) (nxT I T q - nI 100)) (nxE I T (nxE I T q)) (nI (nxB I T (nxE I T q))) (nxT I T (nxE I T q)) else (false, C, nxE I T q, nI (nxB I T q), nxT I T q) := rfl
    rw [e1] at hf hs
    obtain ⟨s1, s2⟩ := sk_le (I := I) hq
    have nle := nxt_le (I := I) hq
    rw [s67_37]
    simp (disch := first | exact tag1002 | exact nums_0 | (refine inb1002 ?_; omega) | exact ok_i | exact ok_r | exact ok_n | exact ro_0 | exact ro_1 | omega) only [s67_38, s67_41, s67_42, s67_42R, s67_43, s67_46, tl_s, tl_n, nI_add, pk_mul, i_cl, row_s, u2_row, i_le, i_lt, i_eq, if_true, if_false, Nat.le_refl, Nat.reduceEqDiff, Nat.reduceLeDiff, roN hw, n1]
    rw [s67_47 (by simp only [List.map_cons, List.map_nil, List.sum_cons, List.sum_nil, cat_i, cat_r, cat_l, Nat.reduceAdd, Nat.reduceLeDiff]) t89, t_advance h89 hT2 hB1 hq, nxB_c h106, nxF_c h106, tkS_c h106]
    have fail : ¬ inL (nxT I T q) 100 199 = true → At X (d + 6) 67 71 [some (.ref 89), some (.int (nI i)), some (.int (nI w)), some (.int (nI (nN w - (r + 1))))] [] G0 (tpI I1 (nxB I T q) (nxF I T q) (tkS I T q)) Q := by
      intro c
      rw [if_neg c] at hf
      simp (disch := first | exact ok_i | exact ok_r | exact ok_n | exact cat_i | exact cat_r | exact t89 | exact t90 | exact t91 | exact t92 | exact ro_0 | exact ro_1 | (refine i90 ?_; omega) | (refine i91 ?_; omega) | (refine i92 ?_; omega) | omega | assumption | (simp only [List.map_cons, List.map_nil, List.sum_cons, List.sum_nil, cat_i, cat_r, cat_l, Nat.reduceAdd, Nat.reduceLeDiff]; done) | decide) only [s67_71, s67_72, tl_s, tl_n, nI_add, pk_mul, i_cl, row_s, u2_row, i_le, i_lt, i_eq, if_true, if_false, Nat.le_refl, Nat.reduceEqDiff, Nat.reduceLeDiff]
      exact hf I1 _ _ _ hF s2 rfl rfl
    rcases tok_cases hB hq with ⟨k1, k2, k3, k4⟩ | ⟨k1, k2, k3⟩ | ⟨k1, k2, k3⟩ | ⟨k1, k2, k3⟩ | ⟨k1, k3⟩
    · have nw : ¬ inL (nxT I T q) 100 199 = true := by
        rw [k3]
        intro e
        have e := inL_i.mp e
        cases h : wfR I (nxB I T q) (nxE I T q) 6 with
        | none => rw [h] at e; have : (o2i none : Int32).toInt = -1 := by decide
                  omega
        | some a =>
          rw [h] at e
          have ha : ∀ r, wfR I (nxB I T q) (nxE I T q) r = some a → a < 6 := by
            intro r
            induction r with
            | zero => intro h; cases h
            | succ r ih =>
              intro h
              have h' : (if mtB I (nxB I T q) (nxE I T q) (6 - (r + 1)) 6 = true then some (6 - (r + 1)) else wfR I (nxB I T q) (nxE I T q) r) = some a := h
              split at h'
              · injection h' with h'; omega
              · exact ih h'
          have := ha 6 h
          have e2 : (o2i (some a) : Int32).toInt = a := i_toInt (by omega)
          omega
      have fl := fail nw
      rw [k1] at fl ⊢
      simp (disch := first | exact ok_i | exact ok_r | exact ok_n | exact cat_i | exact cat_r | exact t89 | exact t90 | exact t91 | exact t92 | exact ro_0 | exact ro_1 | (refine i90 ?_; omega) | (refine i91 ?_; omega) | (refine i92 ?_; omega) | omega | assumption | (simp only [List.map_cons, List.map_nil, List.sum_cons, List.sum_nil, cat_i, cat_r, cat_l, Nat.reduceAdd, Nat.reduceLeDiff]; done) | decide) only [s67_50, s67_51, s67_54, s67_55, tl_s, tl_n, nI_add, pk_mul, i_cl, row_s, u2_row, i_le, i_lt, i_eq, if_true, if_false, Nat.le_refl, Nat.reduceEqDiff, Nat.reduceLeDiff, tp_g5, n12F]
      exact fl
    · rcases k3 with ⟨k3, k4⟩ | ⟨k3, u, hu, k4, k5⟩
      · have fl := fail (by rw [k4]; decide)
        have n2 : ¬ nxE I T q - nxB I T q ≤ 2 := by omega
        rw [k1, k2] at fl ⊢
        simp (disch := first | exact ok_i | exact ok_r | exact ok_n | exact cat_i | exact cat_r | exact t89 | exact t90 | exact t91 | exact t92 | exact ro_0 | exact ro_1 | (refine i90 ?_; omega) | (refine i91 ?_; omega) | (refine i92 ?_; omega) | omega | assumption | (simp only [List.map_cons, List.map_nil, List.sum_cons, List.sum_nil, cat_i, cat_r, cat_l, Nat.reduceAdd, Nat.reduceLeDiff]; done) | decide) only [s67_50, s67_51, s67_54, s67_55, s67_58, s67_59, s67_62, s67_63, s67_66, s67_67, s67_68, tl_s, tl_n, nI_add, pk_mul, i_cl, row_s, u2_row, i_le, i_lt, i_eq, if_true, if_false, Nat.le_refl, Nat.reduceEqDiff, Nat.reduceLeDiff, tp_g5, tp_g6, tp_g7, i_sub, n2]
        exact fl
      · have c : inL (nxT I T q) 100 199 = true := by rw [k4, inL_i, i_toInt (by omega)]; omega
        rw [if_pos c] at hf hs
        rw [k1, k2]
        simp (disch := first | exact ok_i | exact ok_r | exact ok_n | exact cat_i | exact cat_r | exact t89 | exact t90 | exact t91 | exact t92 | exact ro_0 | exact ro_1 | (refine i90 ?_; omega) | (refine i91 ?_; omega) | (refine i92 ?_; omega) | omega | assumption | (simp only [List.map_cons, List.map_nil, List.sum_cons, List.sum_nil, cat_i, cat_r, cat_l, Nat.reduceAdd, Nat.reduceLeDiff]; done) | decide) only [s67_50, s67_51, s67_54, s67_55, s67_58, s67_59, s67_62, s67_63, s67_66, s67_67, s67_68, s67_71, s67_72, s67_73, s67_74, s67_77, s67_78, s67_79, s67_80, s67_81, s67_82, tl_s, tl_n, nI_add, pk_mul, i_cl, row_s, u2_row, i_le, i_lt, i_eq, if_true, if_false, Nat.le_refl, Nat.reduceEqDiff, Nat.reduceLeDiff, tp_g5, tp_g6, tp_g7, i_sub, k3, r89_4]
        rw [s67_83 (by simp only [List.map_cons, List.map_nil, List.sum_cons, List.sum_nil, cat_i, cat_r, cat_l, Nat.reduceAdd, Nat.reduceLeDiff]) t89, t_valueHere hB1 nle.2.1 nle.2.2 hT2]
        have ev : vh I1 (nxB I T q) (nxE I T q - nxB I T q) = nI u := by
          rw [← k5]
          unfold vh
          rw [h106]
        have e3 : nxT I T q - nI 100 = nI u := by rw [k4, i_sub (by omega)]; congr 1; omega
        have e4 : nN w - (r + 1) + 1 = nN w - r := by omega
        rw [ev]
        simp (disch := first | exact ok_i | exact ok_r | exact ok_n | exact cat_i | exact cat_r | exact t89 | exact t90 | exact t91 | exact t92 | exact ro_0 | exact ro_1 | (refine i90 ?_; omega) | (refine i91 ?_; omega) | (refine i92 ?_; omega) | omega | assumption | (simp only [List.map_cons, List.map_nil, List.sum_cons, List.sum_nil, cat_i, cat_r, cat_l, Nat.reduceAdd, Nat.reduceLeDiff]; done) | decide) only [s67_86, s67_87, s67_90, tl_s, tl_n, nI_add, pk_mul, i_cl, row_s, u2_row, i_le, i_lt, i_eq, if_true, if_false, Nat.le_refl, Nat.reduceEqDiff, Nat.reduceLeDiff, tp_u, e4]
        rw [e3] at hf hs
        refine ih (by omega) (upd2 I1 92 (3 * i + (nN w - (r + 1))) (nI u)) (upd C (4 * i + (nN w - r)) (nI u)) _ _ _ (fun a j h1 h2 => ?_) nle.2.2 ?_ ?_ (fun j hj => ?_) hf hs
        · rw [u2_nk (by omega)]; exact hF a j h1 h2
        · rw [u2_nk (by omega)]; exact h91
        · rw [up_n (by omega)]; exact hC
        · by_cases ej : j = nN w - (r + 1)
          · subst ej
            rw [u2_s, show 4 * i + 1 + (nN w - (r + 1)) = 4 * i + (nN w - r) by omega, up_s]
          · rw [u2_nk (by omega), up_n (by omega)]
            exact hrel j (by omega)
    · have fl := fail (by rw [k3]; decide)
      rw [k1] at fl ⊢
      have n3 : (nI 3 = nI 2) = False := propext ⟨fun e => absurd e (by decide), False.elim⟩
      simp (disch := first | exact ok_i | exact ok_r | exact ok_n | exact cat_i | exact cat_r | exact t89 | exact t90 | exact t91 | exact t92 | exact ro_0 | exact ro_1 | (refine i90 ?_; omega) | (refine i91 ?_; omega) | (refine i92 ?_; omega) | omega | assumption | (simp only [List.map_cons, List.map_nil, List.sum_cons, List.sum_nil, cat_i, cat_r, cat_l, Nat.reduceAdd, Nat.reduceLeDiff]; done) | decide) only [s67_50, s67_51, s67_54, s67_55, tl_s, tl_n, nI_add, pk_mul, i_cl, row_s, u2_row, i_le, i_lt, i_eq, if_true, if_false, Nat.le_refl, Nat.reduceEqDiff, Nat.reduceLeDiff, tp_g5, n3]
      exact fl
    · have fl := fail (by rw [k3]; decide)
      rw [k1] at fl ⊢
      simp (disch := first | exact ok_i | exact ok_r | exact ok_n | exact cat_i | exact cat_r | exact t89 | exact t90 | exact t91 | exact t92 | exact ro_0 | exact ro_1 | (refine i90 ?_; omega) | (refine i91 ?_; omega) | (refine i92 ?_; omega) | omega | assumption | (simp only [List.map_cons, List.map_nil, List.sum_cons, List.sum_nil, cat_i, cat_r, cat_l, Nat.reduceAdd, Nat.reduceLeDiff]; done) | decide) only [s67_50, s67_51, s67_54, s67_55, tl_s, tl_n, nI_add, pk_mul, i_cl, row_s, u2_row, i_le, i_lt, i_eq, if_true, if_false, Nat.le_refl, Nat.reduceEqDiff, Nat.reduceLeDiff, tp_g5, n02F]
      exact fl
    · have fl := fail (by rw [k3]; decide)
      rcases k1 with k1 | k1
      · rw [k1] at fl ⊢
        have n3 : (nI 4 = nI 2) = False := propext ⟨fun e => absurd e (by decide), False.elim⟩
        simp (disch := first | exact ok_i | exact ok_r | exact ok_n | exact cat_i | exact cat_r | exact t89 | exact t90 | exact t91 | exact t92 | exact ro_0 | exact ro_1 | (refine i90 ?_; omega) | (refine i91 ?_; omega) | (refine i92 ?_; omega) | omega | assumption | (simp only [List.map_cons, List.map_nil, List.sum_cons, List.sum_nil, cat_i, cat_r, cat_l, Nat.reduceAdd, Nat.reduceLeDiff]; done) | decide) only [s67_50, s67_51, s67_54, s67_55, tl_s, tl_n, nI_add, pk_mul, i_cl, row_s, u2_row, i_le, i_lt, i_eq, if_true, if_false, Nat.le_refl, Nat.reduceEqDiff, Nat.reduceLeDiff, tp_g5, n3]
        exact fl
      · rw [k1] at fl ⊢
        have n3 : (nI 5 = nI 2) = False := propext ⟨fun e => absurd e (by decide), False.elim⟩
        simp (disch := first | exact ok_i | exact ok_r | exact ok_n | exact cat_i | exact cat_r | exact t89 | exact t90 | exact t91 | exact t92 | exact ro_0 | exact ro_1 | (refine i90 ?_; omega) | (refine i91 ?_; omega) | (refine i92 ?_; omega) | omega | assumption | (simp only [List.map_cons, List.map_nil, List.sum_cons, List.sum_nil, cat_i, cat_r, cat_l, Nat.reduceAdd, Nat.reduceLeDiff]; done) | decide) only [s67_50, s67_51, s67_54, s67_55, tl_s, tl_n, nI_add, pk_mul, i_cl, row_s, u2_row, i_le, i_lt, i_eq, if_true, if_false, Nat.le_refl, Nat.reduceEqDiff, Nat.reduceLeDiff, tp_g5, n3]
        exact fl
end
