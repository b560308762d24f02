/-! the class: all clauses are read -/
theorem FrI.trans {i : Nat} {I J K : pI} (h : FrI i I J) (h2 : FrI i J K) : FrI i I K := fun a j h3 h4 => by rw [h2 a j h3 h4, h a j h3 h4]
theorem wfR_6 {I : pI} {b e : Nat} : ∀ {r a : Nat}, wfR I b e r = some a → a < 6
  | 0, a, h => by cases h
  | r + 1, a, h => by
    have h' : (if mtB I b e (6 - (r + 1)) 6 = true then some (6 - (r + 1)) else wfR I b e r) = some a := h
    split at h'
    · injection h' with h'; omega
    · exact wfR_6 h'
theorem nW_eq {I : pI} (h : WanEq I) {w : Nat} (hw : w < 6) : nW I (nI w) = nN w := by
  have h1 := nN_le hw
  unfold nW
  rw [show tN (nI w) = w from i_cl (by omega), h w hw, i_cl (by omega)]
section
variable {X : pX} {d : Nat} {I : pI} {Q : Option Value → pG → pI → Prop} {G : pG} {T : Nat}
theorem t_readClause {i q b : Nat} {C : Nat → Int32} {t : Int32} (hT : I 89 0 = nI T) (hT2 : T ≤ 60) (hB : ByOk I T) (hW : WdsOk I) (hN : WanEq I) (hq : q ≤ T) (hi : inL (nxT I T q) 0 5 = true → i < 30) (hi2 : i < 60)
    (hf : ∀ I' s e t', FrI i I I' → s ≤ T → (rdM I T i C q).1 = false → (rdM I T i C q).2.2.2.1 = nI s → Q (some (.int (nI 0))) G0 (tpI I' s e t'))
    (hs : ∀ I' s e t', FrI i I I' → e ≤ T → (rdM I T i C q).1 = true → (rdM I T i C q).2.2 = (nxE I T e, nI (nxB I T e), nxT I T e) → ClR I' (rdM I T i C q).2.1 i → Q (some (.int (nI 1))) G0 (tpI I' s e t')) :
    Call X (d + 7) 67 [.ref 89, .int (nI i)] G0 (tpI I b q t) Q := by
  obtain ⟨s1, s2⟩ := sk_le (I := I) hq
  have nle := nxt_le (I := I) hq
  unfold rdM rcM at hf hs
  simp (disch := first | exact ok_i | exact ok_r | exact ok_n | exact cat_i | exact cat_r | exact t89 | exact t90 | exact t91 | exact t92 | exact ro_0 | exact ro_1 | (refine i90 ?_; omega) | (refine i91 ?_; omega) | (refine i92 ?_; omega) | omega | assumption | (simp only [List.map_cons, List.map_nil, List.sum_cons, List.sum_nil, cat_i, cat_r, cat_l, Nat.reduceAdd, Nat.reduceLeDiff]; done) | decide) only [e67, s67_0, tl_s, tl_n, nI_add, pk_mul, i_cl, row_s, u2_row, i_le, i_lt, i_eq, if_true, if_false, Nat.le_refl, Nat.reduceEqDiff, Nat.reduceLeDiff]
  rw [s67_1 (by simp only [List.map_cons, List.map_nil, List.sum_cons, List.sum_nil, cat_i, cat_r, cat_l, Nat.reduceAdd, Nat.reduceLeDiff]) t89, t_advance hT hT2 hB hq]
  have fail : ∀ w, ¬ inL (nxT I T q) 0 5 = true → At X (d + 6) 67 26 [some (.ref 89), some (.int (nI i)), some (.int w), none] [] G0 (tpI I (nxB I T q) (nxF I T q) (tkS I T q)) Q := by
    intro w c
    rw [if_neg c] at hf
    simp (disch := first | exact ok_i | exact ok_r | exact ok_n | exact cat_i | exact cat_r | exact t89 | exact t90 | exact t91 | exact t92 | exact ro_0 | exact ro_1 | (refine i90 ?_; omega) | (refine i91 ?_; omega) | (refine i92 ?_; omega) | omega | assumption | (simp only [List.map_cons, List.map_nil, List.sum_cons, List.sum_nil, cat_i, cat_r, cat_l, Nat.reduceAdd, Nat.reduceLeDiff]; done) | decide) only [s67_26, s67_27, tl_s, tl_n, nI_add, pk_mul, i_cl, row_s, u2_row, i_le, i_lt, i_eq, if_true, if_false, Nat.le_refl, Nat.reduceEqDiff, Nat.reduceLeDiff]
    exact hf I _ _ _ (fun _ _ _ _ => rfl) s2 rfl rfl
  have n1 : (nI 2 = nI 1) = False := propext ⟨fun e => absurd e (by decide), False.elim⟩
  have n2 : (nI 3 = nI 1) = False := propext ⟨fun e => absurd e (by decide), False.elim⟩
  have n3 : (nI 0 = nI 1) = False := propext ⟨fun e => absurd e (by decide), False.elim⟩
  have n4 : (nI 4 = nI 1) = False := propext ⟨fun e => absurd e (by decide), False.elim⟩
  have n5 : (nI 5 = nI 1) = False := propext ⟨fun e => absurd e (by decide), False.elim⟩
  rcases tok_cases hB hq with ⟨k1, k2, k3, k4⟩ | ⟨k1, k2, k3⟩ | ⟨k1, k2, k3⟩ | ⟨k1, k2, k3⟩ | ⟨k1, k3⟩
  · have k1' := k1
    rw [k1, k2]
    simp (disch := first | exact ok_i | exact ok_r | exact ok_n | exact cat_i | exact cat_r | exact t89 | exact t90 | exact t91 | exact t92 | exact ro_0 | exact ro_1 | (refine i90 ?_; omega) | (refine i91 ?_; omega) | (refine i92 ?_; omega) | omega | assumption | (simp only [List.map_cons, List.map_nil, List.sum_cons, List.sum_nil, cat_i, cat_r, cat_l, Nat.reduceAdd, Nat.reduceLeDiff]; done) | decide) only [s67_4, s67_5, s67_8, s67_9, s67_12, tl_s, tl_n, nI_add, pk_mul, i_cl, row_s, u2_row, i_le, i_lt, i_eq, if_true, if_false, Nat.le_refl, Nat.reduceEqDiff, Nat.reduceLeDiff, tp_g5]
    rw [s67_13 (by simp only [List.map_cons, List.map_nil, List.sum_cons, List.sum_nil, cat_i, cat_r, cat_l, Nat.reduceAdd, Nat.reduceLeDiff]) t89, t_wordHere hW hB nle.2.1 nle.2.2 hT2 k4, ← k3]
    simp (disch := first | exact ok_i | exact ok_r | exact ok_n | exact cat_i | exact cat_r | exact t89 | exact t90 | exact t91 | exact t92 | exact ro_0 | exact ro_1 | (refine i90 ?_; omega) | (refine i91 ?_; omega) | (refine i92 ?_; omega) | omega | assumption | (simp only [List.map_cons, List.map_nil, List.sum_cons, List.sum_nil, cat_i, cat_r, cat_l, Nat.reduceAdd, Nat.reduceLeDiff]; done) | decide) only [s67_16, s67_19, s67_20, s67_21, s67_22, tl_s, tl_n, nI_add, pk_mul, i_cl, row_s, u2_row, i_le, i_lt, i_eq, if_true, if_false, Nat.le_refl, Nat.reduceEqDiff, Nat.reduceLeDiff]
    rw [s67_23]
    cases h : wfR I (nxB I T q) (nxE I T q) 6 with
    | none =>
      rw [h] at k3
      have k3 : nxT I T q = -1 := k3
      have fl := fail (-1) (by rw [k3]; decide)
      rw [k1, k2] at fl
      rw [k3]
      simp only [if_true]
      exact fl
    | some w =>
      rw [h] at k3
      have k3 : nxT I T q = nI w := k3
      have w6 := wfR_6 h
      have c : inL (nxT I T q) 0 5 = true := by rw [k3, inL_i, i_toInt (by omega)]; omega
      have i30 := hi c
      have nm : ¬ nI w = -1 := by
        intro e
        have e2 : (nI w).toInt = (-1 : Int32).toInt := by rw [e]
        rw [i_toInt (by omega)] at e2
        have : (-1 : Int32).toInt = -1 := by decide
        omega
      rw [if_pos c, if_pos c] at hf hs
      rw [k3] at hf hs ⊢
      rw [nW_eq hN w6] at hf hs
      rw [if_neg nm]
      simp (disch := first | exact ok_i | exact ok_r | exact ok_n | exact cat_i | exact cat_r | exact t89 | exact t90 | exact t91 | exact t92 | exact ro_0 | exact ro_1 | (refine i90 ?_; omega) | (refine i91 ?_; omega) | (refine i92 ?_; omega) | omega | assumption | (simp only [List.map_cons, List.map_nil, List.sum_cons, List.sum_nil, cat_i, cat_r, cat_l, Nat.reduceAdd, Nat.reduceLeDiff]; done) | decide) only [s67_28, s67_29, s67_32, s67_33, s67_34, s67_35, s67_36, tl_s, tl_n, nI_add, pk_mul, i_cl, row_s, u2_row, i_le, i_lt, i_eq, if_true, if_false, Nat.le_refl, Nat.reduceEqDiff, Nat.reduceLeDiff, tp_u, r89_3]
      have key := t_numbers (d := d) (X := X) (I := I) (Q := Q) (T := T) (i := i) (w := w) (C0 := C) i30 w6 hT hT2 hB (nN w) (Nat.le_refl _) (upd2 I 91 i (nI w)) (upd C (4 * i) (nI w)) (nxB I T q) (nxE I T q) (nI 1) (fun a j h1 h2 => u2_nk (by omega)) nle.2.2 (u2_s) (up_s) (fun j hj => absurd hj (by omega)) hf hs
      rw [Nat.sub_self] at key
      exact key
  · have fl := fun w => fail w (by
      rcases k3 with ⟨-, k4⟩ | ⟨-, u, hu, k4, -⟩
      · rw [k4]; decide
      · rw [k4, inL_i, i_toInt (by omega)]; omega)
    rw [k1] at fl ⊢
    simp (disch := first | exact ok_i | exact ok_r | exact ok_n | exact cat_i | exact cat_r | exact t89 | exact t90 | exact t91 | exact t92 | exact ro_0 | exact ro_1 | (refine i90 ?_; omega) | (refine i91 ?_; omega) | (refine i92 ?_; omega) | omega | assumption | (simp only [List.map_cons, List.map_nil, List.sum_cons, List.sum_nil, cat_i, cat_r, cat_l, Nat.reduceAdd, Nat.reduceLeDiff]; done) | decide) only [s67_4, s67_5, s67_8, s67_9, s67_12, s67_13, s67_16, s67_19, s67_20, s67_21, s67_22, s67_23, tl_s, tl_n, nI_add, pk_mul, i_cl, row_s, u2_row, i_le, i_lt, i_eq, if_true, if_false, Nat.le_refl, Nat.reduceEqDiff, Nat.reduceLeDiff, tp_g5, n1]
    exact fl _
  · have fl := fun w => fail w (by rw [k3]; decide)
    rw [k1] at fl ⊢
    simp (disch := first | exact ok_i | exact ok_r | exact ok_n | exact cat_i | exact cat_r | exact t89 | exact t90 | exact t91 | exact t92 | exact ro_0 | exact ro_1 | (refine i90 ?_; omega) | (refine i91 ?_; omega) | (refine i92 ?_; omega) | omega | assumption | (simp only [List.map_cons, List.map_nil, List.sum_cons, List.sum_nil, cat_i, cat_r, cat_l, Nat.reduceAdd, Nat.reduceLeDiff]; done) | decide) only [s67_4, s67_5, s67_8, s67_9, s67_12, s67_13, s67_16, s67_19, s67_20, s67_21, s67_22, s67_23, tl_s, tl_n, nI_add, pk_mul, i_cl, row_s, u2_row, i_le, i_lt, i_eq, if_true, if_false, Nat.le_refl, Nat.reduceEqDiff, Nat.reduceLeDiff, tp_g5, n2]
    exact fl _
  · have fl := fun w => fail w (by rw [k3]; decide)
    rw [k1] at fl ⊢
    simp (disch := first | exact ok_i | exact ok_r | exact ok_n | exact cat_i | exact cat_r | exact t89 | exact t90 | exact t91 | exact t92 | exact ro_0 | exact ro_1 | (refine i90 ?_; omega) | (refine i91 ?_; omega) | (refine i92 ?_; omega) | omega | assumption | (simp only [List.map_cons, List.map_nil, List.sum_cons, List.sum_nil, cat_i, cat_r, cat_l, Nat.reduceAdd, Nat.reduceLeDiff]; done) | decide) only [s67_4, s67_5, s67_8, s67_9, s67_12, s67_13, s67_16, s67_19, s67_20, s67_21, s67_22, s67_23, tl_s, tl_n, nI_add, pk_mul, i_cl, row_s, u2_row, i_le, i_lt, i_eq, if_true, if_false, Nat.le_refl, Nat.reduceEqDiff, Nat.reduceLeDiff, tp_g5, n3]
    exact fl _
  · have fl := fun w => fail w (by rw [k3]; decide)
    rcases k1 with k1 | k1
    · rw [k1] at fl ⊢
      simp (disch := first | exact ok_i | exact ok_r | exact ok_n | exact cat_i | exact cat_r | exact t89 | exact t90 | exact t91 | exact t92 | exact ro_0 | exact ro_1 | (refine i90 ?_; omega) | (refine i91 ?_; omega) | (refine i92 ?_; omega) | omega | assumption | (simp only [List.map_cons, List.map_nil, List.sum_cons, List.sum_nil, cat_i, cat_r, cat_l, Nat.reduceAdd, Nat.reduceLeDiff]; done) | decide) only [s67_4, s67_5, s67_8, s67_9, s67_12, s67_13, s67_16, s67_19, s67_20, s67_21, s67_22, s67_23, tl_s, tl_n, nI_add, pk_mul, i_cl, row_s, u2_row, i_le, i_lt, i_eq, if_true, if_false, Nat.le_refl, Nat.reduceEqDiff, Nat.reduceLeDiff, tp_g5, n4]
      exact fl _
    · rw [k1] at fl ⊢
      simp (disch := first | exact ok_i | exact ok_r | exact ok_n | exact cat_i | exact cat_r | exact t89 | exact t90 | exact t91 | exact t92 | exact ro_0 | exact ro_1 | (refine i90 ?_; omega) | (refine i91 ?_; omega) | (refine i92 ?_; omega) | omega | assumption | (simp only [List.map_cons, List.map_nil, List.sum_cons, List.sum_nil, cat_i, cat_r, cat_l, Nat.reduceAdd, Nat.reduceLeDiff]; done) | decide) only [s67_4, s67_5, s67_8, s67_9, s67_12, s67_13, s67_16, s67_19, s67_20, s67_21, s67_22, s67_23, tl_s, tl_n, nI_add, pk_mul, i_cl, row_s, u2_row, i_le, i_lt, i_eq, if_true, if_false, Nat.le_refl, Nat.reduceEqDiff, Nat.reduceLeDiff, tp_g5, n5]
      exact fl _
end
