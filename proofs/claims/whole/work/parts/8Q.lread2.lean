/-! the class: the tape is read whole -/
theorem nI_ex (x : Int32) : ∃ n, x = nI n := ⟨x.toBitVec.toNat, by
  apply Int32.toBitVec_inj.mp
  show x.toBitVec = BitVec.ofNat 32 _
  rw [BitVec.ofNat_toNat, BitVec.setWidth_eq]⟩
theorem ncR_c {I J : pI} {T k n : Nat} (h : J 106 = I 106) (h2 : J 107 = I 107) : ∀ {r : Nat} {C : Nat → Int32} {p : Nat} {b v : Int32}, ncR J T k n r C p b v = ncR I T k n r C p b v
  | 0, _, _, _, _ => rfl
  | r + 1, C, p, b, v => by unfold ncR; rw [nxE_c h, nxB_c h, nxT_c h h2, ncR_c h h2]
theorem rdM_c {I J : pI} {T cm p : Nat} {C : Nat → Int32} (h : J 106 = I 106) (h2 : J 107 = I 107) (h3 : J 108 = I 108) : rdM J T cm C p = rdM I T cm C p := by
  unfold rdM rcM nW
  rw [nxE_c h, nxB_c h, nxT_c h h2, nxE_c h, nxB_c h, nxT_c h h2, h3]
  split <;> first | rfl | rw [ncR_c h h2]
theorem rdM_o {I : pI} {T cm p a : Nat} {C : Nat → Int32} (h : a < 4 * cm) : (rdM I T cm C p).2.1 a = C a := by
  unfold rdM rcM
  split
  · rw [ncR_o (Nat.le_refl _) (by omega), up_n (by omega)]
  · rfl
theorem rdM_w {I : pI} {T cm p : Nat} {C : Nat → Int32} (h : (rdM I T cm C p).1 = true) : inL (nxT I T p) 0 5 = true := by
  by_cases c : inL (nxT I T p) 0 5 = true
  · exact c
  · unfold rdM rcM at h
    rw [if_neg c] at h
    cases h
/-- only what a reading writes -/
def FrR (I I' : pI) : Prop := (∀ a, a ≠ 89 → a ≠ 91 → a ≠ 92 → I' a = I a) ∧ I' 89 0 = I 89 0
theorem FrR.trans {I J K : pI} (h : FrR I J) (h2 : FrR J K) : FrR I K := ⟨fun a h3 h4 h5 => by rw [h2.1 a h3 h4 h5, h.1 a h3 h4 h5], by rw [h2.2, h.2]⟩
theorem FrR.tp {I J : pI} {b e : Nat} {t : Int32} (h : FrR I J) : FrR I (tpI J b e t) := ⟨fun a h3 h4 h5 => by rw [tp_n h3, h.1 a h3 h4 h5], h.2⟩
theorem FrI.r {i : Nat} {I I' : pI} (h : FrI i I I') : FrR I I' := ⟨fun a _ h2 h3 => h.row h2 h3, h 89 0 (Or.inl (by decide)) (Or.inl (by decide))⟩
theorem FrR.u {I J : pI} {x : Int32} (h : FrR I J) : FrR I (upd2 J 89 1 x) := ⟨fun a h3 h4 h5 => by
    rw [show upd2 J 89 1 x a = J a from (by funext j; rw [u2_nk (by omega)]), h.1 a h3 h4 h5], by
    rw [u2_nk (by omega)]; exact h.2⟩
theorem ClR.mono {I J : pI} {C D : Nat → Int32} {i j : Nat} (h : ClR I C j) (hF : FrI i I J) (hD : ∀ a, a < 4 * i → D a = C a) (hj : j < i) : ClR J D j := by
  obtain ⟨w, hw, h1, h2, h3⟩ := h
  have hn := nN_le hw
  refine ⟨w, hw, ?_, ?_, fun k hk => ?_⟩
  · rw [hF 91 j (Or.inr (by omega)) (Or.inl (by decide))]; exact h1
  · rw [hD _ (by omega)]; exact h2
  · rw [hF 92 (3 * j + k) (Or.inl (by decide)) (Or.inr (by omega)), hD _ (by omega)]
    exact h3 k hk
theorem ClR.tp {I : pI} {C : Nat → Int32} {j b e : Nat} {t : Int32} (h : ClR I C j) : ClR (tpI I b e t) C j := h
theorem ClR.u {I : pI} {C : Nat → Int32} {j : Nat} {x : Int32} (h : ClR I C j) : ClR (upd2 I 89 1 x) C j := by
  obtain ⟨w, hw, h1, h2, h3⟩ := h
  exact ⟨w, hw, by rw [u2_nk (by omega)]; exact h1, h2, fun k hk => by rw [u2_nk (by omega)]; exact h3 k hk⟩
theorem tk_3 {I : pI} {T p : Nat} (hB : ByOk I T) (hp : p ≤ T) : (tkS I T p = nI 3 ↔ nxT I T p = nI 200) ∧ (tkS I T p = nI 3 → nxF I T p = nxE I T p) ∧ (tkS I T p = nI 0 ↔ nxT I T p = nI 300) := by
  have wl : ∀ w, w < 6 → ¬ nI w = nI 200 ∧ ¬ nI w = nI 300 := fun w h => by constructor <;> (rw [i_eq (by omega) (by omega)]; omega)
  have ul : ∀ u, u ≤ 99 → ¬ nI (100 + u) = nI 200 ∧ ¬ nI (100 + u) = nI 300 := fun w h => by constructor <;> (rw [i_eq (by omega) (by omega)]; omega)
  have m1 : ¬ (-1 : Int32) = nI 200 := by decide
  have m2 : ¬ (-1 : Int32) = nI 300 := by decide
  have q1 : ∀ a b, a < 10 → b < 10 → (nI a = nI b ↔ a = b) := fun a b h1 h2 => by rw [i_eq (by omega) (by omega)]
  rcases tok_cases hB hp with ⟨k1, k2, k3, k4⟩ | ⟨k1, k2, k3⟩ | ⟨k1, k2, k3⟩ | ⟨k1, k2, k3⟩ | ⟨k1, k3⟩
  · rw [k1]
    have n1 : ¬ nxT I T p = nI 200 ∧ ¬ nxT I T p = nI 300 := by
      rw [k3]
      cases h : wfR I (nxB I T p) (nxE I T p) 6 with
      | none => exact ⟨m1, m2⟩
      | some w => exact wl w (wfR_6 h)
    exact ⟨⟨fun e => absurd e (by decide), fun e => absurd e n1.1⟩, fun e => absurd e (by decide), ⟨fun e => absurd e (by decide), fun e => absurd e n1.2⟩⟩
  · rw [k1]
    have n1 : ¬ nxT I T p = nI 200 ∧ ¬ nxT I T p = nI 300 := by
      rcases k3 with ⟨-, k4⟩ | ⟨-, u, hu, k4, -⟩
      · rw [k4]; exact ⟨m1, m2⟩
      · rw [k4]; exact ul u hu
    exact ⟨⟨fun e => absurd e (by decide), fun e => absurd e n1.1⟩, fun e => absurd e (by decide), ⟨fun e => absurd e (by decide), fun e => absurd e n1.2⟩⟩
  · rw [k1, k3]
    exact ⟨⟨fun _ => rfl, fun _ => rfl⟩, fun _ => k2, ⟨fun e => absurd e (by decide), fun e => absurd e (by decide)⟩⟩
  · rw [k1, k3]
    exact ⟨⟨fun e => absurd e (by decide), fun e => absurd e (by decide)⟩, fun e => absurd e (by decide), ⟨fun _ => rfl, fun _ => rfl⟩⟩
  · rw [k3]
    rcases k1 with k1 | k1 <;> rw [k1] <;> exact ⟨⟨fun e => absurd e (by decide), fun e => absurd e m1⟩, fun e => absurd e (by decide), ⟨fun e => absurd e (by decide), fun e => absurd e m2⟩⟩
theorem raR_f {I : pI} {T : Nat} {s : rS} (h : ¬ (s.1 = true ∧ s.2.2.2.2.2 = nI 200)) : ∀ {r : Nat}, raR I T r s = s
  | 0 => rfl
  | r + 1 => by
    unfold raR
    rw [if_neg]
    intro e
    rw [Bool.and_eq_true, decide_eq_true_eq] at e
    exact h e
section
variable {X : pX} {d : Nat} {I : pI} {Q : Option Value → pG → pI → Prop} {G : pG} {T : Nat}
theorem t_readStep {i q b : Nat} {t b0 v0 : Int32} {ok : Bool} {I1 : pI} {C : Nat → Int32} (hT : I 89 0 = nI T) (hT2 : T ≤ 60) (hB : ByOk I T) (hW : WdsOk I) (hN : WanEq I) (hF : FrR I I1) (hq : q ≤ T) (h2q : 2 * i ≤ q)
    (hf : ∀ I' s, FrR I I' → s ≤ T → (rdM I T i C q).1 = false → (rdM I T i C q).2.2.2.1 = nI s → Q (some (.int (nI s))) G0 I')
    (hs : ∀ I' s e t', i < 30 → FrI i I1 I' → e ≤ T → (rdM I T i C q).1 = true → (rdM I T i C q).2.2 = (nxE I T e, nI (nxB I T e), nxT I T e) → ClR I' (rdM I T i C q).2.1 i → At X (d + 7) 66 31 [some (.ref 89), some (.int (nI i))] [] G0 (tpI I' s e t') Q) :
    At X (d + 7) 66 12 [some (.ref 89), some (.int (nI i))] [] G0 (tpI I1 b q t) Q := by
  have h90 := hF.1 90 (by decide) (by decide) (by decide)
  have h106 := hF.1 106 (by decide) (by decide) (by decide)
  have h107 := hF.1 107 (by decide) (by decide) (by decide)
  have h108 := hF.1 108 (by decide) (by decide) (by decide)
  have hB1 : ByOk I1 T := byok_c hB h90 h106
  have hW1 : WdsOk I1 := fun w k h1 h2 => by rw [h107]; exact hW w k h1 h2
  have hN1 : WanEq I1 := fun w h1 => by rw [h108]; exact hN w h1
  have h89 : I1 89 0 = nI T := by rw [hF.2]; exact hT
  have n60 : ¬ 60 ≤ i := by omega
  have hi : inL (nxT I1 T q) 0 5 = true → i < 30 := fun h => by
    have := (raF_ok (I := I1) (T := T) (s := (true, C, i, q, nI 0, nI 0)) hq h2q).2 h
    dsimp only at this
    omega
  rw [s66_12]
  simp (disch := first | exact ok_i | exact ok_r | exact ok_n | exact cat_i | exact cat_r | exact t89 | exact t90 | exact t91 | exact t92 | exact ro_0 | exact ro_1 | (refine i90 ?_; omega) | (refine i91 ?_; omega) | (refine i92 ?_; omega) | omega | assumption | (simp only [List.map_cons, List.map_nil, List.sum_cons, List.sum_nil, cat_i, cat_r, cat_l, Nat.reduceAdd, Nat.reduceLeDiff]; done) | decide) only [s66_13, s66_15, s66_18, s66_19, tl_s, tl_n, nI_add, pk_mul, i_cl, row_s, u2_row, i_le, i_lt, i_eq, if_true, if_false, Nat.le_refl, Nat.reduceEqDiff, Nat.reduceLeDiff, n60]
  rw [s66_20 (by simp only [List.map_cons, List.map_nil, List.sum_cons, List.sum_nil, cat_i, cat_r, cat_l, Nat.reduceAdd, Nat.reduceLeDiff]) t89]
  refine t_readClause (C := C) h89 hT2 hB1 hW1 hN1 hq hi (by omega) (fun I' s e t' a1 a2 a3 a4 => ?_) (fun I' s e t' a1 a2 a3 a4 a5 => ?_)
  · rw [rdM_c h106 h107 h108] at a3 a4
    simp (disch := first | exact ok_i | exact ok_r | exact ok_n | exact cat_i | exact cat_r | exact t89 | exact t90 | exact t91 | exact t92 | exact ro_0 | exact ro_1 | (refine i90 ?_; omega) | (refine i91 ?_; omega) | (refine i92 ?_; omega) | omega | assumption | (simp only [List.map_cons, List.map_nil, List.sum_cons, List.sum_nil, cat_i, cat_r, cat_l, Nat.reduceAdd, Nat.reduceLeDiff]; done) | decide) only [s66_23, s66_26, s66_27, s66_30, tl_s, tl_n, nI_add, pk_mul, i_cl, row_s, u2_row, i_le, i_lt, i_eq, if_true, if_false, Nat.le_refl, Nat.reduceEqDiff, Nat.reduceLeDiff, tp_g6]
    exact hf _ s (hF.trans a1.r).tp a2 a3 a4
  · have hw := rdM_w a3
    rw [rdM_c h106 h107 h108] at a3 a4 a5
    rw [nxE_c h106, nxB_c h106, nxT_c h106 h107] at a4
    have n10 : ¬ nI 1 = nI 0 := by decide
    simp (disch := first | exact ok_i | exact ok_r | exact ok_n | exact cat_i | exact cat_r | exact t89 | exact t90 | exact t91 | exact t92 | exact ro_0 | exact ro_1 | (refine i90 ?_; omega) | (refine i91 ?_; omega) | (refine i92 ?_; omega) | omega | assumption | (simp only [List.map_cons, List.map_nil, List.sum_cons, List.sum_nil, cat_i, cat_r, cat_l, Nat.reduceAdd, Nat.reduceLeDiff]; done) | decide) only [s66_23, tl_s, tl_n, nI_add, pk_mul, i_cl, row_s, u2_row, i_le, i_lt, i_eq, if_true, if_false, Nat.le_refl, Nat.reduceEqDiff, Nat.reduceLeDiff, n10]
    exact hs I' s e t' (hi hw) a1 a2 a3 a4 a5
theorem t_readLoop (hT : I 89 0 = nI T) (hT2 : T ≤ 60) (hB : ByOk I T) (hW : WdsOk I) (hN : WanEq I) :
    ∀ r i (I1 : pI) (C : Nat → Int32) (b q : Nat) (t : Int32) (ok : Bool) (b0 v0 : Int32), FrR I I1 → q ≤ T → 2 * i ≤ q → 30 ≤ i + r → (∀ j, j < i → ClR I1 C j) →
    (∀ I' s, FrR I I' → s ≤ T → ((raR I T r (raF I T (ok, C, i, q, b0, v0))).1 && decide ((raR I T r (raF I T (ok, C, i, q, b0, v0))).2.2.2.2.2 = nI 300)) = false → (raR I T r (raF I T (ok, C, i, q, b0, v0))).2.2.2.2.1 = nI s → Q (some (.int (nI s))) G0 I') →
    (∀ I', FrR I I' → ((raR I T r (raF I T (ok, C, i, q, b0, v0))).1 && decide ((raR I T r (raF I T (ok, C, i, q, b0, v0))).2.2.2.2.2 = nI 300)) = true → I' 89 1 = nI (raR I T r (raF I T (ok, C, i, q, b0, v0))).2.2.1 → (∀ j, j < (raR I T r (raF I T (ok, C, i, q, b0, v0))).2.2.1 → ClR I' (raR I T r (raF I T (ok, C, i, q, b0, v0))).2.1 j) → Q (some (.int (-1))) G0 I') →
    At X (d + 7) 66 12 [some (.ref 89), some (.int (nI i))] [] G0 (tpI I1 b q t) Q := by
  intro r
  induction r with
  | zero =>
    intro i I1 C b q t ok b0 v0 hF hq h2q hr hC hf hs
    refine t_readStep (ok := true) (b0 := b0) (v0 := v0) (C := C) hT hT2 hB hW hN hF hq h2q (fun I' s a1 a2 a3 a4 => hf I' s a1 a2 ?_ a4) (fun I' s e t' a0 a1 a2 a3 a4 a5 => absurd a0 (by omega))
    show ((rdM I T i C q).1 && _) = false
    rw [a3, Bool.false_and]
  | succ r ih =>
    intro i I1 C b q t ok b0 v0 hF hq h2q hr hC hf hs
    have f1 := (raF_ok (I := I) (T := T) (s := (ok, C, i, q, b0, v0)) hq h2q).1
    refine t_readStep (ok := true) (b0 := b0) (v0 := v0) (C := C) hT hT2 hB hW hN hF hq h2q (fun I' s a1 a2 a3 a4 => ?_) (fun I' s e t' a0 a1 a2 a3 a4 a5 => ?_)
    · have e1 : raR I T (r + 1) (raF I T (ok, C, i, q, b0, v0)) = raF I T (ok, C, i, q, b0, v0) := raR_f (fun h => by
        have h1 : (rdM I T i C q).1 = true := h.1
        rw [a3] at h1
        cases h1)
      rw [e1] at hf
      refine hf I' s a1 a2 ?_ a4
      show ((rdM I T i C q).1 && _) = false
      rw [a3, Bool.false_and]
    · have e1 : raF I T (ok, C, i, q, b0, v0) = (true, (rdM I T i C q).2.1, i + 1, nxE I T e, nI (nxB I T e), nxT I T e) := by
        show ((rdM I T i C q).1, (rdM I T i C q).2.1, if (rdM I T i C q).1 = true then i + 1 else i, (rdM I T i C q).2.2) = _
        rw [a4, a3, if_pos rfl]
      have hD : ∀ a, a < 4 * i → (rdM I T i C q).2.1 a = C a := fun a ha => rdM_o ha
      rw [e1] at hf hs f1
      unfold raOk at f1
      dsimp only at f1
      generalize (rdM I T i C q).2.1 = D at *
      have hF2 : FrR I (upd2 I' 89 1 (nI (i + 1))) := (hF.trans a1.r).u
      have hCl : ∀ j, j < i + 1 → ClR (upd2 I' 89 1 (nI (i + 1))) D j := fun j hj => by
        by_cases ej : j = i
        · subst ej; exact a5.u
        · exact ((hC j (by omega)).mono a1 hD (by omega)).u
      have h1 : upd2 I' 89 1 (nI (i + 1)) 89 1 = nI (i + 1) := u2_s
      simp (disch := first | exact ok_i | exact ok_r | exact ok_n | exact cat_i | exact cat_r | exact t89 | exact t90 | exact t91 | exact t92 | exact ro_0 | exact ro_1 | (refine i90 ?_; omega) | (refine i91 ?_; omega) | (refine i92 ?_; omega) | omega | assumption | (simp only [List.map_cons, List.map_nil, List.sum_cons, List.sum_nil, cat_i, cat_r, cat_l, Nat.reduceAdd, Nat.reduceLeDiff]; done) | decide) only [s66_31, s66_32, s66_33, s66_34, s66_35, s66_38, tl_s, tl_n, nI_add, pk_mul, i_cl, row_s, u2_row, i_le, i_lt, i_eq, if_true, if_false, Nat.le_refl, Nat.reduceEqDiff, Nat.reduceLeDiff, tp_u]
      generalize upd2 I' 89 1 (nI (i + 1)) = J at *
      have h90 := hF2.1 90 (by decide) (by decide) (by decide)
      have h106 := hF2.1 106 (by decide) (by decide) (by decide)
      have h89 : J 89 0 = nI T := by rw [hF2.2]; exact hT
      have hB1 : ByOk J T := byok_c hB h90 h106
      obtain ⟨t3, t3F, t0⟩ := tk_3 hB a2
      rw [s66_39 (by simp only [List.map_cons, List.map_nil, List.sum_cons, List.sum_nil, cat_i, cat_r, cat_l, Nat.reduceAdd, Nat.reduceLeDiff]) t89, t_advance h89 hT2 hB1 a2, nxB_c h106, nxF_c h106, tkS_c h106]
      by_cases c3 : tkS I T e = nI 3
      · have v2 := t3.mp c3
        have e2 : raR I T (r + 1) (true, D, i + 1, nxE I T e, nI (nxB I T e), nxT I T e) = raR I T r (raF I T (true, D, i + 1, nxE I T e, nI (nxB I T e), nxT I T e)) := by
          show (if (true && decide (nxT I T e = nI 200)) = true then _ else _) = _
          rw [v2, if_pos (by decide)]
        rw [e2] at hf hs
        rw [t3F c3, c3]
        simp (disch := first | exact ok_i | exact ok_r | exact ok_n | exact cat_i | exact cat_r | exact t89 | exact t90 | exact t91 | exact t92 | exact ro_0 | exact ro_1 | (refine i90 ?_; omega) | (refine i91 ?_; omega) | (refine i92 ?_; omega) | omega | assumption | (simp only [List.map_cons, List.map_nil, List.sum_cons, List.sum_nil, cat_i, cat_r, cat_l, Nat.reduceAdd, Nat.reduceLeDiff]; done) | decide) only [s66_42, s66_43, s66_46, s66_47, s66_50, s66_53, s66_56, tl_s, tl_n, nI_add, pk_mul, i_cl, row_s, u2_row, i_le, i_lt, i_eq, if_true, if_false, Nat.le_refl, Nat.reduceEqDiff, Nat.reduceLeDiff, tp_g5]
        exact ih (i + 1) J D _ _ _ _ _ _ hF2 f1.1 (f1.2 rfl v2) (by omega) hCl hf hs
      · have v2 : ¬ nxT I T e = nI 200 := fun h => c3 (t3.mpr h)
        have e2 : raR I T (r + 1) (true, D, i + 1, nxE I T e, nI (nxB I T e), nxT I T e) = (true, D, i + 1, nxE I T e, nI (nxB I T e), nxT I T e) := raR_f (fun h => v2 h.2)
        rw [e2] at hf hs
        dsimp only at hf hs
        obtain ⟨b1, b2⟩ := sk_le (I := I) a2
        by_cases c0 : tkS I T e = nI 0
        · have v0 := t0.mp c0
          rw [c0]
          have n3 : (nI 0 = nI 3) = False := propext ⟨fun e => absurd e (by decide), False.elim⟩
          simp (disch := first | exact ok_i | exact ok_r | exact ok_n | exact cat_i | exact cat_r | exact t89 | exact t90 | exact t91 | exact t92 | exact ro_0 | exact ro_1 | (refine i90 ?_; omega) | (refine i91 ?_; omega) | (refine i92 ?_; omega) | omega | assumption | (simp only [List.map_cons, List.map_nil, List.sum_cons, List.sum_nil, cat_i, cat_r, cat_l, Nat.reduceAdd, Nat.reduceLeDiff]; done) | decide) only [s66_42, s66_43, s66_46, s66_47, s66_50, s66_53, s66_56, s66_59, s66_60, s66_63, s66_66, s66_67, s66_74, tl_s, tl_n, nI_add, pk_mul, i_cl, row_s, u2_row, i_le, i_lt, i_eq, if_true, if_false, Nat.le_refl, Nat.reduceEqDiff, Nat.reduceLeDiff, tp_g5, n3]
          exact hs _ hF2.tp (by rw [decide_eq_true v0]; rfl) h1 hCl
        · have v0 : ¬ nxT I T e = nI 300 := fun h => c0 (t0.mpr h)
          simp (disch := first | exact ok_i | exact ok_r | exact ok_n | exact cat_i | exact cat_r | exact t89 | exact t90 | exact t91 | exact t92 | exact ro_0 | exact ro_1 | (refine i90 ?_; omega) | (refine i91 ?_; omega) | (refine i92 ?_; omega) | omega | assumption | (simp only [List.map_cons, List.map_nil, List.sum_cons, List.sum_nil, cat_i, cat_r, cat_l, Nat.reduceAdd, Nat.reduceLeDiff]; done) | decide) only [s66_42, s66_43, s66_46, s66_47, s66_50, s66_53, s66_56, s66_59, s66_60, s66_63, s66_70, s66_71, s66_74, tl_s, tl_n, nI_add, pk_mul, i_cl, row_s, u2_row, i_le, i_lt, i_eq, if_true, if_false, Nat.le_refl, Nat.reduceEqDiff, Nat.reduceLeDiff, tp_g5, tp_g6, c3, c0]
          exact hf _ _ hF2.tp b2 (by rw [decide_eq_false v0]; decide) rfl
theorem t_read (hT : I 89 0 = nI T) (hT2 : T ≤ 60) (hB : ByOk I T) (hW : WdsOk I) (hN : WanEq I)
    (hf : ∀ I' s, FrR I I' → s ≤ T → ((rAll I T).1 && decide ((rAll I T).2.2.2.2.2 = nI 300)) = false → (rAll I T).2.2.2.2.1 = nI s → Q (some (.int (nI s))) G0 I')
    (hs : ∀ I', FrR I I' → ((rAll I T).1 && decide ((rAll I T).2.2.2.2.2 = nI 300)) = true → I' 89 1 = nI (rAll I T).2.2.1 → (∀ j, j < (rAll I T).2.2.1 → ClR I' (rAll I T).2.1 j) → Q (some (.int (-1))) G0 I') :
    Call X (d + 8) 66 [.ref 89] G0 I Q := by
  obtain ⟨b, hb⟩ := nI_ex (I 89 6)
  obtain ⟨e, he⟩ := nI_ex (I 89 7)
  simp (disch := first | exact ok_i | exact ok_r | exact ok_n | exact cat_i | exact cat_r | exact t89 | exact t90 | exact t91 | exact t92 | exact ro_0 | exact ro_1 | (refine i90 ?_; omega) | (refine i91 ?_; omega) | (refine i92 ?_; omega) | omega | assumption | (simp only [List.map_cons, List.map_nil, List.sum_cons, List.sum_nil, cat_i, cat_r, cat_l, Nat.reduceAdd, Nat.reduceLeDiff]; done) | decide) only [e66, s66_0, s66_1, s66_2, s66_5, s66_6, s66_7, s66_10, s66_11, tl_s, tl_n, nI_add, pk_mul, i_cl, row_s, u2_row, i_le, i_lt, i_eq, if_true, if_false, Nat.le_refl, Nat.reduceEqDiff, Nat.reduceLeDiff]
  have e1 : upd2 (upd2 I 89 1 (nI 0)) 89 7 (nI 0) = tpI (upd2 I 89 1 (nI 0)) b 0 (I 89 5) := by
    have := tp_id (I := upd2 I 89 1 (nI 0)) (e0 := 0) (b := b) (e := e) (by rw [u2_nk (by omega)]; exact hb) (by rw [u2_nk (by omega)]; exact he)
    rw [u2_nk (by omega)] at this
    rw [← tp_7 (e := e), this]
  rw [e1]
  exact t_readLoop hT hT2 hB hW hN 40 0 _ (I 109) b 0 _ true (I 102 10) (I 102 11) (FrR.u ⟨fun _ _ _ _ => rfl, rfl⟩) (Nat.zero_le _) (Nat.zero_le _) (by omega) (fun j hj => absurd hj (by omega)) hf hs
end
