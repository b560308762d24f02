/-! what a car's tick leaves as it was -/
/-- only car c and its groups have changed, and of these only how they are, what they waited -/
def Only (c m : Nat) (N N' : Nat → Int32) : Prop :=
  (∀ c2 j, c2 < 4 → j < 8 → c2 ≠ c ∨ j < 3 → cf N' c2 j = cf N c2 j) ∧ (∀ g j, g < m → j < 8 → j ≠ 4 ∧ j ≠ 6 ∨ ¬ gf N g 3 = nI c → gf N' g j = gf N g j) ∧
  (∀ a, 352 ≤ a → a < 364 → N' a = N a) ∧ (∀ a, 444 ≤ a → a ≠ 450 → a ≠ 451 → N' a = N a)
theorem Only.refl {c m : Nat} {N : Nat → Int32} : Only c m N N := ⟨fun _ _ _ _ _ => rfl, fun _ _ _ _ _ => rfl, fun _ _ _ => rfl, fun _ _ _ _ => rfl⟩
theorem Only.trans {c m : Nat} {N N' N'' : Nat → Int32} (h : Only c m N N') (h2 : Only c m N' N'') : Only c m N N'' := by
  refine ⟨fun c2 j a b e => (h2.1 c2 j a b e).trans (h.1 c2 j a b e), fun g j a b e => ?_, fun a h3 h4 => (h2.2.2.1 a h3 h4).trans (h.2.2.1 a h3 h4), fun a h3 h4 h5 => (h2.2.2.2 a h3 h4 h5).trans (h.2.2.2 a h3 h4 h5)⟩
  refine (h2.2.1 g j a b ?_).trans (h.2.1 g j a b e)
  rcases e with e | e
  · exact Or.inl e
  · refine Or.inr ?_
    rw [h.2.1 g 3 a (by omega) (Or.inr e)]
    exact e
theorem only_c {c m j : Nat} {N : Nat → Int32} {v : Int32} (hj : 3 ≤ j) (hj8 : j < 8) (hc : c < 4) : Only c m N (upd N (8 * c + j) v) := by
  refine ⟨fun c2 k a b e => ?_, fun g k a b e => gf_u (by omega), fun a h3 h4 => up_n (by omega), fun a h3 h4 h5 => up_n (by omega)⟩
  unfold cf
  rw [up_n (by omega)]
theorem only_h {c m g : Nat} {N : Nat → Int32} {w : Int32} (hm : m ≤ 40) : Only c m N (hapM N w g) :=
  ⟨fun c2 k a b e => hap_o (by omega), fun g k a b e => gf_hap (by omega), fun a h3 h4 => hap_o (by omega), fun a h3 h4 h5 => hap_o (by omega)⟩
theorem only_g {c m g j : Nat} {N : Nat → Int32} {v : Int32} (hm : m ≤ 40) (hg : g < m) (hj : j = 4 ∨ j = 6) (h3 : gf N g 3 = nI c) : Only c m N (upd N (32 + 8 * g + j) v) := by
  refine ⟨fun c2 k a b e => ?_, fun g2 k a b e => ?_, fun a h3 h4 => up_n (by omega), fun a h3 h4 h5 => up_n (by omega)⟩
  · unfold cf
    rw [up_n (by omega)]
  · rcases e with e | e
    · exact gf_u (by omega)
    · have : g2 ≠ g := fun e2 => e (by rw [e2]; exact h3)
      exact gf_u (by omega)
theorem only_p {c m : Nat} {N : Nat → Int32} {v : Int32} (hm : m ≤ 40) : Only c m N (upd N 450 v) := by
  refine ⟨fun c2 k a b e => ?_, fun g k a b e => gf_u (by omega), fun a h3 h4 => up_n (by omega), fun a h3 h4 h5 => up_n (by omega)⟩
  unfold cf
  rw [up_n (by omega)]
theorem only_mv1 {c m : Nat} {N : Nat → Int32} (hc : c < 4) : Only c m N (mv1 N c) := by
  unfold mv1; split
  · exact Only.refl
  · exact only_c (by omega) (by omega) hc
theorem only_mv2 {c m : Nat} {N : Nat → Int32} (hc : c < 4) : Only c m N (mv2 N c) := by
  unfold mv2; split
  · exact (only_c (by omega) (by omega) hc).trans (only_c (by omega) (by omega) hc)
  · exact Only.refl
theorem only_mv3 {c m : Nat} {N : Nat → Int32} (hc : c < 4) : Only c m N (mv3 N c) := by
  unfold mv3; split
  · exact only_c (by omega) (by omega) hc
  · exact Only.refl
theorem only_mv4 {c m : Nat} {N : Nat → Int32} (hc : c < 4) : Only c m N (mv4 N c m) := by
  unfold mv4; split
  · exact only_c (by omega) (by omega) hc
  · exact Only.refl
theorem only_mv5 {c m j : Nat} {N : Nat → Int32} (hc : c < 4) : Only c m N (mv5 N c m j) := by
  unfold mv5; split
  · exact only_c (by omega) (by omega) hc
  · split
    · exact (only_c (by omega) (by omega) hc).trans (only_c (by omega) (by omega) hc)
    · exact only_c (by omega) (by omega) hc
theorem only_lvF {c m g : Nat} {N : Nat → Int32} (hm : m ≤ 40) (hg : g < m) : Only c m N (lvF c g N) := by
  unfold lvF
  by_cases e : lvB N c g = true
  · rw [if_pos e]
    unfold lvB at e
    rw [Bool.and_eq_true, Bool.and_eq_true, decide_eq_true_eq] at e
    exact (only_g hm hg (Or.inl rfl) e.1.1).trans (only_h hm)
  · rw [if_neg e]; exact Only.refl
theorem only_lvN {c m : Nat} {N : Nat → Int32} (hm : m ≤ 40) : ∀ {n : Nat}, n ≤ m → Only c m N (lvN N c n)
  | 0, _ => Only.refl
  | n + 1, h => (only_lvN hm (n := n) (by omega)).trans (only_lvF hm (by omega))
theorem only_bd1 {c m g : Nat} {N : Nat → Int32} {b : Bool} (hm : m ≤ 40) (hg : g < m) (h3 : gf N g 3 = nI c) : Only c m N (bd1 N g b) := by
  unfold bd1
  exact (((only_g hm hg (Or.inl rfl) h3).trans (only_g hm hg (Or.inr rfl) (by rw [gf_u (by omega)]; exact h3))).trans (only_h hm)).trans (only_p hm)
theorem only_bdF {c m g : Nat} {s : (Nat → Int32) × Nat × Bool} (hm : m ≤ 40) (hg : g < m) : Only c m s.1 (bdF c m g s).1 :=
  bdF_c (P := fun t => Only c m s.1 t.1) Only.refl Only.refl (fun h3 _ _ _ => only_bd1 hm hg h3)
theorem only_bdS {c m : Nat} {N : Nat → Int32} (hm : m ≤ 40) : ∀ {n : Nat}, n ≤ m → Only c m N (bdS N c m n).1
  | 0, _ => Only.refl
  | n + 1, h => (only_bdS hm (n := n) (by omega)).trans (only_bdF hm (by omega))
theorem only_mvN {c m : Nat} {N : Nat → Int32} (hc : c < 4) (hm : m ≤ 40) : Only c m N (mvN N c m) := by
  unfold mvN
  split
  · unfold actN
    exact ((((((only_mv1 hc).trans (only_mv2 hc)).trans (only_mv3 hc)).trans (only_lvN hm (Nat.le_refl m))).trans (only_mv4 hc)).trans (only_bdS hm (Nat.le_refl m))).trans (only_mv5 hc)
  · exact only_mv1 hc
/-! what holds of a group, of a car -/
def GrpOk (N : Nat → Int32) (f m : Nat) : Prop := ∀ g, g < m → (gf N g 4 = nI 0 ∨ gf N g 4 = nI 1 ∨ gf N g 4 = nI 2) ∧ (∃ a b, a < f ∧ b < f ∧ a ≠ b ∧ gf N g 0 = nI a ∧ gf N g 1 = nI b) ∧ (∃ s, 1 ≤ s ∧ s ≤ 8 ∧ gf N g 2 = nI s) ∧ (∃ q, q ≤ 2 ∧ gf N g 7 = nI q)
theorem GrpOk.how {N : Nat → Int32} {f m : Nat} (h : GrpOk N f m) : HowOk N m := fun g hg => (h g hg).1
/-- of car c: s is 1 between its going further and those that leave -/
def Own (N : Nat → Int32) (f m c s : Nat) : Prop :=
  (∃ x, x < f ∧ cf N c 3 = nI x ∧ (cf N c 6 = nI 0 ∨ (cf N c 6 = nI 1 ∧ ((cf N c 4 = nI 1 ∧ x + 1 < f) ∨ (cf N c 4 = nI 2 ∧ 1 ≤ x)))) ∧
    (∀ g y, g < m → gf N g 3 = nI c → gf N g 4 = nI 1 → y < f → gf N g 1 = nI y → (cf N c 4 = nI 1 ∧ x < y + s) ∨ (cf N c 4 = nI 2 ∧ y < x + s))) ∧
  (cf N c 4 = nI 0 ∨ cf N c 4 = nI 1 ∨ cf N c 4 = nI 2) ∧ (cf N c 7 = -1 ∨ ∃ a, a < f ∧ cf N c 7 = nI a) ∧
  (∀ g, g < m → gf N g 3 = nI c → ¬ gf N g 4 = nI 2 → cf N c 7 = -1)
theorem Own.ext {N N' : Nat → Int32} {f m c s : Nat} (h : Own N f m c s) (h3 : cf N' c 3 = cf N c 3) (h4 : cf N' c 4 = cf N c 4) (h6 : cf N' c 6 = cf N c 6) (h7 : cf N' c 7 = cf N c 7) (hg : ∀ g, g < m → gf N' g 1 = gf N g 1 ∧ gf N' g 3 = gf N g 3 ∧ (gf N g 3 = nI c → gf N' g 4 = gf N g 4)) : Own N' f m c s := by
  obtain ⟨⟨x, hx, k3, k6, kr⟩, k4, k7, kp⟩ := h
  refine ⟨⟨x, hx, by rw [h3]; exact k3, by rw [h6, h4]; exact k6, fun g y g1 g2 g3 g4 g5 => ?_⟩, by rw [h4]; exact k4, by rw [h7]; exact k7, fun g g1 g2 g3 => ?_⟩
  · obtain ⟨e1, e2, e3⟩ := hg g g1
    rw [e2] at g2
    rw [e1] at g5
    rw [e3 g2] at g3
    rw [h4]
    exact kr g y g1 g2 g3 g4 g5
  · obtain ⟨e1, e2, e3⟩ := hg g g1
    rw [e2] at g2
    rw [e3 g2] at g3
    rw [h7]
    exact kp g g1 g2 g3
/-- another car's tick does nothing to it -/
theorem Own.other {N N' : Nat → Int32} {f m c c2 s : Nat} (h : Own N f m c s) (ho : Only c2 m N N') (hc : c < 4) (hc2 : c2 < 4) (hn : c ≠ c2) : Own N' f m c s := by
  refine h.ext (ho.1 c 3 hc (by omega) (Or.inl hn)) (ho.1 c 4 hc (by omega) (Or.inl hn)) (ho.1 c 6 hc (by omega) (Or.inl hn)) (ho.1 c 7 hc (by omega) (Or.inl hn)) (fun g hg => ⟨ho.2.1 g 1 hg (by omega) (Or.inl (by omega)), ho.2.1 g 3 hg (by omega) (Or.inl (by omega)), fun e => ho.2.1 g 4 hg (by omega) (Or.inr (fun e2 => ?_))⟩)
  rw [e, i_eq (by omega) (by omega)] at e2
  exact hn e2
theorem own_mv1 {N : Nat → Int32} {f m c s : Nat} (h : Own N f m c s) (hc : c < 4) : Own (mv1 N c) f m c s := by
  have e : ∀ j, j < 8 → j ≠ 5 → cf (mv1 N c) c j = cf N c j := by
    intro j hj h5
    unfold mv1 cf
    split
    · rfl
    · rw [up_n (by omega)]
  refine h.ext (e 3 (by omega) (by omega)) (e 4 (by omega) (by omega)) (e 6 (by omega) (by omega)) (e 7 (by omega) (by omega)) (fun g hg => ⟨?_, ?_, fun _ => ?_⟩) <;> exact mv1_o hc (by omega)
