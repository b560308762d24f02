/-! what a car's tick keeps, step by step -/
theorem cf_u {N : Nat → Int32} {c j a : Nat} {v : Int32} (h : 8 * c + j ≠ a) : cf (upd N a v) c j = cf N c j := up_n h
theorem cf_s {N : Nat → Int32} {c j : Nat} {v : Int32} : cf (upd N (8 * c + j) v) c j = v := up_s
theorem own_mv2 {N : Nat → Int32} {f m c : Nat} (h : Own N f m c 0) (hc : c < 4) (hf : f ≤ 12) (hm : m ≤ 40) : Own (mv2 N c) f m c 1 ∧ cf (mv2 N c) c 6 = nI 0 := by
  obtain ⟨⟨x, hx, k3, k6, kr⟩, k4, k7, kp⟩ := h
  have o := fun (g j : Nat) => mv2_o (N := N) (c := c) (a := 32 + 8 * g + j) hc (by omega)
  rcases k6 with k6 | ⟨k6, kd⟩
  · have e : mv2 N c = N := by unfold mv2; rw [if_neg (by rw [k6]; decide)]
    rw [e]
    refine ⟨⟨⟨x, hx, k3, Or.inl k6, fun g y g1 g2 g3 g4 g5 => ?_⟩, k4, k7, kp⟩, k6⟩
    rcases kr g y g1 g2 g3 g4 g5 with ⟨a1, a2⟩ | ⟨a1, a2⟩
    · exact Or.inl ⟨a1, by omega⟩
    · exact Or.inr ⟨a1, by omega⟩
  · have e : mv2 N c = upd (upd N (8 * c + 3) (cf N c 3 + (if cf N c 4 = nI 1 then nI 1 else -1))) (8 * c + 6) (nI 0) := by unfold mv2; rw [if_pos k6]
    have c6 : cf (mv2 N c) c 6 = nI 0 := by rw [e]; exact cf_s
    have c4 : cf (mv2 N c) c 4 = cf N c 4 := by rw [e, cf_u (by omega), cf_u (by omega)]
    have c7 : cf (mv2 N c) c 7 = cf N c 7 := by rw [e, cf_u (by omega), cf_u (by omega)]
    have c3 : cf (mv2 N c) c 3 = cf N c 3 + (if cf N c 4 = nI 1 then nI 1 else -1) := by rw [e, cf_u (by omega)]; exact cf_s
    refine ⟨?_, c6⟩
    rcases kd with ⟨d4, d1⟩ | ⟨d4, d1⟩
    · refine ⟨⟨x + 1, d1, by rw [c3, if_pos d4, k3, nI_add], Or.inl c6, fun g y g1 g2 g3 g4 g5 => ?_⟩, by rw [c4]; exact k4, by rw [c7]; exact k7, fun g g1 g2 g3 => ?_⟩
      · unfold gf at g2 g3 g5
        rw [o] at g2 g3 g5
        rw [c4]
        have := kr g y g1 g2 g3 g4 g5
        rcases this with ⟨a1, a2⟩ | ⟨a1, a2⟩
        · exact Or.inl ⟨a1, by omega⟩
        · rw [d4] at a1; exact absurd a1 (by decide)
      · unfold gf at g2 g3
        rw [o] at g2 g3
        rw [c7]
        exact kp g g1 g2 g3
    · refine ⟨⟨x - 1, by omega, by rw [c3, if_neg (by rw [d4]; decide), k3, i_dec d1], Or.inl c6, fun g y g1 g2 g3 g4 g5 => ?_⟩, by rw [c4]; exact k4, by rw [c7]; exact k7, fun g g1 g2 g3 => ?_⟩
      · unfold gf at g2 g3 g5
        rw [o] at g2 g3 g5
        rw [c4]
        have := kr g y g1 g2 g3 g4 g5
        rcases this with ⟨a1, a2⟩ | ⟨a1, a2⟩
        · rw [d4] at a1; exact absurd a1 (by decide)
        · exact Or.inr ⟨a1, by omega⟩
      · unfold gf at g2 g3
        rw [o] at g2 g3
        rw [c7]
        exact kp g g1 g2 g3
theorem own_mv3 {N : Nat → Int32} {f m c s : Nat} (h : Own N f m c s) (hc : c < 4) (h0 : cf N c 6 = nI 0) : Own (mv3 N c) f m c s ∧ cf (mv3 N c) c 6 = nI 0 := by
  unfold mv3
  split
  · refine ⟨?_, by rw [cf_u (by omega)]; exact h0⟩
    obtain ⟨⟨x, hx, k3, k6, kr⟩, k4, k7, kp⟩ := h
    refine ⟨⟨x, hx, by rw [cf_u (by omega)]; exact k3, by rw [cf_u (by omega), cf_u (by omega)]; exact k6, fun g y g1 g2 g3 g4 g5 => ?_⟩, by rw [cf_u (by omega)]; exact k4, Or.inl cf_s, fun g g1 g2 g3 => cf_s⟩
    rw [gf_u (by omega)] at g2 g3 g5
    rw [cf_u (by omega)]
    exact kr g y g1 g2 g3 g4 g5
  · exact ⟨h, h0⟩
theorem cf_hap {N : Nat → Int32} {w : Int32} {g c j : Nat} (h : 8 * c + j < 364) : cf (hapM N w g) c j = cf N c j := hap_o (Or.inl h)
theorem lvN_at {N : Nat → Int32} {c m : Nat} (hc : c < 4) (hm : m ≤ 40) : ∀ {n : Nat}, n ≤ m → (∀ j, j < 8 → cf (lvN N c n) c j = cf N c j) ∧ (∀ g j, g < m → j < 8 → j ≠ 4 → gf (lvN N c n) g j = gf N g j) ∧ (∀ g, g < m → gf (lvN N c n) g 4 = if g < n ∧ lvB N c g = true then nI 2 else gf N g 4)
  | 0, _ => ⟨fun _ _ => rfl, fun _ _ _ _ _ => rfl, fun g _ => by rw [if_neg (by omega)]; rfl⟩
  | n + 1, h => by
    obtain ⟨h1, h2, h3⟩ := lvN_at (N := N) hc hm (n := n) (by omega)
    have hb : lvB (lvN N c n) c n = lvB N c n := by
      unfold lvB
      rw [h1 3 (by omega), h2 n 3 (by omega) (by omega) (by omega), h2 n 1 (by omega) (by omega) (by omega), h3 n (by omega), if_neg (by omega)]
    show (∀ j, j < 8 → cf (lvF c n (lvN N c n)) c j = cf N c j) ∧ (∀ g j, g < m → j < 8 → j ≠ 4 → gf (lvF c n (lvN N c n)) g j = gf N g j) ∧ (∀ g, g < m → gf (lvF c n (lvN N c n)) g 4 = if g < n + 1 ∧ lvB N c g = true then nI 2 else gf N g 4)
    unfold lvF
    rw [hb]
    by_cases e : lvB N c n = true
    · rw [if_pos e]
      refine ⟨fun j hj => ?_, fun g j hg hj h4 => ?_, fun g hg => ?_⟩
      · rw [cf_hap (by omega), cf_u (by omega)]; exact h1 j hj
      · rw [gf_hap (by omega), gf_u (by omega)]; exact h2 g j hg hj h4
      · rw [gf_hap (by omega)]
        by_cases eg : g = n
        · subst eg
          rw [if_pos ⟨by omega, e⟩]
          exact up_s
        · rw [gf_u (by omega), h3 g hg]
          have : (g < n + 1 ∧ lvB N c g = true) = (g < n ∧ lvB N c g = true) := propext ⟨fun a => ⟨by omega, a.2⟩, fun a => ⟨by omega, a.2⟩⟩
          simp only [this]
    · rw [if_neg e]
      refine ⟨h1, h2, fun g hg => ?_⟩
      rw [h3 g hg]
      by_cases eg : g = n
      · subst eg
        rw [if_neg (by omega), if_neg (fun a => e a.2)]
      · have : (g < n + 1 ∧ lvB N c g = true) = (g < n ∧ lvB N c g = true) := propext ⟨fun a => ⟨by omega, a.2⟩, fun a => ⟨by omega, a.2⟩⟩
        simp only [this]
theorem own_lv {N : Nat → Int32} {f m c : Nat} (h : Own N f m c 1) (hc : c < 4) (hm : m ≤ 40) (hf : f ≤ 12) (h0 : cf N c 6 = nI 0) : Own (lvN N c m) f m c 0 ∧ cf (lvN N c m) c 6 = nI 0 := by
  obtain ⟨h1, h2, h3⟩ := lvN_at (N := N) hc hm (Nat.le_refl m)
  obtain ⟨⟨x, hx, k3, k6, kr⟩, k4, k7, kp⟩ := h
  refine ⟨⟨⟨x, hx, by rw [h1 3 (by omega)]; exact k3, by rw [h1 6 (by omega), h1 4 (by omega)]; exact k6, fun g y g1 g2 g3 g4 g5 => ?_⟩, by rw [h1 4 (by omega)]; exact k4, by rw [h1 7 (by omega)]; exact k7, fun g g1 g2 g3 => ?_⟩, by rw [h1 6 (by omega)]; exact h0⟩
  · rw [h2 g 3 g1 (by omega) (by omega)] at g2
    rw [h2 g 1 g1 (by omega) (by omega)] at g5
    rw [h3 g g1] at g3
    rw [h1 4 (by omega)]
    by_cases e : g < m ∧ lvB N c g = true
    · rw [if_pos e] at g3; exact absurd g3 (by decide)
    · rw [if_neg e] at g3
      have := kr g y g1 g2 g3 g4 g5
      have hne : y ≠ x := fun exy => e ⟨g1, by
        unfold lvB
        rw [g2, g3, g5, k3, exy, decide_eq_true rfl, decide_eq_true rfl, decide_eq_true rfl]
        rfl⟩
      rcases this with ⟨a1, a2⟩ | ⟨a1, a2⟩
      · exact Or.inl ⟨a1, by omega⟩
      · exact Or.inr ⟨a1, by omega⟩
  · rw [h2 g 3 g1 (by omega) (by omega)] at g2
    rw [h3 g g1] at g3
    rw [h1 7 (by omega)]
    by_cases e : g < m ∧ lvB N c g = true
    · rw [if_pos e] at g3; exact absurd rfl g3
    · rw [if_neg e] at g3
      exact kp g g1 g2 g3
/-- the load as a number: 0, where nobody rides -/
theorem load_q {N : Nat → Int32} {c : Nat} : ∀ {n : Nat}, (∀ g, g < n → ∃ s, 1 ≤ s ∧ s ≤ 8 ∧ gf N g 2 = nI s) → ∃ q, loadM N c n = nI q ∧ q ≤ 8 * n ∧ (q = 0 → ∀ g, g < n → ¬ (gf N g 3 = nI c ∧ gf N g 4 = nI 1))
  | 0, _ => ⟨0, rfl, Nat.le_refl _, fun _ g hg => absurd hg (Nat.not_lt_zero g)⟩
  | n + 1, h => by
    obtain ⟨q, h1, h2, h3⟩ := load_q (N := N) (c := c) (n := n) (fun g hg => h g (by omega))
    obtain ⟨s, s1, s2, s3⟩ := h n (by omega)
    have e : loadM N c (n + 1) = loadM N c n + (if gf N n 3 = nI c ∧ gf N n 4 = nI 1 then gf N n 2 else nI 0) := rfl
    by_cases c1 : gf N n 3 = nI c ∧ gf N n 4 = nI 1
    · rw [if_pos c1, h1, s3, nI_add] at e
      exact ⟨q + s, e, by omega, fun h0 => by omega⟩
    · rw [if_neg c1, h1, add_n0] at e
      refine ⟨q, e, by omega, fun h0 g hg => ?_⟩
      by_cases eg : g = n
      · subst eg; exact c1
      · exact h3 h0 g (by omega)
theorem load_0 {N : Nat → Int32} {c m g : Nat} (hs : ∀ g, g < m → ∃ s, 1 ≤ s ∧ s ≤ 8 ∧ gf N g 2 = nI s) (hm : m ≤ 40) (h : loadM N c m = nI 0) (hg : g < m) : ¬ (gf N g 3 = nI c ∧ gf N g 4 = nI 1) := by
  obtain ⟨q, h1, h2, h3⟩ := load_q (c := c) hs
  rw [h1, i_eq (by omega) (by omega)] at h
  exact h3 h g hg
theorem load_gt {N : Nat → Int32} {c m : Nat} (hs : ∀ g, g < m → ∃ s, 1 ≤ s ∧ s ≤ 8 ∧ gf N g 2 = nI s) (hm : m ≤ 40) : (nI 0 < loadM N c m) = ¬ loadM N c m = nI 0 := by
  obtain ⟨q, h1, h2, h3⟩ := load_q (c := c) hs
  rw [h1, i_lt (by omega) (by omega), i_eq (by omega) (by omega)]
  apply propext
  omega
theorem load_ex {N : Nat → Int32} {c m : Nat} : ∀ {n : Nat}, ¬ loadM N c n = nI 0 → n ≤ m → ∃ g, g < m ∧ gf N g 3 = nI c ∧ gf N g 4 = nI 1
  | 0, h, _ => absurd rfl h
  | n + 1, h, hn => by
    by_cases c1 : gf N n 3 = nI c ∧ gf N n 4 = nI 1
    · exact ⟨n, hn, c1.1, c1.2⟩
    · have e : loadM N c (n + 1) = loadM N c n + (if gf N n 3 = nI c ∧ gf N n 4 = nI 1 then gf N n 2 else nI 0) := rfl
      rw [if_neg c1, add_n0] at e
      rw [e] at h
      exact load_ex h (by omega)
theorem fh_r {N : Nat → Int32} {c m : Nat} {e : Int32} (he : e = nI 0 ∨ e = nI 1 ∨ e = nI 2) : ∀ {k : Nat}, fhR N c m e k = nI 0 ∨ fhR N c m e k = nI 1 ∨ fhR N c m e k = nI 2
  | 0 => he
  | k + 1 => by
    unfold fhR
    split
    · exact Or.inr way_12
    · exact fh_r he
theorem tow_r {b x f : Int32} : ∀ {k : Nat}, towR b x f k = nI 0 ∨ towR b x f k = nI 1 ∨ towR b x f k = nI 2
  | 0 => Or.inl rfl
  | k + 1 => by
    unfold towR
    split
    · exact Or.inr (Or.inr rfl)
    · split
      · exact Or.inr (Or.inl rfl)
      · exact tow_r
theorem look_r {N : Nat → Int32} {c m : Nat} (h : cf N c 4 = nI 0 ∨ cf N c 4 = nI 1 ∨ cf N c 4 = nI 2) : lookM N c m = nI 0 ∨ lookM N c m = nI 1 ∨ lookM N c m = nI 2 := by
  unfold lookM
  split
  · exact fh_r tow_r
  · split
    · exact h
    · split
      · rcases h with h | h | h
        · rename_i a _ _
          rw [h] at a
          exact absurd (by decide) a
        · rw [h]; exact Or.inr (Or.inr (by decide))
        · rw [h]; exact Or.inr (Or.inl (by decide))
      · exact Or.inl rfl
theorem own_mv4 {N : Nat → Int32} {f m c : Nat} (h : Own N f m c 0) (hc : c < 4) (hm : m ≤ 40) (hs : ∀ g, g < m → ∃ s, 1 ≤ s ∧ s ≤ 8 ∧ gf N g 2 = nI s) (h0 : cf N c 6 = nI 0) : Own (mv4 N c m) f m c 0 ∧ cf (mv4 N c m) c 6 = nI 0 := by
  unfold mv4
  split
  · rename_i hl
    refine ⟨?_, by rw [cf_u (by omega)]; exact h0⟩
    obtain ⟨⟨x, hx, k3, k6, kr⟩, k4, k7, kp⟩ := h
    refine ⟨⟨x, hx, by rw [cf_u (by omega)]; exact k3, Or.inl (by rw [cf_u (by omega)]; exact h0), fun g y g1 g2 g3 g4 g5 => ?_⟩, by rw [cf_s]; exact look_r k4, by rw [cf_u (by omega)]; exact k7, fun g g1 g2 g3 => ?_⟩
    · rw [gf_u (by omega)] at g2 g3
      exact absurd ⟨g2, g3⟩ (load_0 hs hm hl g1)
    · rw [gf_u (by omega)] at g2 g3
      rw [cf_u (by omega)]
      exact kp g g1 g2 g3
  · exact ⟨h, h0⟩
theorem bd1_cf {N : Nat → Int32} {g c j : Nat} {b : Bool} (hc : c < 4) (hj : j < 8) : cf (bd1 N g b) c j = cf N c j := by
  unfold bd1
  dsimp only
  rw [cf_u (by omega), cf_hap (by omega), cf_u (by omega), cf_u (by omega)]
def RoutOk (N : Nat → Int32) (f m : Nat) : Prop := ∀ g, g < m → ∃ a b, a < f ∧ b < f ∧ a ≠ b ∧ gf N g 0 = nI a ∧ gf N g 1 = nI b
theorem own_bdF {f m c g : Nat} {s : (Nat → Int32) × Nat × Bool} (h : Own s.1 f m c 0 ∧ RoutOk s.1 f m ∧ cf s.1 c 6 = nI 0) (hc : c < 4) (hm : m ≤ 40) (hf : f ≤ 12) (hg : g < m) : Own (bdF c m g s).1 f m c 0 ∧ RoutOk (bdF c m g s).1 f m ∧ cf (bdF c m g s).1 c 6 = nI 0 := by
  refine bdF_c (P := fun t => Own t.1 f m c 0 ∧ RoutOk t.1 f m ∧ cf t.1 c 6 = nI 0) h h (fun e3 e4 e0 ew => ?_)
  obtain ⟨⟨⟨x, hx, k3, k6, kr⟩, k4, k7, kp⟩, ro, h0⟩ := h
  dsimp only
  have G : ∀ k j, k < m → j < 8 → k ≠ g ∨ (j ≠ 4 ∧ j ≠ 6) → gf (bd1 s.1 g s.2.2) k j = gf s.1 k j := fun k j hk hj hh => bd1_gf (by omega) (by omega) hj hh
  have C : ∀ j, j < 8 → cf (bd1 s.1 g s.2.2) c j = cf s.1 c j := fun j hj => bd1_cf hc hj
  refine ⟨⟨⟨x, hx, by rw [C 3 (by omega)]; exact k3, by rw [C 6 (by omega), C 4 (by omega)]; exact k6, fun k y g1 g2 g3 g4 g5 => ?_⟩, by rw [C 4 (by omega)]; exact k4, by rw [C 7 (by omega)]; exact k7, fun k g1 g2 g3 => ?_⟩, fun k hk => ?_, by rw [C 6 (by omega)]; exact h0⟩
  · rw [G k 3 g1 (by omega) (Or.inr (by omega))] at g2
    rw [G k 1 g1 (by omega) (Or.inr (by omega))] at g5
    rw [C 4 (by omega)]
    by_cases ek : k = g
    · subst ek
      obtain ⟨a, b, ha, hb, hab, q0, q1⟩ := ro k g1
      rw [q1, i_eq (by omega) (by omega)] at g5
      rw [q0, k3, i_eq (by omega) (by omega)] at e0
      subst e0 g5
      unfold wayM at ew
      rw [q0, q1] at ew
      simp (disch := omega) only [i_le] at ew
      by_cases cc : b ≤ a
      · rw [if_pos cc] at ew
        exact Or.inr ⟨ew.symm, by omega⟩
      · rw [if_neg cc] at ew
        exact Or.inl ⟨ew.symm, by omega⟩
    · rw [G k 4 g1 (by omega) (Or.inl ek)] at g3
      exact kr k y g1 g2 g3 g4 g5
  · rw [G k 3 g1 (by omega) (Or.inr (by omega))] at g2
    rw [C 7 (by omega)]
    by_cases ek : k = g
    · subst ek
      exact kp k g1 g2 (by rw [e4]; decide)
    · rw [G k 4 g1 (by omega) (Or.inl ek)] at g3
      exact kp k g1 g2 g3
  · rw [G k 0 hk (by omega) (Or.inr (by omega)), G k 1 hk (by omega) (Or.inr (by omega))]
    exact ro k hk
theorem own_bd {N : Nat → Int32} {f m c : Nat} (h : Own N f m c 0 ∧ RoutOk N f m ∧ cf N c 6 = nI 0) (hc : c < 4) (hm : m ≤ 40) (hf : f ≤ 12) : ∀ {n : Nat}, n ≤ m → Own (bdS N c m n).1 f m c 0 ∧ RoutOk (bdS N c m n).1 f m ∧ cf (bdS N c m n).1 c 6 = nI 0
  | 0, _ => h
  | n + 1, hn => own_bdF (own_bd h hc hm hf (n := n) (by omega)) hc hm hf (by omega)
