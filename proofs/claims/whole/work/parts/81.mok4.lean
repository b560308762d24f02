/-! what calls keep -/
theorem Ok.ext {N N' : Nat → Int32} {f k m T : Nat} (h : Ok N f k m T) (hb : ∀ a, a < 364 → N' a = N a) (h4 : N' 444 = N 444) (h5 : N' 445 = N 445) (h6 : N' 446 = N 446) (h7 : N' 447 = N 447) : Ok N' f k m T := by
  obtain ⟨b, hg, hw, ht, hk, hd⟩ := h
  have hm := b.2.2.2
  refine ⟨b.of h4 h5 h6, fun g h1 => ?_, fun c hc => ?_, time_o ht h7 (fun g h1 => ⟨hb _ (by omega), hb _ (by omega)⟩), fun c hc => ?_, fun a ha => ?_⟩
  · unfold gf
    rw [hb _ (by omega), hb _ (by omega), hb _ (by omega), hb _ (by omega), hb _ (by omega)]
    exact hg g h1
  · exact (hw c hc).ext (hb _ (by omega)) (hb _ (by omega)) (hb _ (by omega)) (hb _ (by omega)) (fun g h1 => ⟨hb _ (by omega), hb _ (by omega), fun _ => hb _ (by omega)⟩)
  · unfold cf
    rw [hb _ (by omega), hb _ (by omega), hb _ (by omega)]
    exact hk c hc
  · rw [hb _ (by omega)]; exact hd a ha
theorem hap_ok {N : Nat → Int32} {f k m T g : Nat} {w : Int32} (h : Ok N f k m T) : Ok (hapM N w g) f k m T :=
  h.ext (fun a ha => hap_o (by omega)) (hap_o (by omega)) (hap_o (by omega)) (hap_o (by omega)) (hap_o (by omega))
theorem ownN_n {N : Nat → Int32} {g c : Nat} (e : ¬ gf N g 3 = nI c) : ownN N g c = upd (upd N (32 + 8 * g + 3) (nI c)) (8 * c + 7) (-1) := by unfold ownN; rw [if_neg e]
theorem ownN_ok {N : Nat → Int32} {f k m T g c : Nat} (h : Ok N f k m T) (hg : g < m) (hc : c < 4) (h0 : gf N g 4 = nI 0) : Ok (ownN N g c) f k m T := by
  by_cases e : gf N g 3 = nI c
  · have : ownN N g c = N := by unfold ownN; rw [if_pos e]
    rw [this]; exact h
  · obtain ⟨b, hgr, hw, ht, hk, hd⟩ := h
    have hm := b.2.2.2
    have o : ∀ a, 352 ≤ a → ownN N g c a = N a := fun a ha => ownN_o (by omega) hc ha
    have G : ∀ g2 j, g2 < m → j < 8 → (g2 ≠ g ∨ j ≠ 3) → gf (ownN N g c) g2 j = gf N g2 j := fun g2 j h1 h2 h3 => by
      rw [ownN_n e, gf_u (by omega), gf_u (by omega)]
    have C : ∀ c2 j, c2 < 4 → j < 8 → (c2 ≠ c ∨ j ≠ 7) → cf (ownN N g c) c2 j = cf N c2 j := fun c2 j h1 h2 h3 => by
      rw [ownN_n e, cf_u (by omega), cf_u (by omega)]
    refine ⟨b.of (o _ (by omega)) (o _ (by omega)) (o _ (by omega)), grp_own hgr hc hg hm, fun c2 hc2 => ?_, time_o ht (o _ (by omega)) (fun g2 h2 => ⟨G g2 5 h2 (by omega) (by omega), G g2 6 h2 (by omega) (by omega)⟩), fun c2 hc2 => ?_, fun a ha => by rw [o _ (by omega)]; exact hd a ha⟩
    · by_cases ec : c2 = c
      · subst ec; exact (cf_own (hw c2 hc2) hc hg hm h0).1
      · obtain ⟨⟨x, hx, k3, k6, kr⟩, k4, k7, kp⟩ := hw c2 hc2
        have ne : ¬ (nI c : Int32) = nI c2 := by rw [i_eq (by omega) (by omega)]; omega
        have eg3 : gf (ownN N g c) g 3 = nI c := by rw [own_car (by omega) (by omega) hc, if_pos rfl]
        refine ⟨⟨x, hx, by rw [C c2 3 hc2 (by omega) (Or.inl ec)]; exact k3, by rw [C c2 6 hc2 (by omega) (Or.inl ec), C c2 4 hc2 (by omega) (Or.inl ec)]; exact k6, fun g2 y g1 q2 q3 q4 q5 => ?_⟩, by rw [C c2 4 hc2 (by omega) (Or.inl ec)]; exact k4, by rw [C c2 7 hc2 (by omega) (Or.inl ec)]; exact k7, fun g2 g1 q2 q3 => ?_⟩
        · by_cases e2 : g2 = g
          · subst e2; rw [eg3] at q2; exact absurd q2 ne
          · rw [G g2 3 g1 (by omega) (Or.inl e2)] at q2
            rw [G g2 4 g1 (by omega) (Or.inl e2)] at q3
            rw [G g2 1 g1 (by omega) (Or.inl e2)] at q5
            rw [C c2 4 hc2 (by omega) (Or.inl ec)]
            exact kr g2 y g1 q2 q3 q4 q5
        · by_cases e2 : g2 = g
          · subst e2; rw [eg3] at q2; exact absurd q2 ne
          · rw [G g2 3 g1 (by omega) (Or.inl e2)] at q2
            rw [G g2 4 g1 (by omega) (Or.inl e2)] at q3
            rw [C c2 7 hc2 (by omega) (Or.inl ec)]
            exact kp g2 g1 q2 q3
    · rw [C c2 0 hc2 (by omega) (Or.inr (by omega)), C c2 1 hc2 (by omega) (Or.inr (by omega)), C c2 2 hc2 (by omega) (Or.inr (by omega))]
      exact hk c2 hc2
theorem newN_x {N : Nat → Int32} {m a b : Nat} {y s : Int32} (h : b < 32 + 8 * m ∨ 32 + 8 * m + 7 < b) (h2 : b ≠ 446) (h3 : b ≠ 352 + a) : newN N m a y s b = N b := by
  rw [new_add, up_n h3, addN_o h h2]
theorem newN_g {N : Nat → Int32} {m a j : Nat} {y s : Int32} (hm : m < 40) (hj : j < 8) : gf (newN N m a y s) m j = gf (addN N m a y s) m j := by
  rw [new_add, gf_u (by omega)]
theorem new_ok {N : Nat → Int32} {f k m T a b q : Nat} {y s : Int32} (h : Ok N f k m T) (hm : m < 40) (ha : a < f) (hb : b < f) (hab : a ≠ b) (hy : y = nI b) (hs : s = nI q) (hq1 : 1 ≤ q) (hq : q ≤ 8) : Ok (newN N m a y s) f k (m + 1) T := by
  obtain ⟨bb, hgr, hw, ht, hk, hd⟩ := h
  obtain ⟨q0, q1, q2, q3, q4, q5, q6, q7⟩ := addN_g (N := N) (a := a) (y := y) (s := s) hm
  have hf := bb.1.2.2
  have o : ∀ b, 444 ≤ b → b ≠ 446 → newN N m a y s b = N b := fun b h1 h2 => newN_x (by omega) h2 (by omega)
  have G : ∀ g j, g < m → j < 8 → gf (newN N m a y s) g j = gf N g j := fun g j hg hj => newN_x (by omega) (by omega) (by omega)
  have C : ∀ c j, c < 4 → j < 8 → cf (newN N m a y s) c j = cf N c j := fun c j hc hj => newN_x (by omega) (by omega) (by omega)
  have h6 : newN N m a y s 446 = nI (m + 1) := by rw [new_add, up_n (by omega)]; exact addN_m hm bb.2.2.1
  refine ⟨⟨⟨by rw [o _ (by omega) (by omega)]; exact bb.1.1, bb.1.2⟩, ⟨by rw [o _ (by omega) (by omega)]; exact bb.2.1.1, bb.2.1.2⟩, h6, by omega⟩, fun g hg => ?_, fun c hc => ?_, ⟨by rw [o _ (by omega) (by omega)]; exact ht.1, fun g hg => ?_⟩, fun c hc => ?_, fun e he => ?_⟩
  · by_cases e : g = m
    · subst e
      rw [newN_g hm (by omega), newN_g hm (by omega), newN_g hm (by omega), newN_g hm (by omega), newN_g hm (by omega), q0, q1, q2, q4, q7]
      exact ⟨Or.inl rfl, ⟨a, b, ha, hb, hab, rfl, hy⟩, ⟨q, hq1, hq, hs⟩, 0, by omega, rfl⟩
    · rw [G g 4 (by omega) (by omega), G g 0 (by omega) (by omega), G g 1 (by omega) (by omega), G g 2 (by omega) (by omega), G g 7 (by omega) (by omega)]
      exact hgr g (by omega)
  · obtain ⟨⟨x, hx, k3, k6, kr⟩, k4, k7, kp⟩ := hw c hc
    have e3 : gf (newN N m a y s) m 3 = -1 := by rw [newN_g hm (by omega)]; exact q3
    have nm := nI_m1 (a := c) (by omega)
    refine ⟨⟨x, hx, by rw [C c 3 hc (by omega)]; exact k3, by rw [C c 6 hc (by omega), C c 4 hc (by omega)]; exact k6, fun g2 y2 g1 r2 r3 r4 r5 => ?_⟩, by rw [C c 4 hc (by omega)]; exact k4, by rw [C c 7 hc (by omega)]; exact k7, fun g2 g1 r2 r3 => ?_⟩
    · by_cases e2 : g2 = m
      · subst e2
        rw [e3] at r2
        have := r2.symm
        rw [nm] at this
        exact this.elim
      · rw [G g2 3 (by omega) (by omega)] at r2
        rw [G g2 4 (by omega) (by omega)] at r3
        rw [G g2 1 (by omega) (by omega)] at r5
        rw [C c 4 hc (by omega)]
        exact kr g2 y2 (by omega) r2 r3 r4 r5
    · by_cases e2 : g2 = m
      · subst e2
        rw [e3] at r2
        have := r2.symm
        rw [nm] at this
        exact this.elim
      · rw [G g2 3 (by omega) (by omega)] at r2
        rw [G g2 4 (by omega) (by omega)] at r3
        rw [C c 7 hc (by omega)]
        exact kp g2 (by omega) r2 r3
  · by_cases e : g = m
    · subst e
      rw [newN_g hm (by omega), newN_g hm (by omega), q5, q6]
      exact ⟨T, 0, Nat.le_refl T, Nat.zero_le T, ht.1, rfl⟩
    · rw [G g 5 (by omega) (by omega), G g 6 (by omega) (by omega)]
      exact ht.2 g (by omega)
  · rw [C c 0 hc (by omega), C c 1 hc (by omega), C c 2 hc (by omega)]
    exact hk c hc
  · obtain ⟨r, r1, r2⟩ := hd e he
    by_cases ea : e = a
    · subst ea
      refine ⟨r + 1, by omega, ?_⟩
      rw [new_add, up_s, addN_o (by omega) (by omega), r2, nI_add]
    · refine ⟨r, by omega, ?_⟩
      rw [newN_x (by omega) (by omega) (by omega)]
      exact r2
theorem new_live {N : Nat → Int32} {m a : Nat} {y s : Int32} (hm : m < 40) (ha : a < 12) : live (newN N m a y s) (m + 1) = live N m ++ [m] := by
  obtain ⟨q0, q1, q2, q3, q4, q5, q6, q7⟩ := addN_g (N := N) (a := a) (y := y) (s := s) hm
  rw [live_s, newN_g hm (by omega), q4, if_neg (by decide)]
  congr 1
  refine live_eq (fun g hg => ?_)
  have e : gf (newN N m a y s) g 4 = gf N g 4 := newN_x (by omega) (by omega) (by omega)
  rw [e]
theorem SetOk.of {N N' : Nat → Int32} (h : SetOk N) (h8 : N' 448 = N 448) (h9 : N' 449 = N 449) : SetOk N' := by
  unfold SetOk
  rw [h8, h9]
  exact h
def clm (N : Nat → Int32) (f m k : Nat) (x y s : Int32) : Nat := if (okC f x y s && roomM N s k && !fullM N m) = true then m + 1 else m
theorem take_ok {N : Nat → Int32} {f k m T a b q : Nat} {y s : Int32} (h : Ok N f k m T) (hm : m < 40) (ha : a < f) (hb : b < f) (hab : a ≠ b) (hy : y = nI b) (hs : s = nI q) (hq1 : 1 ≤ q) (hq : q ≤ 8) : Ok (takeN N m k a y s) f k (m + 1) T := by
  have h1 := new_ok h hm ha hb hab hy hs hq1 hq
  obtain ⟨q0, q1, q2, q3, q4, q5, q6, q7⟩ := addN_g (N := N) (a := a) (y := y) (s := s) hm
  have hk := h.1.2.1.2
  have hb2 : (chS (newN N m a y s) (m + 1) k m (k - 1)).1 ≤ k - 1 := chS_le
  unfold takeN
  exact hap_ok (ownN_ok h1 (by omega) (by omega) (by rw [newN_g hm (by omega)]; exact q4))
theorem okC_t {f : Nat} {x y s : Int32} (hf : f ≤ 12) (h : okC f x y s = true) : ∃ a b q, x = nI a ∧ a < f ∧ y = nI b ∧ b < f ∧ a ≠ b ∧ s = nI q ∧ 1 ≤ q ∧ q ≤ 8 ∧ x.toInt.toNat = a := by
  obtain ⟨⟨a1, a2⟩, ⟨b1, b2⟩, ab, s1, s2⟩ := okC_iff.mp h
  refine ⟨x.toInt.toNat, y.toInt.toNat, s.toInt.toNat, nI_nat a1, by omega, nI_nat b1, by omega, fun e => ab ?_, nI_nat (by omega), by omega, by omega, rfl⟩
  rw [nI_nat a1, nI_nat b1, e]
theorem cl_ok {N : Nat → Int32} {f k m T : Nat} {x y s : Int32} (h : Ok N f k m T) : Ok (clN N f m k x y s) f k (clm N f m k x y s) T := by
  have hf := h.1.1.2.2
  have hm := h.1.2.2.2
  unfold clN clm
  by_cases c : (okC f x y s && roomM N s k && !fullM N m) = true
  · rw [if_pos c, if_pos c]
    rw [Bool.and_eq_true, Bool.and_eq_true, Bool.not_eq_true'] at c
    obtain ⟨⟨c1, c2⟩, c3⟩ := c
    obtain ⟨a, b, q, e1, ha, e2, hb, hab, e3, q1, q2, e4⟩ := okC_t hf c1
    have hm40 : m < 40 := by
      unfold fullM at c3
      by_cases e : m = 40
      · rw [decide_eq_true e, Bool.true_or] at c3; cases c3
      · omega
    rw [e4]
    exact take_ok h hm40 ha hb hab e2 e3 q1 q2
  · rw [if_neg c, if_neg c]; exact h
theorem take_o {N : Nat → Int32} {m k a b : Nat} {y s : Int32} (hm : m < 40) (ha : a < 12) (hk1 : 1 ≤ k) (hk4 : k ≤ 4) (h : 444 ≤ b) (h2 : b ≠ 446) (h3 : b ≠ 451) : takeN N m k a y s b = N b := by
  have hb2 : (chS (newN N m a y s) (m + 1) k m (k - 1)).1 ≤ k - 1 := chS_le
  unfold takeN
  (try dsimp only)
  rw [hap_o (by omega), ownN_o hm (by omega) (by omega), newN_x (by omega) h2 (by omega)]
theorem cl_set {N : Nat → Int32} {f k m : Nat} {x y s : Int32} (h : SetOk N) (hf : f ≤ 12) (hm : m ≤ 40) (hk1 : 1 ≤ k) (hk4 : k ≤ 4) : SetOk (clN N f m k x y s) := by
  unfold clN
  by_cases c : (okC f x y s && roomM N s k && !fullM N m) = true
  · rw [if_pos c]
    rw [Bool.and_eq_true, Bool.and_eq_true, Bool.not_eq_true'] at c
    obtain ⟨⟨c1, c2⟩, c3⟩ := c
    obtain ⟨a, b, q, e1, ha, e2, hb, hab, e3, q1, q2, e4⟩ := okC_t hf c1
    have hm40 : m < 40 := by
      unfold fullM at c3
      by_cases e : m = 40
      · rw [decide_eq_true e, Bool.true_or] at c3; cases c3
      · omega
    rw [e4]
    exact h.of (take_o hm40 (by omega) hk1 hk4 (by omega) (by omega) (by omega)) (take_o hm40 (by omega) hk1 hk4 (by omega) (by omega) (by omega))
  · rw [if_neg c]; exact h
theorem live_len {N : Nat → Int32} {m : Nat} (h : HowOk N m) : (live N m).length = manyM N (nI 0) m + manyM N (nI 1) m := by
  have key : ∀ n, n ≤ m → (live N n).length = manyM N (nI 0) n + manyM N (nI 1) n := by
    intro n
    induction n with
    | zero => exact fun _ => rfl
    | succ n ih =>
      intro hn
      rw [live_s, List.length_append, ih (by omega)]
      show _ = manyM N (nI 0) n + (if gf N n 4 = nI 0 then 1 else 0) + (manyM N (nI 1) n + (if gf N n 4 = nI 1 then 1 else 0))
      rcases h n (by omega) with e | e | e
      · rw [e, if_neg (by decide), if_pos rfl, if_neg (by decide)]
        show _ + 1 = _
        omega
      · rw [e, if_neg (by decide), if_neg (by decide), if_pos rfl]
        show _ + 1 = _
        omega
      · rw [e, if_pos rfl, if_neg (by decide), if_neg (by decide)]
        rfl
  exact key m (Nat.le_refl m)
