/-! what every call keeps -/
def AllOk (N : Nat → Int32) (f k m T : Nat) : Prop := Ok N f k m T ∧ SetOk N ∧ CarK N m k
theorem all_le {N : Nat → Int32} {f k m T T' : Nat} (h : AllOk N f k m T) (hT : T = T') : AllOk N f k m T' := hT ▸ h
theorem AllOk.rg {N : Nat → Int32} {f k m T : Nat} (h : AllOk N f k m T) : RgOk N N f k m T := ⟨h.1, h.2.1, h.2.2, fun _ _ => Iff.rfl⟩
theorem CarK.ok {N : Nat → Int32} {m k : Nat} (h : CarK N m k) (hk : k ≤ 4) : CarOk N m := fun g hg => by
  obtain ⟨c, h1, h2⟩ := h g hg
  exact ⟨c, by omega, h2⟩
theorem KeepC.okK {N N' : Nat → Int32} {m k : Nat} (h : KeepC N N') (hm : m ≤ 40) (hc : CarK N m k) : CarK N' m k := fun g hg => by
  obtain ⟨c, h1, h2⟩ := hc g hg
  exact ⟨c, h1, by rw [h g (by omega), h2]⟩
theorem ps_all {N : Nat → Int32} {f k m T : Nat} (h : AllOk N f k m T) : AllOk (psS N m k).1 f k m (T + 1) := by
  obtain ⟨ok, hs, hk⟩ := h
  have hm := ok.1.2.2.2
  have hk4 := ok.1.2.1.2.2
  exact ⟨psS_ok ok hk4, hs.of (psS_o hm (by unfold fixP; omega) hk4) (psS_o hm (by unfold fixP; omega) hk4), (keep_psS hm hk4).okK hm hk⟩
theorem ts_all {N : Nat → Int32} {f k m T : Nat} (h : AllOk N f k m T) : ∀ {n : Nat}, AllOk (tsS N m k n).1 f k m (T + n)
  | 0 => h
  | n + 1 => ps_all (ts_all h (n := n))
theorem dn_all {f k m T : Nat} : ∀ {r : Nat} {N : Nat → Int32}, AllOk N f k m T → ∃ T', T' ≤ T + r ∧ AllOk (dnR m k r N).1 f k m T'
  | 0, N, h => ⟨T, Nat.le_refl _, h⟩
  | r + 1, N, h => by
    unfold dnR
    split
    · obtain ⟨T', h1, h2⟩ := dn_all (T := T + 1) (r := r) (ps_all h)
      exact ⟨T', by omega, h2⟩
    · exact ⟨T, by omega, h⟩
theorem cl_all {N : Nat → Int32} {f k m T : Nat} {x y s : Int32} (h : AllOk N f k m T) : AllOk (clN N f m k x y s) f k (clm N f m k x y s) T := by
  obtain ⟨ok, hs, hk⟩ := h
  have hm := ok.1.2.2.2
  have hk1 := ok.1.2.1.2.1
  have hk4 := ok.1.2.1.2.2
  have hf4 := ok.1.1.2.2
  refine ⟨cl_ok ok, cl_set hs hf4 hm hk1 hk4, ?_⟩
  unfold clN clm
  by_cases c : (okC f x y s && roomM N s k && !fullM N m) = true
  · rw [if_pos c, if_pos c]
    rw [Bool.and_eq_true, Bool.and_eq_true, Bool.not_eq_true'] at c
    obtain ⟨⟨c1, c2⟩, c3⟩ := c
    obtain ⟨a, b, q, e1, ha, e2, hb, hab, e3, q1, q2, e4⟩ := okC_t hf4 c1
    have hm40 : m < 40 := by
      unfold fullM at c3
      by_cases e : m = 40
      · rw [decide_eq_true e, Bool.true_or] at c3; cases c3
      · omega
    have hbl : (chS (newN N m a y s) (m + 1) k m (k - 1)).1 ≤ k - 1 := chS_le
    intro g hg
    rw [e4]
    unfold takeN
    (try dsimp only)
    rw [gf_hap (by omega), own_car (by omega) (by omega) (by omega)]
    by_cases e : g = m
    · rw [if_pos e]; exact ⟨_, by omega, rfl⟩
    · rw [if_neg e]
      obtain ⟨c0, k1, k2⟩ := hk g (by omega)
      refine ⟨c0, k1, ?_⟩
      have e5 : gf (newN N m a y s) g 3 = gf N g 3 := newN_x (by omega) (by omega) (by omega)
      rw [e5]
      exact k2
  · rw [if_neg c, if_neg c]; exact hk
theorem rg_all {N : Nat → Int32} {f k m T : Nat} (h : AllOk N f k m T) : AllOk (rgS N m k m).1 f k m T := by
  obtain ⟨-, h1, h2, h3, -⟩ := rgS_live h.rg
  exact ⟨h1, h2, h3⟩
theorem pk_all {N : Nat → Int32} {f k m T : Nat} (h : AllOk N f k m T) : AllOk (pkS N m f k).1 f k m T := by
  obtain ⟨ok, hs, hk⟩ := h
  obtain ⟨h1, h2, h3, h4, -⟩ := pkS_ok2 (N := N) ok ok.1.2.1.2.2
  exact ⟨h1, h3 hs, KeepC.okK h4 ok.1.2.2.2 hk⟩
theorem way_all {N : Nat → Int32} {f k m T : Nat} {x : Int32} (h : AllOk N f k m T) : AllOk (wayN N x) f k m T := by
  unfold wayN
  by_cases c : inL x 0 2 = true
  · rw [if_pos c]
    obtain ⟨ok, hs, hk⟩ := h
    have hm := ok.1.2.2.2
    obtain ⟨e1, e2, e3⟩ := inL_t c
    refine ⟨ok.ext (fun a ha => up_n (by omega)) (up_n (by omega)) (up_n (by omega)) (up_n (by omega)) (up_n (by omega)), ⟨?_, ?_⟩, (keep_u (by omega)).okK hm hk⟩
    · rw [up_s, e1]
      rcases (by omega : tN x = 0 ∨ tN x = 1 ∨ tN x = 2) with e | e | e <;> rw [e]
      · exact Or.inl rfl
      · exact Or.inr (Or.inl rfl)
      · exact Or.inr (Or.inr rfl)
    · rw [up_n (by omega)]; exact hs.2
  · rw [if_neg c]; exact h
theorem gap_all {N : Nat → Int32} {f k m T : Nat} {x : Int32} (h : AllOk N f k m T) : AllOk (gapN N x) f k m T := by
  unfold gapN
  by_cases c : inL x 1 20 = true
  · rw [if_pos c]
    obtain ⟨ok, hs, hk⟩ := h
    have hm := ok.1.2.2.2
    obtain ⟨e1, e2, e3⟩ := inL_t c
    refine ⟨ok.ext (fun a ha => up_n (by omega)) (up_n (by omega)) (up_n (by omega)) (up_n (by omega)) (up_n (by omega)), ⟨?_, ?_⟩, (keep_u (by omega)).okK hm hk⟩
    · rw [up_n (by omega)]; exact hs.1
    · rw [up_s]; exact ⟨tN x, e2, e3, e1⟩
  · rw [if_neg c]; exact h
theorem kind_ok {N : Nat → Int32} {f k m T c qa qb qr : Nat} (h : AllOk N f k m T) (hc : c < 4) (ha : qa ≤ 5) (hb : qb ≤ 9) (hr1 : 1 ≤ qr) (hr : qr ≤ 8) : AllOk (upd (upd (upd N (8 * c + 0) (nI qa)) (8 * c + 1) (nI qb)) (8 * c + 2) (nI qr)) f k m T := by
  obtain ⟨⟨b, hgr, hw, ht, hkk, hd⟩, hs, hk⟩ := h
  have hm := b.2.2.2
  have o : ∀ a, 32 ≤ a → (upd (upd (upd N (8 * c + 0) (nI qa)) (8 * c + 1) (nI qb)) (8 * c + 2) (nI qr)) a = N a := fun a ha => by rw [up_n (by omega), up_n (by omega), up_n (by omega)]
  have C : ∀ c2 j, c2 < 4 → 3 ≤ j → j < 8 → cf (upd (upd (upd N (8 * c + 0) (nI qa)) (8 * c + 1) (nI qb)) (8 * c + 2) (nI qr)) c2 j = cf N c2 j := fun c2 j h1 h2 h3 => by rw [cf_u (by omega), cf_u (by omega), cf_u (by omega)]
  refine ⟨⟨b.of (o _ (by omega)) (o _ (by omega)) (o _ (by omega)), grp_o hgr o, fun c2 hc2 => ?_, time_o ht (o _ (by omega)) (fun g h1 => ⟨o _ (by omega), o _ (by omega)⟩), fun c2 hc2 => ?_, fun a ha => by rw [o _ (by omega)]; exact hd a ha⟩, hs.of (o _ (by omega)) (o _ (by omega)), fun g hg => ?_⟩
  · exact (hw c2 hc2).ext (C c2 3 hc2 (by omega) (by omega)) (C c2 4 hc2 (by omega) (by omega)) (C c2 6 hc2 (by omega) (by omega)) (C c2 7 hc2 (by omega) (by omega)) (fun g hg => ⟨o _ (by omega), o _ (by omega), fun _ => o _ (by omega)⟩)
  · by_cases e : c2 = c
    · subst e
      exact ⟨⟨qa, ha, by rw [cf_u (by omega), cf_u (by omega)]; exact cf_s⟩, ⟨qb, hb, by rw [cf_u (by omega)]; exact cf_s⟩, ⟨qr, hr1, hr, cf_s⟩⟩
    · rw [cf_u (by omega), cf_u (by omega), cf_u (by omega), cf_u (by omega), cf_u (by omega), cf_u (by omega), cf_u (by omega), cf_u (by omega), cf_u (by omega)]
      exact hkk c2 hc2
  · obtain ⟨c0, k1, k2⟩ := hk g hg
    exact ⟨c0, k1, (o (32 + 8 * g + 3) (by omega)).trans k2⟩
theorem car_all {N : Nat → Int32} {f k m T : Nat} {x a b r : Int32} (h : AllOk N f k m T) : AllOk (carN N m k x a b r) f k m T := by
  have hk4 := h.1.1.2.1.2.2
  unfold carN
  split
  · rename_i c
    split
    · exact h
    · rw [Bool.and_eq_true, Bool.and_eq_true, Bool.and_eq_true] at c
      obtain ⟨e1, h1⟩ := inR_t c.1.1.1
      obtain ⟨e2, h2, h3⟩ := inL_t c.1.1.2
      obtain ⟨e4, h4, h5⟩ := inL_t c.1.2
      obtain ⟨e6, h6, h7⟩ := inL_t c.2
      rw [e2, e4, e6]
      exact kind_ok h (by omega) h3 h5 h6 h7
  · exact h
theorem giv_all {N : Nat → Int32} {f k m T : Nat} {x y : Int32} (h : AllOk N f k m T) : AllOk (givN N m k x y) f k m T := by
  have hk4 := h.1.1.2.1.2.2
  unfold givN
  split
  · rename_i c
    rw [Bool.and_eq_true] at c
    obtain ⟨e1, h1⟩ := inR_t c.1
    obtain ⟨e2, h2⟩ := inR_t c.2
    split
    · rename_i c2
      obtain ⟨-, -, -, q, hq, e7⟩ := h.1.2.1 _ h1
      have hq2 : q < 2 := by
        by_cases e : q = 2
        · subst e; exact absurd e7 c2.2.2.1
        · omega
      obtain ⟨r1, r2, r3, -⟩ := anew_rg h.rg h1 h2 c2.1 e7 hq2
      exact ⟨r1, r2, r3⟩
    · exact h
  · exact h
theorem bld_all {N : Nat → Int32} {f k : Nat} (hs : SetOk N) (hf1 : 2 ≤ f) (hf : f ≤ 12) (hk1 : 1 ≤ k) (hk : k ≤ 4) : AllOk (bldN N (nI f) (nI k)) f k 0 0 := bld_ok hs hf1 hf hk1 hk
