/-! the model: groups keep their cars -/
def KeepC (N N' : Nat → Int32) : Prop := ∀ g, g < 40 → gf N' g 3 = gf N g 3
theorem KeepC.refl {N : Nat → Int32} : KeepC N N := fun _ _ => rfl
theorem KeepC.trans {N N' N'' : Nat → Int32} (h : KeepC N N') (h2 : KeepC N' N'') : KeepC N N'' := fun g hg => (h2 g hg).trans (h g hg)
theorem KeepC.ok {N N' : Nat → Int32} {m : Nat} (h : KeepC N N') (hm : m ≤ 40) (hc : CarOk N m) : CarOk N' m := fun g hg => by
  obtain ⟨c, h1, h2⟩ := hc g hg
  exact ⟨c, h1, by rw [h g (by omega), h2]⟩
theorem keep_u {N : Nat → Int32} {a : Nat} {v : Int32} (h : a < 32 ∨ 352 ≤ a) : KeepC N (upd N a v) := fun g hg => gf_u (by omega)
theorem keep_g {N : Nat → Int32} {g j : Nat} {v : Int32} (hg : g < 40) (hj : j < 8) (h : j ≠ 3) : KeepC N (upd N (32 + 8 * g + j) v) := fun g2 hg2 => gf_u (by omega)
theorem keep_h {N : Nat → Int32} {w : Int32} {g : Nat} : KeepC N (hapM N w g) := fun g2 hg2 => gf_hap (by omega)
theorem keep_lvF {N : Nat → Int32} {c g : Nat} (hg : g < 40) : KeepC N (lvF c g N) := by
  unfold lvF
  split
  · exact (keep_g hg (by omega) (by omega)).trans keep_h
  · exact KeepC.refl
theorem keep_lvN {N : Nat → Int32} {c : Nat} : ∀ {n : Nat}, n ≤ 40 → KeepC N (lvN N c n)
  | 0, _ => KeepC.refl
  | n + 1, h => (keep_lvN (n := n) (by omega)).trans (keep_lvF (by omega))
theorem keep_bdF {c m g : Nat} {s : (Nat → Int32) × Nat × Bool} (hg : g < 40) : KeepC s.1 (bdF c m g s).1 := by
  unfold bdF
  split
  · split
    · exact KeepC.refl
    · exact (((keep_g hg (by omega) (by omega)).trans (keep_g hg (by omega) (by omega))).trans keep_h).trans (keep_u (by omega))
  · exact KeepC.refl
theorem keep_bdS {N : Nat → Int32} {c m : Nat} : ∀ {n : Nat}, n ≤ 40 → KeepC N (bdS N c m n).1
  | 0, _ => KeepC.refl
  | n + 1, h => (keep_bdS (n := n) (by omega)).trans (keep_bdF (by omega))
theorem keep_mv1 {N : Nat → Int32} {c : Nat} (hc : c < 4) : KeepC N (mv1 N c) := fun g hg => mv1_o hc (by omega)
theorem keep_mv2 {N : Nat → Int32} {c : Nat} (hc : c < 4) : KeepC N (mv2 N c) := fun g hg => mv2_o hc (by omega)
theorem keep_mv3 {N : Nat → Int32} {c : Nat} (hc : c < 4) : KeepC N (mv3 N c) := fun g hg => mv3_o hc (by omega)
theorem keep_mv4 {N : Nat → Int32} {c m : Nat} (hc : c < 4) : KeepC N (mv4 N c m) := fun g hg => mv4_o hc (by omega)
theorem keep_mv5 {N : Nat → Int32} {c m j : Nat} (hc : c < 4) : KeepC N (mv5 N c m j) := fun g hg => mv5_o hc (by omega)
theorem keep_mvN {N : Nat → Int32} {c m : Nat} (hc : c < 4) (hm : m ≤ 40) : KeepC N (mvN N c m) := by
  unfold mvN
  split
  · unfold actN
    exact ((((((keep_mv1 hc).trans (keep_mv2 hc)).trans (keep_mv3 hc)).trans (keep_lvN hm)).trans (keep_mv4 hc)).trans (keep_bdS hm)).trans (keep_mv5 hc)
  · exact keep_mv1 hc
theorem keep_psS {N : Nat → Int32} {m : Nat} (hm : m ≤ 40) : ∀ {k : Nat}, k ≤ 4 → KeepC N (psS N m k).1
  | 0, _ => keep_u (by omega)
  | k + 1, h => (keep_psS hm (k := k) (by omega)).trans (keep_mvN (by omega) hm)
theorem keep_tsS {N : Nat → Int32} {m k : Nat} (hm : m ≤ 40) (hk : k ≤ 4) : ∀ {n : Nat}, KeepC N (tsS N m k n).1
  | 0 => KeepC.refl
  | n + 1 => (keep_tsS hm hk (n := n)).trans (keep_psS hm hk)
theorem take_car {N : Nat → Int32} {m k a : Nat} {y s : Int32} (ha : a < 12) (hm : m < 40) (hk1 : 1 ≤ k) (hk4 : k ≤ 4) (h : CarOk N m) : CarOk (takeN N m k a y s) (m + 1) := by
  have hb : (chS (newN N m a y s) (m + 1) k m (k - 1)).1 ≤ k - 1 := chS_le
  intro g hg
  unfold takeN
  dsimp only
  rw [gf_hap (by omega), own_car hm (by omega) (by omega)]
  by_cases e : g = m
  · rw [if_pos e]
    exact ⟨_, by omega, rfl⟩
  · rw [if_neg e]
    obtain ⟨c, h1, h2⟩ := h g (by omega)
    refine ⟨c, h1, ?_⟩
    rw [← h2]
    unfold newN
    dsimp only
    rw [gf_u (by omega), gf_u (by omega), gf_u (by omega), gf_u (by omega), gf_u (by omega), gf_u (by omega), gf_u (by omega), gf_u (by omega), gf_u (by omega), gf_u (by omega)]
theorem cl_car {N : Nat → Int32} {f k m : Nat} {x y s : Int32} (h : Bnd N f k m) (hc : CarOk N m) : ∃ m', Bnd (clN N f m k x y s) f k m' ∧ CarOk (clN N f m k x y s) m' := by
  obtain ⟨⟨hf, hf1, hf4⟩, ⟨hk, hk1, hk4⟩, hm, hm4⟩ := h
  unfold clN
  by_cases c : (okC f x y s && roomM N s k && !fullM N m) = true
  · rw [if_pos c]
    simp only [Bool.and_eq_true, Bool.not_eq_true'] at c
    obtain ⟨⟨c1, c2⟩, c3⟩ := c
    have c1' := (okC_iff.mp c1).1
    have ha : x.toInt.toNat < 12 := by omega
    have hm40 : m < 40 := by
      unfold fullM at c3
      by_cases e : m = 40
      · rw [decide_eq_true e, Bool.true_or] at c3
        cases c3
      · omega
    refine ⟨m + 1, ⟨⟨?_, hf1, hf4⟩, ⟨?_, hk1, hk4⟩, takeN_m ha hm40 hk1 hk4 hm, by omega⟩, take_car ha hm40 hk1 hk4 hc⟩
    · rw [takeN_o ha hm40 hk1 hk4 (by omega) (by omega) (by omega), hf]
    · rw [takeN_o ha hm40 hk1 hk4 (by omega) (by omega) (by omega), hk]
  · rw [if_neg c]
    exact ⟨m, ⟨⟨hf, hf1, hf4⟩, ⟨hk, hk1, hk4⟩, hm, hm4⟩, hc⟩
