/-! the class: giving anew -/
def CarK (N : Nat → Int32) (m k : Nat) : Prop := ∀ g, g < m → ∃ c, c < k ∧ gf N g 3 = nI c
theorem sub_i {a b : Nat} (ha : a < 100000) (hb : b < 100000) : (nI a - nI b).toInt = (a : Int) - b := by
  rw [Int32.toInt_sub, i_toInt (by omega), i_toInt (by omega), Int.bmod_eq_of_le (by omega) (by omega)]
theorem abs_n {a b : Nat} (ha : a < 100000) (hb : b < 100000) : ∃ q, mabs (nI a - nI b) = nI q ∧ q ≤ a + b := by
  unfold mabs
  by_cases h : b ≤ a
  · rw [if_pos (by rw [i_sub h]; exact nI_pos' (by omega)), i_sub h]
    exact ⟨_, rfl, by omega⟩
  · have n1 : ¬ (0 : Int32) ≤ nI a - nI b := by
      rw [Int32.le_iff_toInt_le, sub_i ha hb]
      show ¬ (0 : Int) ≤ _
      omega
    rw [if_neg n1, Int32.zero_sub, Int32.neg_sub, i_sub (by omega)]
    exact ⟨_, rfl, by omega⟩
theorem near_q {N : Nat → Int32} {f m c : Nat} {a : Nat} (hw : Own N f m c 0) (hf : N 444 = nI f) (hf4 : f ≤ 12) (ha : a < f) : ∃ q, nearM N (nI a) c = nI q ∧ q ≤ 100 := by
  obtain ⟨⟨x, hx, k3, -⟩, -⟩ := hw
  unfold nearM
  rw [k3, hf]
  obtain ⟨q, h1, h2⟩ := abs_n (a := a) (b := x) (by omega) (by omega)
  rw [h1, pk_mul]
  split
  · rw [nI_add]; exact ⟨_, rfl, by omega⟩
  · rw [nI_add]; exact ⟨_, rfl, by omega⟩
theorem oth_q {N : Nat → Int32} {g c : Nat} : ∀ {n : Nat}, (∀ g, g < n → ∃ s, 1 ≤ s ∧ s ≤ 8 ∧ gf N g 2 = nI s) → ∃ q, othM N g c n = nI q ∧ q ≤ 8 * n
  | 0, _ => ⟨0, rfl, Nat.le_refl _⟩
  | n + 1, h => by
    obtain ⟨q, h1, h2⟩ := oth_q (N := N) (g := g) (c := c) (n := n) (fun g hg => h g (by omega))
    obtain ⟨s, s1, s2, s3⟩ := h n (by omega)
    have e : othM N g c (n + 1) = othM N g c n + (if ¬ n = g ∧ gf N n 3 = nI c ∧ ¬ gf N n 4 = nI 2 then gf N n 2 else nI 0) := rfl
    rw [e, h1, s3]
    split
    · rw [nI_add]; exact ⟨_, rfl, by omega⟩
    · rw [nI_add]; exact ⟨_, rfl, by omega⟩
theorem cost_q {N : Nat → Int32} {f k m T g c : Nat} (ok : Ok N f k m T) (hg : g < m) (hc : c < 4) : ∃ q, costM N m k g c = nI q ∧ q ≤ 9999 := by
  obtain ⟨⟨⟨hf, hf1, hf4⟩, -, -, hm⟩, hgr, hwa, -⟩ := ok
  obtain ⟨-, ⟨a, b, ha, hb, hab, q0, q1⟩, -⟩ := hgr g hg
  unfold costM
  rw [q0]
  obtain ⟨qn, n1, n2⟩ := near_q (hwa c hc) hf hf4 ha
  split
  · exact ⟨999, rfl, by omega⟩
  · split
    · exact ⟨qn, n1, by omega⟩
    · split
      · obtain ⟨qo, o1, o2⟩ := oth_q (N := N) (g := g) (c := c) (n := m) hgr.size
        rw [o1, n1, pk_mul, nI_add]
        exact ⟨_, rfl, by omega⟩
      · have ht : tkM N m k g c (nI 1) 120 ≤ 121 := tkR_le
        unfold mmin
        split
        · exact ⟨_, rfl, by omega⟩
        · exact ⟨120, rfl, by omega⟩
theorem ch_cost {N : Nat → Int32} {m k g : Nat} : ∀ {n : Nat}, (chS N m k g n).2 = costM N m k g (chS N m k g n).1
  | 0 => rfl
  | n + 1 => by
    have ih := ch_cost (N := N) (m := m) (k := k) (g := g) (n := n)
    have e1 : chS N m k g (n + 1) = (if costM N m k g (n + 1) < (chS N m k g n).2 then n + 1 else (chS N m k g n).1, mmin (chS N m k g n).2 (costM N m k g (n + 1))) := rfl
    rw [e1]
    dsimp only
    unfold mmin
    by_cases c : costM N m k g (n + 1) < (chS N m k g n).2
    · rw [if_pos c, if_pos c]
    · rw [if_neg c, if_neg c]; exact ih
/-- the class's walk for a cost below a bound -/
def rcF (N : Nat → Int32) (m k g : Nat) (c : Nat) (s : Nat × Int32) : Nat × Int32 := if costM N m k g c < s.2 then (c, costM N m k g c) else s
theorem rc_ch {N : Nat → Int32} {m k g cg : Nat} {b0 : Int32} : ∀ {n : Nat}, itr (rcF N m k g) (cg, b0) (n + 1) = if (chS N m k g n).2 < b0 then chS N m k g n else (cg, b0)
  | 0 => rfl
  | n + 1 => by
    rw [itr_s, rc_ch (n := n)]
    have e1 : chS N m k g (n + 1) = (if costM N m k g (n + 1) < (chS N m k g n).2 then n + 1 else (chS N m k g n).1, mmin (chS N m k g n).2 (costM N m k g (n + 1))) := rfl
    rw [e1]
    unfold rcF mmin
    generalize costM N m k g (n + 1) = w at *
    generalize chS N m k g n = M at *
    dsimp only
    by_cases c1 : M.2 < b0
    · rw [if_pos c1]
      by_cases c2 : w < M.2
      · have c3 : w < b0 := by rw [Int32.lt_iff_toInt_lt] at *; omega
        rw [if_pos c2, if_pos c2, if_pos c2, if_pos c3]
      · rw [if_neg c2, if_neg c2, if_neg c2, if_pos c1]
    · rw [if_neg c1]
      dsimp only
      by_cases c2 : w < b0
      · have c3 : w < M.2 := by rw [Int32.lt_iff_toInt_lt] at *; omega
        rw [if_pos c2, if_pos c3, if_pos c3, if_pos c2]
      · rw [if_neg c2]
        by_cases c3 : w < M.2
        · rw [if_pos c3, if_neg c2]
        · rw [if_neg c3, if_neg c1]
theorem Ok.given {N : Nat → Int32} {f k m T g q : Nat} (h : Ok N f k m T) (hg : g < m) (hq : q ≤ 2) : Ok (upd N (32 + 8 * g + 7) (nI q)) f k m T := by
  obtain ⟨b, hgr, hw, ht, hk, hd⟩ := h
  have hm := b.2.2.2
  refine ⟨b.of (up_n (by omega)) (up_n (by omega)) (up_n (by omega)), fun g2 h1 => ?_, fun c hc => ?_, time_o ht (up_n (by omega)) (fun g h1 => ⟨gf_u (by omega), gf_u (by omega)⟩), fun c hc => ?_, fun a ha => ?_⟩
  · rw [gf_u (by omega), gf_u (by omega), gf_u (by omega), gf_u (by omega)]
    obtain ⟨k1, k2, k3, k4⟩ := hgr g2 h1
    refine ⟨k1, k2, k3, ?_⟩
    by_cases e : g2 = g
    · subst e
      exact ⟨q, hq, up_s⟩
    · rw [gf_u (by omega)]; exact k4
  · exact (hw c hc).ext (cf_u (by omega)) (cf_u (by omega)) (cf_u (by omega)) (cf_u (by omega)) (fun g h1 => ⟨gf_u (by omega), gf_u (by omega), fun _ => gf_u (by omega)⟩)
  · rw [cf_u (by omega), cf_u (by omega), cf_u (by omega)]
    exact hk c hc
  · rw [up_n (by omega)]; exact hd a ha
theorem anew_ok {N : Nat → Int32} {f k m T g c q : Nat} (h : Ok N f k m T) (hg : g < m) (hc : c < 4) (h0 : gf N g 4 = nI 0) (hq : gf N g 7 = nI q) (hq2 : q < 2) : Ok (anewN N g c) f k m T := by
  have hm := h.1.2.2.2
  have h7 : gf (ownN N g c) g 7 = nI q := by
    unfold ownN
    split
    · exact hq
    · rw [gf_u (by omega), gf_u (by omega)]; exact hq
  unfold anewN
  (try dsimp only)
  rw [h7, nI_add]
  exact hap_ok ((ownN_ok h hg hc h0).given hg (by omega))
theorem anew_gf {N : Nat → Int32} {g c g2 j : Nat} (hg : g < 40) (hc : c < 4) (hg2 : g2 < 40) (hj : j < 8) (h : g2 ≠ g ∨ (j ≠ 3 ∧ j ≠ 7)) : gf (anewN N g c) g2 j = gf N g2 j := by
  unfold anewN
  (try dsimp only)
  rw [gf_hap (by omega), gf_u (by omega)]
  unfold ownN
  split
  · rfl
  · rw [gf_u (by omega), gf_u (by omega)]
theorem anew_car2 {N : Nat → Int32} {g c g2 : Nat} (hg : g < 40) (hc : c < 4) (hg2 : g2 < 40) : gf (anewN N g c) g2 3 = if g2 = g then nI c else gf N g2 3 := by
  unfold anewN
  (try dsimp only)
  rw [gf_hap (by omega), gf_u (by omega), own_car hg hg2 hc]
/-- all that a regiving keeps -/
def RgOk (N0 N : Nat → Int32) (f k m T : Nat) : Prop := Ok N f k m T ∧ SetOk N ∧ CarK N m k ∧ SameD N0 N m
theorem anew_rg {N0 N : Nat → Int32} {f k m T g c q : Nat} (h : RgOk N0 N f k m T) (hg : g < m) (hc : c < k) (h0 : gf N g 4 = nI 0) (hq : gf N g 7 = nI q) (hq2 : q < 2) : RgOk N0 (anewN N g c) f k m T := by
  obtain ⟨ok, hs, hk, hd⟩ := h
  have hm := ok.1.2.2.2
  have hk4 := ok.1.2.1.2.2
  refine ⟨anew_ok ok hg (by omega) h0 hq hq2, hs.of (anewN_o (by omega) (by omega) (by omega) (by omega)) (anewN_o (by omega) (by omega) (by omega) (by omega)), fun g2 h2 => ?_, fun g2 h2 => ?_⟩
  · rw [anew_car2 (by omega) (by omega) (by omega)]
    split
    · exact ⟨c, hc, rfl⟩
    · exact hk g2 h2
  · rw [anew_gf (by omega) (by omega) (by omega) (by omega) (Or.inr (by omega))]
    exact hd g2 h2
theorem rgF_rg {N0 : Nat → Int32} {f k m T g : Nat} {s : (Nat → Int32) × Nat} (h : RgOk N0 s.1 f k m T) (hg : g < m) : RgOk N0 (rgF m k g s).1 f k m T := by
  unfold rgF
  by_cases c : rgB s.1 m k g = true
  · rw [if_pos c]
    unfold rgB at c
    rw [Bool.and_eq_true, Bool.and_eq_true, Bool.not_eq_true', decide_eq_true_eq, decide_eq_false_iff_not] at c
    have hb : (chS s.1 m k g (k - 1)).1 ≤ k - 1 := chS_le
    have hk1 := h.1.1.2.1.2.1
    obtain ⟨-, -, -, q, hq, hq2⟩ := h.1.2.1 g hg
    refine anew_rg h hg (by omega) c.1.1 hq2 ?_
    by_cases e : q = 2
    · subst e; exact absurd hq2 c.1.2
    · omega
  · rw [if_neg c]; exact h
theorem rgF_skip {N0 : Nat → Int32} {m k g : Nat} {s : (Nat → Int32) × Nat} (hg : g < m) (h2 : gf N0 g 4 = nI 2) (h : SameD N0 s.1 m) : rgF m k g s = s := by
  unfold rgF
  rw [if_neg]
  intro c
  unfold rgB at c
  rw [Bool.and_eq_true, Bool.and_eq_true, decide_eq_true_eq, (h g hg).mp h2] at c
  exact absurd c.1.1 (by decide)
theorem rgF_t {m k g : Nat} {s : (Nat → Int32) × Nat} (h : rgB s.1 m k g = true) : rgF m k g s = (anewN s.1 g (chS s.1 m k g (k - 1)).1, s.2 + 1) := if_pos h
theorem rgF_f {m k g : Nat} {s : (Nat → Int32) × Nat} (h : ¬ rgB s.1 m k g = true) : rgF m k g s = s := if_neg h
theorem rgF_le {m k g : Nat} {s : (Nat → Int32) × Nat} : (rgF m k g s).2 ≤ s.2 + 1 := by
  by_cases h : rgB s.1 m k g = true
  · rw [rgF_t h]; exact Nat.le_refl _
  · rw [rgF_f h]; exact Nat.le_succ _
theorem rgS_live {N : Nat → Int32} {f k m T : Nat} (h : RgOk N N f k m T) : itr (fun i s => rgF m k ((live N m).getD i 0) s) (N, 0) (live N m).length = rgS N m k m ∧ RgOk N (rgS N m k m).1 f k m T := by
  refine ⟨lv_itr (f := rgF m k) (fun s => RgOk N s.1 f k m T) h (fun g s hg hp => rgF_rg hp hg) (fun g s hg h2 hp => rgF_skip hg h2 hp.2.2.2), ?_⟩
  exact (live_fold (f := rgF m k) (N := N) (a := (N, 0)) (fun s => RgOk N s.1 f k m T) h (m := m) (fun g s hg hp => rgF_rg hp hg) (fun g s hg h2 hp => rgF_skip hg h2 hp.2.2.2)).2
