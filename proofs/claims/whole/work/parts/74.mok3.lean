/-! what a car's tick keeps: the end, and all of it -/
theorem stops_b {N : Nat → Int32} {f m c : Nat} (hf : f ≤ 12) (h7 : cf N c 7 = -1 ∨ ∃ a, a < f ∧ cf N c 7 = nI a) (ro : RoutOk N f m) : ∃ b, stopsM N c m = nI b ∧ b < 2 ^ f := by
  have key : ∀ n, n ≤ m → ∀ b, b < 2 ^ f → ∃ b', itr (stF N c) (nI b) n = nI b' ∧ b' < 2 ^ f := by
    intro n
    induction n with
    | zero => exact fun _ b hb => ⟨b, rfl, hb⟩
    | succ n ih =>
      intro hn b hb
      obtain ⟨b1, h1, h2⟩ := ih (by omega) b hb
      obtain ⟨x, y, hx, hy, hxy, q0, q1⟩ := ro n (by omega)
      rw [itr_s, h1]
      unfold stF
      rw [q0, q1, shl_n (by omega), shl_n (by omega)]
      split
      · rw [or_n]; exact ⟨_, rfl, Nat.or_lt_two_pow h2 (Nat.pow_lt_pow_right (by omega) hx)⟩
      · split
        · rw [or_n]; exact ⟨_, rfl, Nat.or_lt_two_pow h2 (Nat.pow_lt_pow_right (by omega) hy)⟩
        · rw [or_n0]; exact ⟨_, rfl, h2⟩
  unfold stopsM
  rcases h7 with h7 | ⟨a, ha, h7⟩
  · rw [if_pos h7]; exact key m (Nat.le_refl m) 0 (Nat.two_pow_pos f)
  · have := nI_m1 (a := a) (by omega)
    rw [if_neg (by rw [h7, this]; exact id), h7, shl_n (by omega)]
    exact key m (Nat.le_refl m) _ (Nat.pow_lt_pow_right (by omega) ha)
theorem ahead_1 {b x f : Nat} (hb : b < 2 ^ f) (hf : f ≤ 12) (hx : x < f) (h : ahead (nI b) (nI x) (nI 1) = true) : x + 1 < f := by
  have hb2 : b < 4096 := Nat.lt_of_lt_of_le hb (Nat.pow_le_pow_right (by omega) hf)
  by_cases c : x + 1 < f
  · exact c
  · unfold ahead at h
    rw [if_pos rfl, nI_add, shr_n (by omega) (by omega), Nat.div_eq_of_lt (by rw [show x + 1 = f by omega]; exact hb), decide_eq_true rfl] at h
    cases h
theorem ahead_2 {b x : Nat} (h : ahead (nI b) (nI x) (nI 2) = true) : 1 ≤ x := by
  by_cases c : 1 ≤ x
  · exact c
  · have e : x = 0 := by omega
    subst e
    unfold ahead at h
    rw [if_neg (by decide), if_pos rfl, show shl (nI 1) (nI 0) - nI 1 = nI 0 by decide, and_n, Nat.and_zero, decide_eq_true rfl] at h
    cases h
theorem own_mv5 {N : Nat → Int32} {f m c j : Nat} (h : Own N f m c 0) (hc : c < 4) (hm : m ≤ 40) (hf : f ≤ 12) (ro : RoutOk N f m) (hs : ∀ g, g < m → ∃ s, 1 ≤ s ∧ s ≤ 8 ∧ gf N g 2 = nI s) (h0 : cf N c 6 = nI 0) : Own (mv5 N c m j) f m c 0 := by
  obtain ⟨⟨x, hx, k3, k6, kr⟩, k4, k7, kp⟩ := h
  unfold mv5
  split
  · refine ⟨⟨x, hx, by rw [cf_u (by omega)]; exact k3, by rw [cf_u (by omega), cf_u (by omega)]; exact k6, fun g y g1 g2 g3 g4 g5 => ?_⟩, by rw [cf_u (by omega)]; exact k4, by rw [cf_u (by omega)]; exact k7, fun g g1 g2 g3 => ?_⟩
    · rw [gf_u (by omega)] at g2 g3 g5
      rw [cf_u (by omega)]
      exact kr g y g1 g2 g3 g4 g5
    · rw [gf_u (by omega)] at g2 g3
      rw [cf_u (by omega)]
      exact kp g g1 g2 g3
  · split
    · rename_i hj hh
      obtain ⟨b, hb, hbf⟩ := stops_b hf k7 ro
      dsimp only
      have w : (cf N c 4 = nI 1 ∧ x + 1 < f) ∨ (cf N c 4 = nI 2 ∧ 1 ≤ x) := by
        obtain ⟨h1, h2⟩ := hh
        rcases h2 with h2 | h2
        · rw [load_gt hs hm] at h2
          obtain ⟨g, g1, g2, g3⟩ := load_ex h2 (Nat.le_refl m)
          obtain ⟨a, y, ha, hy, hay, q0, q1⟩ := ro g g1
          rcases kr g y g1 g2 g3 hy q1 with ⟨a1, a2⟩ | ⟨a1, a2⟩
          · exact Or.inl ⟨a1, by omega⟩
          · exact Or.inr ⟨a1, by omega⟩
        · rw [hb, k3] at h2
          rcases k4 with e | e | e
          · rw [e] at h1; exact absurd h1 (by decide)
          · rw [e] at h2; exact Or.inl ⟨e, ahead_1 hbf hf hx h2⟩
          · rw [e] at h2; exact Or.inr ⟨e, ahead_2 h2⟩
      refine ⟨⟨x, hx, by rw [cf_u (by omega), cf_u (by omega)]; exact k3, Or.inr ⟨by rw [cf_u (by omega)]; exact cf_s, by rw [cf_u (by omega), cf_u (by omega)]; exact w⟩, fun g y g1 g2 g3 g4 g5 => ?_⟩, by rw [cf_u (by omega), cf_u (by omega)]; exact k4, by rw [cf_u (by omega), cf_u (by omega)]; exact k7, fun g g1 g2 g3 => ?_⟩
      · rw [gf_u (by omega), gf_u (by omega)] at g2 g3 g5
        rw [cf_u (by omega), cf_u (by omega)]
        exact kr g y g1 g2 g3 g4 g5
      · rw [gf_u (by omega), gf_u (by omega)] at g2 g3
        rw [cf_u (by omega), cf_u (by omega)]
        exact kp g g1 g2 g3
    · rename_i hj hh
      refine ⟨⟨x, hx, by rw [cf_u (by omega)]; exact k3, Or.inl (by rw [cf_u (by omega)]; exact h0), fun g y g1 g2 g3 g4 g5 => ?_⟩, Or.inl cf_s, by rw [cf_u (by omega)]; exact k7, fun g g1 g2 g3 => ?_⟩
      · exfalso
        rw [gf_u (by omega)] at g2 g3 g5
        have hl : ¬ loadM N c m = nI 0 := fun e => load_0 hs hm e g1 ⟨g2, g3⟩
        refine hh ⟨?_, Or.inl (by rw [load_gt hs hm]; exact hl)⟩
        rcases kr g y g1 g2 g3 g4 g5 with ⟨a1, a2⟩ | ⟨a1, a2⟩
        · rw [a1]; decide
        · rw [a1]; decide
      · rw [gf_u (by omega)] at g2 g3
        rw [cf_u (by omega)]
        exact kp g g1 g2 g3
theorem GrpOk.rout {N : Nat → Int32} {f m : Nat} (h : GrpOk N f m) : RoutOk N f m := fun g hg => (h g hg).2.1
theorem GrpOk.size {N : Nat → Int32} {f m : Nat} (h : GrpOk N f m) : ∀ g, g < m → ∃ s, 1 ≤ s ∧ s ≤ 8 ∧ gf N g 2 = nI s := fun g hg => (h g hg).2.2.1
theorem Only.grp {N N' : Nat → Int32} {f m c : Nat} (h : Only c m N N') (hg : GrpOk N f m) (hh : HowOk N' m) : GrpOk N' f m := fun g h1 => by
  obtain ⟨-, k2, k3, k4⟩ := hg g h1
  refine ⟨hh g h1, ?_, ?_, ?_⟩
  · rw [h.2.1 g 0 h1 (by omega) (by omega), h.2.1 g 1 h1 (by omega) (by omega)]; exact k2
  · rw [h.2.1 g 2 h1 (by omega) (by omega)]; exact k3
  · rw [h.2.1 g 7 h1 (by omega) (by omega)]; exact k4
theorem how_lv {N : Nat → Int32} {c m : Nat} (hc : c < 4) (hm : m ≤ 40) (h : HowOk N m) : HowOk (lvN N c m) m := fun g hg => by
  rw [(lvN_at (N := N) hc hm (Nat.le_refl m)).2.2 g hg]
  split
  · exact Or.inr (Or.inr rfl)
  · exact h g hg
theorem how_bd {N : Nat → Int32} {c m : Nat} (hm : m ≤ 40) (h : HowOk N m) : ∀ {n : Nat}, n ≤ m → HowOk (bdS N c m n).1 m
  | 0, _ => h
  | n + 1, hn => by
    have ih := how_bd (c := c) hm h (n := n) (by omega)
    refine bdF_c (P := fun t => HowOk t.1 m) ih ih (fun _ _ _ _ => fun g hg => ?_)
    dsimp only
    by_cases e : g = n
    · subst e
      exact Or.inr (Or.inl (bd1_4 (by omega)))
    · rw [bd1_gf (by omega) (by omega) (by omega) (Or.inl e)]
      exact ih g hg
theorem how_o {N N' : Nat → Int32} {m : Nat} (h : HowOk N m) (ho : ∀ a, 32 ≤ a → N' a = N a) : HowOk N' m := fun g hg => by
  unfold gf
  rw [ho _ (by omega)]
  exact h g hg
theorem grp_o {N N' : Nat → Int32} {f m : Nat} (h : GrpOk N f m) (ho : ∀ a, 32 ≤ a → N' a = N a) : GrpOk N' f m := fun g hg => by
  unfold gf
  rw [ho _ (by omega), ho _ (by omega), ho _ (by omega), ho _ (by omega), ho _ (by omega)]
  exact h g hg
/-- of the numbers behind those that leave: a group's, a car's -/
theorem act_ok1 {N : Nat → Int32} {f m c : Nat} (h : Own N f m c 0) (hg : GrpOk N f m) (hc : c < 4) (hm : m ≤ 40) (hf : f ≤ 12) :
    Own (lvN (mv3 (mv2 N c) c) c m) f m c 0 ∧ cf (lvN (mv3 (mv2 N c) c) c m) c 6 = nI 0 ∧ GrpOk (lvN (mv3 (mv2 N c) c) c m) f m ∧ GrpOk (mv3 (mv2 N c) c) f m := by
  obtain ⟨h1, e1⟩ := own_mv2 h hc hf hm
  obtain ⟨h2, e2⟩ := own_mv3 h1 hc e1
  obtain ⟨h3, e3⟩ := own_lv h2 hc hm hf e2
  have g2 : GrpOk (mv3 (mv2 N c) c) f m := grp_o hg (fun a ha => by rw [mv3_o hc ha, mv2_o hc ha])
  exact ⟨h3, e3, (only_lvN hm (Nat.le_refl m)).grp g2 (how_lv hc hm g2.how), g2⟩
theorem own_act {N : Nat → Int32} {f m c : Nat} (h : Own N f m c 0) (hg : GrpOk N f m) (hc : c < 4) (hm : m ≤ 40) (hf : f ≤ 12) : Own (actN N c m) f m c 0 ∧ GrpOk (actN N c m) f m := by
  obtain ⟨h3, e3, g3, -⟩ := act_ok1 h hg hc hm hf
  obtain ⟨h4, e4⟩ := own_mv4 h3 hc hm g3.size e3
  have g4 : GrpOk (mv4 (lvN (mv3 (mv2 N c) c) c m) c m) f m := grp_o g3 (fun a ha => mv4_o hc ha)
  obtain ⟨h5, r5, e5⟩ := own_bd (N := mv4 (lvN (mv3 (mv2 N c) c) c m) c m) ⟨h4, g4.rout, e4⟩ hc hm hf (Nat.le_refl m)
  have g5 : GrpOk (bdS (mv4 (lvN (mv3 (mv2 N c) c) c m) c m) c m m).1 f m := (only_bdS hm (Nat.le_refl m)).grp g4 (how_bd hm g4.how (Nat.le_refl m))
  unfold actN
  dsimp only
  exact ⟨own_mv5 h5 hc hm hf r5 g5.size e5, grp_o g5 (fun a ha => mv5_o hc ha)⟩
theorem own_mvN {N : Nat → Int32} {f m c : Nat} (h : Own N f m c 0) (hg : GrpOk N f m) (hc : c < 4) (hm : m ≤ 40) (hf : f ≤ 12) : Own (mvN N c m) f m c 0 ∧ GrpOk (mvN N c m) f m := by
  have h1 := own_mv1 h hc
  have g1 : GrpOk (mv1 N c) f m := grp_o hg (fun a ha => mv1_o hc ha)
  unfold mvN
  split
  · exact own_act h1 g1 hc hm hf
  · exact ⟨h1, g1⟩
def TimeOk (N : Nat → Int32) (m T : Nat) : Prop := N 447 = nI T ∧ ∀ g, g < m → ∃ t w, t ≤ T ∧ w ≤ T ∧ gf N g 5 = nI t ∧ gf N g 6 = nI w
theorem time_o {N N' : Nat → Int32} {m T : Nat} (h : TimeOk N m T) (h7 : N' 447 = N 447) (hg : ∀ g, g < m → gf N' g 5 = gf N g 5 ∧ gf N' g 6 = gf N g 6) : TimeOk N' m T := by
  refine ⟨by rw [h7]; exact h.1, fun g h1 => ?_⟩
  rw [(hg g h1).1, (hg g h1).2]
  exact h.2 g h1
theorem time_bdF {s : (Nat → Int32) × Nat × Bool} {c m n T : Nat} (hm : m ≤ 40) (ih : TimeOk s.1 m T) (hn : n < m) : TimeOk (bdF c m n s).1 m T := by
  refine bdF_c (P := fun t => TimeOk t.1 m T) ih ih (fun _ _ _ _ => ?_)
  (try dsimp only)
  have e7 : (bd1 s.1 n s.2.2) 447 = s.1 447 := by
    unfold bd1
    (try dsimp only)
    rw [up_n (by omega), hap_o (by omega), up_n (by omega), up_n (by omega)]
  refine ⟨by rw [e7]; exact ih.1, fun g hg => ?_⟩
  obtain ⟨t, w, t1, w1, q5, q6⟩ := ih.2 g hg
  by_cases e : g = n
  · subst e
    refine ⟨t, T - t, t1, by omega, by rw [bd1_gf (by omega) (by omega) (by omega) (Or.inr (by omega))]; exact q5, ?_⟩
    unfold bd1
    (try dsimp only)
    rw [gf_u (by omega), gf_hap (by omega)]
    refine up_s.trans ?_
    rw [up_n (by omega), gf_u (by omega), ih.1, q5, i_sub t1]
  · rw [bd1_gf (by omega) (by omega) (by omega) (Or.inl e), bd1_gf (by omega) (by omega) (by omega) (Or.inl e)]
    exact ⟨t, w, t1, w1, q5, q6⟩
theorem time_bd {N : Nat → Int32} {c m T : Nat} (hm : m ≤ 40) (h : TimeOk N m T) : ∀ {n : Nat}, n ≤ m → TimeOk (bdS N c m n).1 m T
  | 0, _ => h
  | n + 1, hn => time_bdF hm (time_bd hm h (n := n) (by omega)) (by omega)
theorem time_mvN {N : Nat → Int32} {c m T : Nat} (hc : c < 4) (hm : m ≤ 40) (h : TimeOk N m T) : TimeOk (mvN N c m) m T := by
  have o : ∀ {A B : Nat → Int32}, (∀ a, 32 ≤ a → B a = A a) → TimeOk A m T → TimeOk B m T := fun hab ha => time_o ha (hab _ (by omega)) (fun g hg => ⟨hab _ (by omega), hab _ (by omega)⟩)
  have h1 : TimeOk (mv1 N c) m T := o (fun a ha => mv1_o hc ha) h
  unfold mvN
  split
  · unfold actN
    dsimp only
    have h2 := o (fun a ha => mv2_o hc ha) h1
    have h3 := o (fun a ha => mv3_o hc ha) h2
    have h4 : TimeOk (lvN (mv3 (mv2 (mv1 N c) c) c) c m) m T := time_o h3 (lvN_o (by unfold fixA; omega) hm) (fun g hg => ⟨(lvN_at hc hm (Nat.le_refl m)).2.1 g 5 hg (by omega) (by omega), (lvN_at hc hm (Nat.le_refl m)).2.1 g 6 hg (by omega) (by omega)⟩)
    have h5 := o (fun a ha => mv4_o (m := m) hc ha) h4
    exact o (fun a ha => mv5_o hc ha) (time_bd hm h5 (Nat.le_refl m))
  · exact h1
def KindOk (N : Nat → Int32) : Prop := ∀ c, c < 4 → (∃ q, q ≤ 5 ∧ cf N c 0 = nI q) ∧ (∃ q, q ≤ 9 ∧ cf N c 1 = nI q) ∧ (∃ q, 1 ≤ q ∧ q ≤ 8 ∧ cf N c 2 = nI q)
def DemOk (N : Nat → Int32) (m : Nat) : Prop := ∀ a, a < 12 → ∃ q, q ≤ m ∧ N (352 + a) = nI q
/-- what holds of a hall's numbers between the calls -/
def Ok (N : Nat → Int32) (f k m T : Nat) : Prop := Bnd N f k m ∧ GrpOk N f m ∧ (∀ c, c < 4 → Own N f m c 0) ∧ TimeOk N m T ∧ KindOk N ∧ DemOk N m
theorem mvN_ok {N : Nat → Int32} {f k m T c : Nat} (h : Ok N f k m T) (hc : c < 4) : Ok (mvN N c m) f k m T := by
  obtain ⟨hb, hg, hw, ht, hk, hd⟩ := h
  have hm := hb.2.2.2
  have hf := hb.1.2.2
  have on := only_mvN (N := N) hc hm
  obtain ⟨w1, g1⟩ := own_mvN (hw c hc) hg hc hm hf
  refine ⟨hb.of (on.2.2.2 _ (by omega) (by omega) (by omega)) (on.2.2.2 _ (by omega) (by omega) (by omega)) (on.2.2.2 _ (by omega) (by omega) (by omega)), g1, fun c2 hc2 => ?_, time_mvN hc hm ht, fun c2 hc2 => ?_, fun a ha => ?_⟩
  · by_cases e : c2 = c
    · subst e; exact w1
    · exact (hw c2 hc2).other on hc2 hc e
  · rw [on.1 c2 0 hc2 (by omega) (Or.inr (by omega)), on.1 c2 1 hc2 (by omega) (Or.inr (by omega)), on.1 c2 2 hc2 (by omega) (Or.inr (by omega))]
    exact hk c2 hc2
  · rw [on.2.2.1 _ (by omega) (by omega)]
    exact hd a ha
theorem up447_ok {N : Nat → Int32} {f k m T : Nat} (h : Ok N f k m T) : Ok (upd N 447 (N 447 + nI 1)) f k m (T + 1) := by
  obtain ⟨hb, hg, hw, ht, hk, hd⟩ := h
  have hm := hb.2.2.2
  have e : ∀ a, a ≠ 447 → upd N 447 (N 447 + nI 1) a = N a := fun a ha => up_n ha
  have eg : ∀ g j, g < m → j < 8 → gf (upd N 447 (N 447 + nI 1)) g j = gf N g j := fun g j hg hj => gf_u (by omega)
  have ec : ∀ c j, c < 4 → j < 8 → cf (upd N 447 (N 447 + nI 1)) c j = cf N c j := fun c j hc hj => cf_u (by omega)
  refine ⟨hb.of (e _ (by omega)) (e _ (by omega)) (e _ (by omega)), fun g h1 => ?_, fun c hc => ?_, ⟨?_, fun g h1 => ?_⟩, fun c hc => ?_, fun a ha => ?_⟩
  · rw [eg g 4 h1 (by omega), eg g 0 h1 (by omega), eg g 1 h1 (by omega), eg g 2 h1 (by omega), eg g 7 h1 (by omega)]
    exact hg g h1
  · exact (hw c hc).ext (ec c 3 hc (by omega)) (ec c 4 hc (by omega)) (ec c 6 hc (by omega)) (ec c 7 hc (by omega)) (fun g h1 => ⟨eg g 1 h1 (by omega), eg g 3 h1 (by omega), fun _ => eg g 4 h1 (by omega)⟩)
  · rw [up_s, ht.1, nI_add]
  · rw [eg g 5 h1 (by omega), eg g 6 h1 (by omega)]
    obtain ⟨t, w, t1, w1, q⟩ := ht.2 g h1
    exact ⟨t, w, by omega, by omega, q⟩
  · rw [ec c 0 hc (by omega), ec c 1 hc (by omega), ec c 2 hc (by omega)]
    exact hk c hc
  · rw [e _ (by omega)]; exact hd a ha
theorem psS_ok {N : Nat → Int32} {f k m T : Nat} (h : Ok N f k m T) : ∀ {n : Nat}, n ≤ 4 → Ok (psS N m n).1 f k m (T + 1)
  | 0, _ => up447_ok h
  | n + 1, hn => mvN_ok (psS_ok h (n := n) (by omega)) (by omega)
