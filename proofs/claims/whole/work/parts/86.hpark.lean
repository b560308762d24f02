/-! the class: parking -/
def fdV (N : Nat → Int32) (f i : Nat) : Int32 := match fbR N f i f with
  | some a => if nI 0 < N (352 + a) then nI a else -1
  | none => -1
theorem own_0 {N : Nat → Int32} {c m : Nat} : ∀ {n : Nat}, ownM N c n = 0 → n ≤ m → ∀ g, g < n → gf N g 3 = nI c → gf N g 4 = nI 2
  | 0, _, _, g, hg, _ => absurd hg (Nat.not_lt_zero g)
  | n + 1, h, hn, g, hg, h3 => by
    have e : ownM N c (n + 1) = ownM N c n + (if gf N n 3 = nI c ∧ ¬ gf N n 4 = nI 2 then 1 else 0) := rfl
    rw [e] at h
    by_cases eg : g = n
    · subst eg
      by_cases c4 : gf N g 4 = nI 2
      · exact c4
      · rw [if_pos ⟨h3, c4⟩] at h; omega
    · exact own_0 (n := n) (m := m) (by omega) (by omega) g (by omega) h3
theorem park_ok {N : Nat → Int32} {f k m T c a : Nat} (h : Ok N f k m T) (hc : c < 4) (ha : a < f) (h0 : ownM N c m = 0) : Ok (upd N (8 * c + 7) (nI a)) f k m T := by
  obtain ⟨b, hgr, hw, ht, hk, hd⟩ := h
  have hm := b.2.2.2
  refine ⟨b.of (up_n (by omega)) (up_n (by omega)) (up_n (by omega)), grp_o hgr (fun a ha => up_n (by omega)), fun c2 hc2 => ?_, time_o ht (up_n (by omega)) (fun g h1 => ⟨gf_u (by omega), gf_u (by omega)⟩), fun c2 hc2 => ?_, fun a ha => by rw [up_n (by omega)]; exact hd a ha⟩
  · obtain ⟨⟨x, hx, k3, k6, kr⟩, k4, k7, kp⟩ := hw c2 hc2
    refine ⟨⟨x, hx, by rw [cf_u (by omega)]; exact k3, by rw [cf_u (by omega), cf_u (by omega)]; exact k6, fun g2 y g1 q2 q3 q4 q5 => ?_⟩, by rw [cf_u (by omega)]; exact k4, ?_, fun g2 g1 q2 q3 => ?_⟩
    · rw [gf_u (by omega)] at q2 q3 q5
      rw [cf_u (by omega)]
      exact kr g2 y g1 q2 q3 q4 q5
    · by_cases e : c2 = c
      · subst e; exact Or.inr ⟨a, ha, cf_s⟩
      · rw [cf_u (by omega)]; exact k7
    · rw [gf_u (by omega)] at q2 q3
      by_cases e : c2 = c
      · subst e; exact absurd (own_0 h0 (Nat.le_refl m) g2 g1 q2) q3
      · rw [cf_u (by omega)]; exact kp g2 g1 q2 q3
  · rw [cf_u (by omega), cf_u (by omega), cf_u (by omega)]
    exact hk c2 hc2
theorem pkF_ok {f k m T c : Nat} {s : (Nat → Int32) × Nat × Nat} (h : Ok s.1 f k m T) (hc : c < 4) : Ok (pkF m f c s).1 f k m T ∧ live (pkF m f c s).1 m = live s.1 m ∧ (SetOk s.1 → SetOk (pkF m f c s).1) ∧ (∀ g, g < 40 → gf (pkF m f c s).1 g 3 = gf s.1 g 3) := by
  have hf := h.1.1.2.1
  unfold pkF
  by_cases e : pkB s.1 m c = true
  · rw [if_pos e]
    unfold pkB at e
    rw [Bool.and_eq_true, Bool.and_eq_true, decide_eq_true_eq] at e
    cases ef : fbR s.1 f s.2.2 f with
    | none => exact ⟨h, rfl, id, fun _ _ => rfl⟩
    | some a =>
      dsimp only
      split
      · exact ⟨park_ok h hc (fbR_lt (by omega) ef) e.1.1, live_eq (fun g hg => by rw [gf_u (by omega)]), fun hs => hs.of (up_n (by omega)) (up_n (by omega)), fun g hg => gf_u (by omega)⟩
      · exact ⟨h, rfl, id, fun _ _ => rfl⟩
  · rw [if_neg e]; exact ⟨h, rfl, id, fun _ _ => rfl⟩
theorem pkS_ok2 {N : Nat → Int32} {f k m T : Nat} (h : Ok N f k m T) : ∀ {n : Nat}, n ≤ 4 → Ok (pkS N m f n).1 f k m T ∧ live (pkS N m f n).1 m = live N m ∧ (SetOk N → SetOk (pkS N m f n).1) ∧ (∀ g, g < 40 → gf (pkS N m f n).1 g 3 = gf N g 3) ∧ (pkS N m f n).2.1 ≤ n ∧ (pkS N m f n).2.2 ≤ n
  | 0, _ => ⟨h, rfl, id, fun _ _ => rfl, Nat.le_refl _, Nat.le_refl _⟩
  | n + 1, hn => by
    obtain ⟨h1, h2, h3, h4, h5, h6⟩ := pkS_ok2 h (n := n) (by omega)
    obtain ⟨g1, g2, g3, g4⟩ := pkF_ok (c := n) h1 (by omega)
    have e : pkS N m f (n + 1) = pkF m f n (pkS N m f n) := rfl
    rw [e]
    refine ⟨g1, g2.trans h2, fun hs => g3 (h3 hs), fun g hg => (g4 g hg).trans (h4 g hg), ?_, ?_⟩
    · unfold pkF
      split
      · split
        · split
          · dsimp only; omega
          · dsimp only; omega
        · dsimp only; omega
      · omega
    · unfold pkF
      split
      · split
        · split
          · dsimp only; omega
          · dsimp only; omega
        · dsimp only; omega
      · omega
section
variable {X : pX} {d : Nat} {I : pI} {Q : Option Value → pG → pI → Prop} {o p o2 p2 : Nat} {N : Nat → Int32} {m : Nat} {L : List Nat}
theorem h_ahead {f a : Nat} {x : Int32} (hr : HR o p I N m L) (hf : N 444 = nI f) (hf4 : f ≤ 12) (ha : a < 12) (hd : DemOk N m) : At X d 51 15 [some (.ref o), some (.int x), some (.int (nI a)), some (.int (nI 0)), some (.int (nI 0))] [] G0 I Q ↔ At X d 51 71 [some (.ref o), some (.int x), some (.int (nI a)), some (.int (nI (aheadM N a f))), some (.int (nI f))] [] G0 I Q := by
  have ho := hr.ho
  have l12 := hr.l12
  have m40 := hr.m40
  refine loop_up (P := fun b => At X d 51 15 [some (.ref o), some (.int x), some (.int (nI a)), some (.int (nI (aheadM N a b))), some (.int (nI b))] [] G0 I Q) (n := f) ?_ ?_ 0 (Nat.zero_le _)
  · simp (disch := first | exact ok_i | exact ok_r | exact ok_n | exact cat_i | exact cat_r | exact ho.tag | exact ho.tg | exact ho.tj | exact ho.tp | exact ho.tC (by omega) (by omega) | exact ho.tA (by omega) (by omega) | exact ho.tJ (by omega) (by omega) | exact ro_0 | exact ro_1 | omega | assumption | exact ho.nC (by omega) | exact ho.nL (by omega) | exact ho.nD (by omega) | exact ho.nJ (by omega) (by omega) (by omega) | exact ho.nA (by omega) (by omega) (by omega) | (simp only [List.map_cons, List.map_nil, List.sum_cons, List.sum_nil, cat_i, cat_r, cat_l, Nat.reduceAdd, Nat.reduceLeDiff]; done) | decide) only [s51_15, s51_17, s51_18, s51_21, tl_s, tl_n, nI_add, pk_mul, i_cl, row_s, u2_row, i_le, i_lt, i_eq, if_true, if_false, Nat.le_refl, Nat.reduceEqDiff, Nat.reduceLeDiff, ho.r6, ho.r7, ho.r8, ho.r9, ho.rc, ho.g0, ho.g1, ho.g2, ho.g3, ho.g4, ho.g5, ho.g6, ho.g7, ho.g8, ho.j0, ho.j1, ho.j2, ho.j3, hr.o0, hr.o1, hr.o2, hr.o3, hr.o4, hr.o5, hr.c0, hr.c1, hr.c2, hr.c3, hr.c4, hr.c5, hr.c6, hr.c7, hr.mc, hr.lc, hr.g0, hr.g1, hr.g2, hr.g3, hr.g4, hr.g5, hr.g6, hr.g7, hr.dm, hf]
  · intro b hb
    have n1 : ¬ f ≤ b := by omega
    have hl := aheadM_le (N := N) (a := a) (n := b)
    obtain ⟨qa, a1, a2⟩ := hd a (by omega)
    obtain ⟨qb, b1, b2⟩ := hd b (by omega)
    have e1 : aheadM N a (b + 1) = aheadM N a b + (if nI 0 < N (352 + b) - N (352 + a) ∨ (N (352 + b) - N (352 + a) = nI 0 ∧ b < a) then 1 else 0) := rfl
    have e2 : (nI 0 < nI qb - nI qa) = (qa < qb) := by
      rw [Int32.lt_iff_toInt_lt, sub_i (by omega) (by omega)]
      apply propext
      show (0 : Int) < _ ↔ _
      omega
    have e3 : (nI qb - nI qa = nI 0) = (qb = qa) := by
      apply propext
      rw [← Int32.toInt_inj, sub_i (by omega) (by omega)]
      show _ = (0 : Int) ↔ _
      omega
    rw [s51_15, e1, a2, b2]
    simp only [e2, e3]
    simp (disch := first | exact ok_i | exact ok_r | exact ok_n | exact cat_i | exact cat_r | exact ho.tag | exact ho.tg | exact ho.tj | exact ho.tp | exact ho.tC (by omega) (by omega) | exact ho.tA (by omega) (by omega) | exact ho.tJ (by omega) (by omega) | exact ro_0 | exact ro_1 | omega | assumption | exact ho.nC (by omega) | exact ho.nL (by omega) | exact ho.nD (by omega) | exact ho.nJ (by omega) (by omega) (by omega) | exact ho.nA (by omega) (by omega) (by omega) | (simp only [List.map_cons, List.map_nil, List.sum_cons, List.sum_nil, cat_i, cat_r, cat_l, Nat.reduceAdd, Nat.reduceLeDiff]; done) | decide) only [s51_17, s51_18, s51_21, s51_24, s51_25, s51_28, s51_30, s51_31, s51_32, s51_35, s51_36, s51_37, tl_s, tl_n, nI_add, pk_mul, i_cl, row_s, u2_row, i_le, i_lt, i_eq, if_true, if_false, Nat.le_refl, Nat.reduceEqDiff, Nat.reduceLeDiff, ho.r6, ho.r7, ho.r8, ho.r9, ho.rc, ho.g0, ho.g1, ho.g2, ho.g3, ho.g4, ho.g5, ho.g6, ho.g7, ho.g8, ho.j0, ho.j1, ho.j2, ho.j3, hr.o0, hr.o1, hr.o2, hr.o3, hr.o4, hr.o5, hr.c0, hr.c1, hr.c2, hr.c3, hr.c4, hr.c5, hr.c6, hr.c7, hr.mc, hr.lc, hr.g0, hr.g1, hr.g2, hr.g3, hr.g4, hr.g5, hr.g6, hr.g7, hr.dm, hf, n1, a2, b2]
    by_cases c1 : qa < qb
    · rw [if_pos (Or.inl c1)]
      simp (disch := first | exact ok_i | exact ok_r | exact ok_n | exact cat_i | exact cat_r | exact ho.tag | exact ho.tg | exact ho.tj | exact ho.tp | exact ho.tC (by omega) (by omega) | exact ho.tA (by omega) (by omega) | exact ho.tJ (by omega) (by omega) | exact ro_0 | exact ro_1 | omega | assumption | exact ho.nC (by omega) | exact ho.nL (by omega) | exact ho.nD (by omega) | exact ho.nJ (by omega) (by omega) (by omega) | exact ho.nA (by omega) (by omega) (by omega) | (simp only [List.map_cons, List.map_nil, List.sum_cons, List.sum_nil, cat_i, cat_r, cat_l, Nat.reduceAdd, Nat.reduceLeDiff]; done) | decide) only [c1, s51_62, s51_65, s51_68, tl_s, tl_n, nI_add, pk_mul, i_cl, row_s, u2_row, i_le, i_lt, i_eq, if_true, if_false, Nat.le_refl, Nat.reduceEqDiff, Nat.reduceLeDiff]
    · simp (disch := first | exact ok_i | exact ok_r | exact ok_n | exact cat_i | exact cat_r | exact ho.tag | exact ho.tg | exact ho.tj | exact ho.tp | exact ho.tC (by omega) (by omega) | exact ho.tA (by omega) (by omega) | exact ho.tJ (by omega) (by omega) | exact ro_0 | exact ro_1 | omega | assumption | exact ho.nC (by omega) | exact ho.nL (by omega) | exact ho.nD (by omega) | exact ho.nJ (by omega) (by omega) (by omega) | exact ho.nA (by omega) (by omega) (by omega) | (simp only [List.map_cons, List.map_nil, List.sum_cons, List.sum_nil, cat_i, cat_r, cat_l, Nat.reduceAdd, Nat.reduceLeDiff]; done) | decide) only [c1, s51_40, s51_41, s51_44, s51_46, s51_47, s51_48, s51_51, s51_52, s51_53, tl_s, tl_n, nI_add, pk_mul, i_cl, row_s, u2_row, i_le, i_lt, i_eq, if_true, if_false, Nat.le_refl, Nat.reduceEqDiff, Nat.reduceLeDiff, ho.r6, ho.r7, ho.r8, ho.r9, ho.rc, ho.g0, ho.g1, ho.g2, ho.g3, ho.g4, ho.g5, ho.g6, ho.g7, ho.g8, ho.j0, ho.j1, ho.j2, ho.j3, hr.o0, hr.o1, hr.o2, hr.o3, hr.o4, hr.o5, hr.c0, hr.c1, hr.c2, hr.c3, hr.c4, hr.c5, hr.c6, hr.c7, hr.mc, hr.lc, hr.g0, hr.g1, hr.g2, hr.g3, hr.g4, hr.g5, hr.g6, hr.g7, hr.dm, a2, b2, false_or]
      by_cases c2 : qb = qa
      · simp (disch := first | exact ok_i | exact ok_r | exact ok_n | exact cat_i | exact cat_r | exact ho.tag | exact ho.tg | exact ho.tj | exact ho.tp | exact ho.tC (by omega) (by omega) | exact ho.tA (by omega) (by omega) | exact ho.tJ (by omega) (by omega) | exact ro_0 | exact ro_1 | omega | assumption | exact ho.nC (by omega) | exact ho.nL (by omega) | exact ho.nD (by omega) | exact ho.nJ (by omega) (by omega) (by omega) | exact ho.nA (by omega) (by omega) (by omega) | (simp only [List.map_cons, List.map_nil, List.sum_cons, List.sum_nil, cat_i, cat_r, cat_l, Nat.reduceAdd, Nat.reduceLeDiff]; done) | decide) only [c2, s51_56, s51_58, s51_59, tl_s, tl_n, nI_add, pk_mul, i_cl, row_s, u2_row, i_le, i_lt, i_eq, if_true, if_false, Nat.le_refl, Nat.reduceEqDiff, Nat.reduceLeDiff, true_and]
        by_cases c3 : b < a
        · have c4 : ¬ a ≤ b := by omega
          simp (disch := first | exact ok_i | exact ok_r | exact ok_n | exact cat_i | exact cat_r | exact ho.tag | exact ho.tg | exact ho.tj | exact ho.tp | exact ho.tC (by omega) (by omega) | exact ho.tA (by omega) (by omega) | exact ho.tJ (by omega) (by omega) | exact ro_0 | exact ro_1 | omega | assumption | exact ho.nC (by omega) | exact ho.nL (by omega) | exact ho.nD (by omega) | exact ho.nJ (by omega) (by omega) (by omega) | exact ho.nA (by omega) (by omega) (by omega) | (simp only [List.map_cons, List.map_nil, List.sum_cons, List.sum_nil, cat_i, cat_r, cat_l, Nat.reduceAdd, Nat.reduceLeDiff]; done) | decide) only [c3, c4, s51_62, s51_65, s51_68, tl_s, tl_n, nI_add, pk_mul, i_cl, row_s, u2_row, i_le, i_lt, i_eq, if_true, if_false, Nat.le_refl, Nat.reduceEqDiff, Nat.reduceLeDiff]
        · have c4 : a ≤ b := by omega
          simp (disch := first | exact ok_i | exact ok_r | exact ok_n | exact cat_i | exact cat_r | exact ho.tag | exact ho.tg | exact ho.tj | exact ho.tp | exact ho.tC (by omega) (by omega) | exact ho.tA (by omega) (by omega) | exact ho.tJ (by omega) (by omega) | exact ro_0 | exact ro_1 | omega | assumption | exact ho.nC (by omega) | exact ho.nL (by omega) | exact ho.nD (by omega) | exact ho.nJ (by omega) (by omega) (by omega) | exact ho.nA (by omega) (by omega) (by omega) | (simp only [List.map_cons, List.map_nil, List.sum_cons, List.sum_nil, cat_i, cat_r, cat_l, Nat.reduceAdd, Nat.reduceLeDiff]; done) | decide) only [c3, c4, s51_65, s51_68, tl_s, tl_n, nI_add, pk_mul, i_cl, row_s, u2_row, i_le, i_lt, i_eq, if_true, if_false, Nat.le_refl, Nat.reduceEqDiff, Nat.reduceLeDiff, Nat.add_zero]
      · simp (disch := first | exact ok_i | exact ok_r | exact ok_n | exact cat_i | exact cat_r | exact ho.tag | exact ho.tg | exact ho.tj | exact ho.tp | exact ho.tC (by omega) (by omega) | exact ho.tA (by omega) (by omega) | exact ho.tJ (by omega) (by omega) | exact ro_0 | exact ro_1 | omega | assumption | exact ho.nC (by omega) | exact ho.nL (by omega) | exact ho.nD (by omega) | exact ho.nJ (by omega) (by omega) (by omega) | exact ho.nA (by omega) (by omega) (by omega) | (simp only [List.map_cons, List.map_nil, List.sum_cons, List.sum_nil, cat_i, cat_r, cat_l, Nat.reduceAdd, Nat.reduceLeDiff]; done) | decide) only [c2, s51_65, s51_68, tl_s, tl_n, nI_add, pk_mul, i_cl, row_s, u2_row, i_le, i_lt, i_eq, if_true, if_false, Nat.le_refl, Nat.reduceEqDiff, Nat.reduceLeDiff, false_and, Nat.add_zero]
theorem h_floorBy {f i : Nat} (hr : HR o p I N m L) (hf : N 444 = nI f) (hf4 : f ≤ 12) (hi : i < 100) (hd : DemOk N m) : Call X (d + 1) 51 [.ref o, .int (nI i)] G0 I Q ↔ Q (some (.int (fdV N f i))) G0 I := by
  have ho := hr.ho
  have l12 := hr.l12
  have m40 := hr.m40
  simp (disch := first | exact ok_i | exact ok_r | exact ok_n | exact cat_i | exact cat_r | exact ho.tag | exact ho.tg | exact ho.tj | exact ho.tp | exact ho.tC (by omega) (by omega) | exact ho.tA (by omega) (by omega) | exact ho.tJ (by omega) (by omega) | exact ro_0 | exact ro_1 | omega | assumption | exact ho.nC (by omega) | exact ho.nL (by omega) | exact ho.nD (by omega) | exact ho.nJ (by omega) (by omega) (by omega) | exact ho.nA (by omega) (by omega) (by omega) | (simp only [List.map_cons, List.map_nil, List.sum_cons, List.sum_nil, cat_i, cat_r, cat_l, Nat.reduceAdd, Nat.reduceLeDiff]; done) | decide) only [e51, s51_0, s51_1, tl_s, tl_n, nI_add, pk_mul, i_cl, row_s, u2_row, i_le, i_lt, i_eq, if_true, if_false, Nat.le_refl, Nat.reduceEqDiff, Nat.reduceLeDiff]
  have key : ∀ r, r ≤ f → ∀ l3 l4 : Option Value, okL l3 = true → okL l4 = true → (At X d 51 2 [some (.ref o), some (.int (nI i)), some (.int (nI (f - r))), l3, l4] [] G0 I Q ↔ Q (some (.int (match fbR N f i r with | some a => if nI 0 < N (352 + a) then nI a else -1 | none => -1))) G0 I) := by
    intro r
    induction r with
    | zero =>
      intro _ l3 l4 hl3 hl4
      simp (disch := first | exact ok_i | exact ok_r | exact ok_n | exact cat_i | exact cat_r | exact ho.tag | exact ho.tg | exact ho.tj | exact ho.tp | exact ho.tC (by omega) (by omega) | exact ho.tA (by omega) (by omega) | exact ho.tJ (by omega) (by omega) | exact ro_0 | exact ro_1 | omega | assumption | exact ho.nC (by omega) | exact ho.nL (by omega) | exact ho.nD (by omega) | exact ho.nJ (by omega) (by omega) (by omega) | exact ho.nA (by omega) (by omega) (by omega) | (simp only [List.map_cons, List.map_nil, List.sum_cons, List.sum_nil, cat_i, cat_r, cat_l, Nat.reduceAdd, Nat.reduceLeDiff]; done) | decide) only [s51_2, s51_3, s51_4, s51_7, s51_97, s51_98, tl_s, tl_n, nI_add, pk_mul, i_cl, row_s, u2_row, i_le, i_lt, i_eq, if_true, if_false, Nat.le_refl, Nat.reduceEqDiff, Nat.reduceLeDiff, ho.r6, ho.r7, ho.r8, ho.r9, ho.rc, ho.g0, ho.g1, ho.g2, ho.g3, ho.g4, ho.g5, ho.g6, ho.g7, ho.g8, ho.j0, ho.j1, ho.j2, ho.j3, hr.o0, hr.o1, hr.o2, hr.o3, hr.o4, hr.o5, hr.c0, hr.c1, hr.c2, hr.c3, hr.c4, hr.c5, hr.c6, hr.c7, hr.mc, hr.lc, hr.g0, hr.g1, hr.g2, hr.g3, hr.g4, hr.g5, hr.g6, hr.g7, hr.dm, hf, Nat.sub_zero, fbR]
    | succ r ih =>
      intro hr2 l3 l4 hl3 hl4
      have n1 : ¬ f ≤ f - (r + 1) := by omega
      have e2 : f - (r + 1) + 1 = f - r := by omega
      have hl := aheadM_le (N := N) (a := f - (r + 1)) (n := f)
      have ef : fbR N f i (r + 1) = if aheadM N (f - (r + 1)) f = i then some (f - (r + 1)) else fbR N f i r := rfl
      obtain ⟨qa, a1, a2⟩ := hd (f - (r + 1)) (by omega)
      rw [s51_2, ef]
      simp (disch := first | exact ok_i | exact ok_r | exact ok_n | exact cat_i | exact cat_r | exact ho.tag | exact ho.tg | exact ho.tj | exact ho.tp | exact ho.tC (by omega) (by omega) | exact ho.tA (by omega) (by omega) | exact ho.tJ (by omega) (by omega) | exact ro_0 | exact ro_1 | omega | assumption | exact ho.nC (by omega) | exact ho.nL (by omega) | exact ho.nD (by omega) | exact ho.nJ (by omega) (by omega) (by omega) | exact ho.nA (by omega) (by omega) (by omega) | (simp only [List.map_cons, List.map_nil, List.sum_cons, List.sum_nil, cat_i, cat_r, cat_l, Nat.reduceAdd, Nat.reduceLeDiff]; done) | decide) only [s51_3, s51_4, s51_7, s51_10, s51_11, s51_12, s51_13, tl_s, tl_n, nI_add, pk_mul, i_cl, row_s, u2_row, i_le, i_lt, i_eq, if_true, if_false, Nat.le_refl, Nat.reduceEqDiff, Nat.reduceLeDiff, ho.r6, ho.r7, ho.r8, ho.r9, ho.rc, ho.g0, ho.g1, ho.g2, ho.g3, ho.g4, ho.g5, ho.g6, ho.g7, ho.g8, ho.j0, ho.j1, ho.j2, ho.j3, hr.o0, hr.o1, hr.o2, hr.o3, hr.o4, hr.o5, hr.c0, hr.c1, hr.c2, hr.c3, hr.c4, hr.c5, hr.c6, hr.c7, hr.mc, hr.lc, hr.g0, hr.g1, hr.g2, hr.g3, hr.g4, hr.g5, hr.g6, hr.g7, hr.dm, hf, n1]
      rw [h_ahead hr hf hf4 (by omega) hd]
      simp (disch := first | exact ok_i | exact ok_r | exact ok_n | exact cat_i | exact cat_r | exact ho.tag | exact ho.tg | exact ho.tj | exact ho.tp | exact ho.tC (by omega) (by omega) | exact ho.tA (by omega) (by omega) | exact ho.tJ (by omega) (by omega) | exact ro_0 | exact ro_1 | omega | assumption | exact ho.nC (by omega) | exact ho.nL (by omega) | exact ho.nD (by omega) | exact ho.nJ (by omega) (by omega) (by omega) | exact ho.nA (by omega) (by omega) (by omega) | (simp only [List.map_cons, List.map_nil, List.sum_cons, List.sum_nil, cat_i, cat_r, cat_l, Nat.reduceAdd, Nat.reduceLeDiff]; done) | decide) only [s51_71, s51_72, s51_73, tl_s, tl_n, nI_add, pk_mul, i_cl, row_s, u2_row, i_le, i_lt, i_eq, if_true, if_false, Nat.le_refl, Nat.reduceEqDiff, Nat.reduceLeDiff]
      by_cases c1 : aheadM N (f - (r + 1)) f = i
      · rw [if_pos c1, if_pos c1]
        dsimp only
        simp (disch := first | exact ok_i | exact ok_r | exact ok_n | exact cat_i | exact cat_r | exact ho.tag | exact ho.tg | exact ho.tj | exact ho.tp | exact ho.tC (by omega) (by omega) | exact ho.tA (by omega) (by omega) | exact ho.tJ (by omega) (by omega) | exact ro_0 | exact ro_1 | omega | assumption | exact ho.nC (by omega) | exact ho.nL (by omega) | exact ho.nD (by omega) | exact ho.nJ (by omega) (by omega) (by omega) | exact ho.nA (by omega) (by omega) (by omega) | (simp only [List.map_cons, List.map_nil, List.sum_cons, List.sum_nil, cat_i, cat_r, cat_l, Nat.reduceAdd, Nat.reduceLeDiff]; done) | decide) only [s51_76, s51_77, s51_80, s51_81, s51_82, tl_s, tl_n, nI_add, pk_mul, i_cl, row_s, u2_row, i_le, i_lt, i_eq, if_true, if_false, Nat.le_refl, Nat.reduceEqDiff, Nat.reduceLeDiff, ho.r6, ho.r7, ho.r8, ho.r9, ho.rc, ho.g0, ho.g1, ho.g2, ho.g3, ho.g4, ho.g5, ho.g6, ho.g7, ho.g8, ho.j0, ho.j1, ho.j2, ho.j3, hr.o0, hr.o1, hr.o2, hr.o3, hr.o4, hr.o5, hr.c0, hr.c1, hr.c2, hr.c3, hr.c4, hr.c5, hr.c6, hr.c7, hr.mc, hr.lc, hr.g0, hr.g1, hr.g2, hr.g3, hr.g4, hr.g5, hr.g6, hr.g7, hr.dm, a2]
        by_cases c2 : qa ≤ 0
        · have c3 : ¬ 0 < qa := by omega
          simp (disch := first | exact ok_i | exact ok_r | exact ok_n | exact cat_i | exact cat_r | exact ho.tag | exact ho.tg | exact ho.tj | exact ho.tp | exact ho.tC (by omega) (by omega) | exact ho.tA (by omega) (by omega) | exact ho.tJ (by omega) (by omega) | exact ro_0 | exact ro_1 | omega | assumption | exact ho.nC (by omega) | exact ho.nL (by omega) | exact ho.nD (by omega) | exact ho.nJ (by omega) (by omega) (by omega) | exact ho.nA (by omega) (by omega) (by omega) | (simp only [List.map_cons, List.map_nil, List.sum_cons, List.sum_nil, cat_i, cat_r, cat_l, Nat.reduceAdd, Nat.reduceLeDiff]; done) | decide) only [c2, c3, s51_89, s51_90, tl_s, tl_n, nI_add, pk_mul, i_cl, row_s, u2_row, i_le, i_lt, i_eq, if_true, if_false, Nat.le_refl, Nat.reduceEqDiff, Nat.reduceLeDiff]
        · have c3 : 0 < qa := by omega
          simp (disch := first | exact ok_i | exact ok_r | exact ok_n | exact cat_i | exact cat_r | exact ho.tag | exact ho.tg | exact ho.tj | exact ho.tp | exact ho.tC (by omega) (by omega) | exact ho.tA (by omega) (by omega) | exact ho.tJ (by omega) (by omega) | exact ro_0 | exact ro_1 | omega | assumption | exact ho.nC (by omega) | exact ho.nL (by omega) | exact ho.nD (by omega) | exact ho.nJ (by omega) (by omega) (by omega) | exact ho.nA (by omega) (by omega) (by omega) | (simp only [List.map_cons, List.map_nil, List.sum_cons, List.sum_nil, cat_i, cat_r, cat_l, Nat.reduceAdd, Nat.reduceLeDiff]; done) | decide) only [c2, c3, s51_85, s51_86, s51_89, s51_90, tl_s, tl_n, nI_add, pk_mul, i_cl, row_s, u2_row, i_le, i_lt, i_eq, if_true, if_false, Nat.le_refl, Nat.reduceEqDiff, Nat.reduceLeDiff]
      · rw [if_neg c1, if_neg c1]
        simp (disch := first | exact ok_i | exact ok_r | exact ok_n | exact cat_i | exact cat_r | exact ho.tag | exact ho.tg | exact ho.tj | exact ho.tp | exact ho.tC (by omega) (by omega) | exact ho.tA (by omega) (by omega) | exact ho.tJ (by omega) (by omega) | exact ro_0 | exact ro_1 | omega | assumption | exact ho.nC (by omega) | exact ho.nL (by omega) | exact ho.nD (by omega) | exact ho.nJ (by omega) (by omega) (by omega) | exact ho.nA (by omega) (by omega) (by omega) | (simp only [List.map_cons, List.map_nil, List.sum_cons, List.sum_nil, cat_i, cat_r, cat_l, Nat.reduceAdd, Nat.reduceLeDiff]; done) | decide) only [s51_91, s51_94, tl_s, tl_n, nI_add, pk_mul, i_cl, row_s, u2_row, i_le, i_lt, i_eq, if_true, if_false, Nat.le_refl, Nat.reduceEqDiff, Nat.reduceLeDiff, e2]
        exact ih (by omega) _ _ rfl rfl
  have k0 := key f (Nat.le_refl f) none none rfl rfl
  rw [Nat.sub_self] at k0
  exact k0
theorem h_parkIdle {f k T : Nat} (hr : HR o p I N m (live N m)) (ok : Ok N f k m T)
    (h : ∀ I', HR o p I' (pkS N m f k).1 m (live (pkS N m f k).1 m) → Fr o p I I' → Q (some (.int (nI (pkS N m f k).2.1))) G0 I') : Call X (d + 2) 50 [.ref o] G0 I Q := by
  have ho := hr.ho
  have m40 := hr.m40
  have hk4 := ok.1.2.1.2.2
  have hpk := fun n (hn : n ≤ 4) => pkS_ok2 (N := N) ok hn
  simp (disch := first | exact ok_i | exact ok_r | exact ok_n | exact cat_i | exact cat_r | exact ho.tag | exact ho.tg | exact ho.tj | exact ho.tp | exact ho.tC (by omega) (by omega) | exact ho.tA (by omega) (by omega) | exact ho.tJ (by omega) (by omega) | exact ro_0 | exact ro_1 | omega | assumption | exact ho.nC (by omega) | exact ho.nL (by omega) | exact ho.nD (by omega) | exact ho.nJ (by omega) (by omega) (by omega) | exact ho.nA (by omega) (by omega) (by omega) | (simp only [List.map_cons, List.map_nil, List.sum_cons, List.sum_nil, cat_i, cat_r, cat_l, Nat.reduceAdd, Nat.reduceLeDiff]; done) | decide) only [e50, s50_0, s50_1, s50_2, s50_3, s50_4, s50_5, tl_s, tl_n, nI_add, pk_mul, i_cl, row_s, u2_row, i_le, i_lt, i_eq, if_true, if_false, Nat.le_refl, Nat.reduceEqDiff, Nat.reduceLeDiff]
  refine loop_h (σ := pI × Option Value × Option Value) (n := k)
    (A := fun i s => At X (d + 1) 50 6 [some (.ref o), some (.int (nI (pkS N m f i).2.1)), some (.int (nI (pkS N m f i).2.2)), some (.int (nI i)), s.2.1, s.2.2] [] G0 s.1 Q)
    (ok := fun i s => HR o p s.1 (pkS N m f i).1 m (live N m) ∧ Fr o p I s.1 ∧ okL s.2.1 = true ∧ okL s.2.2 = true)
    (fun s hs => ?_) (fun i s hi hs ih => ?_) 0 (I, none, none) (Nat.zero_le _) ⟨hr, Fr.refl, rfl, rfl⟩
  · obtain ⟨I', l4, l5⟩ := s
    obtain ⟨hr', hF, -⟩ := hs
    dsimp only at hr' hF ⊢
    obtain ⟨h1, h2, h3, h4, h5, h6⟩ := hpk k hk4
    have hk' := h1.1.2.1.1
    simp (disch := first | exact ok_i | exact ok_r | exact ok_n | exact cat_i | exact cat_r | exact ho.tag | exact ho.tg | exact ho.tj | exact ho.tp | exact ho.tC (by omega) (by omega) | exact ho.tA (by omega) (by omega) | exact ho.tJ (by omega) (by omega) | exact ro_0 | exact ro_1 | omega | assumption | exact ho.nC (by omega) | exact ho.nL (by omega) | exact ho.nD (by omega) | exact ho.nJ (by omega) (by omega) (by omega) | exact ho.nA (by omega) (by omega) (by omega) | (simp only [List.map_cons, List.map_nil, List.sum_cons, List.sum_nil, cat_i, cat_r, cat_l, Nat.reduceAdd, Nat.reduceLeDiff]; done) | decide) only [s50_6, s50_7, s50_8, s50_11, s50_95, s50_96, tl_s, tl_n, nI_add, pk_mul, i_cl, row_s, u2_row, i_le, i_lt, i_eq, if_true, if_false, Nat.le_refl, Nat.reduceEqDiff, Nat.reduceLeDiff, hr'.o1, hk']
    refine h I' ?_ hF
    rw [h2]
    exact hr'
  · obtain ⟨I', l4, l5⟩ := s
    obtain ⟨hr', hF, hl4, hl5⟩ := hs
    dsimp only at hr' hF hl4 hl5 ih ⊢
    obtain ⟨oki, h2, h3, h4, h5, h6⟩ := hpk i (by omega)
    have e1 : pkS N m f (i + 1) = pkF m f i (pkS N m f i) := rfl
    rw [e1] at ih
    have hk' := oki.1.2.1.1
    have hf' := oki.1.1.1
    have hf4 := oki.1.1.2.2
    have n1 : ¬ k ≤ i := by omega
    generalize pkS N m f i = s at *
    obtain ⟨N1, n, r⟩ := s
    dsimp only at hr' oki h2 h5 h6 hk' hf' ⊢
    obtain ⟨⟨x, hx, k3, k6, kr⟩, k4, k7, kp⟩ := oki.2.2.1 i (by omega)
    have g6 : cf N1 i 6 = nI 0 ∨ cf N1 i 6 = nI 1 := by
      rcases k6 with k6 | k6
      · exact Or.inl k6
      · exact Or.inr k6.1
    have hob := ownM_le (N := N1) (c := i) (m := m)
    have skip : ¬ pkB N1 m i = true → At X (d + 1) 50 89 [some (.ref o), some (.int (nI n)), some (.int (nI r)), some (.int (nI i)), some (.ref (p + 1 + i)), l5] [] G0 I' Q := by
      intro hb
      have ih := ih (I', some (.ref (p + 1 + i)), l5)
      unfold pkF at ih
      rw [if_neg hb] at ih
      simp (disch := first | exact ok_i | exact ok_r | exact ok_n | exact cat_i | exact cat_r | exact ho.tag | exact ho.tg | exact ho.tj | exact ho.tp | exact ho.tC (by omega) (by omega) | exact ho.tA (by omega) (by omega) | exact ho.tJ (by omega) (by omega) | exact ro_0 | exact ro_1 | omega | assumption | exact ho.nC (by omega) | exact ho.nL (by omega) | exact ho.nD (by omega) | exact ho.nJ (by omega) (by omega) (by omega) | exact ho.nA (by omega) (by omega) (by omega) | (simp only [List.map_cons, List.map_nil, List.sum_cons, List.sum_nil, cat_i, cat_r, cat_l, Nat.reduceAdd, Nat.reduceLeDiff]; done) | decide) only [s50_89, s50_92, tl_s, tl_n, nI_add, pk_mul, i_cl, row_s, u2_row, i_le, i_lt, i_eq, if_true, if_false, Nat.le_refl, Nat.reduceEqDiff, Nat.reduceLeDiff]
      exact ih ⟨hr', hF, rfl, hl5⟩
    rw [s50_6]
    clear hr
    have hr := hr'
    simp (disch := first | exact ok_i | exact ok_r | exact ok_n | exact cat_i | exact cat_r | exact ho.tag | exact ho.tg | exact ho.tj | exact ho.tp | exact ho.tC (by omega) (by omega) | exact ho.tA (by omega) (by omega) | exact ho.tJ (by omega) (by omega) | exact ro_0 | exact ro_1 | omega | assumption | exact ho.nC (by omega) | exact ho.nL (by omega) | exact ho.nD (by omega) | exact ho.nJ (by omega) (by omega) (by omega) | exact ho.nA (by omega) (by omega) (by omega) | (simp only [List.map_cons, List.map_nil, List.sum_cons, List.sum_nil, cat_i, cat_r, cat_l, Nat.reduceAdd, Nat.reduceLeDiff]; done) | decide) only [s50_7, s50_8, s50_11, s50_14, s50_15, s50_18, s50_19, s50_20, s50_22, s50_24, s50_27, s50_28, tl_s, tl_n, nI_add, pk_mul, i_cl, row_s, u2_row, i_le, i_lt, i_eq, if_true, if_false, Nat.le_refl, Nat.reduceEqDiff, Nat.reduceLeDiff, ho.r6, ho.r7, ho.r8, ho.r9, ho.rc, ho.g0, ho.g1, ho.g2, ho.g3, ho.g4, ho.g5, ho.g6, ho.g7, ho.g8, ho.j0, ho.j1, ho.j2, ho.j3, hr.o0, hr.o1, hr.o2, hr.o3, hr.o4, hr.o5, hr.c0, hr.c1, hr.c2, hr.c3, hr.c4, hr.c5, hr.c6, hr.c7, hr.mc, hr.lc, hr.g0, hr.g1, hr.g2, hr.g3, hr.g4, hr.g5, hr.g6, hr.g7, hr.dm, hk', n1]
    by_cases c1 : cf N1 i 7 = -1
    · simp (disch := first | exact ok_i | exact ok_r | exact ok_n | exact cat_i | exact cat_r | exact ho.tag | exact ho.tg | exact ho.tj | exact ho.tp | exact ho.tC (by omega) (by omega) | exact ho.tA (by omega) (by omega) | exact ho.tJ (by omega) (by omega) | exact ro_0 | exact ro_1 | omega | assumption | exact ho.nC (by omega) | exact ho.nL (by omega) | exact ho.nD (by omega) | exact ho.nJ (by omega) (by omega) (by omega) | exact ho.nA (by omega) (by omega) (by omega) | (simp only [List.map_cons, List.map_nil, List.sum_cons, List.sum_nil, cat_i, cat_r, cat_l, Nat.reduceAdd, Nat.reduceLeDiff]; done) | decide) only [c1, s50_31, s50_33, s50_36, tl_s, tl_n, nI_add, pk_mul, i_cl, row_s, u2_row, i_le, i_lt, i_eq, if_true, if_false, Nat.le_refl, Nat.reduceEqDiff, Nat.reduceLeDiff, ho.r6, ho.r7, ho.r8, ho.r9, ho.rc, ho.g0, ho.g1, ho.g2, ho.g3, ho.g4, ho.g5, ho.g6, ho.g7, ho.g8, ho.j0, ho.j1, ho.j2, ho.j3, hr.o0, hr.o1, hr.o2, hr.o3, hr.o4, hr.o5, hr.c0, hr.c1, hr.c2, hr.c3, hr.c4, hr.c5, hr.c6, hr.c7, hr.mc, hr.lc, hr.g0, hr.g1, hr.g2, hr.g3, hr.g4, hr.g5, hr.g6, hr.g7, hr.dm]
      rcases g6 with g6 | g6
      · simp (disch := first | exact ok_i | exact ok_r | exact ok_n | exact cat_i | exact cat_r | exact ho.tag | exact ho.tg | exact ho.tj | exact ho.tp | exact ho.tC (by omega) (by omega) | exact ho.tA (by omega) (by omega) | exact ho.tJ (by omega) (by omega) | exact ro_0 | exact ro_1 | omega | assumption | exact ho.nC (by omega) | exact ho.nL (by omega) | exact ho.nD (by omega) | exact ho.nJ (by omega) (by omega) (by omega) | exact ho.nA (by omega) (by omega) (by omega) | (simp only [List.map_cons, List.map_nil, List.sum_cons, List.sum_nil, cat_i, cat_r, cat_l, Nat.reduceAdd, Nat.reduceLeDiff]; done) | decide) only [g6, s50_39, s50_40, s50_43, s50_44, s50_47, tl_s, tl_n, nI_add, pk_mul, i_cl, row_s, u2_row, i_le, i_lt, i_eq, if_true, if_false, Nat.le_refl, Nat.reduceEqDiff, Nat.reduceLeDiff, ho.r6, ho.r7, ho.r8, ho.r9, ho.rc, ho.g0, ho.g1, ho.g2, ho.g3, ho.g4, ho.g5, ho.g6, ho.g7, ho.g8, ho.j0, ho.j1, ho.j2, ho.j3, h_ownOf hr h2.symm]
        by_cases c2 : ownM N1 i m ≤ 0
        · have c0 : ownM N1 i m = 0 := by omega
          have hb : pkB N1 m i = true := by
            unfold pkB
            rw [c0, c1, g6, decide_eq_true rfl, decide_eq_true rfl, decide_eq_false (by decide)]
            rfl
          unfold pkF at ih
          rw [if_pos hb] at ih
          dsimp only at ih
          simp (disch := first | exact ok_i | exact ok_r | exact ok_n | exact cat_i | exact cat_r | exact ho.tag | exact ho.tg | exact ho.tj | exact ho.tp | exact ho.tC (by omega) (by omega) | exact ho.tA (by omega) (by omega) | exact ho.tJ (by omega) (by omega) | exact ro_0 | exact ro_1 | omega | assumption | exact ho.nC (by omega) | exact ho.nL (by omega) | exact ho.nD (by omega) | exact ho.nJ (by omega) (by omega) (by omega) | exact ho.nA (by omega) (by omega) (by omega) | (simp only [List.map_cons, List.map_nil, List.sum_cons, List.sum_nil, cat_i, cat_r, cat_l, Nat.reduceAdd, Nat.reduceLeDiff]; done) | decide) only [c2, s50_53, s50_54, tl_s, tl_n, nI_add, pk_mul, i_cl, row_s, u2_row, i_le, i_lt, i_eq, if_true, if_false, Nat.le_refl, Nat.reduceEqDiff, Nat.reduceLeDiff]
          simp (disch := first | exact ok_i | exact ok_r | exact ok_n | exact cat_i | exact cat_r | exact ho.tag | exact ho.tg | exact ho.tj | exact ho.tp | exact ho.tC (by omega) (by omega) | exact ho.tA (by omega) (by omega) | exact ho.tJ (by omega) (by omega) | exact ro_0 | exact ro_1 | omega | assumption | exact ho.nC (by omega) | exact ho.nL (by omega) | exact ho.nD (by omega) | exact ho.nJ (by omega) (by omega) (by omega) | exact ho.nA (by omega) (by omega) (by omega) | (simp only [List.map_cons, List.map_nil, List.sum_cons, List.sum_nil, cat_i, cat_r, cat_l, Nat.reduceAdd, Nat.reduceLeDiff]; done) | decide) only [s50_55, s50_58, s50_60, s50_63, s50_65, s50_66, tl_s, tl_n, nI_add, pk_mul, i_cl, row_s, u2_row, i_le, i_lt, i_eq, if_true, if_false, Nat.le_refl, Nat.reduceEqDiff, Nat.reduceLeDiff, h_floorBy hr hf' hf4 (show r < 100 by omega) oki.2.2.2.2.2]
          unfold fdV
          cases ef : fbR N1 f r f with
          | none =>
            rw [ef] at ih
            dsimp only at ih ⊢
            simp (disch := first | exact ok_i | exact ok_r | exact ok_n | exact cat_i | exact cat_r | exact ho.tag | exact ho.tg | exact ho.tj | exact ho.tp | exact ho.tC (by omega) (by omega) | exact ho.tA (by omega) (by omega) | exact ho.tJ (by omega) (by omega) | exact ro_0 | exact ro_1 | omega | assumption | exact ho.nC (by omega) | exact ho.nL (by omega) | exact ho.nD (by omega) | exact ho.nJ (by omega) (by omega) (by omega) | exact ho.nA (by omega) (by omega) (by omega) | (simp only [List.map_cons, List.map_nil, List.sum_cons, List.sum_nil, cat_i, cat_r, cat_l, Nat.reduceAdd, Nat.reduceLeDiff]; done) | decide) only [s50_89, s50_92, tl_s, tl_n, nI_add, pk_mul, i_cl, row_s, u2_row, i_le, i_lt, i_eq, if_true, if_false, Nat.le_refl, Nat.reduceEqDiff, Nat.reduceLeDiff]
            exact ih (I', some (.ref (p + 1 + i)), some (.int (-1))) ⟨hr, hF, rfl, rfl⟩
          | some a =>
            have hal := fbR_lt (by have := oki.1.1.2.1; omega) ef
            have nm := nI_m1 (a := a) (by omega)
            rw [ef] at ih
            dsimp only at ih ⊢
            by_cases c3 : nI 0 < N1 (352 + a)
            · simp (disch := first | exact ok_i | exact ok_r | exact ok_n | exact cat_i | exact cat_r | exact ho.tag | exact ho.tg | exact ho.tj | exact ho.tp | exact ho.tC (by omega) (by omega) | exact ho.tA (by omega) (by omega) | exact ho.tJ (by omega) (by omega) | exact ro_0 | exact ro_1 | omega | assumption | exact ho.nC (by omega) | exact ho.nL (by omega) | exact ho.nD (by omega) | exact ho.nJ (by omega) (by omega) (by omega) | exact ho.nA (by omega) (by omega) (by omega) | (simp only [List.map_cons, List.map_nil, List.sum_cons, List.sum_nil, cat_i, cat_r, cat_l, Nat.reduceAdd, Nat.reduceLeDiff]; done) | decide) only [c3, nm, s50_69, s50_71, s50_73, s50_76, tl_s, tl_n, nI_add, pk_mul, i_cl, row_s, u2_row, i_le, i_lt, i_eq, if_true, if_false, Nat.le_refl, Nat.reduceEqDiff, Nat.reduceLeDiff, ho.r6, ho.r7, ho.r8, ho.r9, ho.rc, ho.g0, ho.g1, ho.g2, ho.g3, ho.g4, ho.g5, ho.g6, ho.g7, ho.g8, ho.j0, ho.j1, ho.j2, ho.j3, hr.o0, hr.o1, hr.o2, hr.o3, hr.o4, hr.o5, hr.c0, hr.c1, hr.c2, hr.c3, hr.c4, hr.c5, hr.c6, hr.c7, hr.mc, hr.lc, hr.g0, hr.g1, hr.g2, hr.g3, hr.g4, hr.g5, hr.g6, hr.g7, hr.dm, k3]
              by_cases c4 : a = x
              · have c5 : ¬ (nI 0 < N1 (352 + a) ∧ ¬ cf N1 i 3 = nI a) := fun e => e.2 (by rw [k3, c4])
                rw [if_neg c5] at ih
                simp (disch := first | exact ok_i | exact ok_r | exact ok_n | exact cat_i | exact cat_r | exact ho.tag | exact ho.tg | exact ho.tj | exact ho.tp | exact ho.tC (by omega) (by omega) | exact ho.tA (by omega) (by omega) | exact ho.tJ (by omega) (by omega) | exact ro_0 | exact ro_1 | omega | assumption | exact ho.nC (by omega) | exact ho.nL (by omega) | exact ho.nD (by omega) | exact ho.nJ (by omega) (by omega) (by omega) | exact ho.nA (by omega) (by omega) (by omega) | (simp only [List.map_cons, List.map_nil, List.sum_cons, List.sum_nil, cat_i, cat_r, cat_l, Nat.reduceAdd, Nat.reduceLeDiff]; done) | decide) only [c4, s50_89, s50_92, tl_s, tl_n, nI_add, pk_mul, i_cl, row_s, u2_row, i_le, i_lt, i_eq, if_true, if_false, Nat.le_refl, Nat.reduceEqDiff, Nat.reduceLeDiff]
                exact ih (I', some (.ref (p + 1 + i)), some (.int (nI x))) ⟨hr, hF, rfl, rfl⟩
              · have c5 : nI 0 < N1 (352 + a) ∧ ¬ cf N1 i 3 = nI a := ⟨c3, by rw [k3, i_eq (by omega) (by omega)]; exact fun e => c4 e.symm⟩
                rw [if_pos c5] at ih
                simp (disch := first | exact ok_i | exact ok_r | exact ok_n | exact cat_i | exact cat_r | exact ho.tag | exact ho.tg | exact ho.tj | exact ho.tp | exact ho.tC (by omega) (by omega) | exact ho.tA (by omega) (by omega) | exact ho.tJ (by omega) (by omega) | exact ro_0 | exact ro_1 | omega | assumption | exact ho.nC (by omega) | exact ho.nL (by omega) | exact ho.nD (by omega) | exact ho.nJ (by omega) (by omega) (by omega) | exact ho.nA (by omega) (by omega) (by omega) | (simp only [List.map_cons, List.map_nil, List.sum_cons, List.sum_nil, cat_i, cat_r, cat_l, Nat.reduceAdd, Nat.reduceLeDiff]; done) | decide) only [c4, s50_79, s50_81, s50_83, s50_86, s50_89, s50_92, tl_s, tl_n, nI_add, pk_mul, i_cl, row_s, u2_row, i_le, i_lt, i_eq, if_true, if_false, Nat.le_refl, Nat.reduceEqDiff, Nat.reduceLeDiff]
                exact ih (_, some (.ref (p + 1 + i)), some (.int (nI a))) ⟨hr.upc (k := 6) (by omega) (by omega), hF.trans (Fr.up (by omega)), rfl, rfl⟩
            · have c5 : ¬ (nI 0 < N1 (352 + a) ∧ ¬ cf N1 i 3 = nI a) := fun e => c3 e.1
              rw [if_neg c5] at ih
              simp (disch := first | exact ok_i | exact ok_r | exact ok_n | exact cat_i | exact cat_r | exact ho.tag | exact ho.tg | exact ho.tj | exact ho.tp | exact ho.tC (by omega) (by omega) | exact ho.tA (by omega) (by omega) | exact ho.tJ (by omega) (by omega) | exact ro_0 | exact ro_1 | omega | assumption | exact ho.nC (by omega) | exact ho.nL (by omega) | exact ho.nD (by omega) | exact ho.nJ (by omega) (by omega) (by omega) | exact ho.nA (by omega) (by omega) (by omega) | (simp only [List.map_cons, List.map_nil, List.sum_cons, List.sum_nil, cat_i, cat_r, cat_l, Nat.reduceAdd, Nat.reduceLeDiff]; done) | decide) only [c3, s50_89, s50_92, tl_s, tl_n, nI_add, pk_mul, i_cl, row_s, u2_row, i_le, i_lt, i_eq, if_true, if_false, Nat.le_refl, Nat.reduceEqDiff, Nat.reduceLeDiff]
              exact ih (I', some (.ref (p + 1 + i)), some (.int (-1))) ⟨hr, hF, rfl, rfl⟩
        · simp (disch := first | exact ok_i | exact ok_r | exact ok_n | exact cat_i | exact cat_r | exact ho.tag | exact ho.tg | exact ho.tj | exact ho.tp | exact ho.tC (by omega) (by omega) | exact ho.tA (by omega) (by omega) | exact ho.tJ (by omega) (by omega) | exact ro_0 | exact ro_1 | omega | assumption | exact ho.nC (by omega) | exact ho.nL (by omega) | exact ho.nD (by omega) | exact ho.nJ (by omega) (by omega) (by omega) | exact ho.nA (by omega) (by omega) (by omega) | (simp only [List.map_cons, List.map_nil, List.sum_cons, List.sum_nil, cat_i, cat_r, cat_l, Nat.reduceAdd, Nat.reduceLeDiff]; done) | decide) only [c2, s50_50, tl_s, tl_n, nI_add, pk_mul, i_cl, row_s, u2_row, i_le, i_lt, i_eq, if_true, if_false, Nat.le_refl, Nat.reduceEqDiff, Nat.reduceLeDiff]
          refine skip ?_
          unfold pkB
          rw [decide_eq_false (by omega), Bool.false_and, Bool.false_and]
          decide
      · simp (disch := first | exact ok_i | exact ok_r | exact ok_n | exact cat_i | exact cat_r | exact ho.tag | exact ho.tg | exact ho.tj | exact ho.tp | exact ho.tC (by omega) (by omega) | exact ho.tA (by omega) (by omega) | exact ho.tJ (by omega) (by omega) | exact ro_0 | exact ro_1 | omega | assumption | exact ho.nC (by omega) | exact ho.nL (by omega) | exact ho.nD (by omega) | exact ho.nJ (by omega) (by omega) (by omega) | exact ho.nA (by omega) (by omega) (by omega) | (simp only [List.map_cons, List.map_nil, List.sum_cons, List.sum_nil, cat_i, cat_r, cat_l, Nat.reduceAdd, Nat.reduceLeDiff]; done) | decide) only [g6, n10F, tl_s, tl_n, nI_add, pk_mul, i_cl, row_s, u2_row, i_le, i_lt, i_eq, if_true, if_false, Nat.le_refl, Nat.reduceEqDiff, Nat.reduceLeDiff]
        refine skip ?_
        unfold pkB
        rw [g6, decide_eq_true rfl, Bool.not_true, Bool.and_false]
        decide
    · simp (disch := first | exact ok_i | exact ok_r | exact ok_n | exact cat_i | exact cat_r | exact ho.tag | exact ho.tg | exact ho.tj | exact ho.tp | exact ho.tC (by omega) (by omega) | exact ho.tA (by omega) (by omega) | exact ho.tJ (by omega) (by omega) | exact ro_0 | exact ro_1 | omega | assumption | exact ho.nC (by omega) | exact ho.nL (by omega) | exact ho.nD (by omega) | exact ho.nJ (by omega) (by omega) (by omega) | exact ho.nA (by omega) (by omega) (by omega) | (simp only [List.map_cons, List.map_nil, List.sum_cons, List.sum_nil, cat_i, cat_r, cat_l, Nat.reduceAdd, Nat.reduceLeDiff]; done) | decide) only [c1, tl_s, tl_n, nI_add, pk_mul, i_cl, row_s, u2_row, i_le, i_lt, i_eq, if_true, if_false, Nat.le_refl, Nat.reduceEqDiff, Nat.reduceLeDiff]
      refine skip ?_
      unfold pkB
      rw [decide_eq_false c1, Bool.and_false, Bool.false_and]
      decide
end
