/-! the class: ticks, the end, the soonest car -/
section
variable {X : pX} {d : Nat} {I : pI} {Q : Option Value → pG → pI → Prop} {o p o2 p2 : Nat} {N : Nat → Int32} {m : Nat} {L : List Nat}
theorem h_passTick {f k T : Nat} (hr : HR o p I N m (live N m)) (ok : Ok N f k m T)
    (h : ∀ I', HR o p I' (psS N m k).1 m (live (psS N m k).1 m) → Fr o p I I' → Q (some (.int (nI (psS N m k).2))) G0 I') : Call X (d + 4) 43 [.ref o] G0 I Q := by
  have ho := hr.ho
  have m40 := hr.m40
  have hk := ok.1.2.1.1
  have hk4 := ok.1.2.1.2.2
  have hf4 := ok.1.1.2.2
  have hps : ∀ n, n ≤ 4 → Ok (psS N m n).1 f k m (T + 1) := fun n hn => psS_ok ok hn
  have hr0 : HR o p (upd2 I o 2 (N 447 + nI 1)) (psS N m 0).1 m (live (psS N m 0).1 m) := by
    have e : live (upd N 447 (N 447 + nI 1)) m = live N m := live_eq (fun g hg => by rw [gf_u (by omega)])
    show HR o p _ (upd N 447 (N 447 + nI 1)) m (live (upd N 447 (N 447 + nI 1)) m)
    rw [e]
    exact hr.upo (k := 2) (by omega)
  simp (disch := first | exact ok_i | exact ok_r | exact ok_n | exact cat_i | exact cat_r | exact ho.tag | exact ho.tg | exact ho.tj | exact ho.tp | exact ho.tC (by omega) (by omega) | exact ho.tA (by omega) (by omega) | exact ho.tJ (by omega) (by omega) | exact ro_0 | exact ro_1 | omega | assumption | exact ho.nC (by omega) | exact ho.nL (by omega) | exact ho.nD (by omega) | exact ho.nJ (by omega) (by omega) (by omega) | exact ho.nA (by omega) (by omega) (by omega) | (simp only [List.map_cons, List.map_nil, List.sum_cons, List.sum_nil, cat_i, cat_r, cat_l, Nat.reduceAdd, Nat.reduceLeDiff]; done) | decide) only [e43, s43_0, s43_1, s43_2, s43_5, s43_6, s43_7, s43_10, s43_11, s43_12, s43_13, tl_s, tl_n, nI_add, pk_mul, i_cl, row_s, u2_row, i_le, i_lt, i_eq, if_true, if_false, Nat.le_refl, Nat.reduceEqDiff, Nat.reduceLeDiff, hr.o2]
  refine loop_h (σ := pI) (n := k)
    (A := fun i s => At X (d + 3) 43 14 [some (.ref o), some (.int (nI (psS N m i).2)), some (.int (nI i))] [] G0 s Q)
    (ok := fun i s => HR o p s (psS N m i).1 m (live (psS N m i).1 m) ∧ Fr o p I s)
    (fun s hs => ?_) (fun i s hi hs ih => ?_) 0 (upd2 I o 2 (N 447 + nI 1)) (Nat.zero_le _) ⟨hr0, Fr.up (Or.inl rfl)⟩
  · obtain ⟨hr', hF⟩ := hs
    have hk' : (psS N m k).1 445 = nI k := (hps k hk4).1.2.1.1
    simp (disch := first | exact ok_i | exact ok_r | exact ok_n | exact cat_i | exact cat_r | exact ho.tag | exact ho.tg | exact ho.tj | exact ho.tp | exact ho.tC (by omega) (by omega) | exact ho.tA (by omega) (by omega) | exact ho.tJ (by omega) (by omega) | exact ro_0 | exact ro_1 | omega | assumption | exact ho.nC (by omega) | exact ho.nL (by omega) | exact ho.nD (by omega) | exact ho.nJ (by omega) (by omega) (by omega) | exact ho.nA (by omega) (by omega) (by omega) | (simp only [List.map_cons, List.map_nil, List.sum_cons, List.sum_nil, cat_i, cat_r, cat_l, Nat.reduceAdd, Nat.reduceLeDiff]; done) | decide) only [s43_14, s43_15, s43_16, s43_19, s43_36, s43_37, tl_s, tl_n, nI_add, pk_mul, i_cl, row_s, u2_row, i_le, i_lt, i_eq, if_true, if_false, Nat.le_refl, Nat.reduceEqDiff, Nat.reduceLeDiff, hr'.o1, hk']
    exact h s hr' hF
  · obtain ⟨hr', hF⟩ := hs
    have oki := hps i (by omega)
    have hk' : (psS N m i).1 445 = nI k := oki.1.2.1.1
    have n1 : ¬ k ≤ i := by omega
    have hb := psS_le (N := N) (m := m) (k := i)
    have hb2 := mvT_le (N := (psS N m i).1) (c := i) (m := m)
    have hb3 : i * m ≤ 4 * 40 := Nat.mul_le_mul (by omega) m40
    have e1 : psS N m (i + 1) = (mvN (psS N m i).1 i m, (psS N m i).2 + mvT (psS N m i).1 i m) := rfl
    rw [s43_14]
    simp (disch := first | exact ok_i | exact ok_r | exact ok_n | exact cat_i | exact cat_r | exact ho.tag | exact ho.tg | exact ho.tj | exact ho.tp | exact ho.tC (by omega) (by omega) | exact ho.tA (by omega) (by omega) | exact ho.tJ (by omega) (by omega) | exact ro_0 | exact ro_1 | omega | assumption | exact ho.nC (by omega) | exact ho.nL (by omega) | exact ho.nD (by omega) | exact ho.nJ (by omega) (by omega) (by omega) | exact ho.nA (by omega) (by omega) (by omega) | (simp only [List.map_cons, List.map_nil, List.sum_cons, List.sum_nil, cat_i, cat_r, cat_l, Nat.reduceAdd, Nat.reduceLeDiff]; done) | decide) only [s43_15, s43_16, s43_19, s43_22, s43_23, s43_24, tl_s, tl_n, nI_add, pk_mul, i_cl, row_s, u2_row, i_le, i_lt, i_eq, if_true, if_false, Nat.le_refl, Nat.reduceEqDiff, Nat.reduceLeDiff, hr'.o1, hk', n1]
    rw [s43_25 (by simp only [List.map_cons, List.map_nil, List.sum_cons, List.sum_nil, cat_i, cat_r, cat_l, Nat.reduceAdd, Nat.reduceLeDiff]) ho.tag]
    refine h_move hr' (by omega) oki.1.1.1 hf4 oki.2.1 (oki.2.2.1 i (by omega)) (fun I2 hr2 hF2 => ?_)
    simp (disch := first | exact ok_i | exact ok_r | exact ok_n | exact cat_i | exact cat_r | exact ho.tag | exact ho.tg | exact ho.tj | exact ho.tp | exact ho.tC (by omega) (by omega) | exact ho.tA (by omega) (by omega) | exact ho.tJ (by omega) (by omega) | exact ro_0 | exact ro_1 | omega | assumption | exact ho.nC (by omega) | exact ho.nL (by omega) | exact ho.nD (by omega) | exact ho.nJ (by omega) (by omega) (by omega) | exact ho.nA (by omega) (by omega) (by omega) | (simp only [List.map_cons, List.map_nil, List.sum_cons, List.sum_nil, cat_i, cat_r, cat_l, Nat.reduceAdd, Nat.reduceLeDiff]; done) | decide) only [s43_28, s43_29, s43_30, s43_33, tl_s, tl_n, nI_add, pk_mul, i_cl, row_s, u2_row, i_le, i_lt, i_eq, if_true, if_false, Nat.le_refl, Nat.reduceEqDiff, Nat.reduceLeDiff]
    have := ih I2
    rw [e1] at this
    exact this ⟨hr2, hF.trans hF2⟩
def finV (N : Nat → Int32) (m k : Nat) : Int32 := if 0 < manyM (dnR m k 2500 N).1 (nI 0) m + manyM (dnR m k 2500 N).1 (nI 1) m then -1 else nI (dnR m k 2500 N).2
theorem dn_ok {f k m T : Nat} : ∀ {r : Nat} {N : Nat → Int32}, Ok N f k m T → ∃ T', T' ≤ T + r ∧ Ok (dnR m k r N).1 f k m T'
  | 0, N, h => ⟨T, Nat.le_refl _, h⟩
  | r + 1, N, h => by
    unfold dnR
    split
    · obtain ⟨T', h1, h2⟩ := dn_ok (T := T + 1) (r := r) (psS_ok h h.1.2.1.2.2)
      exact ⟨T', by omega, h2⟩
    · exact ⟨T, by omega, h⟩
theorem h_finish {f k T : Nat} (hr : HR o p I N m (live N m)) (ok : Ok N f k m T)
    (h : ∀ I', HR o p I' (dnR m k 2500 N).1 m (live (dnR m k 2500 N).1 m) → Fr o p I I' → Q (some (.int (finV N m k))) G0 I') : Call X (d + 5) 42 [.ref o] G0 I Q := by
  have ho := hr.ho
  have m40 := hr.m40
  have hk4 := ok.1.2.1.2.2
  have key : ∀ r, r ≤ 2500 → ∀ (I1 : pI) (A : Nat → Int32) (T : Nat), HR o p I1 A m (live A m) → Ok A f k m T → Fr o p I I1 →
      (∀ I', HR o p I' (dnR m k r A).1 m (live (dnR m k r A).1 m) → Fr o p I I' → Q (some (.int (if 0 < manyM (dnR m k r A).1 (nI 0) m + manyM (dnR m k r A).1 (nI 1) m then -1 else nI (2500 - r + (dnR m k r A).2)))) G0 I') →
      At X (d + 4) 42 2 [some (.ref o), some (.int (nI (2500 - r)))] [] G0 I1 Q := by
    intro r
    induction r with
    | zero =>
      intro _ I1 A T hr1 ok1 hF hQ
      have l12 := hr1.l12
      have hq := hQ I1 hr1 hF
      have e0 : dnR m k 0 A = (A, 0) := rfl
      rw [e0] at hq
      dsimp only at hq
      have hll := live_len ok1.2.1.how
      rw [← hll] at hq
      rw [Nat.sub_zero] at hq ⊢
      simp (disch := first | exact ok_i | exact ok_r | exact ok_n | exact cat_i | exact cat_r | exact ho.tag | exact ho.tg | exact ho.tj | exact ho.tp | exact ho.tC (by omega) (by omega) | exact ho.tA (by omega) (by omega) | exact ho.tJ (by omega) (by omega) | exact ro_0 | exact ro_1 | omega | assumption | exact ho.nC (by omega) | exact ho.nL (by omega) | exact ho.nD (by omega) | exact ho.nJ (by omega) (by omega) (by omega) | exact ho.nA (by omega) (by omega) (by omega) | (simp only [List.map_cons, List.map_nil, List.sum_cons, List.sum_nil, cat_i, cat_r, cat_l, Nat.reduceAdd, Nat.reduceLeDiff]; done) | decide) only [s42_2, s42_3, s42_6, s42_32, s42_33, s42_36, s42_39, tl_s, tl_n, nI_add, pk_mul, i_cl, row_s, u2_row, i_le, i_lt, i_eq, if_true, if_false, Nat.le_refl, Nat.reduceEqDiff, Nat.reduceLeDiff, ho.r6, ho.r7, ho.r8, ho.r9, ho.rc, ho.g0, ho.g1, ho.g2, ho.g3, ho.g4, ho.g5, ho.g6, ho.g7, ho.g8, ho.j0, ho.j1, ho.j2, ho.j3, hr1.lc]
      by_cases c : (live A m).length = 0
      · rw [if_neg (by omega)] at hq
        simp (disch := first | exact ok_i | exact ok_r | exact ok_n | exact cat_i | exact cat_r | exact ho.tag | exact ho.tg | exact ho.tj | exact ho.tp | exact ho.tC (by omega) (by omega) | exact ho.tA (by omega) (by omega) | exact ho.tJ (by omega) (by omega) | exact ro_0 | exact ro_1 | omega | assumption | exact ho.nC (by omega) | exact ho.nL (by omega) | exact ho.nD (by omega) | exact ho.nJ (by omega) (by omega) (by omega) | exact ho.nA (by omega) (by omega) (by omega) | (simp only [List.map_cons, List.map_nil, List.sum_cons, List.sum_nil, cat_i, cat_r, cat_l, Nat.reduceAdd, Nat.reduceLeDiff]; done) | decide) only [c, s42_42, s42_45, s42_48, s42_49, tl_s, tl_n, nI_add, pk_mul, i_cl, row_s, u2_row, i_le, i_lt, i_eq, if_true, if_false, Nat.le_refl, Nat.reduceEqDiff, Nat.reduceLeDiff]
        exact hq
      · rw [if_pos (by omega)] at hq
        simp (disch := first | exact ok_i | exact ok_r | exact ok_n | exact cat_i | exact cat_r | exact ho.tag | exact ho.tg | exact ho.tj | exact ho.tp | exact ho.tC (by omega) (by omega) | exact ho.tA (by omega) (by omega) | exact ho.tJ (by omega) (by omega) | exact ro_0 | exact ro_1 | omega | assumption | exact ho.nC (by omega) | exact ho.nL (by omega) | exact ho.nD (by omega) | exact ho.nJ (by omega) (by omega) (by omega) | exact ho.nA (by omega) (by omega) (by omega) | (simp only [List.map_cons, List.map_nil, List.sum_cons, List.sum_nil, cat_i, cat_r, cat_l, Nat.reduceAdd, Nat.reduceLeDiff]; done) | decide) only [c, s42_48, s42_49, tl_s, tl_n, nI_add, pk_mul, i_cl, row_s, u2_row, i_le, i_lt, i_eq, if_true, if_false, Nat.le_refl, Nat.reduceEqDiff, Nat.reduceLeDiff]
        exact hq
    | succ r ih =>
      intro hr2 I1 A T hr1 ok1 hF hQ
      have l12 := hr1.l12
      have n1 : ¬ 2500 ≤ 2500 - (r + 1) := by omega
      have hll := live_len ok1.2.1.how
      have e0 : dnR m k (r + 1) A = if 0 < manyM A (nI 0) m + manyM A (nI 1) m then ((dnR m k r (psS A m k).1).1, (dnR m k r (psS A m k).1).2 + 1) else (A, 0) := rfl
      rw [e0, ← hll] at hQ
      rw [s42_2]
      simp (disch := first | exact ok_i | exact ok_r | exact ok_n | exact cat_i | exact cat_r | exact ho.tag | exact ho.tg | exact ho.tj | exact ho.tp | exact ho.tC (by omega) (by omega) | exact ho.tA (by omega) (by omega) | exact ho.tJ (by omega) (by omega) | exact ro_0 | exact ro_1 | omega | assumption | exact ho.nC (by omega) | exact ho.nL (by omega) | exact ho.nD (by omega) | exact ho.nJ (by omega) (by omega) (by omega) | exact ho.nA (by omega) (by omega) (by omega) | (simp only [List.map_cons, List.map_nil, List.sum_cons, List.sum_nil, cat_i, cat_r, cat_l, Nat.reduceAdd, Nat.reduceLeDiff]; done) | decide) only [s42_3, s42_6, s42_9, s42_10, s42_13, s42_16, tl_s, tl_n, nI_add, pk_mul, i_cl, row_s, u2_row, i_le, i_lt, i_eq, if_true, if_false, Nat.le_refl, Nat.reduceEqDiff, Nat.reduceLeDiff, ho.r6, ho.r7, ho.r8, ho.r9, ho.rc, ho.g0, ho.g1, ho.g2, ho.g3, ho.g4, ho.g5, ho.g6, ho.g7, ho.g8, ho.j0, ho.j1, ho.j2, ho.j3, hr1.lc, n1]
      by_cases c : (live A m).length = 0
      · rw [if_neg (by omega)] at hQ
        dsimp only at hQ
        have hq := hQ I1 hr1 hF
        rw [← hll, if_neg (by omega)] at hq
        simp (disch := first | exact ok_i | exact ok_r | exact ok_n | exact cat_i | exact cat_r | exact ho.tag | exact ho.tg | exact ho.tj | exact ho.tp | exact ho.tC (by omega) (by omega) | exact ho.tA (by omega) (by omega) | exact ho.tJ (by omega) (by omega) | exact ro_0 | exact ro_1 | omega | assumption | exact ho.nC (by omega) | exact ho.nL (by omega) | exact ho.nD (by omega) | exact ho.nJ (by omega) (by omega) (by omega) | exact ho.nA (by omega) (by omega) (by omega) | (simp only [List.map_cons, List.map_nil, List.sum_cons, List.sum_nil, cat_i, cat_r, cat_l, Nat.reduceAdd, Nat.reduceLeDiff]; done) | decide) only [c, s42_19, s42_20, tl_s, tl_n, nI_add, pk_mul, i_cl, row_s, u2_row, i_le, i_lt, i_eq, if_true, if_false, Nat.le_refl, Nat.reduceEqDiff, Nat.reduceLeDiff]
        exact hq
      · rw [if_pos (by omega)] at hQ
        dsimp only at hQ
        simp (disch := first | exact ok_i | exact ok_r | exact ok_n | exact cat_i | exact cat_r | exact ho.tag | exact ho.tg | exact ho.tj | exact ho.tp | exact ho.tC (by omega) (by omega) | exact ho.tA (by omega) (by omega) | exact ho.tJ (by omega) (by omega) | exact ro_0 | exact ro_1 | omega | assumption | exact ho.nC (by omega) | exact ho.nL (by omega) | exact ho.nD (by omega) | exact ho.nJ (by omega) (by omega) (by omega) | exact ho.nA (by omega) (by omega) (by omega) | (simp only [List.map_cons, List.map_nil, List.sum_cons, List.sum_nil, cat_i, cat_r, cat_l, Nat.reduceAdd, Nat.reduceLeDiff]; done) | decide) only [c, s42_21, tl_s, tl_n, nI_add, pk_mul, i_cl, row_s, u2_row, i_le, i_lt, i_eq, if_true, if_false, Nat.le_refl, Nat.reduceEqDiff, Nat.reduceLeDiff]
        rw [s42_22 (by simp only [List.map_cons, List.map_nil, List.sum_cons, List.sum_nil, cat_i, cat_r, cat_l, Nat.reduceAdd, Nat.reduceLeDiff]) ho.tag]
        refine h_passTick hr1 ok1 (fun I2 hr2' hF2 => ?_)
        have e2 : 2500 - (r + 1) + 1 = 2500 - r := by omega
        simp (disch := first | exact ok_i | exact ok_r | exact ok_n | exact cat_i | exact cat_r | exact ho.tag | exact ho.tg | exact ho.tj | exact ho.tp | exact ho.tC (by omega) (by omega) | exact ho.tA (by omega) (by omega) | exact ho.tJ (by omega) (by omega) | exact ro_0 | exact ro_1 | omega | assumption | exact ho.nC (by omega) | exact ho.nL (by omega) | exact ho.nD (by omega) | exact ho.nJ (by omega) (by omega) (by omega) | exact ho.nA (by omega) (by omega) (by omega) | (simp only [List.map_cons, List.map_nil, List.sum_cons, List.sum_nil, cat_i, cat_r, cat_l, Nat.reduceAdd, Nat.reduceLeDiff]; done) | decide) only [s42_25, s42_26, s42_29, tl_s, tl_n, nI_add, pk_mul, i_cl, row_s, u2_row, i_le, i_lt, i_eq, if_true, if_false, Nat.le_refl, Nat.reduceEqDiff, Nat.reduceLeDiff, e2]
        refine ih (by omega) I2 _ (T + 1) hr2' (psS_ok ok1 hk4) (hF.trans hF2) (fun I' hr' hF' => ?_)
        have := hQ I' hr' hF'
        rw [show 2500 - (r + 1) + ((dnR m k r (psS A m k).1).2 + 1) = 2500 - r + (dnR m k r (psS A m k).1).2 by omega] at this
        exact this
  have k0 := key 2500 (Nat.le_refl _) I N T hr ok Fr.refl (fun I' hr' hF' => by
    rw [Nat.sub_self, Nat.zero_add]
    exact h I' hr' hF')
  rw [Nat.sub_self] at k0
  simp (disch := first | exact ok_i | exact ok_r | exact ok_n | exact cat_i | exact cat_r | exact ho.tag | exact ho.tg | exact ho.tj | exact ho.tp | exact ho.tC (by omega) (by omega) | exact ho.tA (by omega) (by omega) | exact ho.tJ (by omega) (by omega) | exact ro_0 | exact ro_1 | omega | assumption | exact ho.nC (by omega) | exact ho.nL (by omega) | exact ho.nD (by omega) | exact ho.nJ (by omega) (by omega) (by omega) | exact ho.nA (by omega) (by omega) (by omega) | (simp only [List.map_cons, List.map_nil, List.sum_cons, List.sum_nil, cat_i, cat_r, cat_l, Nat.reduceAdd, Nat.reduceLeDiff]; done) | decide) only [e42, s42_0, s42_1, tl_s, tl_n, nI_add, pk_mul, i_cl, row_s, u2_row, i_le, i_lt, i_eq, if_true, if_false, Nat.le_refl, Nat.reduceEqDiff, Nat.reduceLeDiff]
  exact k0
theorem so_q {k g : Nat} : ∀ {n : Nat}, ∃ q, q ≤ 2502 ∧ (soS N m k g n).2 = nI q
  | 0 => ⟨2502, Nat.le_refl _, rfl⟩
  | n + 1 => by
    obtain ⟨q, h1, h2⟩ := so_q (k := k) (g := g) (n := n)
    have ht : tkM N m k g n (nI 2) 2500 ≤ 2501 := tkR_le
    show ∃ q, q ≤ 2502 ∧ mmin (soS N m k g n).2 (if cf N n 2 < gf N g 2 then nI 2502 else nI (tkM N m k g n (nI 2) 2500)) = nI q
    obtain ⟨w, hw, ew⟩ : ∃ w, w ≤ 2502 ∧ (if cf N n 2 < gf N g 2 then nI 2502 else nI (tkM N m k g n (nI 2) 2500)) = nI w := by
      by_cases c : cf N n 2 < gf N g 2
      · rw [if_pos c]; exact ⟨_, Nat.le_refl _, rfl⟩
      · rw [if_neg c]; exact ⟨_, by omega, rfl⟩
    rw [h2, ew]
    unfold mmin
    by_cases c : nI w < nI q
    · rw [if_pos c]; exact ⟨w, hw, rfl⟩
    · rw [if_neg c]; exact ⟨q, h1, rfl⟩
theorem so_lt {k g a : Nat} : ∀ {n : Nat}, (soS N m k g n).1 = some a → a < n
  | 0, h => by cases h
  | n + 1, h => by
    have h' : (if (if cf N n 2 < gf N g 2 then nI 2502 else nI (tkM N m k g n (nI 2) 2500)) < (soS N m k g n).2 then some n else (soS N m k g n).1) = some a := h
    by_cases c : (if cf N n 2 < gf N g 2 then nI 2502 else nI (tkM N m k g n (nI 2) 2500)) < (soS N m k g n).2
    · rw [if_pos c] at h'
      injection h' with h'
      omega
    · rw [if_neg c] at h'
      have := so_lt h'
      omega
theorem h_soonest {f k T g : Nat} (hr : HR o p I N m (live N m)) (hd : Deep o o2 p2) (ok : Ok N f k m T) (hg : g < m) (h0 : gf N g 4 = nI 0)
    (h : ∀ I', Fr o2 p2 I I' → Q (some (.int (o2i (soS N m k g k).1))) G0 I') : Call X (d + 5) 41 [.ref o, .int (nI g)] G0 I Q := by
  have ho := hr.ho
  have m40 := hr.m40
  have ho2 := hd.hall
  obtain ⟨⟨⟨hf, hf1, hf4⟩, ⟨hk, hk1, hk4⟩, -, -⟩, hgr, hwa, -⟩ := ok
  simp (disch := first | exact ok_i | exact ok_r | exact ok_n | exact cat_i | exact cat_r | exact ho.tag | exact ho.tg | exact ho.tj | exact ho.tp | exact ho.tC (by omega) (by omega) | exact ho.tA (by omega) (by omega) | exact ho.tJ (by omega) (by omega) | exact ro_0 | exact ro_1 | omega | assumption | exact ho.nC (by omega) | exact ho.nL (by omega) | exact ho.nD (by omega) | exact ho.nJ (by omega) (by omega) (by omega) | exact ho.nA (by omega) (by omega) (by omega) | (simp only [List.map_cons, List.map_nil, List.sum_cons, List.sum_nil, cat_i, cat_r, cat_l, Nat.reduceAdd, Nat.reduceLeDiff]; done) | decide) only [e41, s41_0, s41_1, s41_2, s41_5, s41_6, s41_7, tl_s, tl_n, nI_add, pk_mul, i_cl, row_s, u2_row, i_le, i_lt, i_eq, if_true, if_false, Nat.le_refl, Nat.reduceEqDiff, Nat.reduceLeDiff]
  refine loop_h (σ := pI × Option Value × Option Value) (n := k)
    (A := fun i t => At X (d + 4) 41 9 [some (.ref o), some (.int (nI g)), some (.int (o2i (soS N m k g i).1)), some (.int (soS N m k g i).2), some (.int (nI i)), t.2.1, t.2.2] [] G0 t.1 Q)
    (ok := fun i t => Fr o2 p2 I t.1 ∧ okL t.2.1 = true ∧ okL t.2.2 = true)
    (fun t ht => ?_) (fun i t hi ht ih => ?_) 0 (I, none, none) (Nat.zero_le _) ⟨Fr.refl, rfl, rfl⟩
  · obtain ⟨I', l5, l6⟩ := t
    obtain ⟨hF, hl5, hl6⟩ := ht
    dsimp only at hF hl5 hl6 ⊢
    have hr' := hr.fr ho2 hd.ne hF
    simp (disch := first | exact ok_i | exact ok_r | exact ok_n | exact cat_i | exact cat_r | exact ho.tag | exact ho.tg | exact ho.tj | exact ho.tp | exact ho.tC (by omega) (by omega) | exact ho.tA (by omega) (by omega) | exact ho.tJ (by omega) (by omega) | exact ro_0 | exact ro_1 | omega | assumption | exact ho.nC (by omega) | exact ho.nL (by omega) | exact ho.nD (by omega) | exact ho.nJ (by omega) (by omega) (by omega) | exact ho.nA (by omega) (by omega) (by omega) | (simp only [List.map_cons, List.map_nil, List.sum_cons, List.sum_nil, cat_i, cat_r, cat_l, Nat.reduceAdd, Nat.reduceLeDiff]; done) | decide) only [s41_9, s41_11, s41_12, s41_15, s41_75, s41_76, tl_s, tl_n, nI_add, pk_mul, i_cl, row_s, u2_row, i_le, i_lt, i_eq, if_true, if_false, Nat.le_refl, Nat.reduceEqDiff, Nat.reduceLeDiff, hr'.o1, hk]
    exact h I' hF
  · obtain ⟨I', l5, l6⟩ := t
    obtain ⟨hF, hl5, hl6⟩ := ht
    dsimp only at hF hl5 hl6 ih ⊢
    have hr' := hr.fr ho2 hd.ne hF
    have n1 : ¬ k ≤ i := by omega
    obtain ⟨q, hq1, hq2⟩ := so_q (N := N) (m := m) (k := k) (g := g) (n := i)
    have hlt : ∀ a, (soS N m k g i).1 = some a → a < i := fun a ha => so_lt ha
    have e1 : soS N m k g (i + 1) = soF N m k g i (soS N m k g i) := rfl
    have ht : tkM N m k g i (nI 2) 2500 ≤ 2501 := tkR_le
    rw [e1] at ih
    unfold soF at ih
    rw [hq2] at ih ⊢
    generalize soS N m k g i = s at *
    obtain ⟨b, w⟩ := s
    dsimp only at ih hlt ⊢
    rw [s41_9]
    simp (disch := first | exact ok_i | exact ok_r | exact ok_n | exact cat_i | exact cat_r | exact ho.tag | exact ho.tg | exact ho.tj | exact ho.tp | exact ho.tC (by omega) (by omega) | exact ho.tA (by omega) (by omega) | exact ho.tJ (by omega) (by omega) | exact ro_0 | exact ro_1 | omega | assumption | exact ho.nC (by omega) | exact ho.nL (by omega) | exact ho.nD (by omega) | exact ho.nJ (by omega) (by omega) (by omega) | exact ho.nA (by omega) (by omega) (by omega) | (simp only [List.map_cons, List.map_nil, List.sum_cons, List.sum_nil, cat_i, cat_r, cat_l, Nat.reduceAdd, Nat.reduceLeDiff]; done) | decide) only [s41_11, s41_12, s41_15, s41_18, s41_19, s41_20, s41_22, s41_25, tl_s, tl_n, nI_add, pk_mul, i_cl, row_s, u2_row, i_le, i_lt, i_eq, if_true, if_false, Nat.le_refl, Nat.reduceEqDiff, Nat.reduceLeDiff, hr'.o1, hk, n1, h_hasRoom hr' hg, b2i_0]
    by_cases c1 : cf N i 2 < gf N g 2
    · unfold mmin at ih
      simp (disch := omega) only [i_lt, c1, if_true] at ih
      rw [if_neg (by omega), if_neg (by omega)] at ih
      simp (disch := first | exact ok_i | exact ok_r | exact ok_n | exact cat_i | exact cat_r | exact ho.tag | exact ho.tg | exact ho.tj | exact ho.tp | exact ho.tC (by omega) (by omega) | exact ho.tA (by omega) (by omega) | exact ho.tJ (by omega) (by omega) | exact ro_0 | exact ro_1 | omega | assumption | exact ho.nC (by omega) | exact ho.nL (by omega) | exact ho.nD (by omega) | exact ho.nJ (by omega) (by omega) (by omega) | exact ho.nA (by omega) (by omega) (by omega) | (simp only [List.map_cons, List.map_nil, List.sum_cons, List.sum_nil, cat_i, cat_r, cat_l, Nat.reduceAdd, Nat.reduceLeDiff]; done) | decide) only [c1, decide_true, Bool.not_true, s41_69, s41_72, tl_s, tl_n, nI_add, pk_mul, i_cl, row_s, u2_row, i_le, i_lt, i_eq, if_true, if_false, Nat.le_refl, Nat.reduceEqDiff, Nat.reduceLeDiff]
      exact ih (I', l5, l6) ⟨hF, hl5, hl6⟩
    · simp (disch := first | exact ok_i | exact ok_r | exact ok_n | exact cat_i | exact cat_r | exact ho.tag | exact ho.tg | exact ho.tj | exact ho.tp | exact ho.tC (by omega) (by omega) | exact ho.tA (by omega) (by omega) | exact ho.tJ (by omega) (by omega) | exact ro_0 | exact ro_1 | omega | assumption | exact ho.nC (by omega) | exact ho.nL (by omega) | exact ho.nD (by omega) | exact ho.nJ (by omega) (by omega) (by omega) | exact ho.nA (by omega) (by omega) (by omega) | (simp only [List.map_cons, List.map_nil, List.sum_cons, List.sum_nil, cat_i, cat_r, cat_l, Nat.reduceAdd, Nat.reduceLeDiff]; done) | decide) only [c1, decide_false, Bool.not_false, Bool.true_eq_false, s41_28, s41_29, s41_30, s41_32, s41_33, tl_s, tl_n, nI_add, pk_mul, i_cl, row_s, u2_row, i_le, i_lt, i_eq, if_true, if_false, Nat.le_refl, Nat.reduceEqDiff, Nat.reduceLeDiff]
      rw [s41_36 (by simp only [List.map_cons, List.map_nil, List.sum_cons, List.sum_nil, cat_i, cat_r, cat_l, Nat.reduceAdd, Nat.reduceLeDiff]) ho.tag]
      refine h_ticksTill hr' hd hg hi hk4 hf hf4 hgr hwa h0 (Or.inr rfl) (by omega) (fun I2 hF2 => ?_)
      rw [if_neg c1] at ih
      generalize tkM N m k g i (nI 2) 2500 = t at *
      unfold mmin at ih
      simp (disch := omega) only [i_lt] at ih
      have part2 : ∀ v : Int32, At X (d + 4) 41 57 [some (.ref o), some (.int (nI g)), some (.int (o2i b)), some (.int (nI q)), some (.int (nI i)), some (.int v), some (.int (nI t))] [] G0 I2 Q := by
        intro v
        simp (disch := first | exact ok_i | exact ok_r | exact ok_n | exact cat_i | exact cat_r | exact ho.tag | exact ho.tg | exact ho.tj | exact ho.tp | exact ho.tC (by omega) (by omega) | exact ho.tA (by omega) (by omega) | exact ho.tJ (by omega) (by omega) | exact ro_0 | exact ro_1 | omega | assumption | exact ho.nC (by omega) | exact ho.nL (by omega) | exact ho.nD (by omega) | exact ho.nJ (by omega) (by omega) (by omega) | exact ho.nA (by omega) (by omega) (by omega) | (simp only [List.map_cons, List.map_nil, List.sum_cons, List.sum_nil, cat_i, cat_r, cat_l, Nat.reduceAdd, Nat.reduceLeDiff]; done) | decide) only [s41_57, s41_59, s41_60, tl_s, tl_n, nI_add, pk_mul, i_cl, row_s, u2_row, i_le, i_lt, i_eq, if_true, if_false, Nat.le_refl, Nat.reduceEqDiff, Nat.reduceLeDiff]
        by_cases c2 : t < q
        · have c3 : ¬ q ≤ t := by omega
          rw [if_pos c2, if_pos c2] at ih
          simp (disch := first | exact ok_i | exact ok_r | exact ok_n | exact cat_i | exact cat_r | exact ho.tag | exact ho.tg | exact ho.tj | exact ho.tp | exact ho.tC (by omega) (by omega) | exact ho.tA (by omega) (by omega) | exact ho.tJ (by omega) (by omega) | exact ro_0 | exact ro_1 | omega | assumption | exact ho.nC (by omega) | exact ho.nL (by omega) | exact ho.nD (by omega) | exact ho.nJ (by omega) (by omega) (by omega) | exact ho.nA (by omega) (by omega) (by omega) | (simp only [List.map_cons, List.map_nil, List.sum_cons, List.sum_nil, cat_i, cat_r, cat_l, Nat.reduceAdd, Nat.reduceLeDiff]; done) | decide) only [c3, s41_63, s41_65, s41_66, s41_68, s41_69, s41_72, tl_s, tl_n, nI_add, pk_mul, i_cl, row_s, u2_row, i_le, i_lt, i_eq, if_true, if_false, Nat.le_refl, Nat.reduceEqDiff, Nat.reduceLeDiff]
          exact ih (I2, some (.int v), some (.int (nI t))) ⟨hF.trans hF2, rfl, rfl⟩
        · have c3 : q ≤ t := by omega
          rw [if_neg c2, if_neg c2] at ih
          simp (disch := first | exact ok_i | exact ok_r | exact ok_n | exact cat_i | exact cat_r | exact ho.tag | exact ho.tg | exact ho.tj | exact ho.tp | exact ho.tC (by omega) (by omega) | exact ho.tA (by omega) (by omega) | exact ho.tJ (by omega) (by omega) | exact ro_0 | exact ro_1 | omega | assumption | exact ho.nC (by omega) | exact ho.nL (by omega) | exact ho.nD (by omega) | exact ho.nJ (by omega) (by omega) (by omega) | exact ho.nA (by omega) (by omega) (by omega) | (simp only [List.map_cons, List.map_nil, List.sum_cons, List.sum_nil, cat_i, cat_r, cat_l, Nat.reduceAdd, Nat.reduceLeDiff]; done) | decide) only [c3, s41_69, s41_72, tl_s, tl_n, nI_add, pk_mul, i_cl, row_s, u2_row, i_le, i_lt, i_eq, if_true, if_false, Nat.le_refl, Nat.reduceEqDiff, Nat.reduceLeDiff]
          exact ih (I2, some (.int v), some (.int (nI t))) ⟨hF.trans hF2, rfl, rfl⟩
      unfold tkV
      by_cases c4 : t ≤ 2500
      · have nm := nI_m1 (a := t) (by omega)
        simp (disch := first | exact ok_i | exact ok_r | exact ok_n | exact cat_i | exact cat_r | exact ho.tag | exact ho.tg | exact ho.tj | exact ho.tp | exact ho.tC (by omega) (by omega) | exact ho.tA (by omega) (by omega) | exact ho.tJ (by omega) (by omega) | exact ro_0 | exact ro_1 | omega | assumption | exact ho.nC (by omega) | exact ho.nL (by omega) | exact ho.nD (by omega) | exact ho.nJ (by omega) (by omega) (by omega) | exact ho.nA (by omega) (by omega) (by omega) | (simp only [List.map_cons, List.map_nil, List.sum_cons, List.sum_nil, cat_i, cat_r, cat_l, Nat.reduceAdd, Nat.reduceLeDiff]; done) | decide) only [c4, nm, s41_39, s41_41, s41_43, s41_44, s41_47, s41_50, s41_53, s41_55, tl_s, tl_n, nI_add, pk_mul, i_cl, row_s, u2_row, i_le, i_lt, i_eq, if_true, if_false, Nat.le_refl, Nat.reduceEqDiff, Nat.reduceLeDiff]
        exact part2 _
      · have e5 : t = 2501 := by omega
        subst e5
        simp (disch := first | exact ok_i | exact ok_r | exact ok_n | exact cat_i | exact cat_r | exact ho.tag | exact ho.tg | exact ho.tj | exact ho.tp | exact ho.tC (by omega) (by omega) | exact ho.tA (by omega) (by omega) | exact ho.tJ (by omega) (by omega) | exact ro_0 | exact ro_1 | omega | assumption | exact ho.nC (by omega) | exact ho.nL (by omega) | exact ho.nD (by omega) | exact ho.nJ (by omega) (by omega) (by omega) | exact ho.nA (by omega) (by omega) (by omega) | (simp only [List.map_cons, List.map_nil, List.sum_cons, List.sum_nil, cat_i, cat_r, cat_l, Nat.reduceAdd, Nat.reduceLeDiff]; done) | decide) only [c4, s41_39, s41_41, s41_43, s41_44, s41_47, s41_50, s41_53, s41_55, tl_s, tl_n, nI_add, pk_mul, i_cl, row_s, u2_row, i_le, i_lt, i_eq, if_true, if_false, Nat.le_refl, Nat.reduceEqDiff, Nat.reduceLeDiff]
        exact part2 _
end
