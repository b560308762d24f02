/-! the law's start, and the law -/
theorem all_r {n : Nat} {f : Nat → Bool} (h : (List.range n).all f = true) {i : Nat} (hi : i < n) : f i = true := List.all_eq_true.mp h i (List.mem_range.mpr hi)
theorem wd_0 {I : pI} (h : chkA I = true) : Wd 0 (row I 103 (bldN (I 103) (nI 8) (nI 2))) := by
  unfold chkA at h
  simp only [Bool.and_eq_true] at h
  obtain ⟨⟨⟨⟨h1, h2⟩, h3⟩, h4⟩, h5⟩ := h
  unfold chkH at h1
  unfold chkJ at h2
  unfold chkS at h3
  simp only [Bool.and_eq_true, decide_eq_true_eq] at h1 h2 h3
  obtain ⟨a1, a2⟩ := h1
  obtain ⟨⟨⟨⟨⟨⟨b1, b2⟩, b3⟩, b4⟩, b5⟩, b6⟩, b7⟩ := h2
  obtain ⟨⟨⟨⟨c1, c2⟩, c3⟩, c4⟩, c5⟩ := h3
  have hs : SetOk (I 103) := ⟨Or.inl b6, 3, by omega, by omega, b7⟩
  have al := bld_all (N := I 103) (f := 8) (k := 2) hs (by omega) (by omega) (by omega) (by omega)
  obtain ⟨bc, bo⟩ := bld_c (N := I 103) (f := nI 8) (k := nI 2)
  generalize hN : bldN (I 103) (nI 8) (nI 2) = N at *
  have r0 : ∀ a, a ≠ 103 → row I 103 N a = I a := fun a ha => row_n ha
  refine ⟨?_, ?_⟩
  · rw [row_s]
    refine ⟨8, 2, 0, 0, ⟨Or.inl ⟨rfl, rfl⟩, ⟨al.1.1.2.2.1, by omega⟩, fun k hk => ?_, fun c k hc hk => ?_, ⟨?_, ?_, by show 0 ≤ 12; omega⟩, fun i hi => absurd hi (Nat.not_lt_zero i), fun g j hg => absurd hg (Nat.not_lt_zero g), fun a ha => ?_, 0, 0, by omega, by omega, ?_, ?_, ?_, fun i j hi => absurd hi (Nat.not_lt_zero i)⟩, al, by omega⟩
    · rw [r0 45 (by omega)]
      have := all_r a1 hk
      rw [decide_eq_true_eq] at this
      rw [this]
      rcases (by omega : k = 0 ∨ k = 1 ∨ k = 2 ∨ k = 3 ∨ k = 4 ∨ k = 5) with rfl | rfl | rfl | rfl | rfl | rfl
      · exact (bo 444 (by omega) (by omega)).symm
      · exact (bo 445 (by omega) (by omega)).symm
      · exact (bo 447 (by omega) (by omega)).symm
      · exact (bo 450 (by omega) (by omega)).symm
      · exact ((bo 448 (by omega) (by omega)).trans b6).symm
      · exact ((bo 449 (by omega) (by omega)).trans b7).symm
    · rw [r0 _ (by omega)]
      have := all_r (all_r a2 hc) hk
      rw [decide_eq_true_eq] at this
      rw [this, bc c (jm k) hc (by unfold jm; split; omega; split <;> omega)]
      rcases (by omega : k = 0 ∨ k = 1 ∨ k = 2 ∨ k = 3 ∨ k = 4 ∨ k = 5 ∨ k = 6 ∨ k = 7) with rfl | rfl | rfl | rfl | rfl | rfl | rfl | rfl <;> rfl
    · rw [r0 _ (by omega)]; exact b1
    · rw [r0 _ (by omega)]; exact b2
    · rw [r0 _ (by omega), bo _ (by omega) (by omega), if_neg (by omega), if_neg (by omega), if_neg (by omega), if_neg (by omega)]
      have := all_r b3 ha
      rw [decide_eq_true_eq] at this
      exact this
    · exact bo 451 (by omega) (by omega)
    · rw [r0 _ (by omega)]; exact b4
    · rw [r0 _ (by omega)]; exact b5
  · refine ⟨⟨?_, Or.inl ?_⟩, ⟨0, by omega, ?_, ?_, fun j hj => absurd hj (Nat.not_lt_zero j)⟩, fun s hs4 => ?_, ?_, fun w hw => ?_, fun w k hw hk => ?_⟩
    · rw [r0 0 (by omega), r0 102 (by omega), c1, c2]
    · rw [r0 0 (by omega)]; exact c1
    · rw [r0 89 (by omega)]; exact c5
    · rw [r0 102 (by omega)]; exact c4
    · have t := all_r h5 hs4
      simp only [Bool.and_eq_true, decide_eq_true_eq] at t
      obtain ⟨⟨⟨⟨t1, t2⟩, t3⟩, t4⟩, t5⟩ := t
      unfold ShOk
      rw [r0 (94 + 2 * s) (by omega), r0 (95 + 2 * s) (by omega), r0 110 (by omega), r0 111 (by omega), r0 112 (by omega)]
      refine ⟨0, by omega, t1.trans t3.symm, t2, t4, Or.inl t3, fun j hj => ?_⟩
      have t6 := all_r t5 hj
      simp only [Bool.and_eq_true, decide_eq_true_eq] at t6
      rw [t6.1, t6.2]
      exact RelB.refl
    · rw [r0 102 (by omega)]; exact c3
    · rw [r0 108 (by omega)]
      have t := all_r h4 hw
      simp only [Bool.and_eq_true, decide_eq_true_eq] at t
      exact t.1
    · rw [r0 107 (by omega)]
      have t := all_r h4 hw
      simp only [Bool.and_eq_true, decide_eq_true_eq] at t
      have t2 := all_r t.2 hk
      rw [decide_eq_true_eq] at t2
      exact t2
theorem two_ok : ∃ G I s, w1 = some (none, G, I) ∧ G.length = 102 ∧ lupS 124 334 300 0 [some (.ref 102)] [] (G ++ [(7, 17, List.replicate 17 .null)]) (zero2 I G.length) = some s ∧ s.1 = [some (.ref 102)] ∧ s.2.1 = [] ∧ s.2.2.1 = G0 ∧ chkA s.2.2.2 = true := by
  have h1 := chk1_ok
  have h2 := chk2_ok
  unfold chk1 at h1
  unfold chk2 w2 at h2
  cases h : w1 with
  | none => rw [h] at h1; cases h1
  | some q =>
    obtain ⟨v, G, I⟩ := q
    rw [h] at h1 h2
    cases v with
    | some v => cases h1
    | none =>
      dsimp only at h1 h2
      rw [decide_eq_true_eq] at h1
      cases hs : lupS 124 334 300 0 [some (.ref 102)] [] (G ++ [(7, 17, List.replicate 17 .null)]) (zero2 I G.length) with
      | none => rw [hs] at h2; cases h2
      | some s =>
        rw [hs] at h2
        obtain ⟨ls, st, G', I'⟩ := s
        simp only [Bool.and_eq_true, decide_eq_true_eq] at h2
        exact ⟨G, I, _, rfl, h1, hs, h2.1.1.1, h2.1.1.2, h2.1.2, h2.2⟩
theorem law_pure {X : pX} (hX : X.1 ≤ 3584) {Q : Option Value → pG → pI → Prop} (hQ : ∀ I, Q (some (.int (nI 1))) G0 I) : At X 15 239 0 [some (.ref 1000), none, none, none] [] [] (fun _ _ => 0) Q := by
  obtain ⟨G, I, s, e1, e2, e3, e4, e5, e6, e7⟩ := two_ok
  have d0 : decode cL_law 0 = .ok (.new 7, 3) := by decide +kernel
  have d4 : decode cL_law 4 = .ok (.invokespecial 9, 3) := by decide +kernel
  have d8 : decode cL_law 8 = .ok (.new 10, 3) := by decide +kernel
  have d12 : decode cL_law 12 = .ok (.invokespecial 12, 3) := by decide +kernel
  have c1 : (Value.ref 0).category = 1 := rfl
  have c2 : (Value.ref 102).category = 1 := rfl
  refine (At_N m239 d0 rfl rfl rfl rfl rfl rfl (st' := [.ref 0]) (G' := gN) (I' := zero2 (fun _ _ => 0) 0) rfl).mpr ?_
  refine (s239_3 c1).mpr ?_
  refine (At_K m239 d4 rfl rfl rfl rfl (y := 74) (as := [.ref 0]) (rest := [.ref 0]) rfl).mpr ?_
  refine ⟨400, (none, G, I), RT_mono 400 15 74 _ _ _ _ e1, ?_⟩
  refine (s239_7 rfl).mpr ?_
  have n8 : opN 8 (yL_law.name == "<init>") (.new 10) [] G I = some (3, [.ref 102], G ++ [(7, 17, List.replicate 17 .null)], zero2 I G.length) := by
    have nt : ntab 8 10 = some 7 := rfl
    have fc : fcount 7 = 17 := rfl
    unfold opN
    simp only [nt, e2, fc]
    rfl
  refine (At_N m239 d8 rfl rfl rfl rfl rfl rfl n8).mpr ?_
  refine (s239_11 c2).mpr ?_
  have tg : tagW (G ++ [(7, 17, List.replicate 17 .null)]) 102 = 7 := by
    unfold tagW
    rw [List.getElem?_append_right (by omega), e2]
    rfl
  have k12 : opK 8 (.invokespecial 12) [.ref 102, .ref 102] (G ++ [(7, 17, List.replicate 17 .null)]) = some (124, [.ref 102], [.ref 102]) := by
    have ct : ctab 8 12 = some (2, 124) := rfl
    have mt : (pmth 124).2.2.2.2.1 = 1 := rfl
    have mo : (pmth 124).2.2.2.1 = 7 := rfl
    have ml : (pmth 124).2.1 = 1 := rfl
    simp [opK, goK, ct, mt, mo, ml, tg, entL]
    exact ⟨⟨by decide, by decide⟩, tg⟩
  refine (At_K m239 d12 rfl rfl rfl rfl k12).mpr ?_
  refine e124.mpr (S_At 300 0 _ _ _ _ s e3 ?_)
  rw [e4, e5, e6]
  have er : s.2.2.2 = row s.2.2.2 103 (s.2.2.2 103) := row_id.symm
  rw [er]
  have cb := fun (Q' : Option Value → pG → pI → Prop) => c_builds (X := X) (d := 12) (I := s.2.2.2) (Q := Q') (N := s.2.2.2 103) (f := nI 8) (k := nI 2)
  simp (disch := first | exact ok_i | exact ok_r | exact ok_n | exact cat_i | exact cat_r | exact t103 | exact t106 | exact t108 | exact t109 | exact t110 | exact t111 | exact t112 | exact ro_0 | exact ro_1 | omega | assumption | (refine i103 ?_; omega) | (refine i106 ?_; omega) | (refine i108 ?_; omega) | (refine i109 ?_; omega) | (refine i110 ?_; omega) | (refine i111 ?_; omega) | (refine i112 ?_; omega) | (simp only [List.map_cons, List.map_nil, List.sum_cons, List.sum_nil, cat_i, cat_r, cat_l, Nat.reduceAdd, Nat.reduceLeDiff]; done) | decide) only [s124_334, s124_335, s124_337, s124_338, s124_341, tl_s, tl_n, nI_add, pk_mul, i_cl, row_s, u2_row, i_le, i_lt, i_eq, if_true, if_false, Nat.le_refl, Nat.reduceEqDiff, Nat.reduceLeDiff, cb]
  have W := wd_0 e7
  generalize row s.2.2.2 103 (bldN (s.2.2.2 103) (nI 8) (nI 2)) = J at *
  have ll := law_loop hX hQ 600 0 J W (by omega) (by omega)
  refine (s239_15 rfl).mpr (s239_16.mpr ((s239_17 rfl).mpr ?_))
  exact ll
