/-! the class: a hall made anew; small calls -/
theorem bld_c {N : Nat → Int32} {f k : Int32} : (∀ c j, c < 4 → j < 8 → cf (bldN N f k) c j = if j = 2 then nI 4 else if j = 7 then -1 else nI 0) ∧ (∀ a, 32 ≤ a → a < 452 → bldN N f k a = if a = 444 then f else if a = 445 then k else if a = 448 then N 448 else if a = 449 then N 449 else nI 0) := by
  have e : bldN N f k = upd (upd (upd (upd (upd (upd (upd (upd (upd (upd (upd (upd (zrN N 452) 448 (N 448)) 449 (N 449)) 444 f) 445 k) (8 * 0 + 2) (nI 4)) (8 * 0 + 7) (-1)) (8 * 1 + 2) (nI 4)) (8 * 1 + 7) (-1)) (8 * 2 + 2) (nI 4)) (8 * 2 + 7) (-1)) (8 * 3 + 2) (nI 4)) (8 * 3 + 7) (-1) := rfl
  rw [e]
  have z : ∀ a, a < 452 → zrN N 452 a = nI 0 := fun a ha => by unfold zrN; rw [if_pos ha]
  refine ⟨fun c j hc hj => ?_, fun a h1 h2 => ?_⟩
  · unfold cf
    by_cases c2 : j = 2
    · subst c2
      rw [if_pos rfl]
      rcases (by omega : c = 0 ∨ c = 1 ∨ c = 2 ∨ c = 3) with rfl | rfl | rfl | rfl <;> simp (disch := omega) only [up_n, up_s]
    · rw [if_neg c2]
      by_cases c7 : j = 7
      · subst c7
        rw [if_pos rfl]
        rcases (by omega : c = 0 ∨ c = 1 ∨ c = 2 ∨ c = 3) with rfl | rfl | rfl | rfl <;> simp (disch := omega) only [up_n, up_s]
      · rw [if_neg c7]
        simp (disch := omega) only [up_n]
        exact z _ (by omega)
  · by_cases c1 : a = 444
    · subst c1
      simp (disch := omega) only [up_n, up_s, if_true]
    · rw [if_neg c1]
      by_cases c2 : a = 445
      · subst c2
        simp (disch := omega) only [up_n, up_s, if_true]
      · rw [if_neg c2]
        by_cases c3 : a = 448
        · subst c3
          simp (disch := omega) only [up_n, up_s, if_true]
        · rw [if_neg c3]
          by_cases c4 : a = 449
          · subst c4
            simp (disch := omega) only [up_n, up_s, if_true]
          · rw [if_neg c4]
            simp (disch := omega) only [up_n]
            exact z _ (by omega)
theorem bld_ok {N : Nat → Int32} {f k : Nat} (hs : SetOk N) (hf1 : 2 ≤ f) (hf : f ≤ 12) (hk1 : 1 ≤ k) (hk : k ≤ 4) : Ok (bldN N (nI f) (nI k)) f k 0 0 ∧ SetOk (bldN N (nI f) (nI k)) ∧ CarK (bldN N (nI f) (nI k)) 0 k := by
  obtain ⟨hc, ho⟩ := bld_c (N := N) (f := nI f) (k := nI k)
  refine ⟨⟨⟨⟨(ho 444 (by omega) (by omega)).trans (if_pos rfl), hf1, hf⟩, ⟨(ho 445 (by omega) (by omega)).trans (by rw [if_neg (by omega), if_pos rfl]), hk1, hk⟩, (ho 446 (by omega) (by omega)).trans (by rw [if_neg (by omega), if_neg (by omega), if_neg (by omega), if_neg (by omega)]), by omega⟩, fun g hg => absurd hg (Nat.not_lt_zero g), fun c h => ?_, ⟨(ho 447 (by omega) (by omega)).trans (by rw [if_neg (by omega), if_neg (by omega), if_neg (by omega), if_neg (by omega)]), fun g hg => absurd hg (Nat.not_lt_zero g)⟩, fun c h => ?_, fun a ha => ⟨0, Nat.le_refl 0, (ho _ (by omega) (by omega)).trans (by rw [if_neg (by omega), if_neg (by omega), if_neg (by omega), if_neg (by omega)])⟩⟩, hs.of ((ho 448 (by omega) (by omega)).trans (by rw [if_neg (by omega), if_neg (by omega), if_pos rfl])) ((ho 449 (by omega) (by omega)).trans (by rw [if_neg (by omega), if_neg (by omega), if_neg (by omega), if_pos rfl])), fun g hg => absurd hg (Nat.not_lt_zero g)⟩
  · have c3 : cf (bldN N (nI f) (nI k)) c 3 = nI 0 := (hc c 3 h (by omega)).trans (by rw [if_neg (by omega), if_neg (by omega)])
    have c4 : cf (bldN N (nI f) (nI k)) c 4 = nI 0 := (hc c 4 h (by omega)).trans (by rw [if_neg (by omega), if_neg (by omega)])
    have c6 : cf (bldN N (nI f) (nI k)) c 6 = nI 0 := (hc c 6 h (by omega)).trans (by rw [if_neg (by omega), if_neg (by omega)])
    have c7 : cf (bldN N (nI f) (nI k)) c 7 = -1 := (hc c 7 h (by omega)).trans (by rw [if_neg (by omega), if_pos rfl])
    exact ⟨⟨0, by omega, c3, Or.inl c6, fun g y hg => absurd hg (Nat.not_lt_zero g)⟩, Or.inl c4, Or.inl c7, fun g hg => absurd hg (Nat.not_lt_zero g)⟩
  · exact ⟨⟨0, by omega, (hc c 0 h (by omega)).trans (by rw [if_neg (by omega), if_neg (by omega)])⟩, ⟨0, by omega, (hc c 1 h (by omega)).trans (by rw [if_neg (by omega), if_neg (by omega)])⟩, ⟨4, by omega, by omega, (hc c 2 h (by omega)).trans (by rw [if_pos rfl])⟩⟩
section
variable {X : pX} {d : Nat} {I : pI} {Q : Option Value → pG → pI → Prop} {o p o2 p2 : Nat} {N : Nat → Int32} {m : Nat} {L : List Nat} {G : pG}
theorem h_creset {a : Nat} (ha : tagW G0 a = 0) (h : ∀ I', (∀ k, k < 8 → I' a k = if k = 2 then nI 4 else if k = 6 then -1 else nI 0) → (∀ r, r ≠ a → I' r = I r) → Q none G0 I') : Call X (d + 1) 1 [.ref a] G0 I Q := by
  have z0 : nI 0 = 0 ∨ nI 0 = 1 := Or.inl rfl
  simp (disch := first | exact ok_i | exact ok_r | exact ok_n | exact cat_i | exact cat_r | exact t103 | exact t106 | exact t108 | exact t109 | exact t110 | exact t111 | exact t112 | exact ro_0 | exact ro_1 | omega | assumption | (refine i103 ?_; omega) | (refine i106 ?_; omega) | (refine i108 ?_; omega) | (refine i109 ?_; omega) | (refine i110 ?_; omega) | (refine i111 ?_; omega) | (refine i112 ?_; omega) | (simp only [List.map_cons, List.map_nil, List.sum_cons, List.sum_nil, cat_i, cat_r, cat_l, Nat.reduceAdd, Nat.reduceLeDiff]; done) | decide) only [e1, s1_0, s1_1, s1_2, s1_5, s1_6, s1_7, s1_10, s1_11, s1_12, s1_15, s1_16, s1_17, s1_20, s1_21, s1_22, s1_25, s1_26, s1_27, s1_30, s1_31, s1_32, s1_35, s1_36, s1_37, s1_40, tl_s, tl_n, nI_add, pk_mul, i_cl, row_s, u2_row, i_le, i_lt, i_eq, if_true, if_false, Nat.le_refl, Nat.reduceEqDiff, Nat.reduceLeDiff, u2_ne]
  refine h _ (fun k hk => ?_) (fun r hr => ?_)
  · rcases (by omega : k = 0 ∨ k = 1 ∨ k = 2 ∨ k = 3 ∨ k = 4 ∨ k = 5 ∨ k = 6 ∨ k = 7) with rfl | rfl | rfl | rfl | rfl | rfl | rfl | rfl <;> simp (disch := omega) only [u2_nk, u2_s, if_true, if_false, Nat.reduceEqDiff]
  · simp (disch := omega) only [u2_ne]
theorem h_reset {f k : Int32} (hr : HR o p I N m L) (h : ∀ I', HR o p I' (bldN N f k) 0 [] → Fr o p I I' → Q none G0 I') : Call X (d + 2) 24 [.ref o, .int f, .int k] G0 I Q := by
  have ho := hr.ho
  have np := ho.np
  obtain ⟨bc, bo⟩ := bld_c (N := N) (f := f) (k := k)
  simp (disch := first | exact ok_i | exact ok_r | exact ok_n | exact cat_i | exact cat_r | exact ho.tag | exact ho.tg | exact ho.tj | exact ho.tp | exact ho.tC (by omega) (by omega) | exact ho.tA (by omega) (by omega) | exact ho.tJ (by omega) (by omega) | exact ro_0 | exact ro_1 | omega | assumption | exact ho.nC (by omega) | exact ho.nL (by omega) | exact ho.nD (by omega) | exact ho.nJ (by omega) (by omega) (by omega) | exact ho.nA (by omega) (by omega) (by omega) | (simp only [List.map_cons, List.map_nil, List.sum_cons, List.sum_nil, cat_i, cat_r, cat_l, Nat.reduceAdd, Nat.reduceLeDiff]; done) | decide) only [e24, s24_0, s24_1, s24_2, s24_5, s24_6, s24_7, s24_10, s24_11, s24_12, s24_15, s24_16, s24_17, s24_20, s24_21, tl_s, tl_n, nI_add, pk_mul, i_cl, row_s, u2_row, i_le, i_lt, i_eq, if_true, if_false, Nat.le_refl, Nat.reduceEqDiff, Nat.reduceLeDiff, ho.r6, ho.r7, ho.r8, ho.r9, ho.rc, ho.g0, ho.g1, ho.g2, ho.g3, ho.g4, ho.g5, ho.g6, ho.g7, ho.g8, ho.j0, ho.j1, ho.j2, ho.j3]
  have e4 : ∀ J : pI, J = upd2 (upd2 (upd2 (upd2 I o 0 f) o 1 k) o 2 (nI 0)) o 3 (nI 0) → At X (d + 1) 24 22 [some (.ref o), some (.int f), some (.int k), some (.int (nI 0))] [] G0 J Q := by
    intro J hJ
    refine loop_h (σ := pI) (n := 4)
      (A := fun i s => At X (d + 1) 24 22 [some (.ref o), some (.int f), some (.int k), some (.int (nI i))] [] G0 s Q)
      (ok := fun i s => (∀ c j, c < i → j < 8 → s (p + 1 + c) j = if j = 2 then nI 4 else if j = 6 then -1 else nI 0) ∧ (∀ r, (r < p + 1 ∨ p + 4 < r) → s r = J r))
      (fun s hs => ?_) (fun i s hi hs ih => ?_) 0 J (Nat.zero_le _) ⟨fun c j hc => absurd hc (Nat.not_lt_zero c), fun r _ => rfl⟩
    · obtain ⟨s1, s2⟩ := hs
      simp (disch := first | exact ok_i | exact ok_r | exact ok_n | exact cat_i | exact cat_r | exact ho.tag | exact ho.tg | exact ho.tj | exact ho.tp | exact ho.tC (by omega) (by omega) | exact ho.tA (by omega) (by omega) | exact ho.tJ (by omega) (by omega) | exact ro_0 | exact ro_1 | omega | assumption | exact ho.nC (by omega) | exact ho.nL (by omega) | exact ho.nD (by omega) | exact ho.nJ (by omega) (by omega) (by omega) | exact ho.nA (by omega) (by omega) (by omega) | (simp only [List.map_cons, List.map_nil, List.sum_cons, List.sum_nil, cat_i, cat_r, cat_l, Nat.reduceAdd, Nat.reduceLeDiff]; done) | decide) only [s24_22, s24_23, s24_24, s24_42, s24_43, tl_s, tl_n, nI_add, pk_mul, i_cl, row_s, u2_row, i_le, i_lt, i_eq, if_true, if_false, Nat.le_refl, Nat.reduceEqDiff, Nat.reduceLeDiff]
      refine loop_h (σ := pI) (n := 12)
        (A := fun i s => At X (d + 1) 24 44 [some (.ref o), some (.int f), some (.int k), some (.int (nI i))] [] G0 s Q)
        (ok := fun i t => (∀ a, a < i → t (p + 15) a = nI 0) ∧ (∀ r, r ≠ p + 15 → t r = s r))
        (fun t ht => ?_) (fun i t hi ht ih => ?_) 0 s (Nat.zero_le _) ⟨fun c hc => absurd hc (Nat.not_lt_zero c), fun r _ => rfl⟩
      · obtain ⟨t1, t2⟩ := ht
        simp (disch := first | exact ok_i | exact ok_r | exact ok_n | exact cat_i | exact cat_r | exact ho.tag | exact ho.tg | exact ho.tj | exact ho.tp | exact ho.tC (by omega) (by omega) | exact ho.tA (by omega) (by omega) | exact ho.tJ (by omega) (by omega) | exact ro_0 | exact ro_1 | omega | assumption | exact ho.nC (by omega) | exact ho.nL (by omega) | exact ho.nD (by omega) | exact ho.nJ (by omega) (by omega) (by omega) | exact ho.nA (by omega) (by omega) (by omega) | (simp only [List.map_cons, List.map_nil, List.sum_cons, List.sum_nil, cat_i, cat_r, cat_l, Nat.reduceAdd, Nat.reduceLeDiff]; done) | decide) only [s24_44, s24_45, s24_47, s24_63, s24_64, tl_s, tl_n, nI_add, pk_mul, i_cl, row_s, u2_row, i_le, i_lt, i_eq, if_true, if_false, Nat.le_refl, Nat.reduceEqDiff, Nat.reduceLeDiff, ho.r6, ho.r7, ho.r8, ho.r9, ho.rc, ho.g0, ho.g1, ho.g2, ho.g3, ho.g4, ho.g5, ho.g6, ho.g7, ho.g8, ho.j0, ho.j1, ho.j2, ho.j3]
        rw [s24_67 (by simp only [List.map_cons, List.map_nil, List.sum_cons, List.sum_nil, cat_i, cat_r, cat_l, Nat.reduceAdd, Nat.reduceLeDiff]) ho.tg]
        simp (disch := first | exact ok_i | exact ok_r | exact ok_n | exact cat_i | exact cat_r | exact ho.tag | exact ho.tg | exact ho.tj | exact ho.tp | exact ho.tC (by omega) (by omega) | exact ho.tA (by omega) (by omega) | exact ho.tJ (by omega) (by omega) | exact ro_0 | exact ro_1 | omega | assumption | exact ho.nC (by omega) | exact ho.nL (by omega) | exact ho.nD (by omega) | exact ho.nJ (by omega) (by omega) (by omega) | exact ho.nA (by omega) (by omega) (by omega) | (simp only [List.map_cons, List.map_nil, List.sum_cons, List.sum_nil, cat_i, cat_r, cat_l, Nat.reduceAdd, Nat.reduceLeDiff]; done) | decide) only [e8, s8_0, s8_1, s8_2, s8_5, s8_6, s8_7, s8_10, s24_70, s24_71, tl_s, tl_n, nI_add, pk_mul, i_cl, row_s, u2_row, i_le, i_lt, i_eq, if_true, if_false, Nat.le_refl, Nat.reduceEqDiff, Nat.reduceLeDiff, ho.r6, ho.r7, ho.r8, ho.r9, ho.rc, ho.g0, ho.g1, ho.g2, ho.g3, ho.g4, ho.g5, ho.g6, ho.g7, ho.g8, ho.j0, ho.j1, ho.j2, ho.j3]
        rw [s24_74 (by simp only [List.map_cons, List.map_nil, List.sum_cons, List.sum_nil, cat_i, cat_r, cat_l, Nat.reduceAdd, Nat.reduceLeDiff]) ho.tj]
        simp (disch := first | exact ok_i | exact ok_r | exact ok_n | exact cat_i | exact cat_r | exact ho.tag | exact ho.tg | exact ho.tj | exact ho.tp | exact ho.tC (by omega) (by omega) | exact ho.tA (by omega) (by omega) | exact ho.tJ (by omega) (by omega) | exact ro_0 | exact ro_1 | omega | assumption | exact ho.nC (by omega) | exact ho.nL (by omega) | exact ho.nD (by omega) | exact ho.nJ (by omega) (by omega) (by omega) | exact ho.nA (by omega) (by omega) (by omega) | (simp only [List.map_cons, List.map_nil, List.sum_cons, List.sum_nil, cat_i, cat_r, cat_l, Nat.reduceAdd, Nat.reduceLeDiff]; done) | decide) only [e53, s53_0, s53_1, s53_2, s53_5, s53_6, s53_7, s53_10, s24_77, tl_s, tl_n, nI_add, pk_mul, i_cl, row_s, u2_row, i_le, i_lt, i_eq, if_true, if_false, Nat.le_refl, Nat.reduceEqDiff, Nat.reduceLeDiff, ho.r6, ho.r7, ho.r8, ho.r9, ho.rc, ho.g0, ho.g1, ho.g2, ho.g3, ho.g4, ho.g5, ho.g6, ho.g7, ho.g8, ho.j0, ho.j1, ho.j2, ho.j3]
        refine h _ ⟨ho, ⟨(bo 446 (by omega) (by omega)).trans (by rw [if_neg (by omega), if_neg (by omega), if_neg (by omega), if_neg (by omega)]), by omega⟩, fun j hj => ?_, fun c j hc hj => ?_, ⟨?_, ?_, by show 0 ≤ 12; omega⟩, fun i hi => absurd hi (Nat.not_lt_zero i), fun g j hg => absurd hg (Nat.not_lt_zero g), fun a ha => ?_, 0, 0, by omega, by omega, (bo 451 (by omega) (by omega)).trans (by rw [if_neg (by omega), if_neg (by omega), if_neg (by omega), if_neg (by omega)]), ?_, ?_, fun i j hi => absurd hi (Nat.not_lt_zero i)⟩ (fun r h1 h2 => ?_)
        · simp (disch := omega) only [u2_ne]
          rw [t2 _ (by omega), s2 _ (by omega), hJ]
          rcases (by omega : j = 0 ∨ j = 1 ∨ j = 2 ∨ j = 3 ∨ j = 4 ∨ j = 5) with rfl | rfl | rfl | rfl | rfl | rfl
          · simp (disch := omega) only [u2_nk, u2_s]
            exact ((bo 444 (by omega) (by omega)).trans (if_pos rfl)).symm
          · simp (disch := omega) only [u2_nk, u2_s]
            exact ((bo 445 (by omega) (by omega)).trans (by rw [if_neg (by omega), if_pos rfl])).symm
          · simp (disch := omega) only [u2_nk, u2_s]
            exact ((bo 447 (by omega) (by omega)).trans (by rw [if_neg (by omega), if_neg (by omega), if_neg (by omega), if_neg (by omega)])).symm
          · simp (disch := omega) only [u2_nk, u2_s]
            exact ((bo 450 (by omega) (by omega)).trans (by rw [if_neg (by omega), if_neg (by omega), if_neg (by omega), if_neg (by omega)])).symm
          · simp (disch := omega) only [u2_nk, u2_s]
            rw [hr.o4]
            exact ((bo 448 (by omega) (by omega)).trans (by rw [if_neg (by omega), if_neg (by omega), if_pos rfl])).symm
          · simp (disch := omega) only [u2_nk, u2_s]
            rw [hr.o5]
            exact ((bo 449 (by omega) (by omega)).trans (by rw [if_neg (by omega), if_neg (by omega), if_neg (by omega), if_pos rfl])).symm
        · simp (disch := omega) only [u2_ne]
          rw [t2 _ (by omega), s1 c j hc hj, bc c (jm j) hc (jm_lt hj)]
          rcases (by omega : j = 0 ∨ j = 1 ∨ j = 2 ∨ j = 3 ∨ j = 4 ∨ j = 5 ∨ j = 6 ∨ j = 7) with rfl | rfl | rfl | rfl | rfl | rfl | rfl | rfl <;> rfl
        · simp (disch := omega) only [u2_ne, u2_nk, u2_s]
        · simp (disch := omega) only [u2_ne, u2_nk, u2_s]
          rfl
        · simp (disch := omega) only [u2_ne]
          rw [t1 a ha]
          exact ((bo _ (by omega) (by omega)).trans (by rw [if_neg (by omega), if_neg (by omega), if_neg (by omega), if_neg (by omega)])).symm
        · simp (disch := omega) only [u2_ne, u2_nk, u2_s]
        · simp (disch := omega) only [u2_ne, u2_nk, u2_s]
        · simp (disch := omega) only [u2_ne]
          rw [t2 _ (by omega), s2 _ (by omega), hJ]
          simp (disch := omega) only [u2_ne]
      · obtain ⟨t1, t2⟩ := ht
        have n1 : ¬ 12 ≤ i := by omega
        rw [s24_44]
        simp (disch := first | exact ok_i | exact ok_r | exact ok_n | exact cat_i | exact cat_r | exact ho.tag | exact ho.tg | exact ho.tj | exact ho.tp | exact ho.tC (by omega) (by omega) | exact ho.tA (by omega) (by omega) | exact ho.tJ (by omega) (by omega) | exact ro_0 | exact ro_1 | omega | assumption | exact ho.nC (by omega) | exact ho.nL (by omega) | exact ho.nD (by omega) | exact ho.nJ (by omega) (by omega) (by omega) | exact ho.nA (by omega) (by omega) (by omega) | (simp only [List.map_cons, List.map_nil, List.sum_cons, List.sum_nil, cat_i, cat_r, cat_l, Nat.reduceAdd, Nat.reduceLeDiff]; done) | decide) only [s24_45, s24_47, s24_50, s24_51, s24_54, s24_55, s24_56, s24_57, s24_60, tl_s, tl_n, nI_add, pk_mul, i_cl, row_s, u2_row, i_le, i_lt, i_eq, if_true, if_false, Nat.le_refl, Nat.reduceEqDiff, Nat.reduceLeDiff, ho.r6, ho.r7, ho.r8, ho.r9, ho.rc, ho.g0, ho.g1, ho.g2, ho.g3, ho.g4, ho.g5, ho.g6, ho.g7, ho.g8, ho.j0, ho.j1, ho.j2, ho.j3, n1]
        refine ih _ ⟨fun a ha => ?_, fun r hr2 => by rw [u2_ne hr2]; exact t2 r hr2⟩
        by_cases e : a = i
        · subst e; exact u2_s
        · rw [u2_nk (by omega)]; exact t1 a (by omega)
    · obtain ⟨s1, s2⟩ := hs
      have n1 : ¬ 4 ≤ i := by omega
      rw [s24_22]
      simp (disch := first | exact ok_i | exact ok_r | exact ok_n | exact cat_i | exact cat_r | exact ho.tag | exact ho.tg | exact ho.tj | exact ho.tp | exact ho.tC (by omega) (by omega) | exact ho.tA (by omega) (by omega) | exact ho.tJ (by omega) (by omega) | exact ro_0 | exact ro_1 | omega | assumption | exact ho.nC (by omega) | exact ho.nL (by omega) | exact ho.nD (by omega) | exact ho.nJ (by omega) (by omega) (by omega) | exact ho.nA (by omega) (by omega) (by omega) | (simp only [List.map_cons, List.map_nil, List.sum_cons, List.sum_nil, cat_i, cat_r, cat_l, Nat.reduceAdd, Nat.reduceLeDiff]; done) | decide) only [s24_23, s24_24, s24_27, s24_28, s24_31, s24_32, tl_s, tl_n, nI_add, pk_mul, i_cl, row_s, u2_row, i_le, i_lt, i_eq, if_true, if_false, Nat.le_refl, Nat.reduceEqDiff, Nat.reduceLeDiff, ho.r6, ho.r7, ho.r8, ho.r9, ho.rc, ho.g0, ho.g1, ho.g2, ho.g3, ho.g4, ho.g5, ho.g6, ho.g7, ho.g8, ho.j0, ho.j1, ho.j2, ho.j3, n1]
      rw [s24_33 (by simp only [List.map_cons, List.map_nil, List.sum_cons, List.sum_nil, cat_i, cat_r, cat_l, Nat.reduceAdd, Nat.reduceLeDiff]) (ho.tC (by omega) (by omega))]
      refine h_creset (ho.tC (by omega) (by omega)) (fun I3 t1 t2 => ?_)
      simp (disch := first | exact ok_i | exact ok_r | exact ok_n | exact cat_i | exact cat_r | exact ho.tag | exact ho.tg | exact ho.tj | exact ho.tp | exact ho.tC (by omega) (by omega) | exact ho.tA (by omega) (by omega) | exact ho.tJ (by omega) (by omega) | exact ro_0 | exact ro_1 | omega | assumption | exact ho.nC (by omega) | exact ho.nL (by omega) | exact ho.nD (by omega) | exact ho.nJ (by omega) (by omega) (by omega) | exact ho.nA (by omega) (by omega) (by omega) | (simp only [List.map_cons, List.map_nil, List.sum_cons, List.sum_nil, cat_i, cat_r, cat_l, Nat.reduceAdd, Nat.reduceLeDiff]; done) | decide) only [s24_36, s24_39, tl_s, tl_n, nI_add, pk_mul, i_cl, row_s, u2_row, i_le, i_lt, i_eq, if_true, if_false, Nat.le_refl, Nat.reduceEqDiff, Nat.reduceLeDiff]
      refine ih I3 ⟨fun c j hc hj => ?_, fun r h1 => by rw [t2 r (by omega), s2 r h1]⟩
      by_cases e : c = i
      · subst e; exact t1 j hj
      · rw [t2 _ (by omega), s1 c j (by omega) hj]
  exact e4 _ rfl
end
