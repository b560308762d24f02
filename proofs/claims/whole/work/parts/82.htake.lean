/-! the class: a call -/
def Fr2 (o p o2 p2 : Nat) (I I' : pI) : Prop := ∀ a, a ≠ o → (a < p ∨ p + 20 < a) → a ≠ o2 → (a < p2 ∨ p2 + 20 < a) → I' a = I a
theorem Fr2.refl {o p o2 p2 : Nat} {I : pI} : Fr2 o p o2 p2 I I := fun _ _ _ _ _ => rfl
theorem Fr2.trans {o p o2 p2 : Nat} {I I' I'' : pI} (h : Fr2 o p o2 p2 I I') (h2 : Fr2 o p o2 p2 I' I'') : Fr2 o p o2 p2 I I'' := fun a h3 h4 h5 h6 => (h2 a h3 h4 h5 h6).trans (h a h3 h4 h5 h6)
theorem Fr.two {o p o2 p2 : Nat} {I I' : pI} (h : Fr o p I I') : Fr2 o p o2 p2 I I' := fun a h3 h4 _ _ => h a h3 h4
theorem Fr.two2 {o p o2 p2 : Nat} {I I' : pI} (h : Fr o2 p2 I I') : Fr2 o p o2 p2 I I' := fun a _ _ h5 h6 => h a h5 h6
theorem okC_b {f : Nat} {x y s : Int32} : okC f x y s = (inR x f && inR y f && !decide (x = y) && (!decide (s < nI 1) && decide (s ≤ nI 8))) := by
  have e1 : (s < nI 1) ↔ s.toInt < 1 := by rw [Int32.lt_iff_toInt_lt]; exact Iff.rfl
  have e2 : (s ≤ nI 8) ↔ s.toInt ≤ 8 := by rw [Int32.le_iff_toInt_le]; exact Iff.rfl
  show (inR x f && inR y f && !decide (x = y) && decide (1 ≤ s.toInt ∧ s.toInt ≤ 8)) = _
  congr 1
  by_cases h1 : s.toInt < 1
  · rw [decide_eq_true (e1.mpr h1), decide_eq_false (by omega)]; rfl
  · rw [decide_eq_false (fun e => h1 (e1.mp e))]
    by_cases h2 : s.toInt ≤ 8
    · rw [decide_eq_true (e2.mpr h2), decide_eq_true (by omega)]; rfl
    · rw [decide_eq_false (fun e => h2 (e2.mp e)), decide_eq_false (by omega)]; rfl
section
variable {X : pX} {d : Nat} {I : pI} {Q : Option Value → pG → pI → Prop} {o p o2 p2 : Nat} {N : Nat → Int32} {m : Nat} {L : List Nat}
theorem h_best {f k g T : Nat} {x y s : Int32} (hr : HR o p I N m (live N m)) (hd : Deep o o2 p2) (ok : Ok N f k m T) (hset : SetOk N) (hg : g < m) (h0 : gf N g 4 = nI 0)
    (h : ∀ I' l7 l8, Fr o2 p2 I I' → okL l7 = true → okL l8 = true → At X (d + 5) 33 140 [some (.ref o), some (.int x), some (.int y), some (.int s), some (.int (nI g)), some (.int (nI (chS N m k g (k - 1)).1)), some (.int (chS N m k g (k - 1)).2), l7, l8] [] G0 I' Q) :
    At X (d + 5) 33 85 [some (.ref o), some (.int x), some (.int y), some (.int s), some (.int (nI g)), none, none, none, none] [] G0 I Q := by
  have ho := hr.ho
  have m40 := hr.m40
  have ho2 := hd.hall
  obtain ⟨⟨⟨hf, hf1, hf4⟩, ⟨hk, hk1, hk4⟩, -, -⟩, hgr, hwa, -⟩ := ok
  simp (disch := first | exact ok_i | exact ok_r | exact ok_n | exact cat_i | exact cat_r | exact ho.tag | exact ho.tg | exact ho.tj | exact ho.tp | exact ho.tC (by omega) (by omega) | exact ho.tA (by omega) (by omega) | exact ho.tJ (by omega) (by omega) | exact ro_0 | exact ro_1 | omega | assumption | exact ho.nC (by omega) | exact ho.nL (by omega) | exact ho.nD (by omega) | exact ho.nJ (by omega) (by omega) (by omega) | exact ho.nA (by omega) (by omega) (by omega) | (simp only [List.map_cons, List.map_nil, List.sum_cons, List.sum_nil, cat_i, cat_r, cat_l, Nat.reduceAdd, Nat.reduceLeDiff]; done) | decide) only [s33_85, s33_86, s33_88, s33_89, s33_91, tl_s, tl_n, nI_add, pk_mul, i_cl, row_s, u2_row, i_le, i_lt, i_eq, if_true, if_false, Nat.le_refl, Nat.reduceEqDiff, Nat.reduceLeDiff]
  rw [s33_92 (by simp only [List.map_cons, List.map_nil, List.sum_cons, List.sum_nil, cat_i, cat_r, cat_l, Nat.reduceAdd, Nat.reduceLeDiff]) ho.tag]
  refine h_costFor hr hd hg (c := 0) hk1 hk hk4 hf hf4 hgr hwa h0 hset (fun I1 hF1 => ?_)
  simp (disch := first | exact ok_i | exact ok_r | exact ok_n | exact cat_i | exact cat_r | exact ho.tag | exact ho.tg | exact ho.tj | exact ho.tp | exact ho.tC (by omega) (by omega) | exact ho.tA (by omega) (by omega) | exact ho.tJ (by omega) (by omega) | exact ro_0 | exact ro_1 | omega | assumption | exact ho.nC (by omega) | exact ho.nL (by omega) | exact ho.nD (by omega) | exact ho.nJ (by omega) (by omega) (by omega) | exact ho.nA (by omega) (by omega) (by omega) | (simp only [List.map_cons, List.map_nil, List.sum_cons, List.sum_nil, cat_i, cat_r, cat_l, Nat.reduceAdd, Nat.reduceLeDiff]; done) | decide) only [s33_95, s33_97, s33_98, tl_s, tl_n, nI_add, pk_mul, i_cl, row_s, u2_row, i_le, i_lt, i_eq, if_true, if_false, Nat.le_refl, Nat.reduceEqDiff, Nat.reduceLeDiff]
  refine loop_h (σ := pI × Option Value) (n := k)
    (A := fun i t => At X (d + 5) 33 100 [some (.ref o), some (.int x), some (.int y), some (.int s), some (.int (nI g)), some (.int (nI (chS N m k g (i - 1)).1)), some (.int (chS N m k g (i - 1)).2), some (.int (nI i)), t.2] [] G0 t.1 Q)
    (ok := fun i t => 1 ≤ i ∧ Fr o2 p2 I t.1 ∧ okL t.2 = true)
    (fun t ht => ?_) (fun i t hi ht ih => ?_) 1 (I1, none) hk1 ⟨Nat.le_refl 1, hF1, rfl⟩
  · obtain ⟨I', l8⟩ := t
    obtain ⟨-, hF, hl⟩ := ht
    dsimp only at hF hl ⊢
    have hr' := hr.fr ho2 hd.ne hF
    simp (disch := first | exact ok_i | exact ok_r | exact ok_n | exact cat_i | exact cat_r | exact ho.tag | exact ho.tg | exact ho.tj | exact ho.tp | exact ho.tC (by omega) (by omega) | exact ho.tA (by omega) (by omega) | exact ho.tJ (by omega) (by omega) | exact ro_0 | exact ro_1 | omega | assumption | exact ho.nC (by omega) | exact ho.nL (by omega) | exact ho.nD (by omega) | exact ho.nJ (by omega) (by omega) (by omega) | exact ho.nA (by omega) (by omega) (by omega) | (simp only [List.map_cons, List.map_nil, List.sum_cons, List.sum_nil, cat_i, cat_r, cat_l, Nat.reduceAdd, Nat.reduceLeDiff]; done) | decide) only [s33_100, s33_102, s33_103, s33_106, tl_s, tl_n, nI_add, pk_mul, i_cl, row_s, u2_row, i_le, i_lt, i_eq, if_true, if_false, Nat.le_refl, Nat.reduceEqDiff, Nat.reduceLeDiff, ho.r6, ho.r7, ho.r8, ho.r9, ho.rc, ho.g0, ho.g1, ho.g2, ho.g3, ho.g4, ho.g5, ho.g6, ho.g7, ho.g8, ho.j0, ho.j1, ho.j2, ho.j3, hr'.o1, hk]
    exact h I' _ l8 hF rfl hl
  · obtain ⟨I', l8⟩ := t
    obtain ⟨h1, hF, hl⟩ := ht
    obtain ⟨j, rfl⟩ : ∃ j, i = j + 1 := ⟨i - 1, by omega⟩
    dsimp only at hF hl ih ⊢
    have hr' := hr.fr ho2 hd.ne hF
    have n1 : ¬ k ≤ j + 1 := by omega
    have hb : (chS N m k g j).1 ≤ j := chS_le
    rw [Nat.add_sub_cancel] at ih ⊢
    have e1 : chS N m k g (j + 1) = (if costM N m k g (j + 1) < (chS N m k g j).2 then j + 1 else (chS N m k g j).1, mmin (chS N m k g j).2 (costM N m k g (j + 1))) := rfl
    rw [s33_100]
    simp (disch := first | exact ok_i | exact ok_r | exact ok_n | exact cat_i | exact cat_r | exact ho.tag | exact ho.tg | exact ho.tj | exact ho.tp | exact ho.tC (by omega) (by omega) | exact ho.tA (by omega) (by omega) | exact ho.tJ (by omega) (by omega) | exact ro_0 | exact ro_1 | omega | assumption | exact ho.nC (by omega) | exact ho.nL (by omega) | exact ho.nD (by omega) | exact ho.nJ (by omega) (by omega) (by omega) | exact ho.nA (by omega) (by omega) (by omega) | (simp only [List.map_cons, List.map_nil, List.sum_cons, List.sum_nil, cat_i, cat_r, cat_l, Nat.reduceAdd, Nat.reduceLeDiff]; done) | decide) only [s33_102, s33_103, s33_106, s33_109, s33_110, s33_112, tl_s, tl_n, nI_add, pk_mul, i_cl, row_s, u2_row, i_le, i_lt, i_eq, if_true, if_false, Nat.le_refl, Nat.reduceEqDiff, Nat.reduceLeDiff, ho.r6, ho.r7, ho.r8, ho.r9, ho.rc, ho.g0, ho.g1, ho.g2, ho.g3, ho.g4, ho.g5, ho.g6, ho.g7, ho.g8, ho.j0, ho.j1, ho.j2, ho.j3, hr'.o1, hk, n1]
    rw [s33_114 (by simp only [List.map_cons, List.map_nil, List.sum_cons, List.sum_nil, cat_i, cat_r, cat_l, Nat.reduceAdd, Nat.reduceLeDiff]) ho.tag]
    refine h_costFor hr' hd hg (by omega) hk hk4 hf hf4 hgr hwa h0 hset (fun I2 hF2 => ?_)
    rw [e1] at ih
    generalize costM N m k g (j + 1) = w at *
    generalize chS N m k g j = b at *
    unfold mmin at ih
    simp (disch := first | exact ok_i | exact ok_r | exact ok_n | exact cat_i | exact cat_r | exact ho.tag | exact ho.tg | exact ho.tj | exact ho.tp | exact ho.tC (by omega) (by omega) | exact ho.tA (by omega) (by omega) | exact ho.tJ (by omega) (by omega) | exact ro_0 | exact ro_1 | omega | assumption | exact ho.nC (by omega) | exact ho.nL (by omega) | exact ho.nD (by omega) | exact ho.nJ (by omega) (by omega) (by omega) | exact ho.nA (by omega) (by omega) (by omega) | (simp only [List.map_cons, List.map_nil, List.sum_cons, List.sum_nil, cat_i, cat_r, cat_l, Nat.reduceAdd, Nat.reduceLeDiff]; done) | decide) only [s33_117, s33_119, s33_121, s33_123, tl_s, tl_n, nI_add, pk_mul, i_cl, row_s, u2_row, i_le, i_lt, i_eq, if_true, if_false, Nat.le_refl, Nat.reduceEqDiff, Nat.reduceLeDiff]
    by_cases c1 : w < b.2
    · have c2 : ¬ b.2 ≤ w := Int32.not_le.mpr c1
      rw [if_pos c1, if_pos c1] at ih
      simp (disch := first | exact ok_i | exact ok_r | exact ok_n | exact cat_i | exact cat_r | exact ho.tag | exact ho.tg | exact ho.tj | exact ho.tp | exact ho.tC (by omega) (by omega) | exact ho.tA (by omega) (by omega) | exact ho.tJ (by omega) (by omega) | exact ro_0 | exact ro_1 | omega | assumption | exact ho.nC (by omega) | exact ho.nL (by omega) | exact ho.nD (by omega) | exact ho.nJ (by omega) (by omega) (by omega) | exact ho.nA (by omega) (by omega) (by omega) | (simp only [List.map_cons, List.map_nil, List.sum_cons, List.sum_nil, cat_i, cat_r, cat_l, Nat.reduceAdd, Nat.reduceLeDiff]; done) | decide) only [c2, s33_126, s33_128, s33_130, s33_132, s33_134, s33_137, tl_s, tl_n, nI_add, pk_mul, i_cl, row_s, u2_row, i_le, i_lt, i_eq, if_true, if_false, Nat.le_refl, Nat.reduceEqDiff, Nat.reduceLeDiff]
      exact ih (I2, some (.int w)) ⟨by omega, hF.trans hF2, rfl⟩
    · have c2 : b.2 ≤ w := Int32.not_lt.mp c1
      rw [if_neg c1, if_neg c1] at ih
      simp (disch := first | exact ok_i | exact ok_r | exact ok_n | exact cat_i | exact cat_r | exact ho.tag | exact ho.tg | exact ho.tj | exact ho.tp | exact ho.tC (by omega) (by omega) | exact ho.tA (by omega) (by omega) | exact ho.tJ (by omega) (by omega) | exact ro_0 | exact ro_1 | omega | assumption | exact ho.nC (by omega) | exact ho.nL (by omega) | exact ho.nD (by omega) | exact ho.nJ (by omega) (by omega) (by omega) | exact ho.nA (by omega) (by omega) (by omega) | (simp only [List.map_cons, List.map_nil, List.sum_cons, List.sum_nil, cat_i, cat_r, cat_l, Nat.reduceAdd, Nat.reduceLeDiff]; done) | decide) only [c2, s33_134, s33_137, tl_s, tl_n, nI_add, pk_mul, i_cl, row_s, u2_row, i_le, i_lt, i_eq, if_true, if_false, Nat.le_refl, Nat.reduceEqDiff, Nat.reduceLeDiff]
      exact ih (I2, some (.int w)) ⟨by omega, hF.trans hF2, rfl⟩
theorem h_takeCall {f k T : Nat} {x y s : Int32} (hr : HR o p I N m (live N m)) (hd : Deep o o2 p2) (ok : Ok N f k m T) (hset : SetOk N)
    (h : ∀ I', HR o p I' (clN N f m k x y s) (clm N f m k x y s) (live (clN N f m k x y s) (clm N f m k x y s)) → Fr2 o p o2 p2 I I' → Q (some (.int (clV N f m k x y s))) G0 I') :
    Call X (d + 6) 33 [.ref o, .int x, .int y, .int s] G0 I Q := by
  have ho := hr.ho
  have m40 := hr.m40
  have l12 := hr.l12
  have ho2 := hd.hall
  have ok2 := ok
  obtain ⟨⟨⟨hf, hf1, hf4⟩, ⟨hk, hk1, hk4⟩, -, -⟩, hgr, hwa, ht, -⟩ := ok2
  have hf2 : I o 0 = nI f := by rw [hr.o0]; exact hf
  have hll := live_len hgr.how
  unfold clN clm clV at h
  simp (disch := first | exact ok_i | exact ok_r | exact ok_n | exact cat_i | exact cat_r | exact ho.tag | exact ho.tg | exact ho.tj | exact ho.tp | exact ho.tC (by omega) (by omega) | exact ho.tA (by omega) (by omega) | exact ho.tJ (by omega) (by omega) | exact ro_0 | exact ro_1 | omega | assumption | exact ho.nC (by omega) | exact ho.nL (by omega) | exact ho.nD (by omega) | exact ho.nJ (by omega) (by omega) (by omega) | exact ho.nA (by omega) (by omega) (by omega) | (simp only [List.map_cons, List.map_nil, List.sum_cons, List.sum_nil, cat_i, cat_r, cat_l, Nat.reduceAdd, Nat.reduceLeDiff]; done) | decide) only [e33, s33_0, s33_1, s33_2, s33_5, tl_s, tl_n, nI_add, pk_mul, i_cl, row_s, u2_row, i_le, i_lt, i_eq, if_true, if_false, Nat.le_refl, Nat.reduceEqDiff, Nat.reduceLeDiff, h_isFloor ho hf2 hf4, b2i_0]
  cases c1 : okC f x y s
  · rw [c1] at h
    have hbad := h I (by rw [Bool.false_and, Bool.false_and, if_neg (by decide), if_neg (by decide)]; exact hr) Fr2.refl
    rw [if_neg (by decide)] at hbad
    rw [okC_b] at c1
    cases c2 : inR x f
    · simp (disch := first | exact ok_i | exact ok_r | exact ok_n | exact cat_i | exact cat_r | exact ho.tag | exact ho.tg | exact ho.tj | exact ho.tp | exact ho.tC (by omega) (by omega) | exact ho.tA (by omega) (by omega) | exact ho.tJ (by omega) (by omega) | exact ro_0 | exact ro_1 | omega | assumption | exact ho.nC (by omega) | exact ho.nL (by omega) | exact ho.nD (by omega) | exact ho.nJ (by omega) (by omega) (by omega) | exact ho.nA (by omega) (by omega) (by omega) | (simp only [List.map_cons, List.map_nil, List.sum_cons, List.sum_nil, cat_i, cat_r, cat_l, Nat.reduceAdd, Nat.reduceLeDiff]; done) | decide) only [s33_32, s33_34, tl_s, tl_n, nI_add, pk_mul, i_cl, row_s, u2_row, i_le, i_lt, i_eq, if_true, if_false, Nat.le_refl, Nat.reduceEqDiff, Nat.reduceLeDiff]
      exact hbad
    · simp (disch := first | exact ok_i | exact ok_r | exact ok_n | exact cat_i | exact cat_r | exact ho.tag | exact ho.tg | exact ho.tj | exact ho.tp | exact ho.tC (by omega) (by omega) | exact ho.tA (by omega) (by omega) | exact ho.tJ (by omega) (by omega) | exact ro_0 | exact ro_1 | omega | assumption | exact ho.nC (by omega) | exact ho.nL (by omega) | exact ho.nD (by omega) | exact ho.nJ (by omega) (by omega) (by omega) | exact ho.nA (by omega) (by omega) (by omega) | (simp only [List.map_cons, List.map_nil, List.sum_cons, List.sum_nil, cat_i, cat_r, cat_l, Nat.reduceAdd, Nat.reduceLeDiff]; done) | decide) only [s33_8, s33_9, s33_10, s33_13, tl_s, tl_n, nI_add, pk_mul, i_cl, row_s, u2_row, i_le, i_lt, i_eq, if_true, if_false, Nat.le_refl, Nat.reduceEqDiff, Nat.reduceLeDiff, h_isFloor ho hf2 hf4, b2i_0, Bool.true_eq_false]
      cases c3 : inR y f
      · simp (disch := first | exact ok_i | exact ok_r | exact ok_n | exact cat_i | exact cat_r | exact ho.tag | exact ho.tg | exact ho.tj | exact ho.tp | exact ho.tC (by omega) (by omega) | exact ho.tA (by omega) (by omega) | exact ho.tJ (by omega) (by omega) | exact ro_0 | exact ro_1 | omega | assumption | exact ho.nC (by omega) | exact ho.nL (by omega) | exact ho.nD (by omega) | exact ho.nJ (by omega) (by omega) (by omega) | exact ho.nA (by omega) (by omega) (by omega) | (simp only [List.map_cons, List.map_nil, List.sum_cons, List.sum_nil, cat_i, cat_r, cat_l, Nat.reduceAdd, Nat.reduceLeDiff]; done) | decide) only [s33_32, s33_34, tl_s, tl_n, nI_add, pk_mul, i_cl, row_s, u2_row, i_le, i_lt, i_eq, if_true, if_false, Nat.le_refl, Nat.reduceEqDiff, Nat.reduceLeDiff]
        exact hbad
      · simp (disch := first | exact ok_i | exact ok_r | exact ok_n | exact cat_i | exact cat_r | exact ho.tag | exact ho.tg | exact ho.tj | exact ho.tp | exact ho.tC (by omega) (by omega) | exact ho.tA (by omega) (by omega) | exact ho.tJ (by omega) (by omega) | exact ro_0 | exact ro_1 | omega | assumption | exact ho.nC (by omega) | exact ho.nL (by omega) | exact ho.nD (by omega) | exact ho.nJ (by omega) (by omega) (by omega) | exact ho.nA (by omega) (by omega) (by omega) | (simp only [List.map_cons, List.map_nil, List.sum_cons, List.sum_nil, cat_i, cat_r, cat_l, Nat.reduceAdd, Nat.reduceLeDiff]; done) | decide) only [s33_16, s33_17, s33_18, tl_s, tl_n, nI_add, pk_mul, i_cl, row_s, u2_row, i_le, i_lt, i_eq, if_true, if_false, Nat.le_refl, Nat.reduceEqDiff, Nat.reduceLeDiff, Bool.true_eq_false]
        by_cases c4 : x = y
        · simp (disch := first | exact ok_i | exact ok_r | exact ok_n | exact cat_i | exact cat_r | exact ho.tag | exact ho.tg | exact ho.tj | exact ho.tp | exact ho.tC (by omega) (by omega) | exact ho.tA (by omega) (by omega) | exact ho.tJ (by omega) (by omega) | exact ro_0 | exact ro_1 | omega | assumption | exact ho.nC (by omega) | exact ho.nL (by omega) | exact ho.nD (by omega) | exact ho.nJ (by omega) (by omega) (by omega) | exact ho.nA (by omega) (by omega) (by omega) | (simp only [List.map_cons, List.map_nil, List.sum_cons, List.sum_nil, cat_i, cat_r, cat_l, Nat.reduceAdd, Nat.reduceLeDiff]; done) | decide) only [c4, s33_32, s33_34, tl_s, tl_n, nI_add, pk_mul, i_cl, row_s, u2_row, i_le, i_lt, i_eq, if_true, if_false, Nat.le_refl, Nat.reduceEqDiff, Nat.reduceLeDiff]
          exact hbad
        · simp (disch := first | exact ok_i | exact ok_r | exact ok_n | exact cat_i | exact cat_r | exact ho.tag | exact ho.tg | exact ho.tj | exact ho.tp | exact ho.tC (by omega) (by omega) | exact ho.tA (by omega) (by omega) | exact ho.tJ (by omega) (by omega) | exact ro_0 | exact ro_1 | omega | assumption | exact ho.nC (by omega) | exact ho.nL (by omega) | exact ho.nD (by omega) | exact ho.nJ (by omega) (by omega) (by omega) | exact ho.nA (by omega) (by omega) (by omega) | (simp only [List.map_cons, List.map_nil, List.sum_cons, List.sum_nil, cat_i, cat_r, cat_l, Nat.reduceAdd, Nat.reduceLeDiff]; done) | decide) only [c4, s33_21, s33_22, s33_23, tl_s, tl_n, nI_add, pk_mul, i_cl, row_s, u2_row, i_le, i_lt, i_eq, if_true, if_false, Nat.le_refl, Nat.reduceEqDiff, Nat.reduceLeDiff]
          by_cases c5 : s < nI 1
          · simp (disch := first | exact ok_i | exact ok_r | exact ok_n | exact cat_i | exact cat_r | exact ho.tag | exact ho.tg | exact ho.tj | exact ho.tp | exact ho.tC (by omega) (by omega) | exact ho.tA (by omega) (by omega) | exact ho.tJ (by omega) (by omega) | exact ro_0 | exact ro_1 | omega | assumption | exact ho.nC (by omega) | exact ho.nL (by omega) | exact ho.nD (by omega) | exact ho.nJ (by omega) (by omega) (by omega) | exact ho.nA (by omega) (by omega) (by omega) | (simp only [List.map_cons, List.map_nil, List.sum_cons, List.sum_nil, cat_i, cat_r, cat_l, Nat.reduceAdd, Nat.reduceLeDiff]; done) | decide) only [c5, s33_32, s33_34, tl_s, tl_n, nI_add, pk_mul, i_cl, row_s, u2_row, i_le, i_lt, i_eq, if_true, if_false, Nat.le_refl, Nat.reduceEqDiff, Nat.reduceLeDiff]
            exact hbad
          · simp (disch := first | exact ok_i | exact ok_r | exact ok_n | exact cat_i | exact cat_r | exact ho.tag | exact ho.tg | exact ho.tj | exact ho.tp | exact ho.tC (by omega) (by omega) | exact ho.tA (by omega) (by omega) | exact ho.tJ (by omega) (by omega) | exact ro_0 | exact ro_1 | omega | assumption | exact ho.nC (by omega) | exact ho.nL (by omega) | exact ho.nD (by omega) | exact ho.nJ (by omega) (by omega) (by omega) | exact ho.nA (by omega) (by omega) (by omega) | (simp only [List.map_cons, List.map_nil, List.sum_cons, List.sum_nil, cat_i, cat_r, cat_l, Nat.reduceAdd, Nat.reduceLeDiff]; done) | decide) only [c5, s33_26, s33_27, s33_29, tl_s, tl_n, nI_add, pk_mul, i_cl, row_s, u2_row, i_le, i_lt, i_eq, if_true, if_false, Nat.le_refl, Nat.reduceEqDiff, Nat.reduceLeDiff]
            by_cases c6 : s ≤ nI 8
            · exfalso
              rw [c2, c3, decide_eq_false c4, decide_eq_false c5, decide_eq_true c6] at c1
              cases c1
            · simp (disch := first | exact ok_i | exact ok_r | exact ok_n | exact cat_i | exact cat_r | exact ho.tag | exact ho.tg | exact ho.tj | exact ho.tp | exact ho.tC (by omega) (by omega) | exact ho.tA (by omega) (by omega) | exact ho.tJ (by omega) (by omega) | exact ro_0 | exact ro_1 | omega | assumption | exact ho.nC (by omega) | exact ho.nL (by omega) | exact ho.nD (by omega) | exact ho.nJ (by omega) (by omega) (by omega) | exact ho.nA (by omega) (by omega) (by omega) | (simp only [List.map_cons, List.map_nil, List.sum_cons, List.sum_nil, cat_i, cat_r, cat_l, Nat.reduceAdd, Nat.reduceLeDiff]; done) | decide) only [c6, s33_32, s33_34, tl_s, tl_n, nI_add, pk_mul, i_cl, row_s, u2_row, i_le, i_lt, i_eq, if_true, if_false, Nat.le_refl, Nat.reduceEqDiff, Nat.reduceLeDiff]
              exact hbad
  · rw [c1] at h
    have c1' := c1
    rw [okC_b, Bool.and_eq_true, Bool.and_eq_true, Bool.and_eq_true, Bool.and_eq_true, Bool.not_eq_true', Bool.not_eq_true', decide_eq_false_iff_not, decide_eq_false_iff_not, decide_eq_true_eq] at c1'
    obtain ⟨⟨⟨c2, c3⟩, c4⟩, c5, c6⟩ := c1'
    simp (disch := first | exact ok_i | exact ok_r | exact ok_n | exact cat_i | exact cat_r | exact ho.tag | exact ho.tg | exact ho.tj | exact ho.tp | exact ho.tC (by omega) (by omega) | exact ho.tA (by omega) (by omega) | exact ho.tJ (by omega) (by omega) | exact ro_0 | exact ro_1 | omega | assumption | exact ho.nC (by omega) | exact ho.nL (by omega) | exact ho.nD (by omega) | exact ho.nJ (by omega) (by omega) (by omega) | exact ho.nA (by omega) (by omega) (by omega) | (simp only [List.map_cons, List.map_nil, List.sum_cons, List.sum_nil, cat_i, cat_r, cat_l, Nat.reduceAdd, Nat.reduceLeDiff]; done) | decide) only [c2, c3, c4, c5, c6, s33_8, s33_9, s33_10, s33_13, s33_16, s33_17, s33_18, s33_21, s33_22, s33_23, s33_26, s33_27, s33_29, s33_32, s33_34, s33_35, s33_36, tl_s, tl_n, nI_add, pk_mul, i_cl, row_s, u2_row, i_le, i_lt, i_eq, if_true, if_false, Nat.le_refl, Nat.reduceEqDiff, Nat.reduceLeDiff, h_isFloor ho hf2 hf4, b2i_0, Bool.true_eq_false]
    simp (disch := first | exact ok_i | exact ok_r | exact ok_n | exact cat_i | exact cat_r | exact ho.tag | exact ho.tg | exact ho.tj | exact ho.tp | exact ho.tC (by omega) (by omega) | exact ho.tA (by omega) (by omega) | exact ho.tJ (by omega) (by omega) | exact ro_0 | exact ro_1 | omega | assumption | exact ho.nC (by omega) | exact ho.nL (by omega) | exact ho.nD (by omega) | exact ho.nJ (by omega) (by omega) (by omega) | exact ho.nA (by omega) (by omega) (by omega) | (simp only [List.map_cons, List.map_nil, List.sum_cons, List.sum_nil, cat_i, cat_r, cat_l, Nat.reduceAdd, Nat.reduceLeDiff]; done) | decide) only [s33_37, s33_40, tl_s, tl_n, nI_add, pk_mul, i_cl, row_s, u2_row, i_le, i_lt, i_eq, if_true, if_false, Nat.le_refl, Nat.reduceEqDiff, Nat.reduceLeDiff, h_anyHasRoom hr hk hk4, b2i_0]
    rw [if_pos rfl] at h
    cases c7 : roomM N s k
    · rw [c7, Bool.true_and, Bool.false_and, if_neg (by decide), if_neg (by decide), if_neg (by decide)] at h
      simp (disch := first | exact ok_i | exact ok_r | exact ok_n | exact cat_i | exact cat_r | exact ho.tag | exact ho.tg | exact ho.tj | exact ho.tp | exact ho.tC (by omega) (by omega) | exact ho.tA (by omega) (by omega) | exact ho.tJ (by omega) (by omega) | exact ro_0 | exact ro_1 | omega | assumption | exact ho.nC (by omega) | exact ho.nL (by omega) | exact ho.nD (by omega) | exact ho.nJ (by omega) (by omega) (by omega) | exact ho.nA (by omega) (by omega) (by omega) | (simp only [List.map_cons, List.map_nil, List.sum_cons, List.sum_nil, cat_i, cat_r, cat_l, Nat.reduceAdd, Nat.reduceLeDiff]; done) | decide) only [s33_43, s33_45, tl_s, tl_n, nI_add, pk_mul, i_cl, row_s, u2_row, i_le, i_lt, i_eq, if_true, if_false, Nat.le_refl, Nat.reduceEqDiff, Nat.reduceLeDiff]
      exact h I hr Fr2.refl
    · rw [c7, Bool.true_and, Bool.true_and, if_pos rfl] at h
      simp (disch := first | exact ok_i | exact ok_r | exact ok_n | exact cat_i | exact cat_r | exact ho.tag | exact ho.tg | exact ho.tj | exact ho.tp | exact ho.tC (by omega) (by omega) | exact ho.tA (by omega) (by omega) | exact ho.tJ (by omega) (by omega) | exact ro_0 | exact ro_1 | omega | assumption | exact ho.nC (by omega) | exact ho.nL (by omega) | exact ho.nD (by omega) | exact ho.nJ (by omega) (by omega) (by omega) | exact ho.nA (by omega) (by omega) (by omega) | (simp only [List.map_cons, List.map_nil, List.sum_cons, List.sum_nil, cat_i, cat_r, cat_l, Nat.reduceAdd, Nat.reduceLeDiff]; done) | decide) only [s33_46, s33_47, s33_50, s33_53, tl_s, tl_n, nI_add, pk_mul, i_cl, row_s, u2_row, i_le, i_lt, i_eq, if_true, if_false, Nat.le_refl, Nat.reduceEqDiff, Nat.reduceLeDiff, ho.r6, ho.r7, ho.r8, ho.r9, ho.rc, ho.g0, ho.g1, ho.g2, ho.g3, ho.g4, ho.g5, ho.g6, ho.g7, ho.g8, ho.j0, ho.j1, ho.j2, ho.j3, h_isFull hr, b2i_0, Bool.true_eq_false]
      have ef : (decide (m = 40) || decide ((live N m).length = 12)) = fullM N m := by rw [hll]; rfl
      rw [ef]
      cases c8 : fullM N m
      · rw [c8, Bool.not_false, if_pos rfl, if_pos rfl, if_neg (by decide)] at h
        have hm40 : m < 40 := by
          unfold fullM at c8
          by_cases e : m = 40
          · rw [decide_eq_true e, Bool.true_or] at c8; cases c8
          · omega
        have hl12 : (live N m).length < 12 := by
          rw [← ef, Bool.or_eq_false_iff, decide_eq_false_iff_not, decide_eq_false_iff_not] at c8
          omega
        obtain ⟨a, b, q, e1, ha, e2, hb, hab, e3, q1, q2, e4⟩ := okC_t hf4 c1
        rw [e4] at h
        subst e1
        simp (disch := first | exact ok_i | exact ok_r | exact ok_n | exact cat_i | exact cat_r | exact ho.tag | exact ho.tg | exact ho.tj | exact ho.tp | exact ho.tC (by omega) (by omega) | exact ho.tA (by omega) (by omega) | exact ho.tJ (by omega) (by omega) | exact ro_0 | exact ro_1 | omega | assumption | exact ho.nC (by omega) | exact ho.nL (by omega) | exact ho.nD (by omega) | exact ho.nJ (by omega) (by omega) (by omega) | exact ho.nA (by omega) (by omega) (by omega) | (simp only [List.map_cons, List.map_nil, List.sum_cons, List.sum_nil, cat_i, cat_r, cat_l, Nat.reduceAdd, Nat.reduceLeDiff]; done) | decide) only [s33_59, s33_60, s33_63, s33_64, s33_65, s33_66, s33_67, tl_s, tl_n, nI_add, pk_mul, i_cl, row_s, u2_row, i_le, i_lt, i_eq, if_true, if_false, Nat.le_refl, Nat.reduceEqDiff, Nat.reduceLeDiff, ho.r6, ho.r7, ho.r8, ho.r9, ho.rc, ho.g0, ho.g1, ho.g2, ho.g3, ho.g4, ho.g5, ho.g6, ho.g7, ho.g8, ho.j0, ho.j1, ho.j2, ho.j3, hr.o2]
        rw [s33_70 (by simp only [List.map_cons, List.map_nil, List.sum_cons, List.sum_nil, cat_i, cat_r, cat_l, Nat.reduceAdd, Nat.reduceLeDiff]) ho.tg]
        refine h_add hr hm40 hl12 (fun I1 hr1 hF1 => ?_)
        have hr2 : HR o p (upd2 I1 (p + 15) a (addN N m a y s (352 + a) + nI 1)) (newN N m a y s) (m + 1) (live (newN N m a y s) (m + 1)) := by
          rw [new_live hm40 (by omega), new_add]
          exact hr1.updm (by omega)
        have hF2 : Fr o p I (upd2 I1 (p + 15) a (addN N m a y s (352 + a) + nI 1)) := hF1.trans (Fr.up (by omega))
        simp (disch := first | exact ok_i | exact ok_r | exact ok_n | exact cat_i | exact cat_r | exact ho.tag | exact ho.tg | exact ho.tj | exact ho.tp | exact ho.tC (by omega) (by omega) | exact ho.tA (by omega) (by omega) | exact ho.tJ (by omega) (by omega) | exact ro_0 | exact ro_1 | omega | assumption | exact ho.nC (by omega) | exact ho.nL (by omega) | exact ho.nD (by omega) | exact ho.nJ (by omega) (by omega) (by omega) | exact ho.nA (by omega) (by omega) (by omega) | (simp only [List.map_cons, List.map_nil, List.sum_cons, List.sum_nil, cat_i, cat_r, cat_l, Nat.reduceAdd, Nat.reduceLeDiff]; done) | decide) only [s33_73, s33_75, s33_76, s33_79, s33_80, s33_81, s33_82, s33_83, s33_84, tl_s, tl_n, nI_add, pk_mul, i_cl, row_s, u2_row, i_le, i_lt, i_eq, if_true, if_false, Nat.le_refl, Nat.reduceEqDiff, Nat.reduceLeDiff, ho.r6, ho.r7, ho.r8, ho.r9, ho.rc, ho.g0, ho.g1, ho.g2, ho.g3, ho.g4, ho.g5, ho.g6, ho.g7, ho.g8, ho.j0, ho.j1, ho.j2, ho.j3, hr1.dm]
        generalize upd2 I1 (p + 15) a (addN N m a y s (352 + a) + nI 1) = I2 at hr2 hF2 ⊢
        have okn := new_ok ok hm40 ha hb hab e2 e3 q1 q2
        obtain ⟨t0, t1, t2, t3, t4, t5, t6, t7⟩ := addN_g (N := N) (a := a) (y := y) (s := s) hm40
        have h0 : gf (newN N m a y s) m 4 = nI 0 := by rw [newN_g hm40 (by omega)]; exact t4
        have h3 : gf (newN N m a y s) m 3 = -1 := by rw [newN_g hm40 (by omega)]; exact t3
        have hset2 : SetOk (newN N m a y s) := hset.of (newN_x (by omega) (by omega) (by omega)) (newN_x (by omega) (by omega) (by omega))
        have hbl : (chS (newN N m a y s) (m + 1) k m (k - 1)).1 ≤ k - 1 := chS_le
        unfold takeN at h
        dsimp only at h
        generalize newN N m a y s = N1 at *
        refine h_best hr2 hd okn hset2 (by omega) h0 (fun I3 l7 l8 hF3 hl7 hl8 => ?_)
        have hr3 := hr2.fr ho2 hd.ne hF3
        generalize (chS N1 (m + 1) k m (k - 1)).1 = bb at *
        have nm := nI_m1 (a := bb) (by omega)
        have eo : asgN N1 m bb = ownN N1 m bb := asg_own (fun e => by rw [h3] at e; have e := e.symm; rw [nm] at e; exact e.elim)
        simp (disch := first | exact ok_i | exact ok_r | exact ok_n | exact cat_i | exact cat_r | exact ho.tag | exact ho.tg | exact ho.tj | exact ho.tp | exact ho.tC (by omega) (by omega) | exact ho.tA (by omega) (by omega) | exact ho.tJ (by omega) (by omega) | exact ro_0 | exact ro_1 | omega | assumption | exact ho.nC (by omega) | exact ho.nL (by omega) | exact ho.nD (by omega) | exact ho.nJ (by omega) (by omega) (by omega) | exact ho.nA (by omega) (by omega) (by omega) | (simp only [List.map_cons, List.map_nil, List.sum_cons, List.sum_nil, cat_i, cat_r, cat_l, Nat.reduceAdd, Nat.reduceLeDiff]; done) | decide) only [s33_140, s33_141, s33_143, tl_s, tl_n, nI_add, pk_mul, i_cl, row_s, u2_row, i_le, i_lt, i_eq, if_true, if_false, Nat.le_refl, Nat.reduceEqDiff, Nat.reduceLeDiff]
        rw [s33_145 (by simp only [List.map_cons, List.map_nil, List.sum_cons, List.sum_nil, cat_i, cat_r, cat_l, Nat.reduceAdd, Nat.reduceLeDiff]) ho.tag]
        refine h_assign hr3 (by omega) (by omega) (fun I4 hr4 hF4 => ?_)
        rw [eo] at hr4
        simp (disch := first | exact ok_i | exact ok_r | exact ok_n | exact cat_i | exact cat_r | exact ho.tag | exact ho.tg | exact ho.tj | exact ho.tp | exact ho.tC (by omega) (by omega) | exact ho.tA (by omega) (by omega) | exact ho.tJ (by omega) (by omega) | exact ro_0 | exact ro_1 | omega | assumption | exact ho.nC (by omega) | exact ho.nL (by omega) | exact ho.nD (by omega) | exact ho.nJ (by omega) (by omega) (by omega) | exact ho.nA (by omega) (by omega) (by omega) | (simp only [List.map_cons, List.map_nil, List.sum_cons, List.sum_nil, cat_i, cat_r, cat_l, Nat.reduceAdd, Nat.reduceLeDiff]; done) | decide) only [s33_148, s33_149, s33_152, s33_153, s33_155, s33_157, s33_158, tl_s, tl_n, nI_add, pk_mul, i_cl, row_s, u2_row, i_le, i_lt, i_eq, if_true, if_false, Nat.le_refl, Nat.reduceEqDiff, Nat.reduceLeDiff, ho.r6, ho.r7, ho.r8, ho.r9, ho.rc, ho.g0, ho.g1, ho.g2, ho.g3, ho.g4, ho.g5, ho.g6, ho.g7, ho.g8, ho.j0, ho.j1, ho.j2, ho.j3, hr4.o2]
        rw [s33_161 (by simp only [List.map_cons, List.map_nil, List.sum_cons, List.sum_nil, cat_i, cat_r, cat_l, Nat.reduceAdd, Nat.reduceLeDiff]) ho.tj]
        refine h_note hr4 (by rw [own_car (by omega) (by omega) (by omega), if_pos rfl]) rfl (fun I5 hr5 hF5 => ?_)
        simp (disch := first | exact ok_i | exact ok_r | exact ok_n | exact cat_i | exact cat_r | exact ho.tag | exact ho.tg | exact ho.tj | exact ho.tp | exact ho.tC (by omega) (by omega) | exact ho.tA (by omega) (by omega) | exact ho.tJ (by omega) (by omega) | exact ro_0 | exact ro_1 | omega | assumption | exact ho.nC (by omega) | exact ho.nL (by omega) | exact ho.nD (by omega) | exact ho.nJ (by omega) (by omega) (by omega) | exact ho.nA (by omega) (by omega) (by omega) | (simp only [List.map_cons, List.map_nil, List.sum_cons, List.sum_nil, cat_i, cat_r, cat_l, Nat.reduceAdd, Nat.reduceLeDiff]; done) | decide) only [s33_164, s33_166, tl_s, tl_n, nI_add, pk_mul, i_cl, row_s, u2_row, i_le, i_lt, i_eq, if_true, if_false, Nat.le_refl, Nat.reduceEqDiff, Nat.reduceLeDiff]
        refine h I5 ?_ ((((hF2.two).trans hF3.two2).trans hF4.two).trans hF5.two)
        have hlv : live (hapM (ownN N1 m bb) (nI 0) m) (m + 1) = live N1 (m + 1) := by
          rw [← live_own (N := N1) (c := bb) (g := m) (m := m + 1) (by omega) (by omega) (by omega)]
          exact live_eq (fun g hg => by rw [gf_hap (by omega)])
        rw [hlv]
        exact hr5
      · rw [c8, Bool.not_true, if_neg (by decide), if_neg (by decide), if_pos rfl] at h
        simp (disch := first | exact ok_i | exact ok_r | exact ok_n | exact cat_i | exact cat_r | exact ho.tag | exact ho.tg | exact ho.tj | exact ho.tp | exact ho.tC (by omega) (by omega) | exact ho.tA (by omega) (by omega) | exact ho.tJ (by omega) (by omega) | exact ro_0 | exact ro_1 | omega | assumption | exact ho.nC (by omega) | exact ho.nL (by omega) | exact ho.nD (by omega) | exact ho.nJ (by omega) (by omega) (by omega) | exact ho.nA (by omega) (by omega) (by omega) | (simp only [List.map_cons, List.map_nil, List.sum_cons, List.sum_nil, cat_i, cat_r, cat_l, Nat.reduceAdd, Nat.reduceLeDiff]; done) | decide) only [s33_56, s33_58, tl_s, tl_n, nI_add, pk_mul, i_cl, row_s, u2_row, i_le, i_lt, i_eq, if_true, if_false, Nat.le_refl, Nat.reduceEqDiff, Nat.reduceLeDiff, Bool.true_eq_false]
        exact h I hr Fr2.refl
end
