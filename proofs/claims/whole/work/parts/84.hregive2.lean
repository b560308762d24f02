/-! the class: giving all anew -/
section
variable {X : pX} {d : Nat} {I : pI} {Q : Option Value → pG → pI → Prop} {o p o2 p2 : Nat} {N : Nat → Int32} {m : Nat} {L : List Nat}
theorem h_rgBest {f k g T cg : Nat} {b0 : Int32} {l1 l2 l4 : Option Value} (hr : HR o p I N m (live N m)) (hd : Deep o o2 p2) (ok : Ok N f k m T) (hset : SetOk N) (hg : g < m) (h0 : gf N g 4 = nI 0) (hl1 : okL l1 = true) (hl2 : okL l2 = true) (hl4 : okL l4 = true) {l7 l8 : Option Value} (hl8 : okL l8 = true)
    (h : ∀ I' l7 l8, Fr o2 p2 I I' → okL l7 = true → okL l8 = true → At X (d + 5) 37 129 [some (.ref o), l1, l2, some (.int (nI g)), l4, some (.int (nI (itr (rcF N m k g) (cg, b0) k).1)), some (.int (itr (rcF N m k g) (cg, b0) k).2), l7, l8] [] G0 I' Q) :
    At X (d + 5) 37 87 [some (.ref o), l1, l2, some (.int (nI g)), l4, some (.int (nI cg)), some (.int b0), l7, l8] [] G0 I Q := by
  have ho := hr.ho
  have m40 := hr.m40
  have ho2 := hd.hall
  obtain ⟨⟨⟨hf, hf1, hf4⟩, ⟨hk, hk1, hk4⟩, -, -⟩, hgr, hwa, -⟩ := ok
  simp (disch := first | exact ok_i | exact ok_r | exact ok_n | exact cat_i | exact cat_r | exact ho.tag | exact ho.tg | exact ho.tj | exact ho.tp | exact ho.tC (by omega) (by omega) | exact ho.tA (by omega) (by omega) | exact ho.tJ (by omega) (by omega) | exact ro_0 | exact ro_1 | omega | assumption | exact ho.nC (by omega) | exact ho.nL (by omega) | exact ho.nD (by omega) | exact ho.nJ (by omega) (by omega) (by omega) | exact ho.nA (by omega) (by omega) (by omega) | (simp only [List.map_cons, List.map_nil, List.sum_cons, List.sum_nil, cat_i, cat_r, cat_l, Nat.reduceAdd, Nat.reduceLeDiff]; done) | decide) only [s37_87, s37_88, tl_s, tl_n, nI_add, pk_mul, i_cl, row_s, u2_row, i_le, i_lt, i_eq, if_true, if_false, Nat.le_refl, Nat.reduceEqDiff, Nat.reduceLeDiff]
  refine loop_h (σ := pI × Option Value) (n := k)
    (A := fun i t => At X (d + 5) 37 90 [some (.ref o), l1, l2, some (.int (nI g)), l4, some (.int (nI (itr (rcF N m k g) (cg, b0) i).1)), some (.int (itr (rcF N m k g) (cg, b0) i).2), some (.int (nI i)), t.2] [] G0 t.1 Q)
    (ok := fun i t => Fr o2 p2 I t.1 ∧ okL t.2 = true)
    (fun t ht => ?_) (fun i t hi ht ih => ?_) 0 (I, l8) (Nat.zero_le _) ⟨Fr.refl, hl8⟩
  · obtain ⟨I', l8⟩ := t
    obtain ⟨hF, hl⟩ := ht
    dsimp only at hF hl ⊢
    have hr' := hr.fr ho2 hd.ne hF
    simp (disch := first | exact ok_i | exact ok_r | exact ok_n | exact cat_i | exact cat_r | exact ho.tag | exact ho.tg | exact ho.tj | exact ho.tp | exact ho.tC (by omega) (by omega) | exact ho.tA (by omega) (by omega) | exact ho.tJ (by omega) (by omega) | exact ro_0 | exact ro_1 | omega | assumption | exact ho.nC (by omega) | exact ho.nL (by omega) | exact ho.nD (by omega) | exact ho.nJ (by omega) (by omega) (by omega) | exact ho.nA (by omega) (by omega) (by omega) | (simp only [List.map_cons, List.map_nil, List.sum_cons, List.sum_nil, cat_i, cat_r, cat_l, Nat.reduceAdd, Nat.reduceLeDiff]; done) | decide) only [s37_90, s37_92, s37_93, s37_96, tl_s, tl_n, nI_add, pk_mul, i_cl, row_s, u2_row, i_le, i_lt, i_eq, if_true, if_false, Nat.le_refl, Nat.reduceEqDiff, Nat.reduceLeDiff, ho.r6, ho.r7, ho.r8, ho.r9, ho.rc, ho.g0, ho.g1, ho.g2, ho.g3, ho.g4, ho.g5, ho.g6, ho.g7, ho.g8, ho.j0, ho.j1, ho.j2, ho.j3, hr'.o1, hk]
    exact h I' _ l8 hF rfl hl
  · obtain ⟨I', l8⟩ := t
    obtain ⟨hF, hl⟩ := ht
    dsimp only at hF hl ih ⊢
    have hr' := hr.fr ho2 hd.ne hF
    have n1 : ¬ k ≤ i := by omega
    simp only [itr_s] at ih
    rw [s37_90]
    simp (disch := first | exact ok_i | exact ok_r | exact ok_n | exact cat_i | exact cat_r | exact ho.tag | exact ho.tg | exact ho.tj | exact ho.tp | exact ho.tC (by omega) (by omega) | exact ho.tA (by omega) (by omega) | exact ho.tJ (by omega) (by omega) | exact ro_0 | exact ro_1 | omega | assumption | exact ho.nC (by omega) | exact ho.nL (by omega) | exact ho.nD (by omega) | exact ho.nJ (by omega) (by omega) (by omega) | exact ho.nA (by omega) (by omega) (by omega) | (simp only [List.map_cons, List.map_nil, List.sum_cons, List.sum_nil, cat_i, cat_r, cat_l, Nat.reduceAdd, Nat.reduceLeDiff]; done) | decide) only [s37_92, s37_93, s37_96, s37_99, s37_100, s37_101, tl_s, tl_n, nI_add, pk_mul, i_cl, row_s, u2_row, i_le, i_lt, i_eq, if_true, if_false, Nat.le_refl, Nat.reduceEqDiff, Nat.reduceLeDiff, ho.r6, ho.r7, ho.r8, ho.r9, ho.rc, ho.g0, ho.g1, ho.g2, ho.g3, ho.g4, ho.g5, ho.g6, ho.g7, ho.g8, ho.j0, ho.j1, ho.j2, ho.j3, hr'.o1, hk, n1]
    rw [s37_103 (by simp only [List.map_cons, List.map_nil, List.sum_cons, List.sum_nil, cat_i, cat_r, cat_l, Nat.reduceAdd, Nat.reduceLeDiff]) ho.tag]
    refine h_costFor hr' hd hg hi hk hk4 hf hf4 hgr hwa h0 hset (fun I2 hF2 => ?_)
    generalize itr (rcF N m k g) (cg, b0) i = b at *
    unfold rcF at ih
    generalize costM N m k g i = w at *
    simp (disch := first | exact ok_i | exact ok_r | exact ok_n | exact cat_i | exact cat_r | exact ho.tag | exact ho.tg | exact ho.tj | exact ho.tp | exact ho.tC (by omega) (by omega) | exact ho.tA (by omega) (by omega) | exact ho.tJ (by omega) (by omega) | exact ro_0 | exact ro_1 | omega | assumption | exact ho.nC (by omega) | exact ho.nL (by omega) | exact ho.nD (by omega) | exact ho.nJ (by omega) (by omega) (by omega) | exact ho.nA (by omega) (by omega) (by omega) | (simp only [List.map_cons, List.map_nil, List.sum_cons, List.sum_nil, cat_i, cat_r, cat_l, Nat.reduceAdd, Nat.reduceLeDiff]; done) | decide) only [s37_106, s37_108, s37_110, s37_112, tl_s, tl_n, nI_add, pk_mul, i_cl, row_s, u2_row, i_le, i_lt, i_eq, if_true, if_false, Nat.le_refl, Nat.reduceEqDiff, Nat.reduceLeDiff]
    by_cases c1 : w < b.2
    · have c2 : ¬ b.2 ≤ w := Int32.not_le.mpr c1
      rw [if_pos c1] at ih
      simp (disch := first | exact ok_i | exact ok_r | exact ok_n | exact cat_i | exact cat_r | exact ho.tag | exact ho.tg | exact ho.tj | exact ho.tp | exact ho.tC (by omega) (by omega) | exact ho.tA (by omega) (by omega) | exact ho.tJ (by omega) (by omega) | exact ro_0 | exact ro_1 | omega | assumption | exact ho.nC (by omega) | exact ho.nL (by omega) | exact ho.nD (by omega) | exact ho.nJ (by omega) (by omega) (by omega) | exact ho.nA (by omega) (by omega) (by omega) | (simp only [List.map_cons, List.map_nil, List.sum_cons, List.sum_nil, cat_i, cat_r, cat_l, Nat.reduceAdd, Nat.reduceLeDiff]; done) | decide) only [c2, s37_115, s37_117, s37_119, s37_121, s37_123, s37_126, tl_s, tl_n, nI_add, pk_mul, i_cl, row_s, u2_row, i_le, i_lt, i_eq, if_true, if_false, Nat.le_refl, Nat.reduceEqDiff, Nat.reduceLeDiff]
      exact ih (I2, some (.int w)) ⟨hF.trans hF2, rfl⟩
    · have c2 : b.2 ≤ w := Int32.not_lt.mp c1
      rw [if_neg c1] at ih
      simp (disch := first | exact ok_i | exact ok_r | exact ok_n | exact cat_i | exact cat_r | exact ho.tag | exact ho.tg | exact ho.tj | exact ho.tp | exact ho.tC (by omega) (by omega) | exact ho.tA (by omega) (by omega) | exact ho.tJ (by omega) (by omega) | exact ro_0 | exact ro_1 | omega | assumption | exact ho.nC (by omega) | exact ho.nL (by omega) | exact ho.nD (by omega) | exact ho.nJ (by omega) (by omega) (by omega) | exact ho.nA (by omega) (by omega) (by omega) | (simp only [List.map_cons, List.map_nil, List.sum_cons, List.sum_nil, cat_i, cat_r, cat_l, Nat.reduceAdd, Nat.reduceLeDiff]; done) | decide) only [c2, s37_123, s37_126, tl_s, tl_n, nI_add, pk_mul, i_cl, row_s, u2_row, i_le, i_lt, i_eq, if_true, if_false, Nat.le_refl, Nat.reduceEqDiff, Nat.reduceLeDiff]
      exact ih (I2, some (.int w)) ⟨hF.trans hF2, rfl⟩
theorem HR.fr2 {I' : pI} (h : HR o p I N m L) (h2 : IsHall o2 p2) (hn : o ≠ o2) (hF : Fr o2 p2 I I') : HR o p I' N m L := h.fr h2 hn hF
/-- one group: the class does what the model does -/
theorem h_rgStep {N0 : Nat → Int32} {f k g T i n : Nat} {l4 l5 l6 l7 l8 l3 : Option Value} (hr : HR o p I N m (live N m)) (hd : Deep o o2 p2) (hrg : RgOk N0 N f k m T) (hg : g < m) (hv : I (p + 14) i = nI g) (hi : i < (live N m).length) (hn : n ≤ i)
    (hl3 : okL l3 = true) (hl4 : okL l4 = true) (hl5 : okL l5 = true) (hl6 : okL l6 = true) (hl7 : okL l7 = true) (hl8 : okL l8 = true)
    (h : ∀ I' l3 l4 l5 l6 l7 l8, HR o p I' (rgF m k g (N, n)).1 m (live N m) → Fr2 o p o2 p2 I I' → okL l3 = true → okL l4 = true → okL l5 = true → okL l6 = true → okL l7 = true → okL l8 = true → At X (d + 5) 37 4 [some (.ref o), some (.int (nI (rgF m k g (N, n)).2)), some (.int (nI (i + 1))), l3, l4, l5, l6, l7, l8] [] G0 I' Q) :
    At X (d + 5) 37 4 [some (.ref o), some (.int (nI n)), some (.int (nI i)), l3, l4, l5, l6, l7, l8] [] G0 I Q := by
  have ho := hr.ho
  have m40 := hr.m40
  have l12 := hr.l12
  have ho2 := hd.hall
  obtain ⟨ok, hset, hcar, hsd⟩ := hrg
  have ok2 := ok
  obtain ⟨⟨⟨hf, hf1, hf4⟩, ⟨hk, hk1, hk4⟩, -, -⟩, hgr, hwa, -⟩ := ok2
  obtain ⟨cg, hcg, e3⟩ := hcar g hg
  obtain ⟨-, -, -, qv, hqv, e7⟩ := hgr g hg
  have n1 : ¬ (live N m).length ≤ i := by omega
  have skip : ¬ rgB N m k g = true → ∀ I' l4 l5 l6 l7 l8, HR o p I' N m (live N m) → Fr2 o p o2 p2 I I' → okL l4 = true → okL l5 = true → okL l6 = true → okL l7 = true → okL l8 = true → At X (d + 5) 37 153 [some (.ref o), some (.int (nI n)), some (.int (nI i)), some (.int (nI g)), l4, l5, l6, l7, l8] [] G0 I' Q := by
    intro hb I' l4 l5 l6 l7 l8 hr' hF' k4 k5 k6 k7 k8
    rw [rgF_f hb] at h
    simp (disch := first | exact ok_i | exact ok_r | exact ok_n | exact cat_i | exact cat_r | exact ho.tag | exact ho.tg | exact ho.tj | exact ho.tp | exact ho.tC (by omega) (by omega) | exact ho.tA (by omega) (by omega) | exact ho.tJ (by omega) (by omega) | exact ro_0 | exact ro_1 | omega | assumption | exact ho.nC (by omega) | exact ho.nL (by omega) | exact ho.nD (by omega) | exact ho.nJ (by omega) (by omega) (by omega) | exact ho.nA (by omega) (by omega) (by omega) | (simp only [List.map_cons, List.map_nil, List.sum_cons, List.sum_nil, cat_i, cat_r, cat_l, Nat.reduceAdd, Nat.reduceLeDiff]; done) | decide) only [s37_153, s37_156, tl_s, tl_n, nI_add, pk_mul, i_cl, row_s, u2_row, i_le, i_lt, i_eq, if_true, if_false, Nat.le_refl, Nat.reduceEqDiff, Nat.reduceLeDiff]
    exact h I' _ l4 l5 l6 l7 l8 hr' hF' rfl k4 k5 k6 k7 k8
  rw [s37_4]
  simp (disch := first | exact ok_i | exact ok_r | exact ok_n | exact cat_i | exact cat_r | exact ho.tag | exact ho.tg | exact ho.tj | exact ho.tp | exact ho.tC (by omega) (by omega) | exact ho.tA (by omega) (by omega) | exact ho.tJ (by omega) (by omega) | exact ro_0 | exact ro_1 | omega | assumption | exact ho.nC (by omega) | exact ho.nL (by omega) | exact ho.nD (by omega) | exact ho.nJ (by omega) (by omega) (by omega) | exact ho.nA (by omega) (by omega) (by omega) | (simp only [List.map_cons, List.map_nil, List.sum_cons, List.sum_nil, cat_i, cat_r, cat_l, Nat.reduceAdd, Nat.reduceLeDiff]; done) | decide) only [s37_5, s37_6, s37_9, s37_12, s37_15, s37_16, s37_19, s37_22, s37_23, s37_24, s37_25, s37_26, s37_27, s37_30, tl_s, tl_n, nI_add, pk_mul, i_cl, row_s, u2_row, i_le, i_lt, i_eq, if_true, if_false, Nat.le_refl, Nat.reduceEqDiff, Nat.reduceLeDiff, ho.r6, ho.r7, ho.r8, ho.r9, ho.rc, ho.g0, ho.g1, ho.g2, ho.g3, ho.g4, ho.g5, ho.g6, ho.g7, ho.g8, ho.j0, ho.j1, ho.j2, ho.j3, hr.lc, n1, hv, h_waits hr, b2i_0]
  by_cases h0 : gf N g 4 = nI 0
  · simp (disch := first | exact ok_i | exact ok_r | exact ok_n | exact cat_i | exact cat_r | exact ho.tag | exact ho.tg | exact ho.tj | exact ho.tp | exact ho.tC (by omega) (by omega) | exact ho.tA (by omega) (by omega) | exact ho.tJ (by omega) (by omega) | exact ro_0 | exact ro_1 | omega | assumption | exact ho.nC (by omega) | exact ho.nL (by omega) | exact ho.nD (by omega) | exact ho.nJ (by omega) (by omega) (by omega) | exact ho.nA (by omega) (by omega) (by omega) | (simp only [List.map_cons, List.map_nil, List.sum_cons, List.sum_nil, cat_i, cat_r, cat_l, Nat.reduceAdd, Nat.reduceLeDiff]; done) | decide) only [h0, decide_true, Bool.true_eq_false, s37_33, s37_34, s37_37, s37_40, s37_41, s37_42, s37_43, tl_s, tl_n, nI_add, pk_mul, i_cl, row_s, u2_row, i_le, i_lt, i_eq, if_true, if_false, Nat.le_refl, Nat.reduceEqDiff, Nat.reduceLeDiff, ho.r6, ho.r7, ho.r8, ho.r9, ho.rc, ho.g0, ho.g1, ho.g2, ho.g3, ho.g4, ho.g5, ho.g6, ho.g7, ho.g8, ho.j0, ho.j1, ho.j2, ho.j3, hr.g7, e7]
    by_cases c2 : qv < 2
    · simp (disch := first | exact ok_i | exact ok_r | exact ok_n | exact cat_i | exact cat_r | exact ho.tag | exact ho.tg | exact ho.tj | exact ho.tp | exact ho.tC (by omega) (by omega) | exact ho.tA (by omega) (by omega) | exact ho.tJ (by omega) (by omega) | exact ro_0 | exact ro_1 | omega | assumption | exact ho.nC (by omega) | exact ho.nL (by omega) | exact ho.nD (by omega) | exact ho.nJ (by omega) (by omega) (by omega) | exact ho.nA (by omega) (by omega) (by omega) | (simp only [List.map_cons, List.map_nil, List.sum_cons, List.sum_nil, cat_i, cat_r, cat_l, Nat.reduceAdd, Nat.reduceLeDiff]; done) | decide) only [c2, s37_49, s37_50, s37_51, s37_52, s37_55, s37_58, s37_59, tl_s, tl_n, nI_add, pk_mul, i_cl, row_s, u2_row, i_le, i_lt, i_eq, if_true, if_false, Nat.le_refl, Nat.reduceEqDiff, Nat.reduceLeDiff, ho.r6, ho.r7, ho.r8, ho.r9, ho.rc, ho.g0, ho.g1, ho.g2, ho.g3, ho.g4, ho.g5, ho.g6, ho.g7, ho.g8, ho.j0, ho.j1, ho.j2, ho.j3, hr.g3, e3]
      rw [s37_60 (by simp only [List.map_cons, List.map_nil, List.sum_cons, List.sum_nil, cat_i, cat_r, cat_l, Nat.reduceAdd, Nat.reduceLeDiff]) ho.tag]
      refine h_costFor hr hd hg hcg hk hk4 hf hf4 hgr hwa h0 hset (fun I1 hF1 => ?_)
      have hr1 := hr.fr ho2 hd.ne hF1
      simp (disch := first | exact ok_i | exact ok_r | exact ok_n | exact cat_i | exact cat_r | exact ho.tag | exact ho.tg | exact ho.tj | exact ho.tp | exact ho.tC (by omega) (by omega) | exact ho.tA (by omega) (by omega) | exact ho.tJ (by omega) (by omega) | exact ro_0 | exact ro_1 | omega | assumption | exact ho.nC (by omega) | exact ho.nL (by omega) | exact ho.nD (by omega) | exact ho.nJ (by omega) (by omega) (by omega) | exact ho.nA (by omega) (by omega) (by omega) | (simp only [List.map_cons, List.map_nil, List.sum_cons, List.sum_nil, cat_i, cat_r, cat_l, Nat.reduceAdd, Nat.reduceLeDiff]; done) | decide) only [s37_63, s37_65, s37_66, s37_69, s37_72, s37_73, s37_74, s37_76, s37_78, s37_79, s37_82, s37_83, s37_84, s37_85, tl_s, tl_n, nI_add, pk_mul, i_cl, row_s, u2_row, i_le, i_lt, i_eq, if_true, if_false, Nat.le_refl, Nat.reduceEqDiff, Nat.reduceLeDiff, ho.r6, ho.r7, ho.r8, ho.r9, ho.rc, ho.g0, ho.g1, ho.g2, ho.g3, ho.g4, ho.g5, ho.g6, ho.g7, ho.g8, ho.j0, ho.j1, ho.j2, ho.j3, hr1.g3, e3, hr1.o5]
      refine h_rgBest hr1 hd ok hset hg h0 rfl rfl rfl hl8 (fun I2 l7 l8 hF2 hl7 hl8 => ?_)
      have hr2 := hr1.fr ho2 hd.ne hF2
      have hF12 : Fr2 o p o2 p2 I I2 := (hF1.trans hF2).two2
      -- the walk for less against the walk for the least
      obtain ⟨kk, rfl⟩ : ∃ kk, k = kk + 1 := ⟨k - 1, by omega⟩
      have hch := ch_cost (N := N) (m := m) (k := kk + 1) (g := g) (n := kk)
      have hbl : (chS N m (kk + 1) g kk).1 ≤ kk := chS_le
      obtain ⟨qo, o1, o2'⟩ := cost_q ok hg (c := cg) (by omega)
      obtain ⟨qm, m1, m2⟩ := cost_q ok hg (c := (chS N m (kk + 1) g kk).1) (by omega)
      obtain ⟨-, v, v1, v2, v3⟩ := hset
      have erg : (rgB N m (kk + 1) g = true) = ((chS N m (kk + 1) g kk).2 < costM N m (kk + 1) g cg - N 449 + nI 1) := by
        unfold rgB
        rw [Nat.add_sub_cancel, h0, e7, e3, i_cl (by omega), hch, m1, o1, v3]
        have a1 : (nI qo - nI v + nI 1).toInt = (qo : Int) - v + 1 := by
          rw [Int32.toInt_add, sub_i (by omega) (by omega), i_toInt (by omega), Int.bmod_eq_of_le (by omega) (by omega)]
          rfl
        have a2 : ¬ nI qv = nI 2 := by rw [i_eq (by omega) (by omega)]; omega
        rw [decide_eq_true rfl, decide_eq_false a2, Bool.not_false, Bool.true_and, Bool.true_and, decide_eq_true_eq]
        rw [Int32.lt_iff_toInt_lt, Int32.le_iff_toInt_le, a1, sub_i (by omega) (by omega), i_toInt (by omega), i_toInt (by omega)]
        apply propext
        omega
      rw [rc_ch]
      by_cases c3 : (chS N m (kk + 1) g kk).2 < costM N m (kk + 1) g cg - N 449 + nI 1
      · have hb : rgB N m (kk + 1) g = true := by rw [erg]; exact c3
        rw [rgF_t (by exact hb)] at h
        dsimp only at h
        rw [Nat.add_sub_cancel] at h
        have hne : ¬ (chS N m (kk + 1) g kk).1 = cg := fun e => by
          rw [hch, e, o1, v3, Int32.lt_iff_toInt_lt, Int32.toInt_add, sub_i (by omega) (by omega), i_toInt (by omega), i_toInt (by omega), Int.bmod_eq_of_le (by omega) (by omega)] at c3
          omega
        rw [if_pos c3]
        generalize (chS N m (kk + 1) g kk).1 = bb at *
        simp (disch := first | exact ok_i | exact ok_r | exact ok_n | exact cat_i | exact cat_r | exact ho.tag | exact ho.tg | exact ho.tj | exact ho.tp | exact ho.tC (by omega) (by omega) | exact ho.tA (by omega) (by omega) | exact ho.tJ (by omega) (by omega) | exact ro_0 | exact ro_1 | omega | assumption | exact ho.nC (by omega) | exact ho.nL (by omega) | exact ho.nD (by omega) | exact ho.nJ (by omega) (by omega) (by omega) | exact ho.nA (by omega) (by omega) (by omega) | (simp only [List.map_cons, List.map_nil, List.sum_cons, List.sum_nil, cat_i, cat_r, cat_l, Nat.reduceAdd, Nat.reduceLeDiff]; done) | decide) only [s37_129, s37_131, s37_132, s37_135, s37_138, s37_139, s37_140, s37_143, s37_144, s37_145, tl_s, tl_n, nI_add, pk_mul, i_cl, row_s, u2_row, i_le, i_lt, i_eq, if_true, if_false, Nat.le_refl, Nat.reduceEqDiff, Nat.reduceLeDiff, ho.r6, ho.r7, ho.r8, ho.r9, ho.rc, ho.g0, ho.g1, ho.g2, ho.g3, ho.g4, ho.g5, ho.g6, ho.g7, ho.g8, ho.j0, ho.j1, ho.j2, ho.j3, hr2.g3, e3, hne]
        rw [s37_147 (by simp only [List.map_cons, List.map_nil, List.sum_cons, List.sum_nil, cat_i, cat_r, cat_l, Nat.reduceAdd, Nat.reduceLeDiff]) ho.tag]
        refine h_giveAnew hr2 hg (by omega) (by rw [e3, i_eq (by omega) (by omega)]; exact fun e => hne e.symm) (fun I3 hr3 hF3 => ?_)
        simp (disch := first | exact ok_i | exact ok_r | exact ok_n | exact cat_i | exact cat_r | exact ho.tag | exact ho.tg | exact ho.tj | exact ho.tp | exact ho.tC (by omega) (by omega) | exact ho.tA (by omega) (by omega) | exact ho.tJ (by omega) (by omega) | exact ro_0 | exact ro_1 | omega | assumption | exact ho.nC (by omega) | exact ho.nL (by omega) | exact ho.nD (by omega) | exact ho.nJ (by omega) (by omega) (by omega) | exact ho.nA (by omega) (by omega) (by omega) | (simp only [List.map_cons, List.map_nil, List.sum_cons, List.sum_nil, cat_i, cat_r, cat_l, Nat.reduceAdd, Nat.reduceLeDiff]; done) | decide) only [s37_150, s37_153, s37_156, tl_s, tl_n, nI_add, pk_mul, i_cl, row_s, u2_row, i_le, i_lt, i_eq, if_true, if_false, Nat.le_refl, Nat.reduceEqDiff, Nat.reduceLeDiff]
        exact h I3 _ _ _ _ l7 l8 hr3 (hF12.trans hF3.two) rfl rfl rfl rfl hl7 hl8
      · have hb : ¬ rgB N m (kk + 1) g = true := by rw [erg]; exact c3
        rw [if_neg c3]
        simp (disch := first | exact ok_i | exact ok_r | exact ok_n | exact cat_i | exact cat_r | exact ho.tag | exact ho.tg | exact ho.tj | exact ho.tp | exact ho.tC (by omega) (by omega) | exact ho.tA (by omega) (by omega) | exact ho.tJ (by omega) (by omega) | exact ro_0 | exact ro_1 | omega | assumption | exact ho.nC (by omega) | exact ho.nL (by omega) | exact ho.nD (by omega) | exact ho.nJ (by omega) (by omega) (by omega) | exact ho.nA (by omega) (by omega) (by omega) | (simp only [List.map_cons, List.map_nil, List.sum_cons, List.sum_nil, cat_i, cat_r, cat_l, Nat.reduceAdd, Nat.reduceLeDiff]; done) | decide) only [s37_129, s37_131, s37_132, s37_135, s37_138, s37_139, s37_140, tl_s, tl_n, nI_add, pk_mul, i_cl, row_s, u2_row, i_le, i_lt, i_eq, if_true, if_false, Nat.le_refl, Nat.reduceEqDiff, Nat.reduceLeDiff, ho.r6, ho.r7, ho.r8, ho.r9, ho.rc, ho.g0, ho.g1, ho.g2, ho.g3, ho.g4, ho.g5, ho.g6, ho.g7, ho.g8, ho.j0, ho.j1, ho.j2, ho.j3, hr2.g3, e3]
        exact skip hb I2 _ _ _ l7 l8 hr2 hF12 rfl rfl rfl hl7 hl8
    · have hb : ¬ rgB N m k g = true := by
        unfold rgB
        rw [h0, e7, show qv = 2 by omega, decide_eq_true rfl, decide_eq_true rfl, Bool.not_true, Bool.and_false, Bool.false_and]
        decide
      simp (disch := first | exact ok_i | exact ok_r | exact ok_n | exact cat_i | exact cat_r | exact ho.tag | exact ho.tg | exact ho.tj | exact ho.tp | exact ho.tC (by omega) (by omega) | exact ho.tA (by omega) (by omega) | exact ho.tJ (by omega) (by omega) | exact ro_0 | exact ro_1 | omega | assumption | exact ho.nC (by omega) | exact ho.nL (by omega) | exact ho.nD (by omega) | exact ho.nJ (by omega) (by omega) (by omega) | exact ho.nA (by omega) (by omega) (by omega) | (simp only [List.map_cons, List.map_nil, List.sum_cons, List.sum_nil, cat_i, cat_r, cat_l, Nat.reduceAdd, Nat.reduceLeDiff]; done) | decide) only [c2, s37_46, tl_s, tl_n, nI_add, pk_mul, i_cl, row_s, u2_row, i_le, i_lt, i_eq, if_true, if_false, Nat.le_refl, Nat.reduceEqDiff, Nat.reduceLeDiff]
      exact skip hb I l4 l5 l6 l7 l8 hr Fr2.refl hl4 hl5 hl6 hl7 hl8
  · have hb : ¬ rgB N m k g = true := by
      unfold rgB
      rw [decide_eq_false h0, Bool.false_and, Bool.false_and]
      decide
    simp (disch := first | exact ok_i | exact ok_r | exact ok_n | exact cat_i | exact cat_r | exact ho.tag | exact ho.tg | exact ho.tj | exact ho.tp | exact ho.tC (by omega) (by omega) | exact ho.tA (by omega) (by omega) | exact ho.tJ (by omega) (by omega) | exact ro_0 | exact ro_1 | omega | assumption | exact ho.nC (by omega) | exact ho.nL (by omega) | exact ho.nD (by omega) | exact ho.nJ (by omega) (by omega) (by omega) | exact ho.nA (by omega) (by omega) (by omega) | (simp only [List.map_cons, List.map_nil, List.sum_cons, List.sum_nil, cat_i, cat_r, cat_l, Nat.reduceAdd, Nat.reduceLeDiff]; done) | decide) only [h0, decide_false, tl_s, tl_n, nI_add, pk_mul, i_cl, row_s, u2_row, i_le, i_lt, i_eq, if_true, if_false, Nat.le_refl, Nat.reduceEqDiff, Nat.reduceLeDiff]
    exact skip hb I l4 l5 l6 l7 l8 hr Fr2.refl hl4 hl5 hl6 hl7 hl8
theorem h_regiveAll {f k T : Nat} (hr : HR o p I N m (live N m)) (hd : Deep o o2 p2) (hrg : RgOk N N f k m T)
    (h : ∀ I', HR o p I' (rgS N m k m).1 m (live (rgS N m k m).1 m) → Fr2 o p o2 p2 I I' → Q (some (.int (nI (rgS N m k m).2))) G0 I') : Call X (d + 6) 37 [.ref o] G0 I Q := by
  have ho := hr.ho
  have m40 := hr.m40
  have l12 := hr.l12
  obtain ⟨hlive, hend⟩ := rgS_live hrg
  have hleq := live_eq hend.2.2.2
  have hinv : ∀ i, i ≤ (live N m).length → RgOk N (itr (fun i s => rgF m k ((live N m).getD i 0) s) (N, 0) i).1 f k m T ∧ (itr (fun i s => rgF m k ((live N m).getD i 0) s) (N, 0) i).2 ≤ i := by
    intro i
    induction i with
    | zero => exact fun _ => ⟨hrg, Nat.le_refl _⟩
    | succ i ih =>
      intro hi
      obtain ⟨ih1, ih2⟩ := ih (by omega)
      rw [itr_s]
      exact ⟨rgF_rg ih1 (hr.lm i (by omega)), Nat.le_trans rgF_le (Nat.succ_le_succ ih2)⟩
  simp (disch := first | exact ok_i | exact ok_r | exact ok_n | exact cat_i | exact cat_r | exact ho.tag | exact ho.tg | exact ho.tj | exact ho.tp | exact ho.tC (by omega) (by omega) | exact ho.tA (by omega) (by omega) | exact ho.tJ (by omega) (by omega) | exact ro_0 | exact ro_1 | omega | assumption | exact ho.nC (by omega) | exact ho.nL (by omega) | exact ho.nD (by omega) | exact ho.nJ (by omega) (by omega) (by omega) | exact ho.nA (by omega) (by omega) (by omega) | (simp only [List.map_cons, List.map_nil, List.sum_cons, List.sum_nil, cat_i, cat_r, cat_l, Nat.reduceAdd, Nat.reduceLeDiff]; done) | decide) only [e37, s37_0, s37_1, s37_2, s37_3, tl_s, tl_n, nI_add, pk_mul, i_cl, row_s, u2_row, i_le, i_lt, i_eq, if_true, if_false, Nat.le_refl, Nat.reduceEqDiff, Nat.reduceLeDiff]
  refine loop_h (σ := pI × Option Value × Option Value × Option Value × Option Value × Option Value × Option Value) (n := (live N m).length)
    (A := fun i s => At X (d + 5) 37 4 [some (.ref o), some (.int (nI (itr (fun i s => rgF m k ((live N m).getD i 0) s) (N, 0) i).2)), some (.int (nI i)), s.2.1, s.2.2.1, s.2.2.2.1, s.2.2.2.2.1, s.2.2.2.2.2.1, s.2.2.2.2.2.2] [] G0 s.1 Q)
    (ok := fun i s => HR o p s.1 (itr (fun i s => rgF m k ((live N m).getD i 0) s) (N, 0) i).1 m (live N m) ∧ Fr2 o p o2 p2 I s.1 ∧ okL s.2.1 = true ∧ okL s.2.2.1 = true ∧ okL s.2.2.2.1 = true ∧ okL s.2.2.2.2.1 = true ∧ okL s.2.2.2.2.2.1 = true ∧ okL s.2.2.2.2.2.2 = true)
    (fun s hs => ?_) (fun i s hi hs ih => ?_) 0 (I, none, none, none, none, none, none) (Nat.zero_le _) ⟨hr, Fr2.refl, rfl, rfl, rfl, rfl, rfl, rfl⟩
  · obtain ⟨I', l3, l4, l5, l6, l7, l8⟩ := s
    obtain ⟨hr', hF, -⟩ := hs
    dsimp only at hr' hF ⊢
    rw [hlive] at hr' ⊢
    simp (disch := first | exact ok_i | exact ok_r | exact ok_n | exact cat_i | exact cat_r | exact ho.tag | exact ho.tg | exact ho.tj | exact ho.tp | exact ho.tC (by omega) (by omega) | exact ho.tA (by omega) (by omega) | exact ho.tJ (by omega) (by omega) | exact ro_0 | exact ro_1 | omega | assumption | exact ho.nC (by omega) | exact ho.nL (by omega) | exact ho.nD (by omega) | exact ho.nJ (by omega) (by omega) (by omega) | exact ho.nA (by omega) (by omega) (by omega) | (simp only [List.map_cons, List.map_nil, List.sum_cons, List.sum_nil, cat_i, cat_r, cat_l, Nat.reduceAdd, Nat.reduceLeDiff]; done) | decide) only [s37_4, s37_5, s37_6, s37_9, s37_12, s37_159, s37_160, tl_s, tl_n, nI_add, pk_mul, i_cl, row_s, u2_row, i_le, i_lt, i_eq, if_true, if_false, Nat.le_refl, Nat.reduceEqDiff, Nat.reduceLeDiff, ho.r6, ho.r7, ho.r8, ho.r9, ho.rc, ho.g0, ho.g1, ho.g2, ho.g3, ho.g4, ho.g5, ho.g6, ho.g7, ho.g8, ho.j0, ho.j1, ho.j2, ho.j3, hr'.lc]
    refine h I' ?_ hF
    rw [hleq]
    exact hr'
  · obtain ⟨I', l3, l4, l5, l6, l7, l8⟩ := s
    obtain ⟨hr', hF, k3, k4, k5, k6, k7, k8⟩ := hs
    dsimp only at hr' hF k3 k4 k5 k6 k7 k8 ih ⊢
    obtain ⟨i1, i2⟩ := hinv i (by omega)
    have hle := live_eq i1.2.2.2
    have hg := hr'.lm i hi
    have hv := hr'.lv i hi
    simp only [itr_s] at ih
    generalize itr (fun i s => rgF m k ((live N m).getD i 0) s) (N, 0) i = s at *
    obtain ⟨N1, n⟩ := s
    dsimp only at hr' i1 i2 hle ⊢
    generalize (live N m).getD i 0 = g at *
    rw [← hle] at hr' hi
    refine h_rgStep hr' hd i1 hg hv hi i2 k3 k4 k5 k6 k7 k8 (fun I2 l3 l4 l5 l6 l7 l8 hr2 hF2 k3 k4 k5 k6 k7 k8 => ?_)
    rw [hle] at hr2
    exact ih (I2, l3, l4, l5, l6, l7, l8) ⟨hr2, hF.trans hF2, k3, k4, k5, k6, k7, k8⟩
end
