/-! the class: a car's tick, whole; a tick -/
section
variable {X : pX} {d : Nat} {I : pI} {Q : Option Value → pG → pI → Prop} {o p : Nat} {N : Nat → Int32} {m : Nat} {L : List Nat}
theorem h_actEnd {c a b : Nat} {w st : Int32} (hr : HR o p I N m L) (hc : c < 4) (ha : a ≤ 40) (hb : b ≤ 40) (h4 : cf N c 4 = nI 0 ∨ cf N c 4 = nI 1 ∨ cf N c 4 = nI 2)
    (hw : a + b = 0 → loadM N c m = w ∧ stopsM N c m = st)
    (h : ∀ I', HR o p I' (mv5 N c m (a + b)) m L → Fr o p I I' → Q (some (.int (nI a))) G0 I') :
    At X (d + 1) 44 131 [some (.ref o), some (.int (nI c)), some (.ref (p + 1 + c)), some (.int (nI a)), some (.int st), some (.int w), some (.int (nI b))] [] G0 I Q := by
  have ho := hr.ho
  have l12 := hr.l12
  have m40 := hr.m40
  simp (disch := first | exact ok_i | exact ok_r | exact ok_n | exact cat_i | exact cat_r | exact ho.tag | exact ho.tg | exact ho.tj | exact ho.tp | exact ho.tC (by omega) (by omega) | exact ho.tA (by omega) (by omega) | exact ho.tJ (by omega) (by omega) | exact ro_0 | exact ro_1 | omega | assumption | exact ho.nC (by omega) | exact ho.nL (by omega) | exact ho.nD (by omega) | exact ho.nJ (by omega) (by omega) (by omega) | exact ho.nA (by omega) (by omega) (by omega) | (simp only [List.map_cons, List.map_nil, List.sum_cons, List.sum_nil, cat_i, cat_r, cat_l, Nat.reduceAdd, Nat.reduceLeDiff]; done) | decide) only [s44_131, s44_132, s44_134, s44_135, tl_s, tl_n, nI_add, pk_mul, i_cl, row_s, u2_row, i_le, i_lt, i_eq, if_true, if_false, Nat.le_refl, Nat.reduceEqDiff, Nat.reduceLeDiff]
  by_cases h0 : a + b ≤ 0
  · have e0 : a + b = 0 := by omega
    obtain ⟨hw1, hw2⟩ := hw e0
    simp (disch := first | exact ok_i | exact ok_r | exact ok_n | exact cat_i | exact cat_r | exact ho.tag | exact ho.tg | exact ho.tj | exact ho.tp | exact ho.tC (by omega) (by omega) | exact ho.tA (by omega) (by omega) | exact ho.tJ (by omega) (by omega) | exact ro_0 | exact ro_1 | omega | assumption | exact ho.nC (by omega) | exact ho.nL (by omega) | exact ho.nD (by omega) | exact ho.nJ (by omega) (by omega) (by omega) | exact ho.nA (by omega) (by omega) (by omega) | (simp only [List.map_cons, List.map_nil, List.sum_cons, List.sum_nil, cat_i, cat_r, cat_l, Nat.reduceAdd, Nat.reduceLeDiff]; done) | decide) only [h0, s44_149, s44_150, s44_153, tl_s, tl_n, nI_add, pk_mul, i_cl, row_s, u2_row, i_le, i_lt, i_eq, if_true, if_false, Nat.le_refl, Nat.reduceEqDiff, Nat.reduceLeDiff, ho.r6, ho.r7, ho.r8, ho.r9, ho.rc, ho.g0, ho.g1, ho.g2, ho.g3, ho.g4, ho.g5, ho.g6, ho.g7, ho.g8, ho.j0, ho.j1, ho.j2, ho.j3, hr.o0, hr.o1, hr.o2, hr.o3, hr.o4, hr.o5, hr.c0, hr.c1, hr.c2, hr.c3, hr.c4, hr.c5, hr.c6, hr.c7, hr.mc, hr.lc, hr.g0, hr.g1, hr.g2, hr.g3, hr.g4, hr.g5, hr.g6, hr.g7, hr.dm]
    unfold mv5 at h
    rw [if_neg (by omega)] at h
    have p0 : (nI 0 < nI 0) = False := propext ⟨fun e => absurd e (by decide), False.elim⟩
    have p1 : (nI 0 < nI 1) = True := propext ⟨fun _ => trivial, fun _ => by decide⟩
    have p2 : (nI 0 < nI 2) = True := propext ⟨fun _ => trivial, fun _ => by decide⟩
    have k0 : cf N c 4 = nI 0 → At X (d + 1) 44 195 [some (.ref o), some (.int (nI c)), some (.ref (p + 1 + c)), some (.int (nI a)), some (.int st), some (.int w), some (.int (nI b))] [] G0 I Q := by
      intro e
      rw [if_neg (by rw [e, p0]; exact fun x => x.1)] at h
      simp (disch := first | exact ok_i | exact ok_r | exact ok_n | exact cat_i | exact cat_r | exact ho.tag | exact ho.tg | exact ho.tj | exact ho.tp | exact ho.tC (by omega) (by omega) | exact ho.tA (by omega) (by omega) | exact ho.tJ (by omega) (by omega) | exact ro_0 | exact ro_1 | omega | assumption | exact ho.nC (by omega) | exact ho.nL (by omega) | exact ho.nD (by omega) | exact ho.nJ (by omega) (by omega) (by omega) | exact ho.nA (by omega) (by omega) (by omega) | (simp only [List.map_cons, List.map_nil, List.sum_cons, List.sum_nil, cat_i, cat_r, cat_l, Nat.reduceAdd, Nat.reduceLeDiff]; done) | decide) only [s44_195, s44_196, s44_197, s44_200, s44_201, tl_s, tl_n, nI_add, pk_mul, i_cl, row_s, u2_row, i_le, i_lt, i_eq, if_true, if_false, Nat.le_refl, Nat.reduceEqDiff, Nat.reduceLeDiff]
      exact h _ (hr.upc (k := 4) hc (by omega)) (Fr.up (by omega))
    have k1 : nI 0 < cf N c 4 → (nI 0 < w ∨ ahead st (cf N c 3) (cf N c 4) = true) → At X (d + 1) 44 177 [some (.ref o), some (.int (nI c)), some (.ref (p + 1 + c)), some (.int (nI a)), some (.int st), some (.int w), some (.int (nI b))] [] G0 I Q := by
      intro e1 e2
      rw [hw1, hw2, if_pos ⟨e1, e2⟩] at h
      have hr2 : HR o p (upd2 I (p + 1 + c) 7 (nI 1)) (upd N (8 * c + 6) (nI 1)) m L := hr.upc (k := 7) hc (by omega)
      have el : loadM (upd N (8 * c + 6) (nI 1)) c m = w := by rw [load_o (N := N) (fun a ha => up_n (by omega))]; exact hw1
      simp (disch := first | exact ok_i | exact ok_r | exact ok_n | exact cat_i | exact cat_r | exact ho.tag | exact ho.tg | exact ho.tj | exact ho.tp | exact ho.tC (by omega) (by omega) | exact ho.tA (by omega) (by omega) | exact ho.tJ (by omega) (by omega) | exact ro_0 | exact ro_1 | omega | assumption | exact ho.nC (by omega) | exact ho.nL (by omega) | exact ho.nD (by omega) | exact ho.nJ (by omega) (by omega) (by omega) | exact ho.nA (by omega) (by omega) (by omega) | (simp only [List.map_cons, List.map_nil, List.sum_cons, List.sum_nil, cat_i, cat_r, cat_l, Nat.reduceAdd, Nat.reduceLeDiff]; done) | decide) only [s44_177, s44_178, s44_179, s44_182, s44_183, s44_184, s44_186, s44_189, tl_s, tl_n, nI_add, pk_mul, i_cl, row_s, u2_row, i_le, i_lt, i_eq, if_true, if_false, Nat.le_refl, Nat.reduceEqDiff, Nat.reduceLeDiff, h_pace hr2 hc]
      dsimp only at h
      rw [el] at h
      simp (disch := first | exact ok_i | exact ok_r | exact ok_n | exact cat_i | exact cat_r | exact ho.tag | exact ho.tg | exact ho.tj | exact ho.tp | exact ho.tC (by omega) (by omega) | exact ho.tA (by omega) (by omega) | exact ho.tJ (by omega) (by omega) | exact ro_0 | exact ro_1 | omega | assumption | exact ho.nC (by omega) | exact ho.nL (by omega) | exact ho.nD (by omega) | exact ho.nJ (by omega) (by omega) (by omega) | exact ho.nA (by omega) (by omega) (by omega) | (simp only [List.map_cons, List.map_nil, List.sum_cons, List.sum_nil, cat_i, cat_r, cat_l, Nat.reduceAdd, Nat.reduceLeDiff]; done) | decide) only [s44_192, s44_195, s44_196, s44_197, s44_200, s44_201, tl_s, tl_n, nI_add, pk_mul, i_cl, row_s, u2_row, i_le, i_lt, i_eq, if_true, if_false, Nat.le_refl, Nat.reduceEqDiff, Nat.reduceLeDiff]
      exact h _ (hr2.upc (k := 5) hc (by omega)) ((Fr.up (by omega)).trans (Fr.up (by omega)))
    have k2 : nI 0 < cf N c 4 → ¬ (nI 0 < w ∨ ahead st (cf N c 3) (cf N c 4) = true) → At X (d + 1) 44 195 [some (.ref o), some (.int (nI c)), some (.ref (p + 1 + c)), some (.int (nI a)), some (.int st), some (.int w), some (.int (nI b))] [] G0 I Q := by
      intro e1 e2
      rw [hw1, hw2, if_neg (fun x => e2 x.2)] at h
      simp (disch := first | exact ok_i | exact ok_r | exact ok_n | exact cat_i | exact cat_r | exact ho.tag | exact ho.tg | exact ho.tj | exact ho.tp | exact ho.tC (by omega) (by omega) | exact ho.tA (by omega) (by omega) | exact ho.tJ (by omega) (by omega) | exact ro_0 | exact ro_1 | omega | assumption | exact ho.nC (by omega) | exact ho.nL (by omega) | exact ho.nD (by omega) | exact ho.nJ (by omega) (by omega) (by omega) | exact ho.nA (by omega) (by omega) (by omega) | (simp only [List.map_cons, List.map_nil, List.sum_cons, List.sum_nil, cat_i, cat_r, cat_l, Nat.reduceAdd, Nat.reduceLeDiff]; done) | decide) only [s44_195, s44_196, s44_197, s44_200, s44_201, tl_s, tl_n, nI_add, pk_mul, i_cl, row_s, u2_row, i_le, i_lt, i_eq, if_true, if_false, Nat.le_refl, Nat.reduceEqDiff, Nat.reduceLeDiff]
      exact h _ (hr.upc (k := 4) hc (by omega)) (Fr.up (by omega))
    by_cases c4 : cf N c 4 = nI 0
    · simp (disch := first | exact ok_i | exact ok_r | exact ok_n | exact cat_i | exact cat_r | exact ho.tag | exact ho.tg | exact ho.tj | exact ho.tp | exact ho.tC (by omega) (by omega) | exact ho.tA (by omega) (by omega) | exact ho.tJ (by omega) (by omega) | exact ro_0 | exact ro_1 | omega | assumption | exact ho.nC (by omega) | exact ho.nL (by omega) | exact ho.nD (by omega) | exact ho.nJ (by omega) (by omega) (by omega) | exact ho.nA (by omega) (by omega) (by omega) | (simp only [List.map_cons, List.map_nil, List.sum_cons, List.sum_nil, cat_i, cat_r, cat_l, Nat.reduceAdd, Nat.reduceLeDiff]; done) | decide) only [c4, tl_s, tl_n, nI_add, pk_mul, i_cl, row_s, u2_row, i_le, i_lt, i_eq, if_true, if_false, Nat.le_refl, Nat.reduceEqDiff, Nat.reduceLeDiff]
      exact k0 c4
    · have g4 : nI 0 < cf N c 4 := by
        rcases h4 with e | e | e
        · exact absurd e c4
        · rw [e]; decide
        · rw [e]; decide
      simp (disch := first | exact ok_i | exact ok_r | exact ok_n | exact cat_i | exact cat_r | exact ho.tag | exact ho.tg | exact ho.tj | exact ho.tp | exact ho.tC (by omega) (by omega) | exact ho.tA (by omega) (by omega) | exact ho.tJ (by omega) (by omega) | exact ro_0 | exact ro_1 | omega | assumption | exact ho.nC (by omega) | exact ho.nL (by omega) | exact ho.nD (by omega) | exact ho.nJ (by omega) (by omega) (by omega) | exact ho.nA (by omega) (by omega) (by omega) | (simp only [List.map_cons, List.map_nil, List.sum_cons, List.sum_nil, cat_i, cat_r, cat_l, Nat.reduceAdd, Nat.reduceLeDiff]; done) | decide) only [c4, s44_156, s44_158, tl_s, tl_n, nI_add, pk_mul, i_cl, row_s, u2_row, i_le, i_lt, i_eq, if_true, if_false, Nat.le_refl, Nat.reduceEqDiff, Nat.reduceLeDiff]
      by_cases c5 : nI 0 < w
      · simp (disch := first | exact ok_i | exact ok_r | exact ok_n | exact cat_i | exact cat_r | exact ho.tag | exact ho.tg | exact ho.tj | exact ho.tp | exact ho.tC (by omega) (by omega) | exact ho.tA (by omega) (by omega) | exact ho.tJ (by omega) (by omega) | exact ro_0 | exact ro_1 | omega | assumption | exact ho.nC (by omega) | exact ho.nL (by omega) | exact ho.nD (by omega) | exact ho.nJ (by omega) (by omega) (by omega) | exact ho.nA (by omega) (by omega) (by omega) | (simp only [List.map_cons, List.map_nil, List.sum_cons, List.sum_nil, cat_i, cat_r, cat_l, Nat.reduceAdd, Nat.reduceLeDiff]; done) | decide) only [c5, tl_s, tl_n, nI_add, pk_mul, i_cl, row_s, u2_row, i_le, i_lt, i_eq, if_true, if_false, Nat.le_refl, Nat.reduceEqDiff, Nat.reduceLeDiff]
        exact k1 g4 (Or.inl c5)
      · simp (disch := first | exact ok_i | exact ok_r | exact ok_n | exact cat_i | exact cat_r | exact ho.tag | exact ho.tg | exact ho.tj | exact ho.tp | exact ho.tC (by omega) (by omega) | exact ho.tA (by omega) (by omega) | exact ho.tJ (by omega) (by omega) | exact ro_0 | exact ro_1 | omega | assumption | exact ho.nC (by omega) | exact ho.nL (by omega) | exact ho.nD (by omega) | exact ho.nJ (by omega) (by omega) (by omega) | exact ho.nA (by omega) (by omega) (by omega) | (simp only [List.map_cons, List.map_nil, List.sum_cons, List.sum_nil, cat_i, cat_r, cat_l, Nat.reduceAdd, Nat.reduceLeDiff]; done) | decide) only [c5, s44_161, s44_163, s44_164, s44_167, s44_168, s44_171, s44_174, tl_s, tl_n, nI_add, pk_mul, i_cl, row_s, u2_row, i_le, i_lt, i_eq, if_true, if_false, Nat.le_refl, Nat.reduceEqDiff, Nat.reduceLeDiff, ho.r6, ho.r7, ho.r8, ho.r9, ho.rc, ho.g0, ho.g1, ho.g2, ho.g3, ho.g4, ho.g5, ho.g6, ho.g7, ho.g8, ho.j0, ho.j1, ho.j2, ho.j3, hr.o0, hr.o1, hr.o2, hr.o3, hr.o4, hr.o5, hr.c0, hr.c1, hr.c2, hr.c3, hr.c4, hr.c5, hr.c6, hr.c7, hr.mc, hr.lc, hr.g0, hr.g1, hr.g2, hr.g3, hr.g4, hr.g5, hr.g6, hr.g7, hr.dm, h_isAhead, b2i_0]
        cases c6 : ahead st (cf N c 3) (cf N c 4)
        · simp (disch := first | exact ok_i | exact ok_r | exact ok_n | exact cat_i | exact cat_r | exact ho.tag | exact ho.tg | exact ho.tj | exact ho.tp | exact ho.tC (by omega) (by omega) | exact ho.tA (by omega) (by omega) | exact ho.tJ (by omega) (by omega) | exact ro_0 | exact ro_1 | omega | assumption | exact ho.nC (by omega) | exact ho.nL (by omega) | exact ho.nD (by omega) | exact ho.nJ (by omega) (by omega) (by omega) | exact ho.nA (by omega) (by omega) (by omega) | (simp only [List.map_cons, List.map_nil, List.sum_cons, List.sum_nil, cat_i, cat_r, cat_l, Nat.reduceAdd, Nat.reduceLeDiff]; done) | decide) only [tl_s, tl_n, nI_add, pk_mul, i_cl, row_s, u2_row, i_le, i_lt, i_eq, if_true, if_false, Nat.le_refl, Nat.reduceEqDiff, Nat.reduceLeDiff]
          exact k2 g4 (fun x => by rcases x with x | x; exact c5 x; rw [c6] at x; cases x)
        · simp (disch := first | exact ok_i | exact ok_r | exact ok_n | exact cat_i | exact cat_r | exact ho.tag | exact ho.tg | exact ho.tj | exact ho.tp | exact ho.tC (by omega) (by omega) | exact ho.tA (by omega) (by omega) | exact ho.tJ (by omega) (by omega) | exact ro_0 | exact ro_1 | omega | assumption | exact ho.nC (by omega) | exact ho.nL (by omega) | exact ho.nD (by omega) | exact ho.nJ (by omega) (by omega) (by omega) | exact ho.nA (by omega) (by omega) (by omega) | (simp only [List.map_cons, List.map_nil, List.sum_cons, List.sum_nil, cat_i, cat_r, cat_l, Nat.reduceAdd, Nat.reduceLeDiff]; done) | decide) only [tl_s, tl_n, nI_add, pk_mul, i_cl, row_s, u2_row, i_le, i_lt, i_eq, if_true, if_false, Nat.le_refl, Nat.reduceEqDiff, Nat.reduceLeDiff, Bool.true_eq_false]
          exact k1 g4 (Or.inr c6)
  · simp (disch := first | exact ok_i | exact ok_r | exact ok_n | exact cat_i | exact cat_r | exact ho.tag | exact ho.tg | exact ho.tj | exact ho.tp | exact ho.tC (by omega) (by omega) | exact ho.tA (by omega) (by omega) | exact ho.tJ (by omega) (by omega) | exact ro_0 | exact ro_1 | omega | assumption | exact ho.nC (by omega) | exact ho.nL (by omega) | exact ho.nD (by omega) | exact ho.nJ (by omega) (by omega) (by omega) | exact ho.nA (by omega) (by omega) (by omega) | (simp only [List.map_cons, List.map_nil, List.sum_cons, List.sum_nil, cat_i, cat_r, cat_l, Nat.reduceAdd, Nat.reduceLeDiff]; done) | decide) only [h0, s44_138, s44_139, s44_140, s44_143, s44_146, s44_200, s44_201, tl_s, tl_n, nI_add, pk_mul, i_cl, row_s, u2_row, i_le, i_lt, i_eq, if_true, if_false, Nat.le_refl, Nat.reduceEqDiff, Nat.reduceLeDiff, h_stay hr hc]
    refine h _ ?_ (Fr.up (r := p + 1 + c) (k := 5) (by omega))
    unfold mv5
    rw [if_pos (by omega)]
    exact hr.upc (k := 5) hc (by omega)
theorem h_act {c f : Nat} (hr : HR o p I N m (live N m)) (hc : c < 4) (hf : N 444 = nI f) (hf4 : f ≤ 12) (hg : GrpOk N f m) (hw : Own N f m c 0)
    (h : ∀ I', HR o p I' (actN N c m) m (live (actN N c m) m) → Fr o p I I' → Q (some (.int (nI (lvC (mv3 (mv2 N c) c) c m)))) G0 I') :
    At X (d + 2) 44 33 [some (.ref o), some (.int (nI c)), some (.ref (p + 1 + c)), none, none, none, none] [] G0 I Q := by
  have ho := hr.ho
  have m40 := hr.m40
  have h6 : cf N c 6 = nI 0 ∨ cf N c 6 = nI 1 := by
    obtain ⟨⟨x, hx, k3, k6, kr⟩, -⟩ := hw
    rcases k6 with k6 | k6
    · exact Or.inl k6
    · exact Or.inr k6.1
  obtain ⟨w4, e4, g4, g3⟩ := act_ok1 hw hg hc m40 hf4
  refine h_act1 hr hc h6 (fun I1 hr1 hF1 => ?_)
  have f3 : mv3 (mv2 N c) c 444 = nI f := by rw [mv3_o hc (by omega), mv2_o hc (by omega)]; exact hf
  have l3 : live (mv3 (mv2 N c) c) m = live N m := live_o (fun a ha => by rw [mv3_o hc ha, mv2_o hc ha])
  unfold actN at h
  dsimp only at h
  rw [← l3] at hr1
  have hlc : lvC (mv3 (mv2 N c) c) c m ≤ 40 := Nat.le_trans lvC_le m40
  generalize mv3 (mv2 N c) c = N3 at *
  simp (disch := first | exact ok_i | exact ok_r | exact ok_n | exact cat_i | exact cat_r | exact ho.tag | exact ho.tg | exact ho.tj | exact ho.tp | exact ho.tC (by omega) (by omega) | exact ho.tA (by omega) (by omega) | exact ho.tJ (by omega) (by omega) | exact ro_0 | exact ro_1 | omega | assumption | exact ho.nC (by omega) | exact ho.nL (by omega) | exact ho.nD (by omega) | exact ho.nJ (by omega) (by omega) (by omega) | exact ho.nA (by omega) (by omega) (by omega) | (simp only [List.map_cons, List.map_nil, List.sum_cons, List.sum_nil, cat_i, cat_r, cat_l, Nat.reduceAdd, Nat.reduceLeDiff]; done) | decide) only [s44_83, s44_84, tl_s, tl_n, nI_add, pk_mul, i_cl, row_s, u2_row, i_le, i_lt, i_eq, if_true, if_false, Nat.le_refl, Nat.reduceEqDiff, Nat.reduceLeDiff]
  rw [s44_85 (by simp only [List.map_cons, List.map_nil, List.sum_cons, List.sum_nil, cat_i, cat_r, cat_l, Nat.reduceAdd, Nat.reduceLeDiff]) ho.tag]
  refine h_letOut hr1 hc (fun I2 hr2 hF2 => ?_)
  have f4 : lvN N3 c m 444 = nI f := by rw [lvN_o (by unfold fixA; omega) m40]; exact f3
  generalize lvC N3 c m = a at *
  generalize lvN N3 c m = N4 at *
  obtain ⟨⟨x, hx, k3, -⟩, kw, kp, -⟩ := w4
  obtain ⟨b, hb, hbf⟩ := stops_b hf4 kp g4.rout
  have hF := hF1.trans hF2
  clear hr hr1 hF1 hF2
  have hr := hr2
  simp (disch := first | exact ok_i | exact ok_r | exact ok_n | exact cat_i | exact cat_r | exact ho.tag | exact ho.tg | exact ho.tj | exact ho.tp | exact ho.tC (by omega) (by omega) | exact ho.tA (by omega) (by omega) | exact ho.tJ (by omega) (by omega) | exact ro_0 | exact ro_1 | omega | assumption | exact ho.nC (by omega) | exact ho.nL (by omega) | exact ho.nD (by omega) | exact ho.nJ (by omega) (by omega) (by omega) | exact ho.nA (by omega) (by omega) (by omega) | (simp only [List.map_cons, List.map_nil, List.sum_cons, List.sum_nil, cat_i, cat_r, cat_l, Nat.reduceAdd, Nat.reduceLeDiff]; done) | decide) only [s44_88, s44_89, s44_90, s44_91, s44_94, s44_96, s44_97, s44_100, s44_101, s44_104, s44_106, tl_s, tl_n, nI_add, pk_mul, i_cl, row_s, u2_row, i_le, i_lt, i_eq, if_true, if_false, Nat.le_refl, Nat.reduceEqDiff, Nat.reduceLeDiff, ho.r6, ho.r7, ho.r8, ho.r9, ho.rc, ho.g0, ho.g1, ho.g2, ho.g3, ho.g4, ho.g5, ho.g6, ho.g7, ho.g8, ho.j0, ho.j1, ho.j2, ho.j3, hr.o0, hr.o1, hr.o2, hr.o3, hr.o4, hr.o5, hr.c0, hr.c1, hr.c2, hr.c3, hr.c4, hr.c5, hr.c6, hr.c7, hr.mc, hr.lc, hr.g0, hr.g1, hr.g2, hr.g3, hr.g4, hr.g5, hr.g6, hr.g7, hr.dm, h_stopsOf hr rfl g4.how hc, h_ridersOf hr rfl]
  have part2 : ∀ I', HR o p I' (mv4 N4 c m) m (live (mv4 N4 c m) m) → Fr o p I I' → At X (d + 2) 44 122 [some (.ref o), some (.int (nI c)), some (.ref (p + 1 + c)), some (.int (nI a)), some (.int (stopsM N4 c m)), some (.int (loadM N4 c m)), none] [] G0 I' Q := by
    intro I' hr' hF'
    have o5 : ∀ a, 32 ≤ a → mv4 N4 c m a = N4 a := fun a ha => mv4_o hc ha
    have c7 : cf (mv4 N4 c m) c 7 = cf N4 c 7 := by
      unfold mv4
      split
      · rw [cf_u (by omega)]
      · rfl
    have el : loadM (mv4 N4 c m) c m = loadM N4 c m := load_o o5
    have es : stopsM (mv4 N4 c m) c m = stopsM N4 c m := stops_e o5 c7
    have k4 : cf (mv4 N4 c m) c 4 = nI 0 ∨ cf (mv4 N4 c m) c 4 = nI 1 ∨ cf (mv4 N4 c m) c 4 = nI 2 := by
      unfold mv4
      split
      · rw [cf_s]; exact look_r kw
      · exact kw
    generalize mv4 N4 c m = N5 at *
    simp (disch := first | exact ok_i | exact ok_r | exact ok_n | exact cat_i | exact cat_r | exact ho.tag | exact ho.tg | exact ho.tj | exact ho.tp | exact ho.tC (by omega) (by omega) | exact ho.tA (by omega) (by omega) | exact ho.tJ (by omega) (by omega) | exact ro_0 | exact ro_1 | omega | assumption | exact ho.nC (by omega) | exact ho.nL (by omega) | exact ho.nD (by omega) | exact ho.nJ (by omega) (by omega) (by omega) | exact ho.nA (by omega) (by omega) (by omega) | (simp only [List.map_cons, List.map_nil, List.sum_cons, List.sum_nil, cat_i, cat_r, cat_l, Nat.reduceAdd, Nat.reduceLeDiff]; done) | decide) only [s44_122, s44_123, s44_124, tl_s, tl_n, nI_add, pk_mul, i_cl, row_s, u2_row, i_le, i_lt, i_eq, if_true, if_false, Nat.le_refl, Nat.reduceEqDiff, Nat.reduceLeDiff]
    rw [s44_126 (by simp only [List.map_cons, List.map_nil, List.sum_cons, List.sum_nil, cat_i, cat_r, cat_l, Nat.reduceAdd, Nat.reduceLeDiff]) ho.tag]
    refine h_letIn hr' hc el (fun I3 hr3 hF3 => ?_)
    simp (disch := first | exact ok_i | exact ok_r | exact ok_n | exact cat_i | exact cat_r | exact ho.tag | exact ho.tg | exact ho.tj | exact ho.tp | exact ho.tC (by omega) (by omega) | exact ho.tA (by omega) (by omega) | exact ho.tJ (by omega) (by omega) | exact ro_0 | exact ro_1 | omega | assumption | exact ho.nC (by omega) | exact ho.nL (by omega) | exact ho.nD (by omega) | exact ho.nJ (by omega) (by omega) (by omega) | exact ho.nA (by omega) (by omega) (by omega) | (simp only [List.map_cons, List.map_nil, List.sum_cons, List.sum_nil, cat_i, cat_r, cat_l, Nat.reduceAdd, Nat.reduceLeDiff]; done) | decide) only [s44_129, tl_s, tl_n, nI_add, pk_mul, i_cl, row_s, u2_row, i_le, i_lt, i_eq, if_true, if_false, Nat.le_refl, Nat.reduceEqDiff, Nat.reduceLeDiff]
    have c4 : cf (bdS N5 c m m).1 c 4 = cf N5 c 4 := by
      have key : ∀ n, n ≤ m → cf (bdS N5 c m n).1 c 4 = cf N5 c 4 := by
        intro n
        induction n with
        | zero => exact fun _ => rfl
        | succ n ih =>
          intro hn
          have ih := ih (by omega)
          refine bdF_c (P := fun t => cf t.1 c 4 = cf N5 c 4) ih ih (fun _ _ _ _ => ?_)
          rw [bd1_cf hc (by omega)]
          exact ih
      exact key m (Nat.le_refl m)
    refine h_actEnd hr3 hc hlc (Nat.le_trans bdS_le m40) (by rw [c4]; exact k4) (fun h0 => ?_) (fun I4 hr4 hF4 => h I4 ?_ ((hF'.trans hF3).trans hF4))
    · rw [bdS_0 (by omega)]
      exact ⟨el, es⟩
    · rw [live_o (fun a ha => mv5_o hc ha)]
      exact hr4
  by_cases c0 : loadM N4 c m = nI 0
  · have hl := h_lookAround (X := X) (d := d) (Q := fun v G I => At X (d + 2) 44 119 [some (.ref o), some (.int (nI c)), some (.ref (p + 1 + c)), some (.int (nI a)), some (.int (stopsM N4 c m)), some (.int (loadM N4 c m)), none] (v.toList ++ [.ref (p + 1 + c)]) G I Q) hr rfl hc f4 hf4 k3 hx hb hbf kw
    simp (disch := first | exact ok_i | exact ok_r | exact ok_n | exact cat_i | exact cat_r | exact ho.tag | exact ho.tg | exact ho.tj | exact ho.tp | exact ho.tC (by omega) (by omega) | exact ho.tA (by omega) (by omega) | exact ho.tJ (by omega) (by omega) | exact ro_0 | exact ro_1 | omega | assumption | exact ho.nC (by omega) | exact ho.nL (by omega) | exact ho.nD (by omega) | exact ho.nJ (by omega) (by omega) (by omega) | exact ho.nA (by omega) (by omega) (by omega) | (simp only [List.map_cons, List.map_nil, List.sum_cons, List.sum_nil, cat_i, cat_r, cat_l, Nat.reduceAdd, Nat.reduceLeDiff]; done) | decide) only [s44_108, s44_111, s44_112, s44_113, s44_114, tl_s, tl_n, nI_add, pk_mul, i_cl, row_s, u2_row, i_le, i_lt, i_eq, if_true, if_false, Nat.le_refl, Nat.reduceEqDiff, Nat.reduceLeDiff, c0]
    rw [s44_116 (by simp only [List.map_cons, List.map_nil, List.sum_cons, List.sum_nil, cat_i, cat_r, cat_l, Nat.reduceAdd, Nat.reduceLeDiff]) ho.tag, ← c0]
    rw [hl]
    simp (disch := first | exact ok_i | exact ok_r | exact ok_n | exact cat_i | exact cat_r | exact ho.tag | exact ho.tg | exact ho.tj | exact ho.tp | exact ho.tC (by omega) (by omega) | exact ho.tA (by omega) (by omega) | exact ho.tJ (by omega) (by omega) | exact ro_0 | exact ro_1 | omega | assumption | exact ho.nC (by omega) | exact ho.nL (by omega) | exact ho.nD (by omega) | exact ho.nJ (by omega) (by omega) (by omega) | exact ho.nA (by omega) (by omega) (by omega) | (simp only [List.map_cons, List.map_nil, List.sum_cons, List.sum_nil, cat_i, cat_r, cat_l, Nat.reduceAdd, Nat.reduceLeDiff]; done) | decide) only [s44_119, tl_s, tl_n, nI_add, pk_mul, i_cl, row_s, u2_row, i_le, i_lt, i_eq, if_true, if_false, Nat.le_refl, Nat.reduceEqDiff, Nat.reduceLeDiff]
    refine part2 _ ?_ (hF.trans (Fr.up (by omega)))
    rw [live_o (fun a ha => mv4_o hc ha)]
    unfold mv4
    rw [if_pos c0]
    exact hr.upc (k := 4) hc (by omega)
  · simp (disch := first | exact ok_i | exact ok_r | exact ok_n | exact cat_i | exact cat_r | exact ho.tag | exact ho.tg | exact ho.tj | exact ho.tp | exact ho.tC (by omega) (by omega) | exact ho.tA (by omega) (by omega) | exact ho.tJ (by omega) (by omega) | exact ro_0 | exact ro_1 | omega | assumption | exact ho.nC (by omega) | exact ho.nL (by omega) | exact ho.nD (by omega) | exact ho.nJ (by omega) (by omega) (by omega) | exact ho.nA (by omega) (by omega) (by omega) | (simp only [List.map_cons, List.map_nil, List.sum_cons, List.sum_nil, cat_i, cat_r, cat_l, Nat.reduceAdd, Nat.reduceLeDiff]; done) | decide) only [s44_108, tl_s, tl_n, nI_add, pk_mul, i_cl, row_s, u2_row, i_le, i_lt, i_eq, if_true, if_false, Nat.le_refl, Nat.reduceEqDiff, Nat.reduceLeDiff, c0]
    refine part2 I2 ?_ hF
    rw [live_o (fun a ha => mv4_o hc ha)]
    unfold mv4
    rw [if_neg c0]
    exact hr
theorem h_move {c f : Nat} (hr : HR o p I N m (live N m)) (hc : c < 4) (hf : N 444 = nI f) (hf4 : f ≤ 12) (hg : GrpOk N f m) (hw : Own N f m c 0)
    (h : ∀ I', HR o p I' (mvN N c m) m (live (mvN N c m) m) → Fr o p I I' → Q (some (.int (nI (mvT N c m)))) G0 I') : Call X (d + 3) 44 [.ref o, .int (nI c)] G0 I Q := by
  have ho := hr.ho
  have l12 := hr.l12
  have m40 := hr.m40
  have h1 := own_mv1 hw hc
  have g1 : GrpOk (mv1 N c) f m := grp_o hg (fun a ha => mv1_o hc ha)
  have f1 : mv1 N c 444 = nI f := by rw [mv1_o hc (by omega)]; exact hf
  have l1 : live (mv1 N c) m = live N m := live_o (fun a ha => mv1_o hc ha)
  simp (disch := first | exact ok_i | exact ok_r | exact ok_n | exact cat_i | exact cat_r | exact ho.tag | exact ho.tg | exact ho.tj | exact ho.tp | exact ho.tC (by omega) (by omega) | exact ho.tA (by omega) (by omega) | exact ho.tJ (by omega) (by omega) | exact ro_0 | exact ro_1 | omega | assumption | exact ho.nC (by omega) | exact ho.nL (by omega) | exact ho.nD (by omega) | exact ho.nJ (by omega) (by omega) (by omega) | exact ho.nA (by omega) (by omega) (by omega) | (simp only [List.map_cons, List.map_nil, List.sum_cons, List.sum_nil, cat_i, cat_r, cat_l, Nat.reduceAdd, Nat.reduceLeDiff]; done) | decide) only [e44, s44_0, s44_1, s44_4, s44_5, s44_6, s44_7, s44_8, s44_11, tl_s, tl_n, nI_add, pk_mul, i_cl, row_s, u2_row, i_le, i_lt, i_eq, if_true, if_false, Nat.le_refl, Nat.reduceEqDiff, Nat.reduceLeDiff, ho.r6, ho.r7, ho.r8, ho.r9, ho.rc, ho.g0, ho.g1, ho.g2, ho.g3, ho.g4, ho.g5, ho.g6, ho.g7, ho.g8, ho.j0, ho.j1, ho.j2, ho.j3, hr.o0, hr.o1, hr.o2, hr.o3, hr.o4, hr.o5, hr.c0, hr.c1, hr.c2, hr.c3, hr.c4, hr.c5, hr.c6, hr.c7, hr.mc, hr.lc, hr.g0, hr.g1, hr.g2, hr.g3, hr.g4, hr.g5, hr.g6, hr.g7, hr.dm]
  by_cases c5 : cf N c 5 ≤ nI 0
  · have e1 : mv1 N c = N := by unfold mv1; rw [if_pos c5]
    unfold mvN mvT at h
    rw [e1, if_pos c5, if_pos c5] at h
    simp (disch := first | exact ok_i | exact ok_r | exact ok_n | exact cat_i | exact cat_r | exact ho.tag | exact ho.tg | exact ho.tj | exact ho.tp | exact ho.tC (by omega) (by omega) | exact ho.tA (by omega) (by omega) | exact ho.tJ (by omega) (by omega) | exact ro_0 | exact ro_1 | omega | assumption | exact ho.nC (by omega) | exact ho.nL (by omega) | exact ho.nD (by omega) | exact ho.nJ (by omega) (by omega) (by omega) | exact ho.nA (by omega) (by omega) (by omega) | (simp only [List.map_cons, List.map_nil, List.sum_cons, List.sum_nil, cat_i, cat_r, cat_l, Nat.reduceAdd, Nat.reduceLeDiff]; done) | decide) only [c5, tl_s, tl_n, nI_add, pk_mul, i_cl, row_s, u2_row, i_le, i_lt, i_eq, if_true, if_false, Nat.le_refl, Nat.reduceEqDiff, Nat.reduceLeDiff]
    exact h_act hr hc hf hf4 hg hw h
  · have e1 : mv1 N c = upd N (8 * c + 5) (cf N c 5 - nI 1) := by unfold mv1; rw [if_neg c5]
    have e5 : cf (mv1 N c) c 5 = cf N c 5 - nI 1 := by rw [e1]; exact cf_s
    have hr1 : HR o p (upd2 I (p + 1 + c) 5 (cf N c 5 - nI 1)) (mv1 N c) m (live N m) := by rw [e1]; exact hr.upc (k := 5) hc (by omega)
    have hF1 : Fr o p I (upd2 I (p + 1 + c) 5 (cf N c 5 - nI 1)) := Fr.up (by omega)
    simp (disch := first | exact ok_i | exact ok_r | exact ok_n | exact cat_i | exact cat_r | exact ho.tag | exact ho.tg | exact ho.tj | exact ho.tp | exact ho.tC (by omega) (by omega) | exact ho.tA (by omega) (by omega) | exact ho.tJ (by omega) (by omega) | exact ro_0 | exact ro_1 | omega | assumption | exact ho.nC (by omega) | exact ho.nL (by omega) | exact ho.nD (by omega) | exact ho.nJ (by omega) (by omega) (by omega) | exact ho.nA (by omega) (by omega) (by omega) | (simp only [List.map_cons, List.map_nil, List.sum_cons, List.sum_nil, cat_i, cat_r, cat_l, Nat.reduceAdd, Nat.reduceLeDiff]; done) | decide) only [c5, s44_14, s44_15, s44_16, s44_19, s44_20, s44_21, s44_24, s44_25, s44_28, tl_s, tl_n, nI_add, pk_mul, i_cl, row_s, u2_row, i_le, i_lt, i_eq, if_true, if_false, Nat.le_refl, Nat.reduceEqDiff, Nat.reduceLeDiff, ho.r6, ho.r7, ho.r8, ho.r9, ho.rc, ho.g0, ho.g1, ho.g2, ho.g3, ho.g4, ho.g5, ho.g6, ho.g7, ho.g8, ho.j0, ho.j1, ho.j2, ho.j3, hr.o0, hr.o1, hr.o2, hr.o3, hr.o4, hr.o5, hr.c0, hr.c1, hr.c2, hr.c3, hr.c4, hr.c5, hr.c6, hr.c7, hr.mc, hr.lc, hr.g0, hr.g1, hr.g2, hr.g3, hr.g4, hr.g5, hr.g6, hr.g7, hr.dm, u2_s]
    unfold mvN mvT at h
    rw [e5] at h
    rw [← l1] at hr1
    by_cases c6 : cf N c 5 - nI 1 ≤ nI 0
    · rw [if_pos c6, if_pos c6] at h
      simp (disch := first | exact ok_i | exact ok_r | exact ok_n | exact cat_i | exact cat_r | exact ho.tag | exact ho.tg | exact ho.tj | exact ho.tp | exact ho.tC (by omega) (by omega) | exact ho.tA (by omega) (by omega) | exact ho.tJ (by omega) (by omega) | exact ro_0 | exact ro_1 | omega | assumption | exact ho.nC (by omega) | exact ho.nL (by omega) | exact ho.nD (by omega) | exact ho.nJ (by omega) (by omega) (by omega) | exact ho.nA (by omega) (by omega) (by omega) | (simp only [List.map_cons, List.map_nil, List.sum_cons, List.sum_nil, cat_i, cat_r, cat_l, Nat.reduceAdd, Nat.reduceLeDiff]; done) | decide) only [c6, tl_s, tl_n, nI_add, pk_mul, i_cl, row_s, u2_row, i_le, i_lt, i_eq, if_true, if_false, Nat.le_refl, Nat.reduceEqDiff, Nat.reduceLeDiff]
      exact h_act hr1 hc f1 hf4 g1 h1 (fun I' hr' hF' => h I' hr' (hF1.trans hF'))
    · rw [if_neg c6, if_neg c6] at h
      simp (disch := first | exact ok_i | exact ok_r | exact ok_n | exact cat_i | exact cat_r | exact ho.tag | exact ho.tg | exact ho.tj | exact ho.tp | exact ho.tC (by omega) (by omega) | exact ho.tA (by omega) (by omega) | exact ho.tJ (by omega) (by omega) | exact ro_0 | exact ro_1 | omega | assumption | exact ho.nC (by omega) | exact ho.nL (by omega) | exact ho.nD (by omega) | exact ho.nJ (by omega) (by omega) (by omega) | exact ho.nA (by omega) (by omega) (by omega) | (simp only [List.map_cons, List.map_nil, List.sum_cons, List.sum_nil, cat_i, cat_r, cat_l, Nat.reduceAdd, Nat.reduceLeDiff]; done) | decide) only [c6, s44_31, s44_32, tl_s, tl_n, nI_add, pk_mul, i_cl, row_s, u2_row, i_le, i_lt, i_eq, if_true, if_false, Nat.le_refl, Nat.reduceEqDiff, Nat.reduceLeDiff]
      exact h _ hr1 hF1
end
