/-! the class: those that board -/
def SameD (N N' : Nat → Int32) (m : Nat) : Prop := ∀ g, g < m → (gf N g 4 = nI 2 ↔ gf N' g 4 = nI 2)
theorem live_eq {N N' : Nat → Int32} {m : Nat} (h : SameD N N' m) : live N' m = live N m := by
  unfold live
  refine List.filter_congr (fun g hg => ?_)
  rw [List.mem_range] at hg
  have := h g hg
  by_cases c : gf N g 4 = nI 2
  · rw [decide_eq_true c, decide_eq_true (this.mp c)]
  · rw [decide_eq_false c, decide_eq_false (fun e => c (this.mpr e))]
theorem hap_upd {N : Nat → Int32} {w v : Int32} {g : Nat} (hg : g < 40) : hapM (upd N 450 v) w g = upd (hapM N w g) 450 v := by
  funext a
  by_cases e : a = 450
  · subst e
    rw [up_s, hap_o (by omega), up_s]
  · rw [up_n e]
    unfold hapM
    have e1 : gf (upd N 450 v) g 3 = gf N g 3 := gf_u (by omega)
    have e2 : (upd N 450 v) 447 = N 447 := up_n (by omega)
    have e3 : (upd N 450 v) 451 = N 451 := up_n (by omega)
    have e4 : shE (upd N 450 v) 0 0 a = shE N 0 0 a := by
      unfold shE
      split
      · rw [up_n (by omega)]
      · rw [up_n e]
    rw [e1, e2, e3]
    unfold upd at e4 ⊢
    rw [e4]
theorem load_ext {A B : Nat → Int32} {c : Nat} : ∀ {n : Nat}, (∀ k, k < n → gf A k 2 = gf B k 2 ∧ gf A k 3 = gf B k 3 ∧ gf A k 4 = gf B k 4) → loadM A c n = loadM B c n
  | 0, _ => rfl
  | n + 1, h => by
    obtain ⟨h1, h2, h3⟩ := h n (by omega)
    show loadM A c n + _ = loadM B c n + _
    rw [load_ext (n := n) (fun k hk => h k (by omega)), h1, h2, h3]
/-- one more rides -/
theorem load_add {A B : Nat → Int32} {c g : Nat} (h3 : gf A g 3 = nI c) (h4 : gf A g 4 = nI 0) (h5 : gf B g 4 = nI 1) : ∀ {n : Nat}, (∀ k, k < n → gf B k 2 = gf A k 2 ∧ gf B k 3 = gf A k 3 ∧ (k ≠ g → gf B k 4 = gf A k 4)) → loadM B c n = loadM A c n + (if g < n then gf A g 2 else nI 0)
  | 0, _ => by rw [if_neg (by omega), add_n0]; rfl
  | n + 1, h => by
    obtain ⟨k1, k2, k3⟩ := h n (by omega)
    have ih := load_add h3 h4 h5 (n := n) (fun k hk => h k (by omega))
    show loadM B c n + (if gf B n 3 = nI c ∧ gf B n 4 = nI 1 then gf B n 2 else nI 0) = loadM A c n + (if gf A n 3 = nI c ∧ gf A n 4 = nI 1 then gf A n 2 else nI 0) + _
    rw [ih]
    by_cases e : n = g
    · subst e
      have n1 : ¬ (gf A n 3 = nI c ∧ gf A n 4 = nI 1) := fun e => by rw [h4] at e; exact absurd e.2 (by decide)
      rw [if_neg (Nat.lt_irrefl n), if_pos (Nat.lt_succ_self n), if_neg n1, if_pos ⟨by rw [k2]; exact h3, h5⟩, k1, add_n0]
    · rw [k1, k2, k3 e]
      by_cases e2 : g < n
      · rw [if_pos e2, if_pos (show g < n + 1 by omega), Int32.add_assoc, Int32.add_assoc]
        congr 1
        exact Int32.add_comm _ _
      · rw [if_neg e2, if_neg (show ¬ g < n + 1 by omega), add_n0, add_n0]
/-- boarding of one group -/
def bd1 (N : Nat → Int32) (g : Nat) (b : Bool) : Nat → Int32 :=
  let N1 := upd N (32 + 8 * g + 4) (nI 1)
  let N2 := hapM (upd N1 (32 + 8 * g + 6) (N1 447 - gf N1 g 5)) (nI 1) g
  upd N2 450 (N2 450 + b2i b)
theorem bd1_gf {N : Nat → Int32} {g k j : Nat} {b : Bool} (hg : g < 40) (hk : k < 40) (hj : j < 8) (h : k ≠ g ∨ (j ≠ 4 ∧ j ≠ 6)) : gf (bd1 N g b) k j = gf N k j := by
  unfold bd1
  dsimp only
  rw [gf_u (by omega), gf_hap (by omega), gf_u (by omega), gf_u (by omega)]
theorem bd1_4 {N : Nat → Int32} {g : Nat} {b : Bool} (hg : g < 40) : gf (bd1 N g b) g 4 = nI 1 := by
  unfold bd1
  dsimp only
  rw [gf_u (by omega), gf_hap (by omega), gf_u (by omega)]
  exact up_s
theorem bdF_n {c m g : Nat} {s : (Nat → Int32) × Nat × Bool} (h : ¬ (hereB s.1 g c && decide (wayM s.1 g = cf s.1 c 4)) = true) : bdF c m g s = s := by
  unfold bdF
  rw [if_neg h]
theorem bdF_s {c m g : Nat} {s : (Nat → Int32) × Nat × Bool} (h : (hereB s.1 g c && decide (wayM s.1 g = cf s.1 c 4)) = true) (h2 : cf s.1 c 2 < loadM s.1 c m + gf s.1 g 2) : bdF c m g s = (s.1, s.2.1, true) := by
  unfold bdF
  rw [if_pos h, if_pos h2]
theorem bdF_b {c m g : Nat} {s : (Nat → Int32) × Nat × Bool} (h : (hereB s.1 g c && decide (wayM s.1 g = cf s.1 c 4)) = true) (h2 : ¬ cf s.1 c 2 < loadM s.1 c m + gf s.1 g 2) : bdF c m g s = (bd1 s.1 g s.2.2, s.2.1 + 1, s.2.2) := by
  unfold bdF
  rw [if_pos h, if_neg h2]
  rfl
theorem here_t {N : Nat → Int32} {g c : Nat} (h : hereB N g c = true) : gf N g 3 = nI c ∧ gf N g 4 = nI 0 ∧ gf N g 0 = cf N c 3 := by
  unfold hereB at h
  rw [Bool.and_eq_true, Bool.and_eq_true, decide_eq_true_eq, decide_eq_true_eq, decide_eq_true_eq] at h
  exact ⟨h.1.1, h.1.2, h.2⟩
theorem bdF_c {c m g : Nat} {s : (Nat → Int32) × Nat × Bool} {P : (Nat → Int32) × Nat × Bool → Prop} (h1 : P s) (h2 : P (s.1, s.2.1, true)) (h3 : gf s.1 g 3 = nI c → gf s.1 g 4 = nI 0 → gf s.1 g 0 = cf s.1 c 3 → wayM s.1 g = cf s.1 c 4 → P (bd1 s.1 g s.2.2, s.2.1 + 1, s.2.2)) : P (bdF c m g s) := by
  by_cases e : (hereB s.1 g c && decide (wayM s.1 g = cf s.1 c 4)) = true
  · by_cases e2 : cf s.1 c 2 < loadM s.1 c m + gf s.1 g 2
    · rw [bdF_s e e2]; exact h2
    · rw [bdF_b e e2]
      rw [Bool.and_eq_true, decide_eq_true_eq] at e
      obtain ⟨e3, e4, e5⟩ := here_t e.1
      exact h3 e3 e4 e5 e.2
  · rw [bdF_n e]; exact h1
theorem bdF_same {N : Nat → Int32} {c m g : Nat} {s : (Nat → Int32) × Nat × Bool} (hm : m ≤ 40) (hg : g < m) (h : SameD N s.1 m) : SameD N (bdF c m g s).1 m := by
  refine bdF_c (P := fun s => SameD N s.1 m) h h (fun e3 e4 _ _ => ?_)
  intro k hk
  dsimp only
  rw [h k hk]
  by_cases ek : k = g
  · subst ek
    rw [bd1_4 (by omega), e4]
    exact ⟨fun e => absurd e (by decide), fun e => absurd e (by decide)⟩
  · rw [bd1_gf (by omega) (by omega) (by omega) (Or.inl ek)]
theorem bdF_skip {N : Nat → Int32} {c m g : Nat} {s : (Nat → Int32) × Nat × Bool} (hg : g < m) (h2 : gf N g 4 = nI 2) (h : SameD N s.1 m) : bdF c m g s = s := by
  refine bdF_n (fun e => ?_)
  rw [Bool.and_eq_true] at e
  have e1 := (here_t e.1).2.1
  rw [(h g hg).mp h2] at e1
  exact absurd e1 (by decide)
theorem bdS_live {N : Nat → Int32} {c m : Nat} (hm : m ≤ 40) : itr (fun i s => bdF c m ((live N m).getD i 0) s) (N, 0, false) (live N m).length = bdS N c m m ∧ SameD N (bdS N c m m).1 m := by
  refine ⟨lv_itr (f := bdF c m) (fun s => SameD N s.1 m) (fun g _ => Iff.rfl) (fun g s hg hp => bdF_same hm hg hp) (fun g s hg h2 hp => bdF_skip hg h2 hp), ?_⟩
  exact (live_fold (f := bdF c m) (N := N) (a := (N, 0, false)) (fun s => SameD N s.1 m) (fun g _ => Iff.rfl) (m := m) (fun g s hg hp => bdF_same hm hg hp) (fun g s hg h2 hp => bdF_skip hg h2 hp)).2
section
variable {X : pX} {d : Nat} {I : pI} {Q : Option Value → pG → pI → Prop} {o p : Nat} {N : Nat → Int32} {m : Nat} {L : List Nat}
theorem h_letIn {c : Nat} {w : Int32} (hr : HR o p I N m (live N m)) (hc : c < 4) (hw : loadM N c m = w) (h : ∀ I', HR o p I' (bdS N c m m).1 m (live (bdS N c m m).1 m) → Fr o p I I' → Q (some (.int (nI (bdS N c m m).2.1))) G0 I') : Call X (d + 2) 49 [.ref o, .int (nI c), .int w] G0 I Q := by
  have m40 := hr.m40
  obtain ⟨hlive, hsame⟩ := bdS_live (N := N) (c := c) m40
  have hl12 := hr.l12
  have hleq := live_eq hsame
  generalize hL : live N m = L at hr hlive hl12 hleq
  have ho := hr.ho
  have np := ho.np
  have hb : ∀ i, (itr (fun i s => bdF c m (L.getD i 0) s) (N, 0, false) i).2.1 ≤ i := by
    intro i
    induction i with
    | zero => exact Nat.le_refl _
    | succ i ih =>
      rw [itr_s]
      exact Nat.le_trans bdF_le (Nat.succ_le_succ ih)
  simp (disch := first | exact ok_i | exact ok_r | exact ok_n | exact cat_i | exact cat_r | exact ho.tag | exact ho.tg | exact ho.tj | exact ho.tp | exact ho.tC (by omega) (by omega) | exact ho.tA (by omega) (by omega) | exact ho.tJ (by omega) (by omega) | exact ro_0 | exact ro_1 | omega | assumption | exact ho.nC (by omega) | exact ho.nL (by omega) | exact ho.nD (by omega) | exact ho.nJ (by omega) (by omega) (by omega) | exact ho.nA (by omega) (by omega) (by omega) | (simp only [List.map_cons, List.map_nil, List.sum_cons, List.sum_nil, cat_i, cat_r, cat_l, Nat.reduceAdd, Nat.reduceLeDiff]; done) | decide) only [e49, s49_0, s49_1, s49_4, s49_5, s49_6, s49_7, s49_8, s49_10, s49_11, s49_13, s49_14, s49_16, s49_17, tl_s, tl_n, nI_add, pk_mul, i_cl, row_s, u2_row, i_le, i_lt, i_eq, if_true, if_false, Nat.le_refl, Nat.reduceEqDiff, Nat.reduceLeDiff, ho.r6, ho.r7, ho.r8, ho.r9, ho.rc, ho.g0, ho.g1, ho.g2, ho.g3, ho.g4, ho.g5, ho.g6, ho.g7, ho.g8, ho.j0, ho.j1, ho.j2, ho.j3]
  have start : At X (d + 1) 49 19 [some (.ref o), some (.int (nI c)), some (.int w), some (.ref (p + 1 + c)), some (.int (loadM N c m)), some (.int (nI 0)), some (.int (nI 0)), some (.int (nI 0)), none] [] G0 I Q := by
    refine loop_h (σ := pI × Option Value) (n := L.length)
      (A := fun i s => At X (d + 1) 49 19 [some (.ref o), some (.int (nI c)), some (.int w), some (.ref (p + 1 + c)), some (.int (loadM (itr (fun i s => bdF c m (L.getD i 0) s) (N, 0, false) i).1 c m)), some (.int (nI (itr (fun i s => bdF c m (L.getD i 0) s) (N, 0, false) i).2.1)), some (.int (b2i (itr (fun i s => bdF c m (L.getD i 0) s) (N, 0, false) i).2.2)), some (.int (nI i)), s.2] [] G0 s.1 Q)
      (ok := fun i s => HR o p s.1 (itr (fun i s => bdF c m (L.getD i 0) s) (N, 0, false) i).1 m L ∧ Fr o p I s.1 ∧ okL s.2 = true)
      (fun s hs => ?_) (fun i s hi hs ih => ?_) 0 (I, none) (Nat.zero_le _) ⟨hr, Fr.refl, rfl⟩
    · obtain ⟨I', l8⟩ := s
      obtain ⟨hr', hF, hl8⟩ := hs
      dsimp only at hr' hF hl8 ⊢
      rw [hlive] at hr' ⊢
      clear hr
      have hr := hr'
      simp (disch := first | exact ok_i | exact ok_r | exact ok_n | exact cat_i | exact cat_r | exact ho.tag | exact ho.tg | exact ho.tj | exact ho.tp | exact ho.tC (by omega) (by omega) | exact ho.tA (by omega) (by omega) | exact ho.tJ (by omega) (by omega) | exact ro_0 | exact ro_1 | omega | assumption | exact ho.nC (by omega) | exact ho.nL (by omega) | exact ho.nD (by omega) | exact ho.nJ (by omega) (by omega) (by omega) | exact ho.nA (by omega) (by omega) (by omega) | (simp only [List.map_cons, List.map_nil, List.sum_cons, List.sum_nil, cat_i, cat_r, cat_l, Nat.reduceAdd, Nat.reduceLeDiff]; done) | decide) only [s49_19, s49_21, s49_22, s49_25, s49_28, s49_199, s49_201, tl_s, tl_n, nI_add, pk_mul, i_cl, row_s, u2_row, i_le, i_lt, i_eq, if_true, if_false, Nat.le_refl, Nat.reduceEqDiff, Nat.reduceLeDiff, ho.r6, ho.r7, ho.r8, ho.r9, ho.rc, ho.g0, ho.g1, ho.g2, ho.g3, ho.g4, ho.g5, ho.g6, ho.g7, ho.g8, ho.j0, ho.j1, ho.j2, ho.j3, hr.o0, hr.o1, hr.o2, hr.o3, hr.o4, hr.o5, hr.c0, hr.c1, hr.c2, hr.c3, hr.c4, hr.c5, hr.c6, hr.c7, hr.mc, hr.lc, hr.g0, hr.g1, hr.g2, hr.g3, hr.g4, hr.g5, hr.g6, hr.g7, hr.dm]
      refine h I' ?_ hF
      rw [hleq]
      exact hr
    · obtain ⟨I', l8⟩ := s
      obtain ⟨hr', hF, hl8⟩ := hs
      dsimp only at hr' hF hl8 ih ⊢
      clear hr
      have hr := hr'
      have n1 : ¬ L.length ≤ i := by omega
      have hbi := hb i
      have hg := hr.lm i hi
      have hv := hr.lv i hi
      simp only [itr_s] at ih
      generalize itr (fun i s => bdF c m (L.getD i 0) s) (N, 0, false) i = s at hr hr' ih hbi ⊢
      obtain ⟨N1, n, b⟩ := s
      generalize L.getD i 0 = g at hg hv ih
      dsimp only at hr hr' hbi ⊢
      have ea : atB N1 g (nI c) (cf N1 c 3) = hereB N1 g c := rfl
      rw [s49_19]
      simp (disch := first | exact ok_i | exact ok_r | exact ok_n | exact cat_i | exact cat_r | exact ho.tag | exact ho.tg | exact ho.tj | exact ho.tp | exact ho.tC (by omega) (by omega) | exact ho.tA (by omega) (by omega) | exact ho.tJ (by omega) (by omega) | exact ro_0 | exact ro_1 | omega | assumption | exact ho.nC (by omega) | exact ho.nL (by omega) | exact ho.nD (by omega) | exact ho.nJ (by omega) (by omega) (by omega) | exact ho.nA (by omega) (by omega) (by omega) | (simp only [List.map_cons, List.map_nil, List.sum_cons, List.sum_nil, cat_i, cat_r, cat_l, Nat.reduceAdd, Nat.reduceLeDiff]; done) | decide) only [s49_21, s49_22, s49_25, s49_28, s49_31, s49_32, s49_35, s49_38, s49_40, s49_41, s49_43, s49_44, s49_47, s49_49, s49_50, s49_51, s49_54, s49_57, tl_s, tl_n, nI_add, pk_mul, i_cl, row_s, u2_row, i_le, i_lt, i_eq, if_true, if_false, Nat.le_refl, Nat.reduceEqDiff, Nat.reduceLeDiff, ho.r6, ho.r7, ho.r8, ho.r9, ho.rc, ho.g0, ho.g1, ho.g2, ho.g3, ho.g4, ho.g5, ho.g6, ho.g7, ho.g8, ho.j0, ho.j1, ho.j2, ho.j3, hr.o0, hr.o1, hr.o2, hr.o3, hr.o4, hr.o5, hr.c0, hr.c1, hr.c2, hr.c3, hr.c4, hr.c5, hr.c6, hr.c7, hr.mc, hr.lc, hr.g0, hr.g1, hr.g2, hr.g3, hr.g4, hr.g5, hr.g6, hr.g7, hr.dm, n1, hv, h_waitsAt hr hg, ea, b2i_0]
      cases h1 : hereB N1 g c
      · rw [bdF_n (by dsimp only; rw [h1, Bool.false_and]; decide)] at ih
        simp (disch := first | exact ok_i | exact ok_r | exact ok_n | exact cat_i | exact cat_r | exact ho.tag | exact ho.tg | exact ho.tj | exact ho.tp | exact ho.tC (by omega) (by omega) | exact ho.tA (by omega) (by omega) | exact ho.tJ (by omega) (by omega) | exact ro_0 | exact ro_1 | omega | assumption | exact ho.nC (by omega) | exact ho.nL (by omega) | exact ho.nD (by omega) | exact ho.nJ (by omega) (by omega) (by omega) | exact ho.nA (by omega) (by omega) (by omega) | (simp only [List.map_cons, List.map_nil, List.sum_cons, List.sum_nil, cat_i, cat_r, cat_l, Nat.reduceAdd, Nat.reduceLeDiff]; done) | decide) only [s49_193, s49_196, tl_s, tl_n, nI_add, pk_mul, i_cl, row_s, u2_row, i_le, i_lt, i_eq, if_true, if_false, Nat.le_refl, Nat.reduceEqDiff, Nat.reduceLeDiff]
        exact ih (I', some (.int (nI g))) ⟨hr, hF, rfl⟩
      · simp (disch := first | exact ok_i | exact ok_r | exact ok_n | exact cat_i | exact cat_r | exact ho.tag | exact ho.tg | exact ho.tj | exact ho.tp | exact ho.tC (by omega) (by omega) | exact ho.tA (by omega) (by omega) | exact ho.tJ (by omega) (by omega) | exact ro_0 | exact ro_1 | omega | assumption | exact ho.nC (by omega) | exact ho.nL (by omega) | exact ho.nD (by omega) | exact ho.nJ (by omega) (by omega) (by omega) | exact ho.nA (by omega) (by omega) (by omega) | (simp only [List.map_cons, List.map_nil, List.sum_cons, List.sum_nil, cat_i, cat_r, cat_l, Nat.reduceAdd, Nat.reduceLeDiff]; done) | decide) only [s49_60, s49_61, s49_64, s49_66, s49_69, s49_70, s49_73, tl_s, tl_n, nI_add, pk_mul, i_cl, row_s, u2_row, i_le, i_lt, i_eq, if_true, if_false, Nat.le_refl, Nat.reduceEqDiff, Nat.reduceLeDiff, ho.r6, ho.r7, ho.r8, ho.r9, ho.rc, ho.g0, ho.g1, ho.g2, ho.g3, ho.g4, ho.g5, ho.g6, ho.g7, ho.g8, ho.j0, ho.j1, ho.j2, ho.j3, hr.o0, hr.o1, hr.o2, hr.o3, hr.o4, hr.o5, hr.c0, hr.c1, hr.c2, hr.c3, hr.c4, hr.c5, hr.c6, hr.c7, hr.mc, hr.lc, hr.g0, hr.g1, hr.g2, hr.g3, hr.g4, hr.g5, hr.g6, hr.g7, hr.dm, h_directionOf hr hg, Bool.true_eq_false]
        by_cases h2 : wayM N1 g = cf N1 c 4
        · have e1 : (hereB N1 g c && decide (wayM N1 g = cf N1 c 4)) = true := by rw [h1, decide_eq_true h2]; rfl
          simp (disch := first | exact ok_i | exact ok_r | exact ok_n | exact cat_i | exact cat_r | exact ho.tag | exact ho.tg | exact ho.tj | exact ho.tp | exact ho.tC (by omega) (by omega) | exact ho.tA (by omega) (by omega) | exact ho.tJ (by omega) (by omega) | exact ro_0 | exact ro_1 | omega | assumption | exact ho.nC (by omega) | exact ho.nL (by omega) | exact ho.nD (by omega) | exact ho.nJ (by omega) (by omega) (by omega) | exact ho.nA (by omega) (by omega) (by omega) | (simp only [List.map_cons, List.map_nil, List.sum_cons, List.sum_nil, cat_i, cat_r, cat_l, Nat.reduceAdd, Nat.reduceLeDiff]; done) | decide) only [h2, s49_79, s49_81, s49_82, s49_85, s49_88, s49_90, s49_91, s49_92, s49_93, s49_96, tl_s, tl_n, nI_add, pk_mul, i_cl, row_s, u2_row, i_le, i_lt, i_eq, if_true, if_false, Nat.le_refl, Nat.reduceEqDiff, Nat.reduceLeDiff, ho.r6, ho.r7, ho.r8, ho.r9, ho.rc, ho.g0, ho.g1, ho.g2, ho.g3, ho.g4, ho.g5, ho.g6, ho.g7, ho.g8, ho.j0, ho.j1, ho.j2, ho.j3, hr.o0, hr.o1, hr.o2, hr.o3, hr.o4, hr.o5, hr.c0, hr.c1, hr.c2, hr.c3, hr.c4, hr.c5, hr.c6, hr.c7, hr.mc, hr.lc, hr.g0, hr.g1, hr.g2, hr.g3, hr.g4, hr.g5, hr.g6, hr.g7, hr.dm]
          by_cases h3 : cf N1 c 2 < loadM N1 c m + gf N1 g 2
          · have h3' : ¬ loadM N1 c m + gf N1 g 2 ≤ cf N1 c 2 := Int32.not_le.mpr h3
            rw [bdF_s (by exact e1) (by exact h3)] at ih
            simp (disch := first | exact ok_i | exact ok_r | exact ok_n | exact cat_i | exact cat_r | exact ho.tag | exact ho.tg | exact ho.tj | exact ho.tp | exact ho.tC (by omega) (by omega) | exact ho.tA (by omega) (by omega) | exact ho.tJ (by omega) (by omega) | exact ro_0 | exact ro_1 | omega | assumption | exact ho.nC (by omega) | exact ho.nL (by omega) | exact ho.nD (by omega) | exact ho.nJ (by omega) (by omega) (by omega) | exact ho.nA (by omega) (by omega) (by omega) | (simp only [List.map_cons, List.map_nil, List.sum_cons, List.sum_nil, cat_i, cat_r, cat_l, Nat.reduceAdd, Nat.reduceLeDiff]; done) | decide) only [h3', s49_99, s49_100, s49_102, s49_193, s49_196, tl_s, tl_n, nI_add, pk_mul, i_cl, row_s, u2_row, i_le, i_lt, i_eq, if_true, if_false, Nat.le_refl, Nat.reduceEqDiff, Nat.reduceLeDiff]
            exact ih (I', some (.int (nI g))) ⟨hr, hF, rfl⟩
          · have h3' : loadM N1 c m + gf N1 g 2 ≤ cf N1 c 2 := Int32.not_lt.mp h3
            rw [bdF_b (by exact e1) (by exact h3)] at ih
            obtain ⟨e3, e4, e5⟩ := here_t h1
            simp (disch := first | exact ok_i | exact ok_r | exact ok_n | exact cat_i | exact cat_r | exact ho.tag | exact ho.tg | exact ho.tj | exact ho.tp | exact ho.tC (by omega) (by omega) | exact ho.tA (by omega) (by omega) | exact ho.tJ (by omega) (by omega) | exact ro_0 | exact ro_1 | omega | assumption | exact ho.nC (by omega) | exact ho.nL (by omega) | exact ho.nD (by omega) | exact ho.nJ (by omega) (by omega) (by omega) | exact ho.nA (by omega) (by omega) (by omega) | (simp only [List.map_cons, List.map_nil, List.sum_cons, List.sum_nil, cat_i, cat_r, cat_l, Nat.reduceAdd, Nat.reduceLeDiff]; done) | decide) only [h3', s49_105, s49_107, s49_108, s49_111, s49_114, s49_116, s49_117, s49_118, s49_120, s49_121, s49_124, s49_127, s49_129, s49_130, tl_s, tl_n, nI_add, pk_mul, i_cl, row_s, u2_row, i_le, i_lt, i_eq, if_true, if_false, Nat.le_refl, Nat.reduceEqDiff, Nat.reduceLeDiff, ho.r6, ho.r7, ho.r8, ho.r9, ho.rc, ho.g0, ho.g1, ho.g2, ho.g3, ho.g4, ho.g5, ho.g6, ho.g7, ho.g8, ho.j0, ho.j1, ho.j2, ho.j3, hr.o0, hr.o1, hr.o2, hr.o3, hr.o4, hr.o5, hr.c0, hr.c1, hr.c2, hr.c3, hr.c4, hr.c5, hr.c6, hr.c7, hr.mc, hr.lc, hr.g0, hr.g1, hr.g2, hr.g3, hr.g4, hr.g5, hr.g6, hr.g7, hr.dm]
            have hr2 : HR o p (upd2 I' (p + 10) g (nI 1)) (upd N1 (32 + 8 * g + 4) (nI 1)) m L := hr.upg (k := 4) hg (by omega)
            have r1 : (upd2 I' (p + 10) g (nI 1)) o 2 = (upd N1 (32 + 8 * g + 4) (nI 1)) 447 := hr2.o2
            have r2 : (upd2 I' (p + 10) g (nI 1)) (p + 11) g = gf (upd N1 (32 + 8 * g + 4) (nI 1)) g 5 := hr2.g5 g hg
            simp (disch := first | exact ok_i | exact ok_r | exact ok_n | exact cat_i | exact cat_r | exact ho.tag | exact ho.tg | exact ho.tj | exact ho.tp | exact ho.tC (by omega) (by omega) | exact ho.tA (by omega) (by omega) | exact ho.tJ (by omega) (by omega) | exact ro_0 | exact ro_1 | omega | assumption | exact ho.nC (by omega) | exact ho.nL (by omega) | exact ho.nD (by omega) | exact ho.nJ (by omega) (by omega) (by omega) | exact ho.nA (by omega) (by omega) (by omega) | (simp only [List.map_cons, List.map_nil, List.sum_cons, List.sum_nil, cat_i, cat_r, cat_l, Nat.reduceAdd, Nat.reduceLeDiff]; done) | decide) only [s49_131, s49_132, s49_135, s49_138, s49_140, s49_141, s49_144, s49_145, s49_148, s49_151, s49_153, s49_154, s49_155, tl_s, tl_n, nI_add, pk_mul, i_cl, row_s, u2_row, i_le, i_lt, i_eq, if_true, if_false, Nat.le_refl, Nat.reduceEqDiff, Nat.reduceLeDiff, ho.r6, ho.r7, ho.r8, ho.r9, ho.rc, ho.g0, ho.g1, ho.g2, ho.g3, ho.g4, ho.g5, ho.g6, ho.g7, ho.g8, ho.j0, ho.j1, ho.j2, ho.j3, r1, r2]
            have hr3 : HR o p (upd2 (upd2 I' (p + 10) g (nI 1)) (p + 12) g ((upd N1 (32 + 8 * g + 4) (nI 1)) 447 - gf (upd N1 (32 + 8 * g + 4) (nI 1)) g 5)) (upd (upd N1 (32 + 8 * g + 4) (nI 1)) (32 + 8 * g + 6) ((upd N1 (32 + 8 * g + 4) (nI 1)) 447 - gf (upd N1 (32 + 8 * g + 4) (nI 1)) g 5)) m L := hr2.upg (k := 6) hg (by omega)
            have hF3 : Fr o p I (upd2 (upd2 I' (p + 10) g (nI 1)) (p + 12) g ((upd N1 (32 + 8 * g + 4) (nI 1)) 447 - gf (upd N1 (32 + 8 * g + 4) (nI 1)) g 5)) := (hF.trans (Fr.up (by omega))).trans (Fr.up (by omega))
            have eb : bd1 N1 g b = hapM (upd (upd (upd N1 (32 + 8 * g + 4) (nI 1)) (32 + 8 * g + 6) ((upd N1 (32 + 8 * g + 4) (nI 1)) 447 - gf (upd N1 (32 + 8 * g + 4) (nI 1)) g 5)) 450 ((upd (upd N1 (32 + 8 * g + 4) (nI 1)) (32 + 8 * g + 6) ((upd N1 (32 + 8 * g + 4) (nI 1)) 447 - gf (upd N1 (32 + 8 * g + 4) (nI 1)) g 5)) 450 + b2i b)) (nI 1) g := by
              rw [hap_upd (by omega)]
              unfold bd1
              dsimp only
              rw [hap_o (a := 450) (by omega)]
            have e6 : gf (upd (upd N1 (32 + 8 * g + 4) (nI 1)) (32 + 8 * g + 6) ((upd N1 (32 + 8 * g + 4) (nI 1)) 447 - gf (upd N1 (32 + 8 * g + 4) (nI 1)) g 5)) g 3 = nI c := by rw [gf_u (by omega), gf_u (by omega)]; exact e3
            have e7 : loadM (bd1 N1 g b) c m = loadM N1 c m + gf N1 g 2 := by
              rw [load_add (A := N1) e3 e4 (bd1_4 (by omega)) (fun k hk => ⟨bd1_gf (by omega) (by omega) (by omega) (Or.inr (by omega)), bd1_gf (by omega) (by omega) (by omega) (Or.inr (by omega)), fun ek => bd1_gf (by omega) (by omega) (by omega) (Or.inl ek)⟩), if_pos hg]
            dsimp only at ih
            rw [e7, eb] at ih
            generalize upd2 (upd2 I' (p + 10) g (nI 1)) (p + 12) g ((upd N1 (32 + 8 * g + 4) (nI 1)) 447 - gf (upd N1 (32 + 8 * g + 4) (nI 1)) g 5) = I3 at hr3 hF3 ⊢
            generalize upd (upd N1 (32 + 8 * g + 4) (nI 1)) (32 + 8 * g + 6) ((upd N1 (32 + 8 * g + 4) (nI 1)) 447 - gf (upd N1 (32 + 8 * g + 4) (nI 1)) g 5) = N3 at hr3 e6 ih
            have hr4 : HR o p (upd2 I3 o 3 (N3 450 + b2i b)) (upd N3 450 (N3 450 + b2i b)) m L := hr3.upo (k := 3) (by omega)
            have e8 : At X (d + 1) 49 156 [some (.ref o), some (.int (nI c)), some (.int w), some (.ref (p + 1 + c)), some (.int (loadM N1 c m + gf N1 g 2)), some (.int (nI n)), some (.int (b2i b)), some (.int (nI i)), some (.int (nI g))] [] G0 I3 Q ↔ At X (d + 1) 49 175 [some (.ref o), some (.int (nI c)), some (.int w), some (.ref (p + 1 + c)), some (.int (loadM N1 c m + gf N1 g 2)), some (.int (nI n)), some (.int (b2i b)), some (.int (nI i)), some (.int (nI g))] [] G0 (upd2 I3 o 3 (N3 450 + b2i b)) Q := by
              cases b <;> simp (disch := first | exact ok_i | exact ok_r | exact ok_n | exact cat_i | exact cat_r | exact ho.tag | exact ho.tg | exact ho.tj | exact ho.tp | exact ho.tC (by omega) (by omega) | exact ho.tA (by omega) (by omega) | exact ho.tJ (by omega) (by omega) | exact ro_0 | exact ro_1 | omega | assumption | exact ho.nC (by omega) | exact ho.nL (by omega) | exact ho.nD (by omega) | exact ho.nJ (by omega) (by omega) (by omega) | exact ho.nA (by omega) (by omega) (by omega) | (simp only [List.map_cons, List.map_nil, List.sum_cons, List.sum_nil, cat_i, cat_r, cat_l, Nat.reduceAdd, Nat.reduceLeDiff]; done) | decide) only [s49_156, s49_157, s49_158, s49_161, s49_163, s49_166, s49_167, s49_170, s49_171, s49_172, tl_s, tl_n, nI_add, pk_mul, i_cl, row_s, u2_row, i_le, i_lt, i_eq, if_true, if_false, Nat.le_refl, Nat.reduceEqDiff, Nat.reduceLeDiff, ho.r6, ho.r7, ho.r8, ho.r9, ho.rc, ho.g0, ho.g1, ho.g2, ho.g3, ho.g4, ho.g5, ho.g6, ho.g7, ho.g8, ho.j0, ho.j1, ho.j2, ho.j3, hr3.o3, b2i, n10F, Bool.false_eq_true]
            rw [e8]
            have e9 : gf (upd N3 450 (N3 450 + b2i b)) g 3 = nI c := by rw [gf_u (by omega)]; exact e6
            have hF4 := hF3.trans (Fr.up (o := o) (p := p) (r := o) (k := 3) (v := N3 450 + b2i b) (I := I3) (Or.inl rfl))
            generalize upd2 I3 o 3 (N3 450 + b2i b) = I4 at hr4 hF4 ⊢
            generalize upd N3 450 (N3 450 + b2i b) = N4 at hr4 e9 ih
            simp (disch := first | exact ok_i | exact ok_r | exact ok_n | exact cat_i | exact cat_r | exact ho.tag | exact ho.tg | exact ho.tj | exact ho.tp | exact ho.tC (by omega) (by omega) | exact ho.tA (by omega) (by omega) | exact ho.tJ (by omega) (by omega) | exact ro_0 | exact ro_1 | omega | assumption | exact ho.nC (by omega) | exact ho.nL (by omega) | exact ho.nD (by omega) | exact ho.nJ (by omega) (by omega) (by omega) | exact ho.nA (by omega) (by omega) (by omega) | (simp only [List.map_cons, List.map_nil, List.sum_cons, List.sum_nil, cat_i, cat_r, cat_l, Nat.reduceAdd, Nat.reduceLeDiff]; done) | decide) only [s49_175, s49_176, s49_179, s49_180, s49_182, s49_183, s49_184, tl_s, tl_n, nI_add, pk_mul, i_cl, row_s, u2_row, i_le, i_lt, i_eq, if_true, if_false, Nat.le_refl, Nat.reduceEqDiff, Nat.reduceLeDiff, ho.r6, ho.r7, ho.r8, ho.r9, ho.rc, ho.g0, ho.g1, ho.g2, ho.g3, ho.g4, ho.g5, ho.g6, ho.g7, ho.g8, ho.j0, ho.j1, ho.j2, ho.j3, hr4.o2]
            rw [s49_187 (by simp only [List.map_cons, List.map_nil, List.sum_cons, List.sum_nil, cat_i, cat_r, cat_l, Nat.reduceAdd, Nat.reduceLeDiff]) ho.tj]
            refine h_note hr4 e9 rfl (fun I5 hr5 hF5 => ?_)
            simp (disch := first | exact ok_i | exact ok_r | exact ok_n | exact cat_i | exact cat_r | exact ho.tag | exact ho.tg | exact ho.tj | exact ho.tp | exact ho.tC (by omega) (by omega) | exact ho.tA (by omega) (by omega) | exact ho.tJ (by omega) (by omega) | exact ro_0 | exact ro_1 | omega | assumption | exact ho.nC (by omega) | exact ho.nL (by omega) | exact ho.nD (by omega) | exact ho.nJ (by omega) (by omega) (by omega) | exact ho.nA (by omega) (by omega) (by omega) | (simp only [List.map_cons, List.map_nil, List.sum_cons, List.sum_nil, cat_i, cat_r, cat_l, Nat.reduceAdd, Nat.reduceLeDiff]; done) | decide) only [s49_190, s49_193, s49_196, tl_s, tl_n, nI_add, pk_mul, i_cl, row_s, u2_row, i_le, i_lt, i_eq, if_true, if_false, Nat.le_refl, Nat.reduceEqDiff, Nat.reduceLeDiff]
            exact ih (I5, some (.int (nI g))) ⟨hr5, hF4.trans hF5, rfl⟩
        · rw [bdF_n (by dsimp only; rw [h1, decide_eq_false h2]; decide)] at ih
          simp (disch := first | exact ok_i | exact ok_r | exact ok_n | exact cat_i | exact cat_r | exact ho.tag | exact ho.tg | exact ho.tj | exact ho.tp | exact ho.tC (by omega) (by omega) | exact ho.tA (by omega) (by omega) | exact ho.tJ (by omega) (by omega) | exact ro_0 | exact ro_1 | omega | assumption | exact ho.nC (by omega) | exact ho.nL (by omega) | exact ho.nD (by omega) | exact ho.nJ (by omega) (by omega) (by omega) | exact ho.nA (by omega) (by omega) (by omega) | (simp only [List.map_cons, List.map_nil, List.sum_cons, List.sum_nil, cat_i, cat_r, cat_l, Nat.reduceAdd, Nat.reduceLeDiff]; done) | decide) only [h2, s49_76, s49_193, s49_196, tl_s, tl_n, nI_add, pk_mul, i_cl, row_s, u2_row, i_le, i_lt, i_eq, if_true, if_false, Nat.le_refl, Nat.reduceEqDiff, Nat.reduceLeDiff]
          exact ih (I', some (.int (nI g))) ⟨hr, hF, rfl⟩
  rw [hw] at start
  exact start
end
