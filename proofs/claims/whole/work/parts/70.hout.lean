/-! the class: those that leave -/
theorem loop_h {σ : Type} {A : Nat → σ → Prop} {ok : Nat → σ → Prop} {n : Nat} (he : ∀ s, ok n s → A n s) (hs : ∀ i s, i < n → ok i s → (∀ s', ok (i + 1) s' → A (i + 1) s') → A i s) : ∀ i s, i ≤ n → ok i s → A i s := by
  have key : ∀ k i, i + k = n → ∀ s, ok i s → A i s := by
    intro k
    induction k with
    | zero => intro i h s hk; rw [Nat.add_zero] at h; subst h; exact he s hk
    | succ k ih =>
      intro i h s hk
      exact hs i s (by omega) hk (fun s' hk' => ih (i + 1) (by omega) s' hk')
  intro i s hi hk
  exact key (n - i) i (by omega) s hk
theorem live_sub {N N' : Nat → Int32} {m : Nat} (h : ∀ g, g < m → gf N g 4 = nI 2 → gf N' g 4 = nI 2) : (live N m).filter (fun g => !decide (gf N' g 4 = nI 2)) = live N' m := by
  unfold live
  rw [List.filter_filter]
  refine List.filter_congr (fun g hg => ?_)
  rw [List.mem_range] at hg
  by_cases c : gf N g 4 = nI 2
  · simp [c, h g hg c]
  · simp [c]
/-- leaving: the numbers, how many -/
def lvP (c g : Nat) (s : (Nat → Int32) × Nat) : (Nat → Int32) × Nat := if lvB s.1 c g = true then (hapM (upd s.1 (32 + 8 * g + 4) (nI 2)) (nI 2) g, s.2 + 1) else s
theorem lvP_t {c g : Nat} {s : (Nat → Int32) × Nat} (h : lvB s.1 c g = true) : lvP c g s = (hapM (upd s.1 (32 + 8 * g + 4) (nI 2)) (nI 2) g, s.2 + 1) := if_pos h
theorem lvP_f {c g : Nat} {s : (Nat → Int32) × Nat} (h : ¬ lvB s.1 c g = true) : lvP c g s = s := if_neg h
theorem lvP_le {c g : Nat} {s : (Nat → Int32) × Nat} : (lvP c g s).2 ≤ s.2 + 1 := by
  by_cases h : lvB s.1 c g = true
  · rw [lvP_t h]; exact Nat.le_refl _
  · rw [lvP_f h]; exact Nat.le_succ _
theorem lvP_itr {N : Nat → Int32} {c : Nat} : ∀ {n : Nat}, itr (lvP c) (N, 0) n = (lvN N c n, lvC N c n)
  | 0 => rfl
  | n + 1 => by
    rw [itr_s, lvP_itr (n := n)]
    show lvP c n (lvN N c n, lvC N c n) = (lvF c n (lvN N c n), lvC N c n + (if lvB (lvN N c n) c n = true then 1 else 0))
    unfold lvP lvF
    dsimp only
    by_cases e : lvB (lvN N c n) c n = true
    · rw [if_pos e, if_pos e, if_pos e]
    · rw [if_neg e, if_neg e, if_neg e, Nat.add_zero]
def Dead (N N' : Nat → Int32) (m : Nat) : Prop := ∀ g, g < m → gf N g 4 = nI 2 → gf N' g 4 = nI 2
theorem lvP_dead {N : Nat → Int32} {c m g : Nat} {s : (Nat → Int32) × Nat} (hm : m ≤ 40) (hg : g < m) (h : Dead N s.1 m) : Dead N (lvP c g s).1 m := by
  unfold lvP
  by_cases e : lvB s.1 c g = true
  · rw [if_pos e]
    intro g2 hg2 h2
    dsimp only
    rw [gf_hap (by omega)]
    by_cases eg : g2 = g
    · subst eg; exact up_s
    · rw [gf_u (by omega)]; exact h g2 hg2 h2
  · rw [if_neg e]; exact h
theorem lvP_skip {N : Nat → Int32} {c m g : Nat} {s : (Nat → Int32) × Nat} (hg : g < m) (h2 : gf N g 4 = nI 2) (h : Dead N s.1 m) : lvP c g s = s := by
  unfold lvP
  have e : ¬ lvB s.1 c g = true := fun e => by
    unfold lvB at e
    rw [Bool.and_eq_true, Bool.and_eq_true, decide_eq_true_eq, decide_eq_true_eq, h g hg h2] at e
    exact absurd e.1.2 (by decide)
  rw [if_neg e]
theorem lvP_live {N : Nat → Int32} {c m : Nat} (hm : m ≤ 40) : itr (fun i s => lvP c ((live N m).getD i 0) s) (N, 0) (live N m).length = (lvN N c m, lvC N c m) := by
  rw [lv_itr (f := lvP c) (fun s => Dead N s.1 m) (fun g _ h => h) (fun g s hg hp => lvP_dead hm hg hp) (fun g s hg h2 hp => lvP_skip hg h2 hp), lvP_itr]
theorem lvN_dead {N : Nat → Int32} {c m : Nat} (hm : m ≤ 40) : Dead N (lvN N c m) m := by
  have key : ∀ n, n ≤ m → Dead N (itr (lvP c) (N, 0) n).1 m := by
    intro n
    induction n with
    | zero => exact fun _ g _ h => h
    | succ n ih => intro hn; exact lvP_dead hm (by omega) (ih (by omega))
  have := key m (Nat.le_refl m)
  rwa [lvP_itr] at this
theorem lvN_0 {N : Nat → Int32} {c m : Nat} (h : lvC N c m = 0) : lvN N c m = N := by
  have key : ∀ n, (itr (lvP c) (N, 0) n).2 = 0 → (itr (lvP c) (N, 0) n).1 = N := by
    intro n
    induction n with
    | zero => exact fun _ => rfl
    | succ n ih =>
      rw [itr_s]
      intro h0
      by_cases e : lvB (itr (lvP c) (N, 0) n).1 c n = true
      · rw [lvP_t e] at h0
        exact absurd h0 (Nat.succ_ne_zero _)
      · rw [lvP_f e] at h0 ⊢
        exact ih h0
  have := key m
  rw [lvP_itr] at this
  exact this h
def asgN (N : Nat → Int32) (g c : Nat) : Nat → Int32 := upd (upd N (32 + 8 * g + 3) (nI c)) (8 * c + 7) (-1)
theorem up_id {f : Nat → Int32} {k : Nat} {v : Int32} (h : f k = v) : upd f k v = f := by
  funext a
  unfold upd
  by_cases e : a = k
  · rw [if_pos e, e, h]
  · rw [if_neg e]
theorem asg_own {N : Nat → Int32} {g c : Nat} (h : gf N g 3 = nI c → cf N c 7 = -1) : asgN N g c = ownN N g c := by
  unfold asgN ownN
  by_cases e : gf N g 3 = nI c
  · rw [if_pos e, up_id (f := N) (k := 32 + 8 * g + 3) e, up_id (f := N) (k := 8 * c + 7) (h e)]
  · rw [if_neg e]
section
variable {X : pX} {d : Nat} {I : pI} {Q : Option Value → pG → pI → Prop} {o p : Nat} {N : Nat → Int32} {m : Nat} {L : List Nat}
theorem h_drop (hr : HR o p I N m L) (h : ∀ I', HR o p I' N m (L.filter (fun g => !decide (gf N g 4 = nI 2))) → Fr o p I I' → Q none G0 I') : Call X (d + 1) 12 [.ref (p + 5)] G0 I Q := by
  have ho := hr.ho
  have l12 := hr.l12
  have m40 := hr.m40
  have e0 : row I (p + 14) (I (p + 14)) = I := row_id
  have fl : ∀ i, ((L.take i).filter (fun g => !decide (gf N g 4 = nI 2))).length ≤ i := fun i => Nat.le_trans (List.length_filter_le _ _) (by rw [List.length_take]; omega)
  simp (disch := first | exact ok_i | exact ok_r | exact ok_n | exact cat_i | exact cat_r | exact ho.tag | exact ho.tg | exact ho.tj | exact ho.tp | exact ho.tC (by omega) (by omega) | exact ho.tA (by omega) (by omega) | exact ho.tJ (by omega) (by omega) | exact ro_0 | exact ro_1 | omega | assumption | exact ho.nC (by omega) | exact ho.nL (by omega) | exact ho.nD (by omega) | exact ho.nJ (by omega) (by omega) (by omega) | exact ho.nA (by omega) (by omega) (by omega) | (simp only [List.map_cons, List.map_nil, List.sum_cons, List.sum_nil, cat_i, cat_r, cat_l, Nat.reduceAdd, Nat.reduceLeDiff]; done) | decide) only [e12, s12_0, s12_1, s12_2, s12_3, tl_s, tl_n, nI_add, pk_mul, i_cl, row_s, u2_row, i_le, i_lt, i_eq, if_true, if_false, Nat.le_refl, Nat.reduceEqDiff, Nat.reduceLeDiff]
  have key := loop_h (σ := Nat → Int32) (n := L.length)
    (A := fun i w => At X d 12 4 [some (.ref (p + 5)), some (.int (nI ((L.take i).filter (fun g => !decide (gf N g 4 = nI 2))).length)), some (.int (nI i))] [] G0 (row I (p + 14) w) Q)
    (ok := fun i w => (∀ j, j < ((L.take i).filter (fun g => !decide (gf N g 4 = nI 2))).length → w j = nI (((L.take i).filter (fun g => !decide (gf N g 4 = nI 2))).getD j 0)) ∧ (∀ j, i ≤ j → j < L.length → w j = nI (L.getD j 0)))
    (fun w hw => ?_) (fun i w hi hw ih => ?_) 0 (I (p + 14)) (Nat.zero_le _) ⟨fun j hj => absurd hj (by simp), fun j _ hj => hr.lv j hj⟩
  · rw [e0] at key
    exact key
  · rw [List.take_length] at hw ⊢
    have hn1 : (row I (p + 14) w) (p + 5) = I (p + 5) := row_n (by omega)
    have hll : (L.filter (fun g => !decide (gf N g 4 = nI 2))).length ≤ 12 := Nat.le_trans (List.length_filter_le _ _) l12
    simp (disch := first | exact ok_i | exact ok_r | exact ok_n | exact cat_i | exact cat_r | exact ho.tag | exact ho.tg | exact ho.tj | exact ho.tp | exact ho.tC (by omega) (by omega) | exact ho.tA (by omega) (by omega) | exact ho.tJ (by omega) (by omega) | exact ro_0 | exact ro_1 | omega | assumption | exact ho.nC (by omega) | exact ho.nL (by omega) | exact ho.nD (by omega) | exact ho.nJ (by omega) (by omega) (by omega) | exact ho.nA (by omega) (by omega) (by omega) | (simp only [List.map_cons, List.map_nil, List.sum_cons, List.sum_nil, cat_i, cat_r, cat_l, Nat.reduceAdd, Nat.reduceLeDiff]; done) | decide) only [s12_4, s12_5, s12_6, s12_9, s12_48, s12_49, s12_50, s12_53, tl_s, tl_n, nI_add, pk_mul, i_cl, row_s, u2_row, i_le, i_lt, i_eq, if_true, if_false, Nat.le_refl, Nat.reduceEqDiff, Nat.reduceLeDiff, ho.r6, ho.r7, ho.r8, ho.r9, ho.rc, ho.g0, ho.g1, ho.g2, ho.g3, ho.g4, ho.g5, ho.g6, ho.g7, ho.g8, ho.j0, ho.j1, ho.j2, ho.j3, hr.o0, hr.o1, hr.o2, hr.o3, hr.o4, hr.o5, hr.c0, hr.c1, hr.c2, hr.c3, hr.c4, hr.c5, hr.c6, hr.c7, hr.mc, hr.lc, hr.g0, hr.g1, hr.g2, hr.g3, hr.g4, hr.g5, hr.g6, hr.g7, hr.dm, hn1]
    refine h _ (hr.upl hll (fun i hi => ⟨hw.1 i hi, ?_⟩)) (fun a h1 h2 => by rw [u2_ne (by omega), row_n (by omega)])
    have hmem := (List.mem_filter.mp (getD_mem hi)).1
    obtain ⟨j, hj, ej⟩ := List.getElem_of_mem hmem
    have := hr.lm j hj
    rw [List.getD_eq_getElem?_getD, List.getElem?_eq_getElem hj] at this
    rw [← ej]
    exact this
  · have n1 : ¬ L.length ≤ i := by omega
    have hli := fl i
    have hn1 : (row I (p + 14) w) (p + 5) = I (p + 5) := row_n (by omega)
    have hn2 : (row I (p + 14) w) (p + 10) = I (p + 10) := row_n (by omega)
    have hwi := hw.2 i (Nat.le_refl i) hi
    have hg := hr.lm i hi
    have et : L.take (i + 1) = L.take i ++ [L.getD i 0] := by
      rw [List.take_succ_eq_append_getElem hi, List.getD_eq_getElem?_getD, List.getElem?_eq_getElem hi]
      rfl
    rw [et, List.filter_append] at ih
    generalize L.getD i 0 = g at hwi hg ih
    generalize (L.take i).filter (fun g => !decide (gf N g 4 = nI 2)) = F at hw hli ih ⊢
    rw [s12_4]
    simp (disch := first | exact ok_i | exact ok_r | exact ok_n | exact cat_i | exact cat_r | exact ho.tag | exact ho.tg | exact ho.tj | exact ho.tp | exact ho.tC (by omega) (by omega) | exact ho.tA (by omega) (by omega) | exact ho.tJ (by omega) (by omega) | exact ro_0 | exact ro_1 | omega | assumption | exact ho.nC (by omega) | exact ho.nL (by omega) | exact ho.nD (by omega) | exact ho.nJ (by omega) (by omega) (by omega) | exact ho.nA (by omega) (by omega) (by omega) | (simp only [List.map_cons, List.map_nil, List.sum_cons, List.sum_nil, cat_i, cat_r, cat_l, Nat.reduceAdd, Nat.reduceLeDiff]; done) | decide) only [s12_5, s12_6, s12_9, s12_12, s12_13, s12_16, s12_17, s12_20, s12_21, s12_22, s12_23, s12_24, tl_s, tl_n, nI_add, pk_mul, i_cl, row_s, u2_row, i_le, i_lt, i_eq, if_true, if_false, Nat.le_refl, Nat.reduceEqDiff, Nat.reduceLeDiff, ho.r6, ho.r7, ho.r8, ho.r9, ho.rc, ho.g0, ho.g1, ho.g2, ho.g3, ho.g4, ho.g5, ho.g6, ho.g7, ho.g8, ho.j0, ho.j1, ho.j2, ho.j3, hr.o0, hr.o1, hr.o2, hr.o3, hr.o4, hr.o5, hr.c0, hr.c1, hr.c2, hr.c3, hr.c4, hr.c5, hr.c6, hr.c7, hr.mc, hr.lc, hr.g0, hr.g1, hr.g2, hr.g3, hr.g4, hr.g5, hr.g6, hr.g7, hr.dm, hn1, hn2, n1, hwi]
    by_cases h1 : gf N g 4 = nI 2
    · simp (disch := first | exact ok_i | exact ok_r | exact ok_n | exact cat_i | exact cat_r | exact ho.tag | exact ho.tg | exact ho.tj | exact ho.tp | exact ho.tC (by omega) (by omega) | exact ho.tA (by omega) (by omega) | exact ho.tJ (by omega) (by omega) | exact ro_0 | exact ro_1 | omega | assumption | exact ho.nC (by omega) | exact ho.nL (by omega) | exact ho.nD (by omega) | exact ho.nJ (by omega) (by omega) (by omega) | exact ho.nA (by omega) (by omega) (by omega) | (simp only [List.map_cons, List.map_nil, List.sum_cons, List.sum_nil, cat_i, cat_r, cat_l, Nat.reduceAdd, Nat.reduceLeDiff]; done) | decide) only [h1, s12_42, s12_45, tl_s, tl_n, nI_add, pk_mul, i_cl, row_s, u2_row, i_le, i_lt, i_eq, if_true, if_false, Nat.le_refl, Nat.reduceEqDiff, Nat.reduceLeDiff]
      have ef : [g].filter (fun g => !decide (gf N g 4 = nI 2)) = [] := by simp [h1]
      rw [ef, List.append_nil] at ih
      exact ih w ⟨hw.1, fun j h2 h3 => hw.2 j (by omega) h3⟩
    · simp (disch := first | exact ok_i | exact ok_r | exact ok_n | exact cat_i | exact cat_r | exact ho.tag | exact ho.tg | exact ho.tj | exact ho.tp | exact ho.tC (by omega) (by omega) | exact ho.tA (by omega) (by omega) | exact ho.tJ (by omega) (by omega) | exact ro_0 | exact ro_1 | omega | assumption | exact ho.nC (by omega) | exact ho.nL (by omega) | exact ho.nD (by omega) | exact ho.nJ (by omega) (by omega) (by omega) | exact ho.nA (by omega) (by omega) (by omega) | (simp only [List.map_cons, List.map_nil, List.sum_cons, List.sum_nil, cat_i, cat_r, cat_l, Nat.reduceAdd, Nat.reduceLeDiff]; done) | decide) only [h1, s12_27, s12_28, s12_31, s12_32, s12_33, s12_36, s12_37, s12_38, s12_39, s12_42, s12_45, tl_s, tl_n, nI_add, pk_mul, i_cl, row_s, u2_row, i_le, i_lt, i_eq, if_true, if_false, Nat.le_refl, Nat.reduceEqDiff, Nat.reduceLeDiff, ho.r6, ho.r7, ho.r8, ho.r9, ho.rc, ho.g0, ho.g1, ho.g2, ho.g3, ho.g4, ho.g5, ho.g6, ho.g7, ho.g8, ho.j0, ho.j1, ho.j2, ho.j3, hr.o0, hr.o1, hr.o2, hr.o3, hr.o4, hr.o5, hr.c0, hr.c1, hr.c2, hr.c3, hr.c4, hr.c5, hr.c6, hr.c7, hr.mc, hr.lc, hr.g0, hr.g1, hr.g2, hr.g3, hr.g4, hr.g5, hr.g6, hr.g7, hr.dm, hwi]
      have ef : [g].filter (fun g => !decide (gf N g 4 = nI 2)) = [g] := by simp [h1]
      rw [ef, List.length_append] at ih
      refine ih _ ⟨fun j h2 => ?_, fun j h2 h3 => ?_⟩
      · rw [List.length_singleton] at h2
        by_cases ej : j = F.length
        · subst ej
          rw [up_s, List.getD_eq_getElem?_getD, List.getElem?_append_right (Nat.le_refl _), Nat.sub_self]
          rfl
        · rw [up_n ej, List.getD_eq_getElem?_getD, List.getElem?_append_left (by omega), ← List.getD_eq_getElem?_getD]
          exact hw.1 j (by omega)
      · rw [up_n (by omega)]
        exact hw.2 j (by omega) h3
theorem h_letOut {c : Nat} (hr : HR o p I N m (live N m)) (hc : c < 4) (h : ∀ I', HR o p I' (lvN N c m) m (live (lvN N c m) m) → Fr o p I I' → Q (some (.int (nI (lvC N c m)))) G0 I') : Call X (d + 2) 45 [.ref o, .int (nI c)] G0 I Q := by
  have m40 := hr.m40
  have hlive := lvP_live (N := N) (c := c) m40
  have hlm := hr.lm
  have hl12 := hr.l12
  generalize hL : live N m = L at hr hlive hlm hl12
  have ho := hr.ho
  simp (disch := first | exact ok_i | exact ok_r | exact ok_n | exact cat_i | exact cat_r | exact ho.tag | exact ho.tg | exact ho.tj | exact ho.tp | exact ho.tC (by omega) (by omega) | exact ho.tA (by omega) (by omega) | exact ho.tJ (by omega) (by omega) | exact ro_0 | exact ro_1 | omega | assumption | exact ho.nC (by omega) | exact ho.nL (by omega) | exact ho.nD (by omega) | exact ho.nJ (by omega) (by omega) (by omega) | exact ho.nA (by omega) (by omega) (by omega) | (simp only [List.map_cons, List.map_nil, List.sum_cons, List.sum_nil, cat_i, cat_r, cat_l, Nat.reduceAdd, Nat.reduceLeDiff]; done) | decide) only [e45, s45_0, s45_1, s45_2, s45_3, tl_s, tl_n, nI_add, pk_mul, i_cl, row_s, u2_row, i_le, i_lt, i_eq, if_true, if_false, Nat.le_refl, Nat.reduceEqDiff, Nat.reduceLeDiff]
  have hb : ∀ i, (itr (fun i s => lvP c (L.getD i 0) s) (N, 0) i).2 ≤ i := by
    intro i
    induction i with
    | zero => exact Nat.le_refl _
    | succ i ih =>
      rw [itr_s]
      exact Nat.le_trans lvP_le (Nat.succ_le_succ ih)
  refine loop_h (σ := pI × Option Value) (n := L.length)
    (A := fun i s => At X (d + 1) 45 4 [some (.ref o), some (.int (nI c)), some (.int (nI (itr (fun i s => lvP c (L.getD i 0) s) (N, 0) i).2)), some (.int (nI i)), s.2] [] G0 s.1 Q)
    (ok := fun i s => HR o p s.1 (itr (fun i s => lvP c (L.getD i 0) s) (N, 0) i).1 m L ∧ Fr o p I s.1 ∧ okL s.2 = true)
    (fun s hs => ?_) (fun i s hi hs ih => ?_) 0 (I, none) (Nat.zero_le _) ⟨hr, Fr.refl, rfl⟩
  · obtain ⟨I', l4⟩ := s
    obtain ⟨hr', hF, hl4⟩ := hs
    dsimp only at hr' hF hl4 ⊢
    rw [hlive] at hr' ⊢
    clear hr
    have hr := hr'
    have hb2 := hb L.length
    rw [hlive] at hb2
    dsimp only at hr hb2 ⊢
    by_cases c0 : lvC N c m ≤ 0
    · have c1 : lvC N c m = 0 := by omega
      simp (disch := first | exact ok_i | exact ok_r | exact ok_n | exact cat_i | exact cat_r | exact ho.tag | exact ho.tg | exact ho.tj | exact ho.tp | exact ho.tC (by omega) (by omega) | exact ho.tA (by omega) (by omega) | exact ho.tJ (by omega) (by omega) | exact ro_0 | exact ro_1 | omega | assumption | exact ho.nC (by omega) | exact ho.nL (by omega) | exact ho.nD (by omega) | exact ho.nJ (by omega) (by omega) (by omega) | exact ho.nA (by omega) (by omega) (by omega) | (simp only [List.map_cons, List.map_nil, List.sum_cons, List.sum_nil, cat_i, cat_r, cat_l, Nat.reduceAdd, Nat.reduceLeDiff]; done) | decide) only [s45_4, s45_5, s45_6, s45_9, s45_12, s45_111, s45_112, s45_122, s45_123, tl_s, tl_n, nI_add, pk_mul, i_cl, row_s, u2_row, i_le, i_lt, i_eq, if_true, if_false, Nat.le_refl, Nat.reduceEqDiff, Nat.reduceLeDiff, ho.r6, ho.r7, ho.r8, ho.r9, ho.rc, ho.g0, ho.g1, ho.g2, ho.g3, ho.g4, ho.g5, ho.g6, ho.g7, ho.g8, ho.j0, ho.j1, ho.j2, ho.j3, hr.o0, hr.o1, hr.o2, hr.o3, hr.o4, hr.o5, hr.c0, hr.c1, hr.c2, hr.c3, hr.c4, hr.c5, hr.c6, hr.c7, hr.mc, hr.lc, hr.g0, hr.g1, hr.g2, hr.g3, hr.g4, hr.g5, hr.g6, hr.g7, hr.dm, c0]
      refine h I' ?_ hF
      rw [lvN_0 c1] at hr ⊢
      rw [hL]
      exact hr
    · simp (disch := first | exact ok_i | exact ok_r | exact ok_n | exact cat_i | exact cat_r | exact ho.tag | exact ho.tg | exact ho.tj | exact ho.tp | exact ho.tC (by omega) (by omega) | exact ho.tA (by omega) (by omega) | exact ho.tJ (by omega) (by omega) | exact ro_0 | exact ro_1 | omega | assumption | exact ho.nC (by omega) | exact ho.nL (by omega) | exact ho.nD (by omega) | exact ho.nJ (by omega) (by omega) (by omega) | exact ho.nA (by omega) (by omega) (by omega) | (simp only [List.map_cons, List.map_nil, List.sum_cons, List.sum_nil, cat_i, cat_r, cat_l, Nat.reduceAdd, Nat.reduceLeDiff]; done) | decide) only [s45_4, s45_5, s45_6, s45_9, s45_12, s45_111, s45_112, s45_115, s45_116, tl_s, tl_n, nI_add, pk_mul, i_cl, row_s, u2_row, i_le, i_lt, i_eq, if_true, if_false, Nat.le_refl, Nat.reduceEqDiff, Nat.reduceLeDiff, ho.r6, ho.r7, ho.r8, ho.r9, ho.rc, ho.g0, ho.g1, ho.g2, ho.g3, ho.g4, ho.g5, ho.g6, ho.g7, ho.g8, ho.j0, ho.j1, ho.j2, ho.j3, hr.o0, hr.o1, hr.o2, hr.o3, hr.o4, hr.o5, hr.c0, hr.c1, hr.c2, hr.c3, hr.c4, hr.c5, hr.c6, hr.c7, hr.mc, hr.lc, hr.g0, hr.g1, hr.g2, hr.g3, hr.g4, hr.g5, hr.g6, hr.g7, hr.dm, c0]
      rw [s45_119 (by simp only [List.map_cons, List.map_nil, List.sum_cons, List.sum_nil, cat_i, cat_r, cat_l, Nat.reduceAdd, Nat.reduceLeDiff]) ho.tg]
      refine h_drop hr (fun I2 hr2 hF2 => ?_)
      simp (disch := first | exact ok_i | exact ok_r | exact ok_n | exact cat_i | exact cat_r | exact ho.tag | exact ho.tg | exact ho.tj | exact ho.tp | exact ho.tC (by omega) (by omega) | exact ho.tA (by omega) (by omega) | exact ho.tJ (by omega) (by omega) | exact ro_0 | exact ro_1 | omega | assumption | exact ho.nC (by omega) | exact ho.nL (by omega) | exact ho.nD (by omega) | exact ho.nJ (by omega) (by omega) (by omega) | exact ho.nA (by omega) (by omega) (by omega) | (simp only [List.map_cons, List.map_nil, List.sum_cons, List.sum_nil, cat_i, cat_r, cat_l, Nat.reduceAdd, Nat.reduceLeDiff]; done) | decide) only [s45_122, s45_123, tl_s, tl_n, nI_add, pk_mul, i_cl, row_s, u2_row, i_le, i_lt, i_eq, if_true, if_false, Nat.le_refl, Nat.reduceEqDiff, Nat.reduceLeDiff]
      rw [← hL, live_sub (lvN_dead m40)] at hr2
      exact h I2 hr2 (hF.trans hF2)
  · obtain ⟨I', l4⟩ := s
    obtain ⟨hr', hF, hl4⟩ := hs
    dsimp only at hr' hF hl4 ih ⊢
    clear hr
    have hr := hr'
    have n1 : ¬ L.length ≤ i := by omega
    have hbi := hb i
    have hg := hr.lm i hi
    have hv := hr.lv i hi
    simp only [itr_s] at ih
    generalize itr (fun i s => lvP c (L.getD i 0) s) (N, 0) i = s at hr hr' ih hbi ⊢
    obtain ⟨N1, n⟩ := s
    generalize L.getD i 0 = g at hg hv ih
    unfold lvP lvB at ih
    dsimp only at hr hr' ih hbi ⊢
    rw [s45_4]
    simp (disch := first | exact ok_i | exact ok_r | exact ok_n | exact cat_i | exact cat_r | exact ho.tag | exact ho.tg | exact ho.tj | exact ho.tp | exact ho.tC (by omega) (by omega) | exact ho.tA (by omega) (by omega) | exact ho.tJ (by omega) (by omega) | exact ro_0 | exact ro_1 | omega | assumption | exact ho.nC (by omega) | exact ho.nL (by omega) | exact ho.nD (by omega) | exact ho.nJ (by omega) (by omega) (by omega) | exact ho.nA (by omega) (by omega) (by omega) | (simp only [List.map_cons, List.map_nil, List.sum_cons, List.sum_nil, cat_i, cat_r, cat_l, Nat.reduceAdd, Nat.reduceLeDiff]; done) | decide) only [s45_5, s45_6, s45_9, s45_12, s45_15, s45_16, s45_19, s45_22, s45_23, s45_24, s45_26, s45_27, s45_30, s45_33, s45_35, s45_36, s45_37, tl_s, tl_n, nI_add, pk_mul, i_cl, row_s, u2_row, i_le, i_lt, i_eq, if_true, if_false, Nat.le_refl, Nat.reduceEqDiff, Nat.reduceLeDiff, ho.r6, ho.r7, ho.r8, ho.r9, ho.rc, ho.g0, ho.g1, ho.g2, ho.g3, ho.g4, ho.g5, ho.g6, ho.g7, ho.g8, ho.j0, ho.j1, ho.j2, ho.j3, hr.o0, hr.o1, hr.o2, hr.o3, hr.o4, hr.o5, hr.c0, hr.c1, hr.c2, hr.c3, hr.c4, hr.c5, hr.c6, hr.c7, hr.mc, hr.lc, hr.g0, hr.g1, hr.g2, hr.g3, hr.g4, hr.g5, hr.g6, hr.g7, hr.dm, n1, hv]
    by_cases h1 : gf N1 g 3 = nI c
    · simp (disch := first | exact ok_i | exact ok_r | exact ok_n | exact cat_i | exact cat_r | exact ho.tag | exact ho.tg | exact ho.tj | exact ho.tp | exact ho.tC (by omega) (by omega) | exact ho.tA (by omega) (by omega) | exact ho.tJ (by omega) (by omega) | exact ro_0 | exact ro_1 | omega | assumption | exact ho.nC (by omega) | exact ho.nL (by omega) | exact ho.nD (by omega) | exact ho.nJ (by omega) (by omega) (by omega) | exact ho.nA (by omega) (by omega) (by omega) | (simp only [List.map_cons, List.map_nil, List.sum_cons, List.sum_nil, cat_i, cat_r, cat_l, Nat.reduceAdd, Nat.reduceLeDiff]; done) | decide) only [h1, s45_40, s45_41, s45_44, s45_47, s45_49, s45_50, s45_51, tl_s, tl_n, nI_add, pk_mul, i_cl, row_s, u2_row, i_le, i_lt, i_eq, if_true, if_false, Nat.le_refl, Nat.reduceEqDiff, Nat.reduceLeDiff, ho.r6, ho.r7, ho.r8, ho.r9, ho.rc, ho.g0, ho.g1, ho.g2, ho.g3, ho.g4, ho.g5, ho.g6, ho.g7, ho.g8, ho.j0, ho.j1, ho.j2, ho.j3, hr.o0, hr.o1, hr.o2, hr.o3, hr.o4, hr.o5, hr.c0, hr.c1, hr.c2, hr.c3, hr.c4, hr.c5, hr.c6, hr.c7, hr.mc, hr.lc, hr.g0, hr.g1, hr.g2, hr.g3, hr.g4, hr.g5, hr.g6, hr.g7, hr.dm]
      by_cases h2 : gf N1 g 4 = nI 1
      · simp (disch := first | exact ok_i | exact ok_r | exact ok_n | exact cat_i | exact cat_r | exact ho.tag | exact ho.tg | exact ho.tj | exact ho.tp | exact ho.tC (by omega) (by omega) | exact ho.tA (by omega) (by omega) | exact ho.tJ (by omega) (by omega) | exact ro_0 | exact ro_1 | omega | assumption | exact ho.nC (by omega) | exact ho.nL (by omega) | exact ho.nD (by omega) | exact ho.nJ (by omega) (by omega) (by omega) | exact ho.nA (by omega) (by omega) (by omega) | (simp only [List.map_cons, List.map_nil, List.sum_cons, List.sum_nil, cat_i, cat_r, cat_l, Nat.reduceAdd, Nat.reduceLeDiff]; done) | decide) only [h2, s45_54, s45_55, s45_58, s45_61, s45_63, s45_64, s45_65, s45_68, s45_69, s45_70, s45_73, tl_s, tl_n, nI_add, pk_mul, i_cl, row_s, u2_row, i_le, i_lt, i_eq, if_true, if_false, Nat.le_refl, Nat.reduceEqDiff, Nat.reduceLeDiff, ho.r6, ho.r7, ho.r8, ho.r9, ho.rc, ho.g0, ho.g1, ho.g2, ho.g3, ho.g4, ho.g5, ho.g6, ho.g7, ho.g8, ho.j0, ho.j1, ho.j2, ho.j3, hr.o0, hr.o1, hr.o2, hr.o3, hr.o4, hr.o5, hr.c0, hr.c1, hr.c2, hr.c3, hr.c4, hr.c5, hr.c6, hr.c7, hr.mc, hr.lc, hr.g0, hr.g1, hr.g2, hr.g3, hr.g4, hr.g5, hr.g6, hr.g7, hr.dm]
        by_cases h3 : gf N1 g 1 = cf N1 c 3
        · rw [if_pos (by rw [h1, h2, h3, decide_eq_true rfl, decide_eq_true rfl, decide_eq_true rfl]; rfl)] at ih
          simp (disch := first | exact ok_i | exact ok_r | exact ok_n | exact cat_i | exact cat_r | exact ho.tag | exact ho.tg | exact ho.tj | exact ho.tp | exact ho.tC (by omega) (by omega) | exact ho.tA (by omega) (by omega) | exact ho.tJ (by omega) (by omega) | exact ro_0 | exact ro_1 | omega | assumption | exact ho.nC (by omega) | exact ho.nL (by omega) | exact ho.nD (by omega) | exact ho.nJ (by omega) (by omega) (by omega) | exact ho.nA (by omega) (by omega) (by omega) | (simp only [List.map_cons, List.map_nil, List.sum_cons, List.sum_nil, cat_i, cat_r, cat_l, Nat.reduceAdd, Nat.reduceLeDiff]; done) | decide) only [h3, s45_76, s45_77, s45_80, s45_83, s45_85, s45_86, s45_87, s45_88, s45_91, s45_92, s45_94, s45_95, s45_96, tl_s, tl_n, nI_add, pk_mul, i_cl, row_s, u2_row, i_le, i_lt, i_eq, if_true, if_false, Nat.le_refl, Nat.reduceEqDiff, Nat.reduceLeDiff, ho.r6, ho.r7, ho.r8, ho.r9, ho.rc, ho.g0, ho.g1, ho.g2, ho.g3, ho.g4, ho.g5, ho.g6, ho.g7, ho.g8, ho.j0, ho.j1, ho.j2, ho.j3]
          rw [s45_99 (by simp only [List.map_cons, List.map_nil, List.sum_cons, List.sum_nil, cat_i, cat_r, cat_l, Nat.reduceAdd, Nat.reduceLeDiff]) ho.tj]
          have hr2 : HR o p (upd2 I' (p + 10) g (nI 2)) (upd N1 (32 + 8 * g + 4) (nI 2)) m L := hr.upg (k := 4) hg (by omega)
          refine h_note hr2 (by rw [gf_u (by omega)]; exact h1) (by rw [up_n (by omega), u2_nk (by have := ho.np; omega), hr.o2]) (fun I3 hr3 hF3 => ?_)
          simp (disch := first | exact ok_i | exact ok_r | exact ok_n | exact cat_i | exact cat_r | exact ho.tag | exact ho.tg | exact ho.tj | exact ho.tp | exact ho.tC (by omega) (by omega) | exact ho.tA (by omega) (by omega) | exact ho.tJ (by omega) (by omega) | exact ro_0 | exact ro_1 | omega | assumption | exact ho.nC (by omega) | exact ho.nL (by omega) | exact ho.nD (by omega) | exact ho.nJ (by omega) (by omega) (by omega) | exact ho.nA (by omega) (by omega) (by omega) | (simp only [List.map_cons, List.map_nil, List.sum_cons, List.sum_nil, cat_i, cat_r, cat_l, Nat.reduceAdd, Nat.reduceLeDiff]; done) | decide) only [s45_102, s45_105, s45_108, tl_s, tl_n, nI_add, pk_mul, i_cl, row_s, u2_row, i_le, i_lt, i_eq, if_true, if_false, Nat.le_refl, Nat.reduceEqDiff, Nat.reduceLeDiff]
          exact ih (I3, some (.int (nI g))) ⟨hr3, (hF.trans (Fr.up (by omega))).trans hF3, rfl⟩
        · rw [if_neg (by rw [decide_eq_false h3, Bool.and_false]; decide)] at ih
          simp (disch := first | exact ok_i | exact ok_r | exact ok_n | exact cat_i | exact cat_r | exact ho.tag | exact ho.tg | exact ho.tj | exact ho.tp | exact ho.tC (by omega) (by omega) | exact ho.tA (by omega) (by omega) | exact ho.tJ (by omega) (by omega) | exact ro_0 | exact ro_1 | omega | assumption | exact ho.nC (by omega) | exact ho.nL (by omega) | exact ho.nD (by omega) | exact ho.nJ (by omega) (by omega) (by omega) | exact ho.nA (by omega) (by omega) (by omega) | (simp only [List.map_cons, List.map_nil, List.sum_cons, List.sum_nil, cat_i, cat_r, cat_l, Nat.reduceAdd, Nat.reduceLeDiff]; done) | decide) only [h3, s45_105, s45_108, tl_s, tl_n, nI_add, pk_mul, i_cl, row_s, u2_row, i_le, i_lt, i_eq, if_true, if_false, Nat.le_refl, Nat.reduceEqDiff, Nat.reduceLeDiff]
          exact ih (I', some (.int (nI g))) ⟨hr, hF, rfl⟩
      · rw [if_neg (by rw [decide_eq_false h2, Bool.and_false, Bool.false_and]; decide)] at ih
        simp (disch := first | exact ok_i | exact ok_r | exact ok_n | exact cat_i | exact cat_r | exact ho.tag | exact ho.tg | exact ho.tj | exact ho.tp | exact ho.tC (by omega) (by omega) | exact ho.tA (by omega) (by omega) | exact ho.tJ (by omega) (by omega) | exact ro_0 | exact ro_1 | omega | assumption | exact ho.nC (by omega) | exact ho.nL (by omega) | exact ho.nD (by omega) | exact ho.nJ (by omega) (by omega) (by omega) | exact ho.nA (by omega) (by omega) (by omega) | (simp only [List.map_cons, List.map_nil, List.sum_cons, List.sum_nil, cat_i, cat_r, cat_l, Nat.reduceAdd, Nat.reduceLeDiff]; done) | decide) only [h2, s45_105, s45_108, tl_s, tl_n, nI_add, pk_mul, i_cl, row_s, u2_row, i_le, i_lt, i_eq, if_true, if_false, Nat.le_refl, Nat.reduceEqDiff, Nat.reduceLeDiff]
        exact ih (I', some (.int (nI g))) ⟨hr, hF, rfl⟩
    · rw [if_neg (by rw [decide_eq_false h1, Bool.false_and, Bool.false_and]; decide)] at ih
      simp (disch := first | exact ok_i | exact ok_r | exact ok_n | exact cat_i | exact cat_r | exact ho.tag | exact ho.tg | exact ho.tj | exact ho.tp | exact ho.tC (by omega) (by omega) | exact ho.tA (by omega) (by omega) | exact ho.tJ (by omega) (by omega) | exact ro_0 | exact ro_1 | omega | assumption | exact ho.nC (by omega) | exact ho.nL (by omega) | exact ho.nD (by omega) | exact ho.nJ (by omega) (by omega) (by omega) | exact ho.nA (by omega) (by omega) (by omega) | (simp only [List.map_cons, List.map_nil, List.sum_cons, List.sum_nil, cat_i, cat_r, cat_l, Nat.reduceAdd, Nat.reduceLeDiff]; done) | decide) only [h1, s45_105, s45_108, tl_s, tl_n, nI_add, pk_mul, i_cl, row_s, u2_row, i_le, i_lt, i_eq, if_true, if_false, Nat.le_refl, Nat.reduceEqDiff, Nat.reduceLeDiff]
      exact ih (I', some (.int (nI g))) ⟨hr, hF, rfl⟩
theorem h_assign {g c : Nat} (hr : HR o p I N m L) (hg : g < m) (hc : c < 4) (h : ∀ I', HR o p I' (asgN N g c) m L → Fr o p I I' → Q none G0 I') : Call X (d + 1) 35 [.ref o, .int (nI g), .int (nI c)] G0 I Q := by
  have ho := hr.ho
  have l12 := hr.l12
  have m40 := hr.m40
  simp (disch := first | exact ok_i | exact ok_r | exact ok_n | exact cat_i | exact cat_r | exact ho.tag | exact ho.tg | exact ho.tj | exact ho.tp | exact ho.tC (by omega) (by omega) | exact ho.tA (by omega) (by omega) | exact ho.tJ (by omega) (by omega) | exact ro_0 | exact ro_1 | omega | assumption | exact ho.nC (by omega) | exact ho.nL (by omega) | exact ho.nD (by omega) | exact ho.nJ (by omega) (by omega) (by omega) | exact ho.nA (by omega) (by omega) (by omega) | (simp only [List.map_cons, List.map_nil, List.sum_cons, List.sum_nil, cat_i, cat_r, cat_l, Nat.reduceAdd, Nat.reduceLeDiff]; done) | decide) only [e35, s35_0, s35_1, s35_4, s35_7, s35_8, s35_9, s35_10, s35_11, s35_14, s35_15, s35_16, s35_17, s35_20, tl_s, tl_n, nI_add, pk_mul, i_cl, row_s, u2_row, i_le, i_lt, i_eq, if_true, if_false, Nat.le_refl, Nat.reduceEqDiff, Nat.reduceLeDiff, ho.r6, ho.r7, ho.r8, ho.r9, ho.rc, ho.g0, ho.g1, ho.g2, ho.g3, ho.g4, ho.g5, ho.g6, ho.g7, ho.g8, ho.j0, ho.j1, ho.j2, ho.j3]
  have h1 : HR o p (upd2 I (p + 9) g (nI c)) (upd N (32 + 8 * g + 3) (nI c)) m L := hr.upg (k := 3) hg (by omega)
  have h2 : HR o p (upd2 (upd2 I (p + 9) g (nI c)) (p + 1 + c) 6 (-1)) (asgN N g c) m L := h1.upc (k := 6) hc (by omega)
  exact h _ h2 ((Fr.up (by omega)).trans (Fr.up (by omega)))
theorem h_giveAnew {g c : Nat} (hr : HR o p I N m L) (hg : g < m) (hc : c < 4) (hn : ¬ gf N g 3 = nI c) (h : ∀ I', HR o p I' (anewN N g c) m L → Fr o p I I' → Q none G0 I') : Call X (d + 2) 36 [.ref o, .int (nI g), .int (nI c)] G0 I Q := by
  have ho := hr.ho
  have l12 := hr.l12
  have m40 := hr.m40
  have e1 : asgN N g c = ownN N g c := asg_own (fun e => absurd e hn)
  have e2 : gf (asgN N g c) g 3 = nI c := by
    unfold asgN
    rw [gf_u (by omega)]
    exact up_s
  simp (disch := first | exact ok_i | exact ok_r | exact ok_n | exact cat_i | exact cat_r | exact ho.tag | exact ho.tg | exact ho.tj | exact ho.tp | exact ho.tC (by omega) (by omega) | exact ho.tA (by omega) (by omega) | exact ho.tJ (by omega) (by omega) | exact ro_0 | exact ro_1 | omega | assumption | exact ho.nC (by omega) | exact ho.nL (by omega) | exact ho.nD (by omega) | exact ho.nJ (by omega) (by omega) (by omega) | exact ho.nA (by omega) (by omega) (by omega) | (simp only [List.map_cons, List.map_nil, List.sum_cons, List.sum_nil, cat_i, cat_r, cat_l, Nat.reduceAdd, Nat.reduceLeDiff]; done) | decide) only [e36, s36_0, s36_1, s36_2, tl_s, tl_n, nI_add, pk_mul, i_cl, row_s, u2_row, i_le, i_lt, i_eq, if_true, if_false, Nat.le_refl, Nat.reduceEqDiff, Nat.reduceLeDiff, ho.r6, ho.r7, ho.r8, ho.r9, ho.rc, ho.g0, ho.g1, ho.g2, ho.g3, ho.g4, ho.g5, ho.g6, ho.g7, ho.g8, ho.j0, ho.j1, ho.j2, ho.j3]
  rw [s36_3 (by simp only [List.map_cons, List.map_nil, List.sum_cons, List.sum_nil, cat_i, cat_r, cat_l, Nat.reduceAdd, Nat.reduceLeDiff]) ho.tag]
  refine h_assign hr hg hc (fun I1 hr1 hF1 => ?_)
  clear hr
  have hr := hr1
  simp (disch := first | exact ok_i | exact ok_r | exact ok_n | exact cat_i | exact cat_r | exact ho.tag | exact ho.tg | exact ho.tj | exact ho.tp | exact ho.tC (by omega) (by omega) | exact ho.tA (by omega) (by omega) | exact ho.tJ (by omega) (by omega) | exact ro_0 | exact ro_1 | omega | assumption | exact ho.nC (by omega) | exact ho.nL (by omega) | exact ho.nD (by omega) | exact ho.nJ (by omega) (by omega) (by omega) | exact ho.nA (by omega) (by omega) (by omega) | (simp only [List.map_cons, List.map_nil, List.sum_cons, List.sum_nil, cat_i, cat_r, cat_l, Nat.reduceAdd, Nat.reduceLeDiff]; done) | decide) only [s36_6, s36_7, s36_10, s36_13, s36_14, s36_15, s36_16, s36_17, s36_18, s36_19, s36_20, s36_23, s36_24, s36_25, s36_26, s36_27, tl_s, tl_n, nI_add, pk_mul, i_cl, row_s, u2_row, i_le, i_lt, i_eq, if_true, if_false, Nat.le_refl, Nat.reduceEqDiff, Nat.reduceLeDiff, ho.r6, ho.r7, ho.r8, ho.r9, ho.rc, ho.g0, ho.g1, ho.g2, ho.g3, ho.g4, ho.g5, ho.g6, ho.g7, ho.g8, ho.j0, ho.j1, ho.j2, ho.j3, hr.g7]
  have hr2 : HR o p (upd2 I1 (p + 13) g (gf (asgN N g c) g 7 + nI 1)) (upd (asgN N g c) (32 + 8 * g + 7) (gf (asgN N g c) g 7 + nI 1)) m L := hr1.upg (k := 7) hg (by omega)
  rw [s36_30 (by simp only [List.map_cons, List.map_nil, List.sum_cons, List.sum_nil, cat_i, cat_r, cat_l, Nat.reduceAdd, Nat.reduceLeDiff]) ho.tj]
  refine h_note hr2 (by rw [gf_u (by omega)]; exact e2) (by rw [up_n (by omega), u2_nk (by have := ho.np; omega), hr.o2]) (fun I3 hr3 hF3 => ?_)
  simp (disch := first | exact ok_i | exact ok_r | exact ok_n | exact cat_i | exact cat_r | exact ho.tag | exact ho.tg | exact ho.tj | exact ho.tp | exact ho.tC (by omega) (by omega) | exact ho.tA (by omega) (by omega) | exact ho.tJ (by omega) (by omega) | exact ro_0 | exact ro_1 | omega | assumption | exact ho.nC (by omega) | exact ho.nL (by omega) | exact ho.nD (by omega) | exact ho.nJ (by omega) (by omega) (by omega) | exact ho.nA (by omega) (by omega) (by omega) | (simp only [List.map_cons, List.map_nil, List.sum_cons, List.sum_nil, cat_i, cat_r, cat_l, Nat.reduceAdd, Nat.reduceLeDiff]; done) | decide) only [s36_33, tl_s, tl_n, nI_add, pk_mul, i_cl, row_s, u2_row, i_le, i_lt, i_eq, if_true, if_false, Nat.le_refl, Nat.reduceEqDiff, Nat.reduceLeDiff]
  rw [e1] at hr3
  exact h I3 hr3 ((hF1.trans (Fr.up (by omega))).trans hF3)
end
