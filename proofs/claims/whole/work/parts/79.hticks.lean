/-! the class: ticks in thought, costs -/
def Deep (o o2 p2 : Nat) : Prop := (o = 45 ∧ o2 = 1 ∧ p2 = 24) ∨ (o = 1 ∧ o2 = 2 ∧ p2 = 3)
theorem Deep.hall {o o2 p2 : Nat} (h : Deep o o2 p2) : IsHall o2 p2 := by
  rcases h with ⟨-, rfl, rfl⟩ | ⟨-, rfl, rfl⟩
  · exact Or.inr (Or.inl ⟨rfl, rfl⟩)
  · exact Or.inr (Or.inr (Or.inl ⟨rfl, rfl⟩))
theorem Deep.ne {o o2 p2 : Nat} (h : Deep o o2 p2) : o ≠ o2 := by rcases h with ⟨rfl, rfl, -⟩ | ⟨rfl, rfl, -⟩ <;> decide
theorem Deep.r10 {o o2 p2 : Nat} (h : Deep o o2 p2) : refW G0 o 10 = .ref o2 := by rcases h with ⟨rfl, rfl, -⟩ | ⟨rfl, rfl, -⟩ <;> rfl
theorem Deep.lt {o o2 p2 : Nat} (h : Deep o o2 p2) : o2 < 1000 := by rcases h with ⟨rfl, rfl, -⟩ | ⟨rfl, rfl, -⟩ <;> decide
theorem HR.fr {o p o2 p2 m : Nat} {I I' : pI} {N : Nat → Int32} {L : List Nat} (h : HR o p I N m L) (h2 : IsHall o2 p2) (hn : o ≠ o2) (hF : Fr o2 p2 I I') : HR o p I' N m L := by
  obtain ⟨a1, a2, a3⟩ := h.ho.apart h2 hn
  exact h.ext (hF _ hn (by omega)) (fun a h3 h4 => hF a (by omega) (by omega))
/-- the class's word for so many ticks -/
def tkV (t limit : Nat) : Int32 := if t ≤ limit then nI t else -1
theorem cf_own {N : Nat → Int32} {f m c g : Nat} (h : Own N f m c 0) (hc : c < 4) (hg : g < m) (hm : m ≤ 40) (h0 : gf N g 4 = nI 0) : Own (ownN N g c) f m c 0 ∧ asgN N g c = ownN N g c := by
  have e1 : asgN N g c = ownN N g c := asg_own (fun e => h.2.2.2 g hg e (by rw [h0]; decide))
  refine ⟨?_, e1⟩
  unfold ownN
  by_cases e : gf N g 3 = nI c
  · rw [if_pos e]; exact h
  · rw [if_neg e]
    obtain ⟨⟨x, hx, k3, k6, kr⟩, k4, k7, kp⟩ := h
    refine ⟨⟨x, hx, by rw [cf_u (by omega), cf_u (by omega)]; exact k3, by rw [cf_u (by omega), cf_u (by omega), cf_u (by omega), cf_u (by omega)]; exact k6, fun g2 y g1 q2 q3 q4 q5 => ?_⟩, by rw [cf_u (by omega), cf_u (by omega)]; exact k4, Or.inl cf_s, fun g2 g1 q2 q3 => cf_s⟩
    rw [gf_u (by omega)] at q2 q3 q5
    rw [gf_u (by omega)] at q3 q5
    rw [cf_u (by omega), cf_u (by omega)]
    by_cases e2 : g2 = g
    · subst e2
      rw [h0] at q3
      exact absurd q3 (by decide)
    · rw [gf_u (by omega)] at q2
      exact kr g2 y g1 q2 q3 q4 q5
theorem grp_own {N : Nat → Int32} {f m c g : Nat} (h : GrpOk N f m) (hc : c < 4) (hg : g < m) (hm : m ≤ 40) : GrpOk (ownN N g c) f m := by
  unfold ownN
  split
  · exact h
  · intro g2 h2
    rw [gf_u (by omega), gf_u (by omega), gf_u (by omega), gf_u (by omega), gf_u (by omega), gf_u (by omega), gf_u (by omega), gf_u (by omega), gf_u (by omega), gf_u (by omega)]
    exact h g2 h2
theorem live_own {N : Nat → Int32} {m c g : Nat} (hc : c < 4) (hg : g < m) (hm : m ≤ 40) : live (ownN N g c) m = live N m := by
  refine live_eq (fun g2 h2 => ?_)
  unfold ownN
  split
  · exact Iff.rfl
  · rw [gf_u (by omega), gf_u (by omega)]
section
variable {X : pX} {d : Nat} {I : pI} {Q : Option Value → pG → pI → Prop} {o p o2 p2 : Nat} {N : Nat → Int32} {m : Nat} {L : List Nat}
theorem tkR_s {m k g r : Nat} {how : Int32} {N : Nat → Int32} : tkR m k g how (r + 1) N = if gf N g 4 < how then 1 + tkR m k g how r (psS N m k).1 else 0 := rfl
theorem h_tkLoop {f k g c limit : Nat} {how : Int32} (ho2 : IsHall o2 p2) (hg : g < m) (hc : c < k) (hk4 : k ≤ 4) (hf4 : f ≤ 12) (hlim : limit ≤ 2500) {a0 : Option Value}
    :
    ∀ r, r ≤ limit → ∀ (I1 : pI) (A B : Nat → Int32), HR o2 p2 I1 A m (live A m) → Fr o2 p2 I I1 → A 444 = nI f → GrpOk A f m → Own A f m c 0 → EqC c m A B → gf A g 3 = nI c → gf B g 4 < how →
    (∀ I', Fr o2 p2 I I' → Q (some (.int (tkV (limit - r + tkR m k g how (r + 1) B) limit))) G0 I') →
    At X (d + 3) 40 29 [a0, some (.int (nI g)), some (.int (nI c)), some (.int how), some (.int (nI limit)), some (.ref o2), some (.int (nI (limit - r + 1)))] [] G0 I1 Q := by
  intro r
  induction r with
  | zero =>
    intro _ I1 A B hr hF hf hgr hw he h3 h4 hQ
    rw [tkR_s, if_pos h4] at hQ
    have e1 : tkR m k g how 0 (psS B m k).1 = 0 := rfl
    rw [e1, Nat.sub_zero, Nat.add_zero] at hQ
    have n1 : limit < limit + 1 := by omega
    unfold tkV at hQ
    rw [if_neg (by omega)] at hQ
    rw [Nat.sub_zero]
    simp (disch := first | exact ok_i | exact ok_r | exact ok_n | exact cat_i | exact cat_r | exact t103 | exact t106 | exact t108 | exact t109 | exact t110 | exact t111 | exact t112 | exact ro_0 | exact ro_1 | omega | assumption | (refine i103 ?_; omega) | (refine i106 ?_; omega) | (refine i108 ?_; omega) | (refine i109 ?_; omega) | (refine i110 ?_; omega) | (refine i111 ?_; omega) | (refine i112 ?_; omega) | (simp only [List.map_cons, List.map_nil, List.sum_cons, List.sum_nil, cat_i, cat_r, cat_l, Nat.reduceAdd, Nat.reduceLeDiff]; done) | decide) only [s40_29, s40_31, s40_33, s40_66, s40_67, tl_s, tl_n, nI_add, pk_mul, i_cl, row_s, u2_row, i_le, i_lt, i_eq, if_true, if_false, Nat.le_refl, Nat.reduceEqDiff, Nat.reduceLeDiff, n1]
    exact hQ I1 hF
  | succ r ih =>
    intro hrl I1 A B hr hF hf hgr hw he h3 h4 hQ
    have ho := hr.ho
    have m40 := hr.m40
    have n1 : ¬ limit < limit - (r + 1) + 1 := by omega
    rw [tkR_s, if_pos h4] at hQ
    rw [s40_29]
    simp (disch := first | exact ok_i | exact ok_r | exact ok_n | exact cat_i | exact cat_r | exact ho.tag | exact ho.tg | exact ho.tj | exact ho.tp | exact ho.tC (by omega) (by omega) | exact ho.tA (by omega) (by omega) | exact ho.tJ (by omega) (by omega) | exact ro_0 | exact ro_1 | omega | assumption | exact ho.nC (by omega) | exact ho.nL (by omega) | exact ho.nD (by omega) | exact ho.nJ (by omega) (by omega) (by omega) | exact ho.nA (by omega) (by omega) (by omega) | (simp only [List.map_cons, List.map_nil, List.sum_cons, List.sum_nil, cat_i, cat_r, cat_l, Nat.reduceAdd, Nat.reduceLeDiff]; done) | decide) only [s40_31, s40_33, s40_36, s40_38, tl_s, tl_n, nI_add, pk_mul, i_cl, row_s, u2_row, i_le, i_lt, i_eq, if_true, if_false, Nat.le_refl, Nat.reduceEqDiff, Nat.reduceLeDiff, n1]
    rw [s40_39 (by simp only [List.map_cons, List.map_nil, List.sum_cons, List.sum_nil, cat_i, cat_r, cat_l, Nat.reduceAdd, Nat.reduceLeDiff]) ho.tag]
    refine h_move hr (by omega) hf hf4 hgr hw (fun I2 hr2 hF2 => ?_)
    have on := only_mvN (N := A) (c := c) (m := m) (by omega) m40
    have he2 := eqc_ps he m40 hk4 hc
    obtain ⟨w2, g2⟩ := own_mvN hw hgr (by omega) m40 hf4
    have f2 : mvN A c m 444 = nI f := by rw [on.2.2.2 444 (by omega) (by omega) (by omega)]; exact hf
    have h32 : gf (mvN A c m) g 3 = nI c := by rw [on.2.1 g 3 hg (by omega) (Or.inl (by omega))]; exact h3
    have h42 : gf (mvN A c m) g 4 = gf (psS B m k).1 g 4 := he2.2.2.1 g 4 hg (by omega) h32
    generalize mvN A c m = A2 at *
    generalize (psS B m k).1 = B2 at *
    simp (disch := first | exact ok_i | exact ok_r | exact ok_n | exact cat_i | exact cat_r | exact ho.tag | exact ho.tg | exact ho.tj | exact ho.tp | exact ho.tC (by omega) (by omega) | exact ho.tA (by omega) (by omega) | exact ho.tJ (by omega) (by omega) | exact ro_0 | exact ro_1 | omega | assumption | exact ho.nC (by omega) | exact ho.nL (by omega) | exact ho.nD (by omega) | exact ho.nJ (by omega) (by omega) (by omega) | exact ho.nA (by omega) (by omega) (by omega) | (simp only [List.map_cons, List.map_nil, List.sum_cons, List.sum_nil, cat_i, cat_r, cat_l, Nat.reduceAdd, Nat.reduceLeDiff]; done) | decide) only [s40_42, s40_43, s40_45, s40_48, s40_51, s40_52, s40_53, tl_s, tl_n, nI_add, pk_mul, i_cl, row_s, u2_row, i_le, i_lt, i_eq, if_true, if_false, Nat.le_refl, Nat.reduceEqDiff, Nat.reduceLeDiff, ho.r6, ho.r7, ho.r8, ho.r9, ho.rc, ho.g0, ho.g1, ho.g2, ho.g3, ho.g4, ho.g5, ho.g6, ho.g7, ho.g8, ho.j0, ho.j1, ho.j2, ho.j3, hr2.g4]
    rw [s40_54]
    by_cases c1 : gf B2 g 4 < how
    · rw [h42, if_pos c1]
      have e3 : limit - (r + 1) + 1 + 1 = limit - r + 1 := by omega
      simp (disch := first | exact ok_i | exact ok_r | exact ok_n | exact cat_i | exact cat_r | exact ho.tag | exact ho.tg | exact ho.tj | exact ho.tp | exact ho.tC (by omega) (by omega) | exact ho.tA (by omega) (by omega) | exact ho.tJ (by omega) (by omega) | exact ro_0 | exact ro_1 | omega | assumption | exact ho.nC (by omega) | exact ho.nL (by omega) | exact ho.nD (by omega) | exact ho.nJ (by omega) (by omega) (by omega) | exact ho.nA (by omega) (by omega) (by omega) | (simp only [List.map_cons, List.map_nil, List.sum_cons, List.sum_nil, cat_i, cat_r, cat_l, Nat.reduceAdd, Nat.reduceLeDiff]; done) | decide) only [s40_60, s40_63, tl_s, tl_n, nI_add, pk_mul, i_cl, row_s, u2_row, i_le, i_lt, i_eq, if_true, if_false, Nat.le_refl, Nat.reduceEqDiff, Nat.reduceLeDiff, e3]
      refine ih (by omega) I2 A2 B2 hr2 (hF.trans hF2) f2 g2 w2 he2 h32 c1 (fun I' hF' => ?_)
      have := hQ I' hF'
      rw [show limit - (r + 1) + (1 + tkR m k g how (r + 1) B2) = limit - r + tkR m k g how (r + 1) B2 by omega] at this
      exact this
    · rw [h42, if_neg c1]
      rw [tkR_s, if_neg c1] at hQ
      unfold tkV at hQ
      rw [if_pos (by omega)] at hQ
      simp (disch := first | exact ok_i | exact ok_r | exact ok_n | exact cat_i | exact cat_r | exact ho.tag | exact ho.tg | exact ho.tj | exact ho.tp | exact ho.tC (by omega) (by omega) | exact ho.tA (by omega) (by omega) | exact ho.tJ (by omega) (by omega) | exact ro_0 | exact ro_1 | omega | assumption | exact ho.nC (by omega) | exact ho.nL (by omega) | exact ho.nD (by omega) | exact ho.nJ (by omega) (by omega) (by omega) | exact ho.nA (by omega) (by omega) (by omega) | (simp only [List.map_cons, List.map_nil, List.sum_cons, List.sum_nil, cat_i, cat_r, cat_l, Nat.reduceAdd, Nat.reduceLeDiff]; done) | decide) only [s40_57, s40_59, tl_s, tl_n, nI_add, pk_mul, i_cl, row_s, u2_row, i_le, i_lt, i_eq, if_true, if_false, Nat.le_refl, Nat.reduceEqDiff, Nat.reduceLeDiff]
      exact hQ I2 (hF.trans hF2)
theorem h_ticksTill {f k g c limit : Nat} {how : Int32} (hr : HR o p I N m (live N m)) (hd : Deep o o2 p2) (hg : g < m) (hc : c < k) (hk4 : k ≤ 4) (hf : N 444 = nI f) (hf4 : f ≤ 12) (hgr : GrpOk N f m) (hwa : ∀ c, c < 4 → Own N f m c 0) (h0 : gf N g 4 = nI 0) (hh : how = nI 1 ∨ how = nI 2) (hlim : limit ≤ 2500)
    (h : ∀ I', Fr o2 p2 I I' → Q (some (.int (tkV (tkM N m k g c how limit) limit))) G0 I') : Call X (d + 4) 40 [.ref o, .int (nI g), .int (nI c), .int how, .int (nI limit)] G0 I Q := by
  have ho := hr.ho
  have ho2 := hd.hall
  have m40 := hr.m40
  have l1000 := hd.lt
  have hw := hwa c (by omega)
  obtain ⟨w1, e1⟩ := cf_own (g := g) hw (by omega) hg m40 h0
  have hz : ∀ c, c < 4 → cf N c 6 = nI 0 ∨ cf N c 6 = nI 1 := by
    intro c hc
    obtain ⟨⟨x, hx, k3, k6, kr⟩, -⟩ := hwa c hc
    rcases k6 with k6 | k6
    · exact Or.inl k6
    · exact Or.inr k6.1
  simp (disch := first | exact ok_i | exact ok_r | exact ok_n | exact cat_i | exact cat_r | exact ho.tag | exact ho.tg | exact ho.tj | exact ho.tp | exact ho.tC (by omega) (by omega) | exact ho.tA (by omega) (by omega) | exact ho.tJ (by omega) (by omega) | exact ho2.tag | exact ho2.tg | exact ho2.tj | exact ho2.tp | exact ho2.tC (by omega) (by omega) | exact ho2.tA (by omega) (by omega) | exact ho2.tJ (by omega) (by omega) | exact ro_0 | exact ro_1 | omega | assumption | exact k00 | exact k40 | exact k20 | exact k12 | exact ho.kA (by omega) (by omega) | exact ho.kL | exact ho.kD | exact ho.kJ (by omega) (by omega) | exact ho2.kA (by omega) (by omega) | exact ho2.kL | exact ho2.kD | exact ho2.kJ (by omega) (by omega) | exact ho.nC (by omega) | exact ho2.nC (by omega) | exact ho.nL (by omega) | exact ho.nD (by omega) | exact ho.nJ (by omega) (by omega) (by omega) | exact ho.nA (by omega) (by omega) (by omega) | (simp only [List.map_cons, List.map_nil, List.sum_cons, List.sum_nil, cat_i, cat_r, cat_l, Nat.reduceAdd, Nat.reduceLeDiff]; done) | decide) only [e40, s40_0, s40_1, s40_4, s40_6, s40_8, s40_11, s40_12, s40_13, s40_15, tl_s, tl_n, nI_add, pk_mul, i_cl, row_s, u2_row, i_le, i_lt, i_eq, if_true, if_false, Nat.le_refl, Nat.reduceEqDiff, Nat.reduceLeDiff, hd.r10]
  rw [s40_16 (by simp only [List.map_cons, List.map_nil, List.sum_cons, List.sum_nil, cat_i, cat_r, cat_l, Nat.reduceAdd, Nat.reduceLeDiff]) ho2.tag]
  refine h_become hr ho2 hd.ne hz (fun I1 hr1 hF1 => ?_)
  simp (disch := first | exact ok_i | exact ok_r | exact ok_n | exact cat_i | exact cat_r | exact ho.tag | exact ho.tg | exact ho.tj | exact ho.tp | exact ho.tC (by omega) (by omega) | exact ho.tA (by omega) (by omega) | exact ho.tJ (by omega) (by omega) | exact ho2.tag | exact ho2.tg | exact ho2.tj | exact ho2.tp | exact ho2.tC (by omega) (by omega) | exact ho2.tA (by omega) (by omega) | exact ho2.tJ (by omega) (by omega) | exact ro_0 | exact ro_1 | omega | assumption | exact k00 | exact k40 | exact k20 | exact k12 | exact ho.kA (by omega) (by omega) | exact ho.kL | exact ho.kD | exact ho.kJ (by omega) (by omega) | exact ho2.kA (by omega) (by omega) | exact ho2.kL | exact ho2.kD | exact ho2.kJ (by omega) (by omega) | exact ho.nC (by omega) | exact ho2.nC (by omega) | exact ho.nL (by omega) | exact ho.nD (by omega) | exact ho.nJ (by omega) (by omega) (by omega) | exact ho.nA (by omega) (by omega) (by omega) | (simp only [List.map_cons, List.map_nil, List.sum_cons, List.sum_nil, cat_i, cat_r, cat_l, Nat.reduceAdd, Nat.reduceLeDiff]; done) | decide) only [s40_19, s40_21, s40_22, tl_s, tl_n, nI_add, pk_mul, i_cl, row_s, u2_row, i_le, i_lt, i_eq, if_true, if_false, Nat.le_refl, Nat.reduceEqDiff, Nat.reduceLeDiff]
  rw [s40_23 (by simp only [List.map_cons, List.map_nil, List.sum_cons, List.sum_nil, cat_i, cat_r, cat_l, Nat.reduceAdd, Nat.reduceLeDiff]) ho2.tag]
  refine h_assign hr1 hg (by omega) (fun I2 hr2 hF2 => ?_)
  rw [e1] at hr2
  simp (disch := first | exact ok_i | exact ok_r | exact ok_n | exact cat_i | exact cat_r | exact ho.tag | exact ho.tg | exact ho.tj | exact ho.tp | exact ho.tC (by omega) (by omega) | exact ho.tA (by omega) (by omega) | exact ho.tJ (by omega) (by omega) | exact ho2.tag | exact ho2.tg | exact ho2.tj | exact ho2.tp | exact ho2.tC (by omega) (by omega) | exact ho2.tA (by omega) (by omega) | exact ho2.tJ (by omega) (by omega) | exact ro_0 | exact ro_1 | omega | assumption | exact k00 | exact k40 | exact k20 | exact k12 | exact ho.kA (by omega) (by omega) | exact ho.kL | exact ho.kD | exact ho.kJ (by omega) (by omega) | exact ho2.kA (by omega) (by omega) | exact ho2.kL | exact ho2.kD | exact ho2.kJ (by omega) (by omega) | exact ho.nC (by omega) | exact ho2.nC (by omega) | exact ho.nL (by omega) | exact ho.nD (by omega) | exact ho.nJ (by omega) (by omega) (by omega) | exact ho.nA (by omega) (by omega) (by omega) | (simp only [List.map_cons, List.map_nil, List.sum_cons, List.sum_nil, cat_i, cat_r, cat_l, Nat.reduceAdd, Nat.reduceLeDiff]; done) | decide) only [s40_26, s40_27, tl_s, tl_n, nI_add, pk_mul, i_cl, row_s, u2_row, i_le, i_lt, i_eq, if_true, if_false, Nat.le_refl, Nat.reduceEqDiff, Nat.reduceLeDiff]
  have h01 : gf (ownN N g c) g 4 = nI 0 := by
    unfold ownN
    split
    · exact h0
    · rw [gf_u (by omega), gf_u (by omega)]; exact h0
  have h03 : gf (ownN N g c) g 3 = nI c := by
    unfold ownN
    split
    · assumption
    · rw [gf_u (by omega)]; exact up_s
  have f2 : ownN N g c 444 = nI f := by rw [ownN_o (by omega) (by omega) (by omega)]; exact hf
  have key := h_tkLoop (X := X) (d := d) (I := I) (Q := Q) (a0 := some (.ref o)) (how := how) (f := f) ho2 hg hc hk4 hf4 hlim limit (Nat.le_refl _) I2 (ownN N g c) (ownN N g c) (by rw [live_own (by omega) hg m40]; exact hr2) (hF1.trans hF2) f2 (grp_own hgr (by omega) hg m40) w1 EqC.refl h03 (by rw [h01]; rcases hh with e | e <;> rw [e] <;> decide) (fun I' hF' => ?_)
  · rw [Nat.sub_self] at key
    exact key
  · rw [Nat.sub_self, Nat.zero_add]
    exact h I' hF'
end
