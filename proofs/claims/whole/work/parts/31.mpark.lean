/-! the model: regiving, parking -/
def CarOk (N : Nat → Int32) (m : Nat) : Prop := ∀ g, g < m → ∃ c, c < 4 ∧ gf N g 3 = nI c
def rgB (N : Nat → Int32) (m k g : Nat) : Bool := decide (gf N g 4 = nI 0) && !decide (gf N g 7 = nI 2) && decide (N 449 ≤ costM N m k g (gf N g 3).toNatClampNeg - costM N m k g (chS N m k g (k - 1)).1)
def rgF (m k g : Nat) (s : (Nat → Int32) × Nat) : (Nat → Int32) × Nat := if rgB s.1 m k g = true then (anewN s.1 g (chS s.1 m k g (k - 1)).1, s.2 + 1) else s
def rgS (N : Nat → Int32) (m k : Nat) : Nat → (Nat → Int32) × Nat := itr (rgF m k) (N, 0)
theorem gf_u {N : Nat → Int32} {g j a : Nat} {v : Int32} (h : 32 + 8 * g + j ≠ a) : gf (upd N a v) g j = gf N g j := up_n h
theorem gf_hap {N : Nat → Int32} {w : Int32} {g g2 j : Nat} (h : 32 + 8 * g + j < 364) : gf (hapM N w g2) g j = gf N g j := hap_o (Or.inl h)
theorem own_car {N : Nat → Int32} {g g2 c : Nat} (hg : g < 40) (hg2 : g2 < 40) (hc : c < 4) : gf (ownN N g c) g2 3 = if g2 = g then nI c else gf N g2 3 := by
  unfold ownN
  by_cases h : gf N g 3 = nI c
  · rw [if_pos h]
    by_cases h2 : g2 = g
    · rw [if_pos h2, h2, h]
    · rw [if_neg h2]
  · rw [if_neg h, gf_u (by omega)]
    by_cases h2 : g2 = g
    · rw [if_pos h2, h2]
      exact up_s
    · rw [if_neg h2, gf_u (by omega)]
theorem anew_car {N : Nat → Int32} {g g2 c : Nat} (hg : g < 40) (hg2 : g2 < 40) (hc : c < 4) : gf (anewN N g c) g2 3 = if g2 = g then nI c else gf N g2 3 := by
  unfold anewN
  rw [gf_hap (by omega), gf_u (by omega), own_car hg hg2 hc]
theorem CarOk.anew {N : Nat → Int32} {m g c : Nat} (h : CarOk N m) (hm4 : m ≤ 40) (hg : g < m) (hc : c < 4) : CarOk (anewN N g c) m := by
  intro g2 hg2
  rw [anew_car (by omega) (by omega) hc]
  by_cases h2 : g2 = g
  · exact ⟨c, hc, by rw [if_pos h2]⟩
  · rw [if_neg h2]; exact h g2 hg2
theorem rgS_ok {N : Nat → Int32} {m k : Nat} (hm4 : m ≤ 40) (hk1 : 1 ≤ k) (hk4 : k ≤ 4) (h : CarOk N m) : ∀ {n : Nat}, n ≤ m → CarOk (rgS N m k n).1 m ∧ (∀ a, 444 ≤ a → a ≠ 451 → (rgS N m k n).1 a = N a) ∧ (rgS N m k n).2 ≤ n
  | 0, _ => ⟨h, fun _ _ _ => rfl, Nat.le_refl _⟩
  | n + 1, hn => by
    obtain ⟨h1, h2, h3⟩ := rgS_ok (n := n) hm4 hk1 hk4 h (by omega)
    have hb : (chS (rgS N m k n).1 m k n (k - 1)).1 ≤ k - 1 := chS_le
    show CarOk (rgF m k n (rgS N m k n)).1 m ∧ (∀ a, 444 ≤ a → a ≠ 451 → (rgF m k n (rgS N m k n)).1 a = N a) ∧ (rgF m k n (rgS N m k n)).2 ≤ n + 1
    unfold rgF
    by_cases c : rgB (rgS N m k n).1 m k n = true
    · rw [if_pos c]
      exact ⟨h1.anew hm4 (by omega) (by omega), fun a ha hb => by show anewN _ _ _ a = N a; rw [anewN_o (by omega) (by omega) ha hb]; exact h2 a ha hb, by dsimp only; omega⟩
    · rw [if_neg c]
      exact ⟨h1, h2, by omega⟩
section
variable {X : pX} {d : Nat} {I : pI} {Q : Option Value → pG → pI → Prop} {N : Nat → Int32}
theorem c_rgStep {m k t g : Nat} {s : (Nat → Int32) × Nat} (hg : g < m) (hm : s.1 446 = nI m) (hm4 : m ≤ 40) (hk : s.1 445 = nI k) (hk1 : 1 ≤ k) (hk4 : k ≤ 4) (hok : CarOk s.1 m) (hI : I 102 4 = nI t) (ht : t < 4) {l : Option Value} (hl : okL l = true)
    (h : ∀ J l', Sm t I J → okL l' = true → At X (d + 11) 181 4 [some (.ref 102), some (.int (nI (rgF m k g s).2)), some (.int (nI (g + 1))), l'] [] G0 (row J 103 (rgF m k g s).1) Q) :
    At X (d + 11) 181 4 [some (.ref 102), some (.int (nI s.2)), some (.int (nI g)), l] [] G0 (row I 103 s.1) Q := by
  obtain ⟨N', n⟩ := s
  dsimp only at hm hk hok
  have h0 := fun l' hl' => h I l' Sm.refl hl'
  have n1 : ¬ m ≤ g := by omega
  unfold rgF rgB at h h0
  dsimp only at h h0
  rw [s181_4]
  simp (disch := first | exact ok_i | exact ok_r | exact ok_n | exact cat_i | exact cat_r | exact t103 | exact ro_0 | exact ro_1 | omega | assumption | (refine i103 ?_; omega) | (simp only [List.map_cons, List.map_nil, List.sum_cons, List.sum_nil, cat_i, cat_r, cat_l, Nat.reduceAdd, Nat.reduceLeDiff]; done) | decide) only [s181_5, s181_6, s181_9, s181_12, s181_13, s181_16, s181_17, s181_18, s181_21, tl_s, tl_n, nI_add, pk_mul, i_cl, row_s, u2_row, i_le, i_lt, i_eq, if_true, if_false, Nat.le_refl, Nat.reduceEqDiff, Nat.reduceLeDiff, hm, n1, c_pass, b2i_0]
  by_cases h1 : gf N' g 4 = nI 0
  · simp only [h1, decide_true, Bool.true_and] at h h0
    simp (disch := first | exact ok_i | exact ok_r | exact ok_n | exact cat_i | exact cat_r | exact t103 | exact ro_0 | exact ro_1 | omega | assumption | (refine i103 ?_; omega) | (simp only [List.map_cons, List.map_nil, List.sum_cons, List.sum_nil, cat_i, cat_r, cat_l, Nat.reduceAdd, Nat.reduceLeDiff]; done) | decide) only [h1, decide_true, Bool.true_eq_false, s181_24, s181_25, s181_26, s181_28, s181_31, s181_32, tl_s, tl_n, nI_add, pk_mul, i_cl, row_s, u2_row, i_le, i_lt, i_eq, if_true, if_false, Nat.le_refl, Nat.reduceEqDiff, Nat.reduceLeDiff, c_ofGroup]
    by_cases h2 : gf N' g 7 = nI 2
    · simp only [h2, decide_true, Bool.not_true, Bool.false_and, Bool.false_eq_true, if_false] at h0
      simp (disch := first | exact ok_i | exact ok_r | exact ok_n | exact cat_i | exact cat_r | exact t103 | exact ro_0 | exact ro_1 | omega | assumption | (refine i103 ?_; omega) | (simp only [List.map_cons, List.map_nil, List.sum_cons, List.sum_nil, cat_i, cat_r, cat_l, Nat.reduceAdd, Nat.reduceLeDiff]; done) | decide) only [h2, s181_35, s181_82, s181_85, tl_s, tl_n, nI_add, pk_mul, i_cl, row_s, u2_row, i_le, i_lt, i_eq, if_true, if_false, Nat.le_refl, Nat.reduceEqDiff, Nat.reduceLeDiff]
      exact h0 _ hl
    · simp only [h2, decide_false, Bool.not_false, Bool.true_and] at h h0
      simp (disch := first | exact ok_i | exact ok_r | exact ok_n | exact cat_i | exact cat_r | exact t103 | exact ro_0 | exact ro_1 | omega | assumption | (refine i103 ?_; omega) | (simp only [List.map_cons, List.map_nil, List.sum_cons, List.sum_nil, cat_i, cat_r, cat_l, Nat.reduceAdd, Nat.reduceLeDiff]; done) | decide) only [h2, s181_38, s181_39, tl_s, tl_n, nI_add, pk_mul, i_cl, row_s, u2_row, i_le, i_lt, i_eq, if_true, if_false, Nat.le_refl, Nat.reduceEqDiff, Nat.reduceLeDiff]
      rw [s181_40 (by decide)]
      refine c_cheapest (by omega) hm hm4 hk hk1 hk4 hI ht (fun J hJ => ?_)
      have hb : (chS N' m k g (k - 1)).1 ≤ k - 1 := chS_le
      obtain ⟨c0, hc0, hcar⟩ := hok g hg
      rw [hcar, i_cl (show c0 < 2147483648 by omega)] at h
      have hJ4 : J 102 4 = nI t := by rw [hJ.1 102 (by decide), hI]
      simp (disch := first | exact ok_i | exact ok_r | exact ok_n | exact cat_i | exact cat_r | exact t103 | exact ro_0 | exact ro_1 | omega | assumption | (refine i103 ?_; omega) | (simp only [List.map_cons, List.map_nil, List.sum_cons, List.sum_nil, cat_i, cat_r, cat_l, Nat.reduceAdd, Nat.reduceLeDiff]; done) | decide) only [s181_43, s181_44, s181_45, s181_46, s181_47, s181_48, s181_49, tl_s, tl_n, nI_add, pk_mul, i_cl, row_s, u2_row, i_le, i_lt, i_eq, if_true, if_false, Nat.le_refl, Nat.reduceEqDiff, Nat.reduceLeDiff, c_ofGroup, hcar]
      rw [s181_52 (by decide)]
      refine c_costOf (by omega) hc0 hm hm4 hk hk4 hJ4 ht (fun J1 hJ1 => ?_)
      have hJ14 : J1 102 4 = nI t := by rw [hJ1.1 102 (by decide), hJ4]
      simp (disch := first | exact ok_i | exact ok_r | exact ok_n | exact cat_i | exact cat_r | exact t103 | exact ro_0 | exact ro_1 | omega | assumption | (refine i103 ?_; omega) | (simp only [List.map_cons, List.map_nil, List.sum_cons, List.sum_nil, cat_i, cat_r, cat_l, Nat.reduceAdd, Nat.reduceLeDiff]; done) | decide) only [s181_55, s181_56, s181_57, tl_s, tl_n, nI_add, pk_mul, i_cl, row_s, u2_row, i_le, i_lt, i_eq, if_true, if_false, Nat.le_refl, Nat.reduceEqDiff, Nat.reduceLeDiff]
      rw [s181_58 (by simp only [List.map_cons, List.map_nil, List.sum_cons, List.sum_nil, cat_i, cat_r, cat_l, Nat.reduceAdd, Nat.reduceLeDiff])]
      refine c_costOf (by omega) (by omega) hm hm4 hk hk4 hJ14 ht (fun J2 hJ2 => ?_)
      have hs := (hJ.trans hJ1).trans hJ2
      simp (disch := first | exact ok_i | exact ok_r | exact ok_n | exact cat_i | exact cat_r | exact t103 | exact ro_0 | exact ro_1 | omega | assumption | (refine i103 ?_; omega) | (simp only [List.map_cons, List.map_nil, List.sum_cons, List.sum_nil, cat_i, cat_r, cat_l, Nat.reduceAdd, Nat.reduceLeDiff]; done) | decide) only [s181_61, s181_62, s181_63, s181_66, s181_69, s181_70, tl_s, tl_n, nI_add, pk_mul, i_cl, row_s, u2_row, i_le, i_lt, i_eq, if_true, if_false, Nat.le_refl, Nat.reduceEqDiff, Nat.reduceLeDiff]
      by_cases h3 : N' 449 ≤ costM N' m k g c0 - costM N' m k g (chS N' m k g (k - 1)).1
      · have h3' : ¬ costM N' m k g c0 - costM N' m k g (chS N' m k g (k - 1)).1 < N' 449 := Int32.not_lt.mpr h3
        simp only [h3, decide_true, if_true] at h
        simp (disch := first | exact ok_i | exact ok_r | exact ok_n | exact cat_i | exact cat_r | exact t103 | exact ro_0 | exact ro_1 | omega | assumption | (refine i103 ?_; omega) | (simp only [List.map_cons, List.map_nil, List.sum_cons, List.sum_nil, cat_i, cat_r, cat_l, Nat.reduceAdd, Nat.reduceLeDiff]; done) | decide) only [h3', s181_73, s181_74, s181_75, s181_76, s181_79, s181_82, s181_85, tl_s, tl_n, nI_add, pk_mul, i_cl, row_s, u2_row, i_le, i_lt, i_eq, if_true, if_false, Nat.le_refl, Nat.reduceEqDiff, Nat.reduceLeDiff, c_givesAnew]
        exact h J2 _ hs rfl
      · have h3' : costM N' m k g c0 - costM N' m k g (chS N' m k g (k - 1)).1 < N' 449 := Int32.not_le.mp h3
        simp only [h3, decide_false, Bool.false_eq_true, if_false] at h
        simp (disch := first | exact ok_i | exact ok_r | exact ok_n | exact cat_i | exact cat_r | exact t103 | exact ro_0 | exact ro_1 | omega | assumption | (refine i103 ?_; omega) | (simp only [List.map_cons, List.map_nil, List.sum_cons, List.sum_nil, cat_i, cat_r, cat_l, Nat.reduceAdd, Nat.reduceLeDiff]; done) | decide) only [h3', s181_82, s181_85, tl_s, tl_n, nI_add, pk_mul, i_cl, row_s, u2_row, i_le, i_lt, i_eq, if_true, if_false, Nat.le_refl, Nat.reduceEqDiff, Nat.reduceLeDiff]
        exact h J2 _ hs rfl
  · simp only [h1, decide_false, Bool.false_and, Bool.false_eq_true, if_false] at h0
    simp (disch := first | exact ok_i | exact ok_r | exact ok_n | exact cat_i | exact cat_r | exact t103 | exact ro_0 | exact ro_1 | omega | assumption | (refine i103 ?_; omega) | (simp only [List.map_cons, List.map_nil, List.sum_cons, List.sum_nil, cat_i, cat_r, cat_l, Nat.reduceAdd, Nat.reduceLeDiff]; done) | decide) only [h1, decide_false, s181_82, s181_85, tl_s, tl_n, nI_add, pk_mul, i_cl, row_s, u2_row, i_le, i_lt, i_eq, if_true, if_false, Nat.le_refl, Nat.reduceEqDiff, Nat.reduceLeDiff]
    exact h0 _ hl
theorem c_regive {m k t : Nat} (hm : N 446 = nI m) (hm4 : m ≤ 40) (hk : N 445 = nI k) (hk1 : 1 ≤ k) (hk4 : k ≤ 4) (hok : CarOk N m) (hI : I 102 4 = nI t) (ht : t < 4)
    (h : ∀ J, Sm t I J → Q (some (.int (nI (rgS N m k m).2))) G0 (row J 103 (rgS N m k m).1)) : Call X (d + 12) 181 [.ref 102] G0 (row I 103 N) Q := by
  simp (disch := first | exact ok_i | exact ok_r | exact ok_n | exact cat_i | exact cat_r | exact t103 | exact ro_0 | exact ro_1 | omega | assumption | (refine i103 ?_; omega) | (simp only [List.map_cons, List.map_nil, List.sum_cons, List.sum_nil, cat_i, cat_r, cat_l, Nat.reduceAdd, Nat.reduceLeDiff]; done) | decide) only [e181, s181_0, s181_1, s181_2, s181_3, tl_s, tl_n, nI_add, pk_mul, i_cl, row_s, u2_row, i_le, i_lt, i_eq, if_true, if_false, Nat.le_refl, Nat.reduceEqDiff, Nat.reduceLeDiff]
  have key : ∀ r, r ≤ m → ∀ l : Option Value, okL l = true → ∀ J, Sm t I J → At X (d + 11) 181 4 [some (.ref 102), some (.int (nI (rgS N m k (m - r)).2)), some (.int (nI (m - r))), l] [] G0 (row J 103 (rgS N m k (m - r)).1) Q := by
    intro r
    induction r with
    | zero =>
      intro _ l hl J hJ
      have hh := h J hJ
      have hm2 : (rgS N m k m).1 446 = nI m := by rw [(rgS_ok hm4 hk1 hk4 hok (Nat.le_refl m)).2.1 446 (by omega) (by omega), hm]
      simp (disch := first | exact ok_i | exact ok_r | exact ok_n | exact cat_i | exact cat_r | exact t103 | exact ro_0 | exact ro_1 | omega | assumption | (refine i103 ?_; omega) | (simp only [List.map_cons, List.map_nil, List.sum_cons, List.sum_nil, cat_i, cat_r, cat_l, Nat.reduceAdd, Nat.reduceLeDiff]; done) | decide) only [s181_4, s181_5, s181_6, s181_9, s181_12, s181_13, s181_88, s181_89, tl_s, tl_n, nI_add, pk_mul, i_cl, row_s, u2_row, i_le, i_lt, i_eq, if_true, if_false, Nat.le_refl, Nat.reduceEqDiff, Nat.reduceLeDiff, hm2, Nat.sub_zero]
      exact hh
    | succ r ih =>
      intro hr l hl J hJ
      obtain ⟨b1, b2, b3⟩ := rgS_ok hm4 hk1 hk4 hok (show m - (r + 1) ≤ m by omega)
      have e1 : m - r = m - (r + 1) + 1 := by omega
      refine c_rgStep (by omega) (by rw [b2 446 (by omega) (by omega), hm]) hm4 (by rw [b2 445 (by omega) (by omega), hk]) hk1 hk4 b1 (by rw [hJ.1 102 (by decide), hI]) ht hl (fun J' l' hJ' hl' => ?_)
      have ih' := ih (by omega) l' hl' J' (hJ.trans hJ')
      rw [e1] at ih'
      exact ih'
  have k0 := key m (Nat.le_refl _) none rfl I Sm.refl
  rw [Nat.sub_self] at k0
  exact k0
end
def aheadM (N : Nat → Int32) (a : Nat) : Nat → Nat := itr (fun b n => n + (if nI 0 < N (352 + b) - N (352 + a) ∨ (N (352 + b) - N (352 + a) = nI 0 ∧ b < a) then 1 else 0)) 0
/-- the floor of a rank: r floors are left -/
def fbR (N : Nat → Int32) (f : Nat) (i : Nat) : Nat → Option Nat
  | 0 => none
  | r + 1 => if aheadM N (f - (r + 1)) f = i then some (f - (r + 1)) else fbR N f i r
def o2i (o : Option Nat) : Int32 := match o with
  | some a => nI a
  | none => -1
theorem fbR_lt {N : Nat → Int32} {f i a : Nat} (hf : 1 ≤ f) : ∀ {r : Nat}, fbR N f i r = some a → a < f
  | 0, h => by cases h
  | r + 1, h => by
    unfold fbR at h
    by_cases c : aheadM N (f - (r + 1)) f = i
    · rw [if_pos c] at h
      injection h with h
      omega
    · rw [if_neg c] at h
      exact fbR_lt hf h
theorem aheadM_le {N : Nat → Int32} {a : Nat} : ∀ {n : Nat}, aheadM N a n ≤ n
  | 0 => Nat.le_refl _
  | n + 1 => by
    have h := aheadM_le (N := N) (a := a) (n := n)
    show aheadM N a n + (if nI 0 < N (352 + n) - N (352 + a) ∨ (N (352 + n) - N (352 + a) = nI 0 ∧ n < a) then 1 else 0) ≤ n + 1
    split <;> omega
/-- parking: the numbers, how many, the rank -/
def pkB (N : Nat → Int32) (m c : Nat) : Bool := decide (ownM N c m = 0) && decide (cf N c 7 = -1) && !decide (cf N c 6 = nI 1)
def pkF (m f c : Nat) (s : (Nat → Int32) × Nat × Nat) : (Nat → Int32) × Nat × Nat := if pkB s.1 m c = true then
    match fbR s.1 f s.2.2 f with
    | some a => if nI 0 < s.1 (352 + a) ∧ ¬ cf s.1 c 3 = nI a then (upd s.1 (8 * c + 7) (nI a), s.2.1 + 1, s.2.2 + 1) else (s.1, s.2.1, s.2.2 + 1)
    | none => (s.1, s.2.1, s.2.2 + 1)
  else s
def pkS (N : Nat → Int32) (m f : Nat) : Nat → (Nat → Int32) × Nat × Nat := itr (pkF m f) (N, 0, 0)
theorem pkS_ok {N : Nat → Int32} {m f : Nat} : ∀ {n : Nat}, n ≤ 4 → (∀ a, 32 ≤ a → (pkS N m f n).1 a = N a) ∧ (pkS N m f n).2.1 ≤ n ∧ (pkS N m f n).2.2 ≤ n
  | 0, _ => ⟨fun _ _ => rfl, Nat.le_refl _, Nat.le_refl _⟩
  | n + 1, hn => by
    obtain ⟨h1, h2, h3⟩ := pkS_ok (N := N) (m := m) (f := f) (n := n) (by omega)
    show (∀ a, 32 ≤ a → (pkF m f n (pkS N m f n)).1 a = N a) ∧ (pkF m f n (pkS N m f n)).2.1 ≤ n + 1 ∧ (pkF m f n (pkS N m f n)).2.2 ≤ n + 1
    unfold pkF
    by_cases c : pkB (pkS N m f n).1 m n = true
    · rw [if_pos c]
      cases fbR (pkS N m f n).1 f (pkS N m f n).2.2 f with
      | none => exact ⟨h1, by dsimp only; omega, by dsimp only; omega⟩
      | some a =>
        dsimp only
        by_cases c2 : nI 0 < (pkS N m f n).1 (352 + a) ∧ ¬ cf (pkS N m f n).1 n 3 = nI a
        · rw [if_pos c2]
          exact ⟨fun b hb => by show upd _ _ _ b = N b; rw [up_n (by omega)]; exact h1 b hb, by dsimp only; omega, by dsimp only; omega⟩
        · rw [if_neg c2]
          exact ⟨h1, by dsimp only; omega, by dsimp only; omega⟩
    · rw [if_neg c]
      exact ⟨h1, by omega, by omega⟩
theorem ownM_le {N : Nat → Int32} {c : Nat} : ∀ {m : Nat}, ownM N c m ≤ m
  | 0 => Nat.le_refl _
  | m + 1 => by
    have hh := ownM_le (N := N) (c := c) (m := m)
    show ownM N c m + (if gf N m 3 = nI c ∧ ¬ gf N m 4 = nI 2 then 1 else 0) ≤ m + 1
    split <;> omega
section
variable {X : pX} {d : Nat} {I : pI} {Q : Option Value → pG → pI → Prop} {N : Nat → Int32}
theorem c_aheadBy {f a : Nat} (hf : N 444 = nI f) (hf4 : f ≤ 12) (ha : a < 12) : Call X (d + 2) 182 [.ref 102, .int (nI a)] G0 (row I 103 N) Q ↔ Q (some (.int (nI (aheadM N a f)))) G0 (row I 103 N) := by
  simp (disch := first | exact ok_i | exact ok_r | exact ok_n | exact cat_i | exact cat_r | exact t103 | exact ro_0 | exact ro_1 | omega | assumption | (refine i103 ?_; omega) | (simp only [List.map_cons, List.map_nil, List.sum_cons, List.sum_nil, cat_i, cat_r, cat_l, Nat.reduceAdd, Nat.reduceLeDiff]; done) | decide) only [e182, s182_0, s182_1, s182_2, s182_3, tl_s, tl_n, nI_add, pk_mul, i_cl, row_s, u2_row, i_le, i_lt, i_eq, if_true, if_false, Nat.le_refl, Nat.reduceEqDiff, Nat.reduceLeDiff]
  have key : ∀ r, r ≤ f → ∀ l : Option Value, okL l = true → (At X (d + 1) 182 4 [some (.ref 102), some (.int (nI a)), some (.int (nI (aheadM N a (f - r)))), some (.int (nI (f - r))), l] [] G0 (row I 103 N) Q ↔ Q (some (.int (nI (aheadM N a f)))) G0 (row I 103 N)) := by
    intro r
    induction r with
    | zero =>
      intro _ l hl
      simp (disch := first | exact ok_i | exact ok_r | exact ok_n | exact cat_i | exact cat_r | exact t103 | exact ro_0 | exact ro_1 | omega | assumption | (refine i103 ?_; omega) | (simp only [List.map_cons, List.map_nil, List.sum_cons, List.sum_nil, cat_i, cat_r, cat_l, Nat.reduceAdd, Nat.reduceLeDiff]; done) | decide) only [s182_4, s182_5, s182_6, s182_9, s182_64, s182_65, tl_s, tl_n, nI_add, pk_mul, i_cl, row_s, u2_row, i_le, i_lt, i_eq, if_true, if_false, Nat.le_refl, Nat.reduceEqDiff, Nat.reduceLeDiff, c_floors, hf, Nat.sub_zero]
    | succ r ih =>
      intro hr l hl
      have n1 : ¬ f ≤ f - (r + 1) := by omega
      have e1 : f - (r + 1) + 1 = f - r := by omega
      have ih' := ih (by omega) (some (.int (N (352 + (f - (r + 1))) - N (352 + a)))) rfl
      have e2 : aheadM N a (f - r) = aheadM N a (f - (r + 1)) + (if nI 0 < N (352 + (f - (r + 1))) - N (352 + a) ∨ (N (352 + (f - (r + 1))) - N (352 + a) = nI 0 ∧ f - (r + 1) < a) then 1 else 0) := by
        rw [← e1]; rfl
      rw [e2] at ih'
      rw [s182_4, ← ih']
      simp (disch := first | exact ok_i | exact ok_r | exact ok_n | exact cat_i | exact cat_r | exact t103 | exact ro_0 | exact ro_1 | omega | assumption | (refine i103 ?_; omega) | (simp only [List.map_cons, List.map_nil, List.sum_cons, List.sum_nil, cat_i, cat_r, cat_l, Nat.reduceAdd, Nat.reduceLeDiff]; done) | decide) only [s182_5, s182_6, s182_9, s182_12, s182_13, s182_16, s182_19, s182_20, s182_21, s182_22, s182_23, s182_26, s182_29, s182_30, s182_31, s182_32, s182_33, s182_35, s182_36, s182_38, tl_s, tl_n, nI_add, pk_mul, i_cl, row_s, u2_row, i_le, i_lt, i_eq, if_true, if_false, Nat.le_refl, Nat.reduceEqDiff, Nat.reduceLeDiff, c_floors, hf, n1]
      by_cases h1 : nI 0 < N (352 + (f - (r + 1))) - N (352 + a)
      · simp (disch := first | exact ok_i | exact ok_r | exact ok_n | exact cat_i | exact cat_r | exact t103 | exact ro_0 | exact ro_1 | omega | assumption | (refine i103 ?_; omega) | (simp only [List.map_cons, List.map_nil, List.sum_cons, List.sum_nil, cat_i, cat_r, cat_l, Nat.reduceAdd, Nat.reduceLeDiff]; done) | decide) only [h1, s182_51, s182_52, s182_55, s182_56, s182_57, s182_58, s182_61, tl_s, tl_n, nI_add, pk_mul, i_cl, row_s, u2_row, i_le, i_lt, i_eq, if_true, if_false, Nat.le_refl, Nat.reduceEqDiff, Nat.reduceLeDiff, true_or, e1]
      · simp (disch := first | exact ok_i | exact ok_r | exact ok_n | exact cat_i | exact cat_r | exact t103 | exact ro_0 | exact ro_1 | omega | assumption | (refine i103 ?_; omega) | (simp only [List.map_cons, List.map_nil, List.sum_cons, List.sum_nil, cat_i, cat_r, cat_l, Nat.reduceAdd, Nat.reduceLeDiff]; done) | decide) only [h1, s182_41, s182_43, tl_s, tl_n, nI_add, pk_mul, i_cl, row_s, u2_row, i_le, i_lt, i_eq, if_true, if_false, Nat.le_refl, Nat.reduceEqDiff, Nat.reduceLeDiff, false_or]
        by_cases h2 : N (352 + (f - (r + 1))) - N (352 + a) = nI 0
        · simp (disch := first | exact ok_i | exact ok_r | exact ok_n | exact cat_i | exact cat_r | exact t103 | exact ro_0 | exact ro_1 | omega | assumption | (refine i103 ?_; omega) | (simp only [List.map_cons, List.map_nil, List.sum_cons, List.sum_nil, cat_i, cat_r, cat_l, Nat.reduceAdd, Nat.reduceLeDiff]; done) | decide) only [h2, s182_46, s182_47, s182_48, tl_s, tl_n, nI_add, pk_mul, i_cl, row_s, u2_row, i_le, i_lt, i_eq, if_true, if_false, Nat.le_refl, Nat.reduceEqDiff, Nat.reduceLeDiff, true_and]
          by_cases h3 : f - (r + 1) < a
          · have h3' : ¬ a ≤ f - (r + 1) := by omega
            simp (disch := first | exact ok_i | exact ok_r | exact ok_n | exact cat_i | exact cat_r | exact t103 | exact ro_0 | exact ro_1 | omega | assumption | (refine i103 ?_; omega) | (simp only [List.map_cons, List.map_nil, List.sum_cons, List.sum_nil, cat_i, cat_r, cat_l, Nat.reduceAdd, Nat.reduceLeDiff]; done) | decide) only [h3, h3', s182_51, s182_52, s182_55, s182_56, s182_57, s182_58, s182_61, tl_s, tl_n, nI_add, pk_mul, i_cl, row_s, u2_row, i_le, i_lt, i_eq, if_true, if_false, Nat.le_refl, Nat.reduceEqDiff, Nat.reduceLeDiff, e1]
          · have h3' : a ≤ f - (r + 1) := by omega
            simp (disch := first | exact ok_i | exact ok_r | exact ok_n | exact cat_i | exact cat_r | exact t103 | exact ro_0 | exact ro_1 | omega | assumption | (refine i103 ?_; omega) | (simp only [List.map_cons, List.map_nil, List.sum_cons, List.sum_nil, cat_i, cat_r, cat_l, Nat.reduceAdd, Nat.reduceLeDiff]; done) | decide) only [h3, h3', s182_55, s182_56, s182_57, s182_58, s182_61, tl_s, tl_n, nI_add, pk_mul, i_cl, row_s, u2_row, i_le, i_lt, i_eq, if_true, if_false, Nat.le_refl, Nat.reduceEqDiff, Nat.reduceLeDiff, e1]
        · simp (disch := first | exact ok_i | exact ok_r | exact ok_n | exact cat_i | exact cat_r | exact t103 | exact ro_0 | exact ro_1 | omega | assumption | (refine i103 ?_; omega) | (simp only [List.map_cons, List.map_nil, List.sum_cons, List.sum_nil, cat_i, cat_r, cat_l, Nat.reduceAdd, Nat.reduceLeDiff]; done) | decide) only [h2, s182_55, s182_56, s182_57, s182_58, s182_61, tl_s, tl_n, nI_add, pk_mul, i_cl, row_s, u2_row, i_le, i_lt, i_eq, if_true, if_false, Nat.le_refl, Nat.reduceEqDiff, Nat.reduceLeDiff, false_and, e1]
  have k0 := key f (Nat.le_refl _) none rfl
  rw [Nat.sub_self] at k0
  exact k0
theorem c_floorBy {f i : Nat} (hf : N 444 = nI f) (hf4 : f ≤ 12) (hi : i < 1000) : Call X (d + 3) 183 [.ref 102, .int (nI i)] G0 (row I 103 N) Q ↔ Q (some (.int (o2i (fbR N f i f)))) G0 (row I 103 N) := by
  simp (disch := first | exact ok_i | exact ok_r | exact ok_n | exact cat_i | exact cat_r | exact t103 | exact ro_0 | exact ro_1 | omega | assumption | (refine i103 ?_; omega) | (simp only [List.map_cons, List.map_nil, List.sum_cons, List.sum_nil, cat_i, cat_r, cat_l, Nat.reduceAdd, Nat.reduceLeDiff]; done) | decide) only [e183, s183_0, s183_1, tl_s, tl_n, nI_add, pk_mul, i_cl, row_s, u2_row, i_le, i_lt, i_eq, if_true, if_false, Nat.le_refl, Nat.reduceEqDiff, Nat.reduceLeDiff]
  have key : ∀ r, r ≤ f → (At X (d + 2) 183 2 [some (.ref 102), some (.int (nI i)), some (.int (nI (f - r)))] [] G0 (row I 103 N) Q ↔ Q (some (.int (o2i (fbR N f i r)))) G0 (row I 103 N)) := by
    intro r
    induction r with
    | zero =>
      intro _
      simp (disch := first | exact ok_i | exact ok_r | exact ok_n | exact cat_i | exact cat_r | exact t103 | exact ro_0 | exact ro_1 | omega | assumption | (refine i103 ?_; omega) | (simp only [List.map_cons, List.map_nil, List.sum_cons, List.sum_nil, cat_i, cat_r, cat_l, Nat.reduceAdd, Nat.reduceLeDiff]; done) | decide) only [s183_2, s183_3, s183_4, s183_7, s183_27, s183_28, tl_s, tl_n, nI_add, pk_mul, i_cl, row_s, u2_row, i_le, i_lt, i_eq, if_true, if_false, Nat.le_refl, Nat.reduceEqDiff, Nat.reduceLeDiff, c_floors, hf, Nat.sub_zero, fbR, o2i]
    | succ r ih =>
      intro hr
      have n1 : ¬ f ≤ f - (r + 1) := by omega
      have e1 : f - (r + 1) + 1 = f - r := by omega
      have ih' := ih (by omega)
      have hl : aheadM N (f - (r + 1)) f ≤ f := aheadM_le
      rw [s183_2]
      simp (disch := first | exact ok_i | exact ok_r | exact ok_n | exact cat_i | exact cat_r | exact t103 | exact ro_0 | exact ro_1 | omega | assumption | (refine i103 ?_; omega) | (simp only [List.map_cons, List.map_nil, List.sum_cons, List.sum_nil, cat_i, cat_r, cat_l, Nat.reduceAdd, Nat.reduceLeDiff]; done) | decide) only [s183_3, s183_4, s183_7, s183_10, s183_11, s183_12, s183_15, s183_16, tl_s, tl_n, nI_add, pk_mul, i_cl, row_s, u2_row, i_le, i_lt, i_eq, if_true, if_false, Nat.le_refl, Nat.reduceEqDiff, Nat.reduceLeDiff, c_floors, hf, n1, c_aheadBy hf hf4]
      unfold fbR
      by_cases h1 : aheadM N (f - (r + 1)) f = i
      · simp (disch := first | exact ok_i | exact ok_r | exact ok_n | exact cat_i | exact cat_r | exact t103 | exact ro_0 | exact ro_1 | omega | assumption | (refine i103 ?_; omega) | (simp only [List.map_cons, List.map_nil, List.sum_cons, List.sum_nil, cat_i, cat_r, cat_l, Nat.reduceAdd, Nat.reduceLeDiff]; done) | decide) only [h1, s183_19, s183_20, tl_s, tl_n, nI_add, pk_mul, i_cl, row_s, u2_row, i_le, i_lt, i_eq, if_true, if_false, Nat.le_refl, Nat.reduceEqDiff, Nat.reduceLeDiff, o2i]
      · simp (disch := first | exact ok_i | exact ok_r | exact ok_n | exact cat_i | exact cat_r | exact t103 | exact ro_0 | exact ro_1 | omega | assumption | (refine i103 ?_; omega) | (simp only [List.map_cons, List.map_nil, List.sum_cons, List.sum_nil, cat_i, cat_r, cat_l, Nat.reduceAdd, Nat.reduceLeDiff]; done) | decide) only [h1, s183_21, s183_24, tl_s, tl_n, nI_add, pk_mul, i_cl, row_s, u2_row, i_le, i_lt, i_eq, if_true, if_false, Nat.le_refl, Nat.reduceEqDiff, Nat.reduceLeDiff, e1, ih']
  have k0 := key f (Nat.le_refl _)
  rw [Nat.sub_self] at k0
  exact k0
theorem c_pkStep {m f c k : Nat} {s : (Nat → Int32) × Nat × Nat} {l : Option Value} (hl : okL l = true) (hc : c < k) (hk : s.1 445 = nI k) (hk4 : k ≤ 4) (hm : s.1 446 = nI m) (hm4 : m ≤ 40) (hf : s.1 444 = nI f) (hf1 : 1 ≤ f) (hf4 : f ≤ 12) (hs : s.2.2 < 100)
    (h : ∀ l', okL l' = true → At X (d + 3) 184 6 [some (.ref 102), some (.int (nI (pkF m f c s).2.1)), some (.int (nI (pkF m f c s).2.2)), some (.int (nI (c + 1))), l'] [] G0 (row I 103 (pkF m f c s).1) Q) :
    At X (d + 3) 184 6 [some (.ref 102), some (.int (nI s.2.1)), some (.int (nI s.2.2)), some (.int (nI c)), l] [] G0 (row I 103 s.1) Q := by
  obtain ⟨N', n, i⟩ := s
  dsimp only at hm hk hf hs
  have n1 : ¬ k ≤ c := by omega
  have ho : ownM N' c m ≤ m := ownM_le
  unfold pkF pkB at h
  dsimp only at h
  rw [s184_6]
  simp (disch := first | exact ok_i | exact ok_r | exact ok_n | exact cat_i | exact cat_r | exact t103 | exact ro_0 | exact ro_1 | omega | assumption | (refine i103 ?_; omega) | (simp only [List.map_cons, List.map_nil, List.sum_cons, List.sum_nil, cat_i, cat_r, cat_l, Nat.reduceAdd, Nat.reduceLeDiff]; done) | decide) only [s184_7, s184_8, s184_11, s184_14, s184_15, s184_18, s184_19, s184_20, s184_23, tl_s, tl_n, nI_add, pk_mul, i_cl, row_s, u2_row, i_le, i_lt, i_eq, if_true, if_false, Nat.le_refl, Nat.reduceEqDiff, Nat.reduceLeDiff, hk, n1, c_own hm hm4]
  by_cases h1 : ownM N' c m = 0
  · have h1' : ¬ 0 < ownM N' c m := by omega
    simp only [h1, decide_true, Bool.true_and] at h
    simp (disch := first | exact ok_i | exact ok_r | exact ok_n | exact cat_i | exact cat_r | exact t103 | exact ro_0 | exact ro_1 | omega | assumption | (refine i103 ?_; omega) | (simp only [List.map_cons, List.map_nil, List.sum_cons, List.sum_nil, cat_i, cat_r, cat_l, Nat.reduceAdd, Nat.reduceLeDiff]; done) | decide) only [h1, s184_26, s184_27, s184_28, s184_30, s184_33, s184_34, tl_s, tl_n, nI_add, pk_mul, i_cl, row_s, u2_row, i_le, i_lt, i_eq, if_true, if_false, Nat.le_refl, Nat.reduceEqDiff, Nat.reduceLeDiff, c_of, Nat.lt_irrefl]
    by_cases h2 : cf N' c 7 = -1
    · simp only [h2, decide_true, Bool.true_and] at h
      simp (disch := first | exact ok_i | exact ok_r | exact ok_n | exact cat_i | exact cat_r | exact t103 | exact ro_0 | exact ro_1 | omega | assumption | (refine i103 ?_; omega) | (simp only [List.map_cons, List.map_nil, List.sum_cons, List.sum_nil, cat_i, cat_r, cat_l, Nat.reduceAdd, Nat.reduceLeDiff]; done) | decide) only [h2, s184_37, s184_38, s184_39, s184_41, s184_44, s184_45, tl_s, tl_n, nI_add, pk_mul, i_cl, row_s, u2_row, i_le, i_lt, i_eq, if_true, if_false, Nat.le_refl, Nat.reduceEqDiff, Nat.reduceLeDiff, c_of]
      by_cases h3 : cf N' c 6 = nI 1
      · simp only [h3, decide_true, Bool.not_true, Bool.false_eq_true, if_false] at h
        simp (disch := first | exact ok_i | exact ok_r | exact ok_n | exact cat_i | exact cat_r | exact t103 | exact ro_0 | exact ro_1 | omega | assumption | (refine i103 ?_; omega) | (simp only [List.map_cons, List.map_nil, List.sum_cons, List.sum_nil, cat_i, cat_r, cat_l, Nat.reduceAdd, Nat.reduceLeDiff]; done) | decide) only [h3, s184_48, s184_108, s184_111, tl_s, tl_n, nI_add, pk_mul, i_cl, row_s, u2_row, i_le, i_lt, i_eq, if_true, if_false, Nat.le_refl, Nat.reduceEqDiff, Nat.reduceLeDiff]
        exact h l hl
      · simp only [h3, decide_false, Bool.not_false, if_true] at h
        simp (disch := first | exact ok_i | exact ok_r | exact ok_n | exact cat_i | exact cat_r | exact t103 | exact ro_0 | exact ro_1 | omega | assumption | (refine i103 ?_; omega) | (simp only [List.map_cons, List.map_nil, List.sum_cons, List.sum_nil, cat_i, cat_r, cat_l, Nat.reduceAdd, Nat.reduceLeDiff]; done) | decide) only [h3, s184_51, s184_52, s184_53, s184_56, s184_58, s184_61, s184_63, s184_64, tl_s, tl_n, nI_add, pk_mul, i_cl, row_s, u2_row, i_le, i_lt, i_eq, if_true, if_false, Nat.le_refl, Nat.reduceEqDiff, Nat.reduceLeDiff, c_floorBy hf hf4]
        cases h4 : fbR N' f i f with
        | none =>
          simp only [h4] at h
          simp (disch := first | exact ok_i | exact ok_r | exact ok_n | exact cat_i | exact cat_r | exact t103 | exact ro_0 | exact ro_1 | omega | assumption | (refine i103 ?_; omega) | (simp only [List.map_cons, List.map_nil, List.sum_cons, List.sum_nil, cat_i, cat_r, cat_l, Nat.reduceAdd, Nat.reduceLeDiff]; done) | decide) only [o2i, s184_108, s184_111, tl_s, tl_n, nI_add, pk_mul, i_cl, row_s, u2_row, i_le, i_lt, i_eq, if_true, if_false, Nat.le_refl, Nat.reduceEqDiff, Nat.reduceLeDiff]
          exact h _ rfl
        | some a =>
          have ha := fbR_lt hf1 h4
          simp only [h4] at h
          have n2 : ¬ nI a = -1 := by
            intro e
            have := congrArg Int32.toInt e
            rw [i_toInt (by omega)] at this
            have e2 : (-1 : Int32).toInt = -1 := by decide
            omega
          have n3 : mmax (nI 0) (nI a) = nI a := by
            unfold mmax
            by_cases e : a = 0
            · subst e; simp
            · rw [if_pos (by rw [i_lt (by omega) (by omega)]; omega)]
          simp (disch := first | exact ok_i | exact ok_r | exact ok_n | exact cat_i | exact cat_r | exact t103 | exact ro_0 | exact ro_1 | omega | assumption | (refine i103 ?_; omega) | (simp only [List.map_cons, List.map_nil, List.sum_cons, List.sum_nil, cat_i, cat_r, cat_l, Nat.reduceAdd, Nat.reduceLeDiff]; done) | decide) only [o2i, n2, n3, s184_67, s184_68, s184_71, s184_74, s184_75, s184_77, s184_80, s184_81, s184_82, tl_s, tl_n, nI_add, pk_mul, i_cl, row_s, u2_row, i_le, i_lt, i_eq, if_true, if_false, Nat.le_refl, Nat.reduceEqDiff, Nat.reduceLeDiff]
          by_cases h5 : nI 0 < N' (352 + a)
          · have h5' : ¬ N' (352 + a) ≤ nI 0 := Int32.not_le.mpr h5
            simp only [h5, true_and] at h
            simp (disch := first | exact ok_i | exact ok_r | exact ok_n | exact cat_i | exact cat_r | exact t103 | exact ro_0 | exact ro_1 | omega | assumption | (refine i103 ?_; omega) | (simp only [List.map_cons, List.map_nil, List.sum_cons, List.sum_nil, cat_i, cat_r, cat_l, Nat.reduceAdd, Nat.reduceLeDiff]; done) | decide) only [h5', s184_85, s184_86, s184_87, s184_88, s184_91, s184_93, tl_s, tl_n, nI_add, pk_mul, i_cl, row_s, u2_row, i_le, i_lt, i_eq, if_true, if_false, Nat.le_refl, Nat.reduceEqDiff, Nat.reduceLeDiff, c_of]
            by_cases h6 : cf N' c 3 = nI a
            · simp only [h6, not_true, if_false] at h
              simp (disch := first | exact ok_i | exact ok_r | exact ok_n | exact cat_i | exact cat_r | exact t103 | exact ro_0 | exact ro_1 | omega | assumption | (refine i103 ?_; omega) | (simp only [List.map_cons, List.map_nil, List.sum_cons, List.sum_nil, cat_i, cat_r, cat_l, Nat.reduceAdd, Nat.reduceLeDiff]; done) | decide) only [h6, s184_108, s184_111, tl_s, tl_n, nI_add, pk_mul, i_cl, row_s, u2_row, i_le, i_lt, i_eq, if_true, if_false, Nat.le_refl, Nat.reduceEqDiff, Nat.reduceLeDiff]
              exact h _ rfl
            · simp only [h6, not_false_eq_true, if_true] at h
              simp (disch := first | exact ok_i | exact ok_r | exact ok_n | exact cat_i | exact cat_r | exact t103 | exact ro_0 | exact ro_1 | omega | assumption | (refine i103 ?_; omega) | (simp only [List.map_cons, List.map_nil, List.sum_cons, List.sum_nil, cat_i, cat_r, cat_l, Nat.reduceAdd, Nat.reduceLeDiff]; done) | decide) only [h6, s184_96, s184_97, s184_98, s184_100, s184_102, s184_105, s184_108, s184_111, tl_s, tl_n, nI_add, pk_mul, i_cl, row_s, u2_row, i_le, i_lt, i_eq, if_true, if_false, Nat.le_refl, Nat.reduceEqDiff, Nat.reduceLeDiff, c_sets]
              exact h _ rfl
          · have h5' : N' (352 + a) ≤ nI 0 := Int32.not_lt.mp h5
            simp only [h5, false_and, if_false] at h
            simp (disch := first | exact ok_i | exact ok_r | exact ok_n | exact cat_i | exact cat_r | exact t103 | exact ro_0 | exact ro_1 | omega | assumption | (refine i103 ?_; omega) | (simp only [List.map_cons, List.map_nil, List.sum_cons, List.sum_nil, cat_i, cat_r, cat_l, Nat.reduceAdd, Nat.reduceLeDiff]; done) | decide) only [h5', s184_108, s184_111, tl_s, tl_n, nI_add, pk_mul, i_cl, row_s, u2_row, i_le, i_lt, i_eq, if_true, if_false, Nat.le_refl, Nat.reduceEqDiff, Nat.reduceLeDiff]
            exact h _ rfl
    · simp only [h2, decide_false, Bool.false_and, Bool.false_eq_true, if_false] at h
      simp (disch := first | exact ok_i | exact ok_r | exact ok_n | exact cat_i | exact cat_r | exact t103 | exact ro_0 | exact ro_1 | omega | assumption | (refine i103 ?_; omega) | (simp only [List.map_cons, List.map_nil, List.sum_cons, List.sum_nil, cat_i, cat_r, cat_l, Nat.reduceAdd, Nat.reduceLeDiff]; done) | decide) only [h2, s184_108, s184_111, tl_s, tl_n, nI_add, pk_mul, i_cl, row_s, u2_row, i_le, i_lt, i_eq, if_true, if_false, Nat.le_refl, Nat.reduceEqDiff, Nat.reduceLeDiff]
      exact h l hl
  · have h1' : 0 < ownM N' c m := by omega
    simp only [h1, decide_false, Bool.false_and, Bool.false_eq_true, if_false] at h
    simp (disch := first | exact ok_i | exact ok_r | exact ok_n | exact cat_i | exact cat_r | exact t103 | exact ro_0 | exact ro_1 | omega | assumption | (refine i103 ?_; omega) | (simp only [List.map_cons, List.map_nil, List.sum_cons, List.sum_nil, cat_i, cat_r, cat_l, Nat.reduceAdd, Nat.reduceLeDiff]; done) | decide) only [h1', s184_108, s184_111, tl_s, tl_n, nI_add, pk_mul, i_cl, row_s, u2_row, i_le, i_lt, i_eq, if_true, if_false, Nat.le_refl, Nat.reduceEqDiff, Nat.reduceLeDiff]
    exact h l hl
theorem c_park {m k f : Nat} (hk : N 445 = nI k) (hk4 : k ≤ 4) (hm : N 446 = nI m) (hm4 : m ≤ 40) (hf : N 444 = nI f) (hf1 : 1 ≤ f) (hf4 : f ≤ 12)
    (h : Q (some (.int (nI (pkS N m f k).2.1))) G0 (row I 103 (pkS N m f k).1)) : Call X (d + 4) 184 [.ref 102] G0 (row I 103 N) Q := by
  simp (disch := first | exact ok_i | exact ok_r | exact ok_n | exact cat_i | exact cat_r | exact t103 | exact ro_0 | exact ro_1 | omega | assumption | (refine i103 ?_; omega) | (simp only [List.map_cons, List.map_nil, List.sum_cons, List.sum_nil, cat_i, cat_r, cat_l, Nat.reduceAdd, Nat.reduceLeDiff]; done) | decide) only [e184, s184_0, s184_1, s184_2, s184_3, s184_4, s184_5, tl_s, tl_n, nI_add, pk_mul, i_cl, row_s, u2_row, i_le, i_lt, i_eq, if_true, if_false, Nat.le_refl, Nat.reduceEqDiff, Nat.reduceLeDiff]
  have key : ∀ r, r ≤ k → ∀ l : Option Value, okL l = true → At X (d + 3) 184 6 [some (.ref 102), some (.int (nI (pkS N m f (k - r)).2.1)), some (.int (nI (pkS N m f (k - r)).2.2)), some (.int (nI (k - r))), l] [] G0 (row I 103 (pkS N m f (k - r)).1) Q := by
    intro r
    induction r with
    | zero =>
      intro _ l hl
      obtain ⟨b1, b2, b3⟩ := pkS_ok (N := N) (m := m) (f := f) hk4
      have hk2 : (pkS N m f k).1 445 = nI k := by rw [b1 445 (by omega), hk]
      simp (disch := first | exact ok_i | exact ok_r | exact ok_n | exact cat_i | exact cat_r | exact t103 | exact ro_0 | exact ro_1 | omega | assumption | (refine i103 ?_; omega) | (simp only [List.map_cons, List.map_nil, List.sum_cons, List.sum_nil, cat_i, cat_r, cat_l, Nat.reduceAdd, Nat.reduceLeDiff]; done) | decide) only [s184_6, s184_7, s184_8, s184_11, s184_14, s184_15, s184_114, s184_115, tl_s, tl_n, nI_add, pk_mul, i_cl, row_s, u2_row, i_le, i_lt, i_eq, if_true, if_false, Nat.le_refl, Nat.reduceEqDiff, Nat.reduceLeDiff, hk2, Nat.sub_zero]
      exact h
    | succ r ih =>
      intro hr l hl
      obtain ⟨b1, b2, b3⟩ := pkS_ok (N := N) (m := m) (f := f) (show k - (r + 1) ≤ 4 by omega)
      have e1 : k - r = k - (r + 1) + 1 := by omega
      refine c_pkStep (k := k) hl (by omega) (by rw [b1 445 (by omega), hk]) hk4 (by rw [b1 446 (by omega), hm]) hm4 (by rw [b1 444 (by omega), hf]) hf1 hf4 (by omega) (fun l' hl' => ?_)
      have ih' := ih (by omega) l' hl'
      rw [e1] at ih'
      exact ih'
  have k0 := key k (Nat.le_refl _) none rfl
  rw [Nat.sub_self] at k0
  exact k0
end
