/-! the model: the rest of what is asked -/
def soF (N : Nat → Int32) (m k g : Nat) (c : Nat) (s : Option Nat × Int32) : Option Nat × Int32 :=
  let n := if cf N c 2 < gf N g 2 then nI 2502 else nI (tkM N m k g c (nI 2) 2500)
  (if n < s.2 then some c else s.1, mmin s.2 n)
def soS (N : Nat → Int32) (m k g : Nat) : Nat → Option Nat × Int32 := itr (soF N m k g) (none, nI 2502)
def sooV (N : Nat → Int32) (m k : Nat) (x : Int32) : Int32 := if inR x m = true then (if gf N (tN x) 4 = nI 0 then o2i (soS N m k (tN x) k).1 else -3) else -2
def chN (N : Nat → Int32) (f k : Nat) (z w : Int32) : Nat → Nat := itr (fun i n => n + (if ¬ dwV N f k (z + nI i) 3 (nI 1) = -1 ∧ dwV N f k (z + nI i) 3 (nI 1) ≤ w then 1 else 0)) 0
theorem chN_le {N : Nat → Int32} {f k : Nat} {z w : Int32} : ∀ {n : Nat}, chN N f k z w n ≤ n
  | 0 => Nat.le_refl _
  | n + 1 => by
    have h := chN_le (N := N) (f := f) (k := k) (z := z) (w := w) (n := n)
    show chN N f k z w n + (if ¬ dwV N f k (z + nI n) 3 (nI 1) = -1 ∧ dwV N f k (z + nI n) 3 (nI 1) ≤ w then 1 else 0) ≤ n + 1
    split <;> omega
def chaV (N : Nat → Int32) (f k : Nat) (z a w p : Int32) : Int32 := if (inL a 1 6 && inL w 0 999 && inL p 0 1) = true then nI ((if p = nI 0 then chN N f k z w (tN a) else tN a) / Nat.gcd (chN N f k z w (tN a)) (tN a)) else -2
def tsS (N : Nat → Int32) (m k : Nat) : Nat → (Nat → Int32) × Nat := itr (fun _ s => ((psS s.1 m k).1, s.2 + (psS s.1 m k).2)) (N, 0)
theorem tsS_ok {N : Nat → Int32} {m k : Nat} (hm4 : m ≤ 40) (hk4 : k ≤ 4) : ∀ {n : Nat}, (∀ a, fixP a → (tsS N m k n).1 a = N a) ∧ (tsS N m k n).2 ≤ n * 160
  | 0 => ⟨fun _ _ => rfl, Nat.zero_le _⟩
  | n + 1 => by
    obtain ⟨h1, h2⟩ := tsS_ok (N := N) (n := n) hm4 hk4
    have h3 : (psS (tsS N m k n).1 m k).2 ≤ k * m := psS_le
    have h4 : k * m ≤ 4 * 40 := Nat.mul_le_mul hk4 hm4
    refine ⟨fun a ha => ?_, ?_⟩
    · show (psS (tsS N m k n).1 m k).1 a = N a
      rw [psS_o hm4 ha hk4, h1 a ha]
    · show (tsS N m k n).2 + (psS (tsS N m k n).1 m k).2 ≤ (n + 1) * 160
      omega
def mnB (N : Nat → Int32) : Nat → Nat := itr (fun g n => n + (if gf N g 4 = nI 0 then 0 else 1)) 0
def mnW (N : Nat → Int32) : Nat → Int32 := itr (fun g n => n + (if gf N g 4 = nI 0 then nI 0 else gf N g 6)) (nI 0)
theorem mnB_le {N : Nat → Int32} : ∀ {n : Nat}, mnB N n ≤ n
  | 0 => Nat.le_refl _
  | n + 1 => by
    have h := mnB_le (N := N) (n := n)
    show mnB N n + (if gf N n 4 = nI 0 then 0 else 1) ≤ n + 1
    split <;> omega
section
variable {X : pX} {d : Nat} {I : pI} {Q : Option Value → pG → pI → Prop} {N : Nat → Int32} {G : pG}
theorem c_soStep {m k t g c : Nat} {s : Option Nat × Int32} {l : Option Value} (hl : okL l = true) (hg : g < 40) (hc : c < k) (hm : N 446 = nI m) (hm4 : m ≤ 40) (hk : N 445 = nI k) (hk4 : k ≤ 4) (hI : I 102 4 = nI t) (ht : t < 4)
    (h : ∀ J l', Sm t I J → okL l' = true → At X (d + 9) 199 31 [some (.ref 102), some (.int (nI g)), some (.int (o2i (soF N m k g c s).1)), some (.int (soF N m k g c s).2), some (.int (nI (c + 1))), l'] [] G0 (row J 103 N) Q) :
    At X (d + 9) 199 31 [some (.ref 102), some (.int (nI g)), some (.int (o2i s.1)), some (.int s.2), some (.int (nI c)), l] [] G0 (row I 103 N) Q := by
  have n1 : ¬ k ≤ c := by omega
  have fin : ∀ J, Sm t I J → ∀ v : Int32, v = (if cf N c 2 < gf N g 2 then nI 2502 else nI (tkM N m k g c (nI 2) 2500)) → At X (d + 9) 199 76 [some (.ref 102), some (.int (nI g)), some (.int (o2i s.1)), some (.int s.2), some (.int (nI c)), l] [.int v] G0 (row J 103 N) Q := by
    intro J hJ v hv
    have hh := h J (some (.int v)) hJ rfl
    unfold soF at hh
    rw [← hv] at hh
    dsimp only at hh
    by_cases h1 : v < s.2
    · have h1' : ¬ s.2 ≤ v := Int32.not_le.mpr h1
      rw [if_pos h1] at hh
      simp (disch := first | exact ok_i | exact ok_r | exact ok_n | exact cat_i | exact cat_r | exact t103 | exact ro_0 | exact ro_1 | omega | assumption | (refine i103 ?_; omega) | (simp only [List.map_cons, List.map_nil, List.sum_cons, List.sum_nil, cat_i, cat_r, cat_l, Nat.reduceAdd, Nat.reduceLeDiff]; done) | decide) only [s199_76, s199_78, s199_80, s199_81, s199_84, s199_86, s199_89, s199_90, s199_91, s199_92, s199_94, s199_97, s199_98, s199_101, tl_s, tl_n, nI_add, pk_mul, i_cl, row_s, u2_row, i_le, i_lt, i_eq, if_true, if_false, Nat.le_refl, Nat.reduceEqDiff, Nat.reduceLeDiff, h1']
      exact hh
    · have h1' : s.2 ≤ v := Int32.not_lt.mp h1
      rw [if_neg h1] at hh
      simp (disch := first | exact ok_i | exact ok_r | exact ok_n | exact cat_i | exact cat_r | exact t103 | exact ro_0 | exact ro_1 | omega | assumption | (refine i103 ?_; omega) | (simp only [List.map_cons, List.map_nil, List.sum_cons, List.sum_nil, cat_i, cat_r, cat_l, Nat.reduceAdd, Nat.reduceLeDiff]; done) | decide) only [s199_76, s199_78, s199_80, s199_81, s199_84, s199_86, s199_89, s199_90, s199_91, s199_92, s199_94, s199_97, s199_98, s199_101, tl_s, tl_n, nI_add, pk_mul, i_cl, row_s, u2_row, i_le, i_lt, i_eq, if_true, if_false, Nat.le_refl, Nat.reduceEqDiff, Nat.reduceLeDiff, h1']
      exact hh
  rw [s199_31]
  simp (disch := first | exact ok_i | exact ok_r | exact ok_n | exact cat_i | exact cat_r | exact t103 | exact ro_0 | exact ro_1 | omega | assumption | (refine i103 ?_; omega) | (simp only [List.map_cons, List.map_nil, List.sum_cons, List.sum_nil, cat_i, cat_r, cat_l, Nat.reduceAdd, Nat.reduceLeDiff]; done) | decide) only [s199_33, s199_34, s199_37, s199_40, s199_41, s199_44, s199_45, s199_47, s199_48, s199_49, s199_50, s199_53, s199_56, tl_s, tl_n, nI_add, pk_mul, i_cl, row_s, u2_row, i_le, i_lt, i_eq, if_true, if_false, Nat.le_refl, Nat.reduceEqDiff, Nat.reduceLeDiff, hk, n1, c_ofGroup, c_hasRoom]
  by_cases h2 : cf N c 2 < gf N g 2
  · rw [if_pos h2] at fin
    simp (disch := first | exact ok_i | exact ok_r | exact ok_n | exact cat_i | exact cat_r | exact t103 | exact ro_0 | exact ro_1 | omega | assumption | (refine i103 ?_; omega) | (simp only [List.map_cons, List.map_nil, List.sum_cons, List.sum_nil, cat_i, cat_r, cat_l, Nat.reduceAdd, Nat.reduceLeDiff]; done) | decide) only [h2, s199_73, tl_s, tl_n, nI_add, pk_mul, i_cl, row_s, u2_row, i_le, i_lt, i_eq, if_true, if_false, Nat.le_refl, Nat.reduceEqDiff, Nat.reduceLeDiff]
    exact fin I Sm.refl _ rfl
  · rw [if_neg h2] at fin
    simp (disch := first | exact ok_i | exact ok_r | exact ok_n | exact cat_i | exact cat_r | exact t103 | exact ro_0 | exact ro_1 | omega | assumption | (refine i103 ?_; omega) | (simp only [List.map_cons, List.map_nil, List.sum_cons, List.sum_nil, cat_i, cat_r, cat_l, Nat.reduceAdd, Nat.reduceLeDiff]; done) | decide) only [h2, n10, s199_59, s199_60, s199_61, s199_63, s199_64, tl_s, tl_n, nI_add, pk_mul, i_cl, row_s, u2_row, i_le, i_lt, i_eq, if_true, if_false, Nat.le_refl, Nat.reduceEqDiff, Nat.reduceLeDiff]
    rw [s199_67 (by simp only [List.map_cons, List.map_nil, List.sum_cons, List.sum_nil, cat_i, cat_r, cat_l, Nat.reduceAdd, Nat.reduceLeDiff])]
    refine c_ticksTill hg (by omega) hm hm4 hk hk4 (by omega) hI ht (fun J hJ => ?_)
    simp (disch := first | exact ok_i | exact ok_r | exact ok_n | exact cat_i | exact cat_r | exact t103 | exact ro_0 | exact ro_1 | omega | assumption | (refine i103 ?_; omega) | (simp only [List.map_cons, List.map_nil, List.sum_cons, List.sum_nil, cat_i, cat_r, cat_l, Nat.reduceAdd, Nat.reduceLeDiff]; done) | decide) only [s199_70, tl_s, tl_n, nI_add, pk_mul, i_cl, row_s, u2_row, i_le, i_lt, i_eq, if_true, if_false, Nat.le_refl, Nat.reduceEqDiff, Nat.reduceLeDiff]
    exact fin J hJ _ rfl
theorem c_soonest {m k t : Nat} {x : Int32} (hm : N 446 = nI m) (hm4 : m ≤ 40) (hk : N 445 = nI k) (hk4 : k ≤ 4) (hI : I 102 4 = nI t) (ht : t < 4)
    (h : ∀ J, Sm t I J → Q (some (.int (sooV N m k x))) G0 (row J 103 N)) : Call X (d + 10) 199 [.ref 102, .int x] G0 (row I 103 N) Q := by
  have h0 := h I Sm.refl
  unfold sooV at h h0
  simp (disch := first | exact ok_i | exact ok_r | exact ok_n | exact cat_i | exact cat_r | exact t103 | exact ro_0 | exact ro_1 | omega | assumption | (refine i103 ?_; omega) | (simp only [List.map_cons, List.map_nil, List.sum_cons, List.sum_nil, cat_i, cat_r, cat_l, Nat.reduceAdd, Nat.reduceLeDiff]; done) | decide) only [e199, s199_0, s199_1, s199_2, s199_5, tl_s, tl_n, nI_add, pk_mul, i_cl, row_s, u2_row, i_le, i_lt, i_eq, if_true, if_false, Nat.le_refl, Nat.reduceEqDiff, Nat.reduceLeDiff, c_group hm hm4, b2i_0]
  cases h1 : inR x m
  · simp only [h1, Bool.false_eq_true, if_false] at h0
    simp (disch := first | exact ok_i | exact ok_r | exact ok_n | exact cat_i | exact cat_r | exact t103 | exact ro_0 | exact ro_1 | omega | assumption | (refine i103 ?_; omega) | (simp only [List.map_cons, List.map_nil, List.sum_cons, List.sum_nil, cat_i, cat_r, cat_l, Nat.reduceAdd, Nat.reduceLeDiff]; done) | decide) only [s199_8, s199_10, tl_s, tl_n, nI_add, pk_mul, i_cl, row_s, u2_row, i_le, i_lt, i_eq, if_true, if_false, Nat.le_refl, Nat.reduceEqDiff, Nat.reduceLeDiff]
    exact h0
  · simp only [h1, if_true] at h h0
    obtain ⟨hx, hx4⟩ := inR_t h1
    generalize tN x = g at *
    subst hx
    simp (disch := first | exact ok_i | exact ok_r | exact ok_n | exact cat_i | exact cat_r | exact t103 | exact ro_0 | exact ro_1 | omega | assumption | (refine i103 ?_; omega) | (simp only [List.map_cons, List.map_nil, List.sum_cons, List.sum_nil, cat_i, cat_r, cat_l, Nat.reduceAdd, Nat.reduceLeDiff]; done) | decide) only [s199_11, s199_12, s199_13, s199_16, tl_s, tl_n, nI_add, pk_mul, i_cl, row_s, u2_row, i_le, i_lt, i_eq, if_true, if_false, Nat.le_refl, Nat.reduceEqDiff, Nat.reduceLeDiff, c_pass, b2i_0, Bool.true_eq_false]
    by_cases h4 : gf N g 4 = nI 0
    · simp only [h4, if_true] at h
      simp (disch := first | exact ok_i | exact ok_r | exact ok_n | exact cat_i | exact cat_r | exact t103 | exact ro_0 | exact ro_1 | omega | assumption | (refine i103 ?_; omega) | (simp only [List.map_cons, List.map_nil, List.sum_cons, List.sum_nil, cat_i, cat_r, cat_l, Nat.reduceAdd, Nat.reduceLeDiff]; done) | decide) only [h4, decide_true, Bool.true_eq_false, s199_22, s199_23, s199_24, s199_27, s199_28, s199_29, tl_s, tl_n, nI_add, pk_mul, i_cl, row_s, u2_row, i_le, i_lt, i_eq, if_true, if_false, Nat.le_refl, Nat.reduceEqDiff, Nat.reduceLeDiff]
      have key : ∀ r, r ≤ k → ∀ J l, Sm t I J → okL l = true → At X (d + 9) 199 31 [some (.ref 102), some (.int (nI g)), some (.int (o2i (soS N m k g (k - r)).1)), some (.int (soS N m k g (k - r)).2), some (.int (nI (k - r))), l] [] G0 (row J 103 N) Q := by
        intro r
        induction r with
        | zero =>
          intro _ J l hJ hl
          have hh := h J hJ
          rw [s199_31]
          simp (disch := first | exact ok_i | exact ok_r | exact ok_n | exact cat_i | exact cat_r | exact t103 | exact ro_0 | exact ro_1 | omega | assumption | (refine i103 ?_; omega) | (simp only [List.map_cons, List.map_nil, List.sum_cons, List.sum_nil, cat_i, cat_r, cat_l, Nat.reduceAdd, Nat.reduceLeDiff]; done) | decide) only [s199_33, s199_34, s199_37, s199_40, s199_41, s199_104, s199_105, tl_s, tl_n, nI_add, pk_mul, i_cl, row_s, u2_row, i_le, i_lt, i_eq, if_true, if_false, Nat.le_refl, Nat.reduceEqDiff, Nat.reduceLeDiff, hk, Nat.sub_zero]
          exact hh
        | succ r ih =>
          intro hr J l hJ hl
          have e1 : k - r = k - (r + 1) + 1 := by omega
          refine c_soStep hl (by omega) (by omega) hm hm4 hk hk4 (by rw [hJ.1 102 (by decide), hI]) ht (fun J' l' hJ' hl' => ?_)
          have ih' := ih (by omega) J' l' (hJ.trans hJ') hl'
          rw [e1] at ih'
          exact ih'
      have k0 := key k (Nat.le_refl _) I none Sm.refl rfl
      rw [Nat.sub_self] at k0
      exact k0
    · simp only [h4, if_false] at h0
      simp (disch := first | exact ok_i | exact ok_r | exact ok_n | exact cat_i | exact cat_r | exact t103 | exact ro_0 | exact ro_1 | omega | assumption | (refine i103 ?_; omega) | (simp only [List.map_cons, List.map_nil, List.sum_cons, List.sum_nil, cat_i, cat_r, cat_l, Nat.reduceAdd, Nat.reduceLeDiff]; done) | decide) only [h4, decide_false, s199_19, s199_21, tl_s, tl_n, nI_add, pk_mul, i_cl, row_s, u2_row, i_le, i_lt, i_eq, if_true, if_false, Nat.le_refl, Nat.reduceEqDiff, Nat.reduceLeDiff]
      exact h0
theorem c_drawn {f k m t : Nat} {z y x : Int32} (hB : Bnd N f k m) (hI : I 102 4 = nI t) (ht : t < 3)
    (h : ∀ J, Sm t I J → Q (some (.int (if (inL y 0 6 && inL x 0 2) = true then dwV N f k z (tN y) x else -2))) G0 (row J 103 N)) : Call X (d + 14) 201 [.ref 102, .int z, .int y, .int x] G0 (row I 103 N) Q := by
  have h0 := h I Sm.refl
  simp (disch := first | exact ok_i | exact ok_r | exact ok_n | exact cat_i | exact cat_r | exact t103 | exact ro_0 | exact ro_1 | omega | assumption | (refine i103 ?_; omega) | (simp only [List.map_cons, List.map_nil, List.sum_cons, List.sum_nil, cat_i, cat_r, cat_l, Nat.reduceAdd, Nat.reduceLeDiff]; done) | decide) only [e201, s201_0, s201_1, s201_2, s201_3, s201_6, s201_9, tl_s, tl_n, nI_add, pk_mul, i_cl, row_s, u2_row, i_le, i_lt, i_eq, if_true, if_false, Nat.le_refl, Nat.reduceEqDiff, Nat.reduceLeDiff, c_inL, b2i_0]
  cases h1 : inL y 0 6
  · simp only [h1, Bool.false_and, Bool.false_eq_true, if_false] at h0
    simp (disch := first | exact ok_i | exact ok_r | exact ok_n | exact cat_i | exact cat_r | exact t103 | exact ro_0 | exact ro_1 | omega | assumption | (refine i103 ?_; omega) | (simp only [List.map_cons, List.map_nil, List.sum_cons, List.sum_nil, cat_i, cat_r, cat_l, Nat.reduceAdd, Nat.reduceLeDiff]; done) | decide) only [s201_34, s201_36, tl_s, tl_n, nI_add, pk_mul, i_cl, row_s, u2_row, i_le, i_lt, i_eq, if_true, if_false, Nat.le_refl, Nat.reduceEqDiff, Nat.reduceLeDiff]
    exact h0
  · simp only [h1, Bool.true_and] at h h0
    simp (disch := first | exact ok_i | exact ok_r | exact ok_n | exact cat_i | exact cat_r | exact t103 | exact ro_0 | exact ro_1 | omega | assumption | (refine i103 ?_; omega) | (simp only [List.map_cons, List.map_nil, List.sum_cons, List.sum_nil, cat_i, cat_r, cat_l, Nat.reduceAdd, Nat.reduceLeDiff]; done) | decide) only [s201_12, s201_13, s201_14, s201_15, s201_18, s201_21, tl_s, tl_n, nI_add, pk_mul, i_cl, row_s, u2_row, i_le, i_lt, i_eq, if_true, if_false, Nat.le_refl, Nat.reduceEqDiff, Nat.reduceLeDiff, c_inL, b2i_0, Bool.true_eq_false]
    cases h2 : inL x 0 2
    · simp only [h2, Bool.false_eq_true, if_false] at h0
      simp (disch := first | exact ok_i | exact ok_r | exact ok_n | exact cat_i | exact cat_r | exact t103 | exact ro_0 | exact ro_1 | omega | assumption | (refine i103 ?_; omega) | (simp only [List.map_cons, List.map_nil, List.sum_cons, List.sum_nil, cat_i, cat_r, cat_l, Nat.reduceAdd, Nat.reduceLeDiff]; done) | decide) only [s201_34, s201_36, tl_s, tl_n, nI_add, pk_mul, i_cl, row_s, u2_row, i_le, i_lt, i_eq, if_true, if_false, Nat.le_refl, Nat.reduceEqDiff, Nat.reduceLeDiff]
      exact h0
    · simp only [h2, if_true] at h
      obtain ⟨hy, hy1, hy2⟩ := inL_t h1
      generalize tN y = n at *
      subst hy
      simp (disch := first | exact ok_i | exact ok_r | exact ok_n | exact cat_i | exact cat_r | exact t103 | exact ro_0 | exact ro_1 | omega | assumption | (refine i103 ?_; omega) | (simp only [List.map_cons, List.map_nil, List.sum_cons, List.sum_nil, cat_i, cat_r, cat_l, Nat.reduceAdd, Nat.reduceLeDiff]; done) | decide) only [s201_24, s201_25, s201_26, s201_27, tl_s, tl_n, nI_add, pk_mul, i_cl, row_s, u2_row, i_le, i_lt, i_eq, if_true, if_false, Nat.le_refl, Nat.reduceEqDiff, Nat.reduceLeDiff, Bool.true_eq_false]
      rw [s201_28 (by simp only [List.map_cons, List.map_nil, List.sum_cons, List.sum_nil, cat_i, cat_r, cat_l, Nat.reduceAdd, Nat.reduceLeDiff])]
      refine c_drawnBy hB hy2 hI ht (fun J hJ => ?_)
      simp (disch := first | exact ok_i | exact ok_r | exact ok_n | exact cat_i | exact cat_r | exact t103 | exact ro_0 | exact ro_1 | omega | assumption | (refine i103 ?_; omega) | (simp only [List.map_cons, List.map_nil, List.sum_cons, List.sum_nil, cat_i, cat_r, cat_l, Nat.reduceAdd, Nat.reduceLeDiff]; done) | decide) only [s201_31, s201_34, s201_36, tl_s, tl_n, nI_add, pk_mul, i_cl, row_s, u2_row, i_le, i_lt, i_eq, if_true, if_false, Nat.le_refl, Nat.reduceEqDiff, Nat.reduceLeDiff]
      exact h J hJ
theorem c_chance {f k m t : Nat} {z a w p : Int32} (hB : Bnd N f k m) (hI : I 102 4 = nI t) (ht : t < 3)
    (h : ∀ J, Sm t I J → Q (some (.int (chaV N f k z a w p))) G0 (row J 103 N)) : Call X (d + 14) 202 [.ref 102, .int z, .int a, .int w, .int p] G0 (row I 103 N) Q := by
  have h0 := h I Sm.refl
  unfold chaV at h h0
  simp (disch := first | exact ok_i | exact ok_r | exact ok_n | exact cat_i | exact cat_r | exact t103 | exact ro_0 | exact ro_1 | omega | assumption | (refine i103 ?_; omega) | (simp only [List.map_cons, List.map_nil, List.sum_cons, List.sum_nil, cat_i, cat_r, cat_l, Nat.reduceAdd, Nat.reduceLeDiff]; done) | decide) only [e202, s202_0, s202_1, s202_2, s202_3, s202_6, s202_9, tl_s, tl_n, nI_add, pk_mul, i_cl, row_s, u2_row, i_le, i_lt, i_eq, if_true, if_false, Nat.le_refl, Nat.reduceEqDiff, Nat.reduceLeDiff, c_inL, b2i_0]
  cases h1 : inL a 1 6
  · simp only [h1, Bool.false_and, Bool.false_eq_true, if_false] at h0
    simp (disch := first | exact ok_i | exact ok_r | exact ok_n | exact cat_i | exact cat_r | exact t103 | exact ro_0 | exact ro_1 | omega | assumption | (refine i103 ?_; omega) | (simp only [List.map_cons, List.map_nil, List.sum_cons, List.sum_nil, cat_i, cat_r, cat_l, Nat.reduceAdd, Nat.reduceLeDiff]; done) | decide) only [s202_32, s202_34, tl_s, tl_n, nI_add, pk_mul, i_cl, row_s, u2_row, i_le, i_lt, i_eq, if_true, if_false, Nat.le_refl, Nat.reduceEqDiff, Nat.reduceLeDiff]
    exact h0
  · simp only [h1, Bool.true_and] at h h0
    simp (disch := first | exact ok_i | exact ok_r | exact ok_n | exact cat_i | exact cat_r | exact t103 | exact ro_0 | exact ro_1 | omega | assumption | (refine i103 ?_; omega) | (simp only [List.map_cons, List.map_nil, List.sum_cons, List.sum_nil, cat_i, cat_r, cat_l, Nat.reduceAdd, Nat.reduceLeDiff]; done) | decide) only [s202_12, s202_13, s202_14, s202_15, s202_18, s202_21, tl_s, tl_n, nI_add, pk_mul, i_cl, row_s, u2_row, i_le, i_lt, i_eq, if_true, if_false, Nat.le_refl, Nat.reduceEqDiff, Nat.reduceLeDiff, c_inL, b2i_0, Bool.true_eq_false]
    cases h2 : inL w 0 999
    · simp only [h2, Bool.false_and, Bool.false_eq_true, if_false] at h0
      simp (disch := first | exact ok_i | exact ok_r | exact ok_n | exact cat_i | exact cat_r | exact t103 | exact ro_0 | exact ro_1 | omega | assumption | (refine i103 ?_; omega) | (simp only [List.map_cons, List.map_nil, List.sum_cons, List.sum_nil, cat_i, cat_r, cat_l, Nat.reduceAdd, Nat.reduceLeDiff]; done) | decide) only [s202_32, s202_34, tl_s, tl_n, nI_add, pk_mul, i_cl, row_s, u2_row, i_le, i_lt, i_eq, if_true, if_false, Nat.le_refl, Nat.reduceEqDiff, Nat.reduceLeDiff]
      exact h0
    · simp only [h2, Bool.true_and] at h h0
      simp (disch := first | exact ok_i | exact ok_r | exact ok_n | exact cat_i | exact cat_r | exact t103 | exact ro_0 | exact ro_1 | omega | assumption | (refine i103 ?_; omega) | (simp only [List.map_cons, List.map_nil, List.sum_cons, List.sum_nil, cat_i, cat_r, cat_l, Nat.reduceAdd, Nat.reduceLeDiff]; done) | decide) only [s202_24, s202_26, s202_29, tl_s, tl_n, nI_add, pk_mul, i_cl, row_s, u2_row, i_le, i_lt, i_eq, if_true, if_false, Nat.le_refl, Nat.reduceEqDiff, Nat.reduceLeDiff, c_isPart, b2i_0, Bool.true_eq_false]
      cases h3 : inL p 0 1
      · simp only [h3, Bool.false_eq_true, if_false] at h0
        simp (disch := first | exact ok_i | exact ok_r | exact ok_n | exact cat_i | exact cat_r | exact t103 | exact ro_0 | exact ro_1 | omega | assumption | (refine i103 ?_; omega) | (simp only [List.map_cons, List.map_nil, List.sum_cons, List.sum_nil, cat_i, cat_r, cat_l, Nat.reduceAdd, Nat.reduceLeDiff]; done) | decide) only [s202_32, s202_34, tl_s, tl_n, nI_add, pk_mul, i_cl, row_s, u2_row, i_le, i_lt, i_eq, if_true, if_false, Nat.le_refl, Nat.reduceEqDiff, Nat.reduceLeDiff]
        exact h0
      · simp only [h3, if_true] at h
        obtain ⟨hy, hy1, hy2⟩ := inL_t h1
        generalize tN a = n at *
        subst hy
        simp (disch := first | exact ok_i | exact ok_r | exact ok_n | exact cat_i | exact cat_r | exact t103 | exact ro_0 | exact ro_1 | omega | assumption | (refine i103 ?_; omega) | (simp only [List.map_cons, List.map_nil, List.sum_cons, List.sum_nil, cat_i, cat_r, cat_l, Nat.reduceAdd, Nat.reduceLeDiff]; done) | decide) only [s202_35, s202_36, s202_38, s202_39, tl_s, tl_n, nI_add, pk_mul, i_cl, row_s, u2_row, i_le, i_lt, i_eq, if_true, if_false, Nat.le_refl, Nat.reduceEqDiff, Nat.reduceLeDiff, Bool.true_eq_false]
        have key : ∀ r, r ≤ n → ∀ J l, Sm t I J → okL l = true → At X (d + 13) 202 41 [some (.ref 102), some (.int z), some (.int (nI n)), some (.int w), some (.int p), some (.int (nI (chN N f k z w (n - r)))), some (.int (nI (n - r))), l] [] G0 (row J 103 N) Q := by
          intro r
          induction r with
          | zero =>
            intro _ J l hJ hl
            have hh := h J hJ
            have hc : chN N f k z w n ≤ n := chN_le
            rw [s202_41]
            simp (disch := first | exact ok_i | exact ok_r | exact ok_n | exact cat_i | exact cat_r | exact t103 | exact ro_0 | exact ro_1 | omega | assumption | (refine i103 ?_; omega) | (simp only [List.map_cons, List.map_nil, List.sum_cons, List.sum_nil, cat_i, cat_r, cat_l, Nat.reduceAdd, Nat.reduceLeDiff]; done) | decide) only [s202_43, s202_44, s202_87, s202_89, s202_90, tl_s, tl_n, nI_add, pk_mul, i_cl, row_s, u2_row, i_le, i_lt, i_eq, if_true, if_false, Nat.le_refl, Nat.reduceEqDiff, Nat.reduceLeDiff, Nat.sub_zero]
            rw [s202_92 (by simp only [List.map_cons, List.map_nil, List.sum_cons, List.sum_nil, cat_i, cat_r, cat_l, Nat.reduceAdd, Nat.reduceLeDiff]), c_lowest (by omega) (by omega) (by omega)]
            simp (disch := first | exact ok_i | exact ok_r | exact ok_n | exact cat_i | exact cat_r | exact t103 | exact ro_0 | exact ro_1 | omega | assumption | (refine i103 ?_; omega) | (simp only [List.map_cons, List.map_nil, List.sum_cons, List.sum_nil, cat_i, cat_r, cat_l, Nat.reduceAdd, Nat.reduceLeDiff]; done) | decide) only [s202_95, tl_s, tl_n, nI_add, pk_mul, i_cl, row_s, u2_row, i_le, i_lt, i_eq, if_true, if_false, Nat.le_refl, Nat.reduceEqDiff, Nat.reduceLeDiff]
            exact hh
          | succ r ih =>
            intro hr J l hJ hl
            have n1 : ¬ n ≤ n - (r + 1) := by omega
            have e1 : n - (r + 1) + 1 = n - r := by omega
            have ih' := ih (by omega)
            have e2 : chN N f k z w (n - r) = chN N f k z w (n - (r + 1)) + (if ¬ dwV N f k (z + nI (n - (r + 1))) 3 (nI 1) = -1 ∧ dwV N f k (z + nI (n - (r + 1))) 3 (nI 1) ≤ w then 1 else 0) := by rw [← e1]; rfl
            rw [e2] at ih'
            rw [s202_41]
            simp (disch := first | exact ok_i | exact ok_r | exact ok_n | exact cat_i | exact cat_r | exact t103 | exact ro_0 | exact ro_1 | omega | assumption | (refine i103 ?_; omega) | (simp only [List.map_cons, List.map_nil, List.sum_cons, List.sum_nil, cat_i, cat_r, cat_l, Nat.reduceAdd, Nat.reduceLeDiff]; done) | decide) only [s202_43, s202_44, s202_47, s202_48, s202_49, s202_51, s202_52, s202_53, tl_s, tl_n, nI_add, pk_mul, i_cl, row_s, u2_row, i_le, i_lt, i_eq, if_true, if_false, Nat.le_refl, Nat.reduceEqDiff, Nat.reduceLeDiff, n1]
            rw [s202_54 (by simp only [List.map_cons, List.map_nil, List.sum_cons, List.sum_nil, cat_i, cat_r, cat_l, Nat.reduceAdd, Nat.reduceLeDiff])]
            refine c_drawnBy hB (by omega) (by rw [hJ.1 102 (by decide), hI]) ht (fun J2 hJ2 => ?_)
            generalize dwV N f k (z + nI (n - (r + 1))) 3 (nI 1) = v at *
            have ih2 := ih' J2 (some (.int v)) (hJ.trans hJ2) rfl
            simp (disch := first | exact ok_i | exact ok_r | exact ok_n | exact cat_i | exact cat_r | exact t103 | exact ro_0 | exact ro_1 | omega | assumption | (refine i103 ?_; omega) | (simp only [List.map_cons, List.map_nil, List.sum_cons, List.sum_nil, cat_i, cat_r, cat_l, Nat.reduceAdd, Nat.reduceLeDiff]; done) | decide) only [s202_57, s202_59, s202_61, s202_63, s202_64, tl_s, tl_n, nI_add, pk_mul, i_cl, row_s, u2_row, i_le, i_lt, i_eq, if_true, if_false, Nat.le_refl, Nat.reduceEqDiff, Nat.reduceLeDiff]
            by_cases h4 : v = -1
            · simp only [h4, not_true, false_and, if_false] at ih2
              simp (disch := first | exact ok_i | exact ok_r | exact ok_n | exact cat_i | exact cat_r | exact t103 | exact ro_0 | exact ro_1 | omega | assumption | (refine i103 ?_; omega) | (simp only [List.map_cons, List.map_nil, List.sum_cons, List.sum_nil, cat_i, cat_r, cat_l, Nat.reduceAdd, Nat.reduceLeDiff]; done) | decide) only [h4, s202_77, s202_78, s202_79, s202_81, s202_84, tl_s, tl_n, nI_add, pk_mul, i_cl, row_s, u2_row, i_le, i_lt, i_eq, if_true, if_false, Nat.le_refl, Nat.reduceEqDiff, Nat.reduceLeDiff, e1]
              exact ih2
            · simp only [h4, not_false_eq_true, true_and] at ih2
              simp (disch := first | exact ok_i | exact ok_r | exact ok_n | exact cat_i | exact cat_r | exact t103 | exact ro_0 | exact ro_1 | omega | assumption | (refine i103 ?_; omega) | (simp only [List.map_cons, List.map_nil, List.sum_cons, List.sum_nil, cat_i, cat_r, cat_l, Nat.reduceAdd, Nat.reduceLeDiff]; done) | decide) only [h4, s202_67, s202_69, s202_70, tl_s, tl_n, nI_add, pk_mul, i_cl, row_s, u2_row, i_le, i_lt, i_eq, if_true, if_false, Nat.le_refl, Nat.reduceEqDiff, Nat.reduceLeDiff]
              by_cases h5 : v ≤ w
              · have h5' : ¬ w < v := Int32.not_lt.mpr h5
                simp only [h5, if_true] at ih2
                simp (disch := first | exact ok_i | exact ok_r | exact ok_n | exact cat_i | exact cat_r | exact t103 | exact ro_0 | exact ro_1 | omega | assumption | (refine i103 ?_; omega) | (simp only [List.map_cons, List.map_nil, List.sum_cons, List.sum_nil, cat_i, cat_r, cat_l, Nat.reduceAdd, Nat.reduceLeDiff]; done) | decide) only [h5', s202_73, s202_74, s202_77, s202_78, s202_79, s202_81, s202_84, tl_s, tl_n, nI_add, pk_mul, i_cl, row_s, u2_row, i_le, i_lt, i_eq, if_true, if_false, Nat.le_refl, Nat.reduceEqDiff, Nat.reduceLeDiff, e1]
                exact ih2
              · have h5' : w < v := Int32.not_le.mp h5
                simp only [h5, if_false] at ih2
                simp (disch := first | exact ok_i | exact ok_r | exact ok_n | exact cat_i | exact cat_r | exact t103 | exact ro_0 | exact ro_1 | omega | assumption | (refine i103 ?_; omega) | (simp only [List.map_cons, List.map_nil, List.sum_cons, List.sum_nil, cat_i, cat_r, cat_l, Nat.reduceAdd, Nat.reduceLeDiff]; done) | decide) only [h5', s202_77, s202_78, s202_79, s202_81, s202_84, tl_s, tl_n, nI_add, pk_mul, i_cl, row_s, u2_row, i_le, i_lt, i_eq, if_true, if_false, Nat.le_refl, Nat.reduceEqDiff, Nat.reduceLeDiff, e1]
                exact ih2
        have k0 := key n (Nat.le_refl _) I none Sm.refl rfl
        rw [Nat.sub_self] at k0
        exact k0
theorem c_tick {m k : Nat} (hm : N 446 = nI m) (hm4 : m ≤ 40) (hk : N 445 = nI k) (hk4 : k ≤ 4) : Call X (d + 9) 164 [.ref 102] G0 (row I 103 N) Q ↔ Q (some (.int (nI (psS N m k).2))) G0 (row I 103 (psS N m k).1) := by
  simp (disch := first | exact ok_i | exact ok_r | exact ok_n | exact cat_i | exact cat_r | exact t103 | exact ro_0 | exact ro_1 | omega | assumption | (refine i103 ?_; omega) | (simp only [List.map_cons, List.map_nil, List.sum_cons, List.sum_nil, cat_i, cat_r, cat_l, Nat.reduceAdd, Nat.reduceLeDiff]; done) | decide) only [e164, s164_0, s164_1, s164_4, tl_s, tl_n, nI_add, pk_mul, i_cl, row_s, u2_row, i_le, i_lt, i_eq, if_true, if_false, Nat.le_refl, Nat.reduceEqDiff, Nat.reduceLeDiff, c_passes hm hm4 hk hk4]
theorem c_ticks {m k : Nat} {x : Int32} (hm : N 446 = nI m) (hm4 : m ≤ 40) (hk : N 445 = nI k) (hk4 : k ≤ 4) : Call X (d + 9) 165 [.ref 102, .int x] G0 (row I 103 N) Q ↔ Q (some (.int (if inL x 0 99 = true then nI (tsS N m k (tN x)).2 else -2))) G0 (row I 103 (if inL x 0 99 = true then (tsS N m k (tN x)).1 else N)) := by
  simp (disch := first | exact ok_i | exact ok_r | exact ok_n | exact cat_i | exact cat_r | exact t103 | exact ro_0 | exact ro_1 | omega | assumption | (refine i103 ?_; omega) | (simp only [List.map_cons, List.map_nil, List.sum_cons, List.sum_nil, cat_i, cat_r, cat_l, Nat.reduceAdd, Nat.reduceLeDiff]; done) | decide) only [e165, s165_0, s165_1, s165_2, s165_3, s165_6, s165_9, tl_s, tl_n, nI_add, pk_mul, i_cl, row_s, u2_row, i_le, i_lt, i_eq, if_true, if_false, Nat.le_refl, Nat.reduceEqDiff, Nat.reduceLeDiff, c_inL, b2i_0]
  cases h1 : inL x 0 99
  · simp (disch := first | exact ok_i | exact ok_r | exact ok_n | exact cat_i | exact cat_r | exact t103 | exact ro_0 | exact ro_1 | omega | assumption | (refine i103 ?_; omega) | (simp only [List.map_cons, List.map_nil, List.sum_cons, List.sum_nil, cat_i, cat_r, cat_l, Nat.reduceAdd, Nat.reduceLeDiff]; done) | decide) only [s165_12, s165_14, tl_s, tl_n, nI_add, pk_mul, i_cl, row_s, u2_row, i_le, i_lt, i_eq, if_true, if_false, Nat.le_refl, Nat.reduceEqDiff, Nat.reduceLeDiff, Bool.false_eq_true]
  · obtain ⟨hy, hy1, hy2⟩ := inL_t h1
    generalize tN x = n at *
    subst hy
    simp (disch := first | exact ok_i | exact ok_r | exact ok_n | exact cat_i | exact cat_r | exact t103 | exact ro_0 | exact ro_1 | omega | assumption | (refine i103 ?_; omega) | (simp only [List.map_cons, List.map_nil, List.sum_cons, List.sum_nil, cat_i, cat_r, cat_l, Nat.reduceAdd, Nat.reduceLeDiff]; done) | decide) only [s165_15, s165_16, s165_17, s165_18, tl_s, tl_n, nI_add, pk_mul, i_cl, row_s, u2_row, i_le, i_lt, i_eq, if_true, if_false, Nat.le_refl, Nat.reduceEqDiff, Nat.reduceLeDiff, Bool.true_eq_false]
    refine loop_up (P := fun j => At X (d + 8) 165 19 [some (.ref 102), some (.int (nI n)), some (.int (nI (tsS N m k j).2)), some (.int (nI j))] [] G0 (row I 103 (tsS N m k j).1) Q) (n := n) ?_ ?_ 0 (Nat.zero_le _)
    · simp (disch := first | exact ok_i | exact ok_r | exact ok_n | exact cat_i | exact cat_r | exact t103 | exact ro_0 | exact ro_1 | omega | assumption | (refine i103 ?_; omega) | (simp only [List.map_cons, List.map_nil, List.sum_cons, List.sum_nil, cat_i, cat_r, cat_l, Nat.reduceAdd, Nat.reduceLeDiff]; done) | decide) only [s165_19, s165_20, s165_21, s165_37, s165_38, tl_s, tl_n, nI_add, pk_mul, i_cl, row_s, u2_row, i_le, i_lt, i_eq, if_true, if_false, Nat.le_refl, Nat.reduceEqDiff, Nat.reduceLeDiff]
    · intro j hj
      have n1 : ¬ n ≤ j := by omega
      obtain ⟨b1, b2⟩ := tsS_ok (N := N) (n := j) hm4 hk4
      have hm2 : (tsS N m k j).1 446 = nI m := by rw [b1 446 (by unfold fixP; omega), hm]
      have hk2 : (tsS N m k j).1 445 = nI k := by rw [b1 445 (by unfold fixP; omega), hk]
      have e1 : tsS N m k (j + 1) = ((psS (tsS N m k j).1 m k).1, (tsS N m k j).2 + (psS (tsS N m k j).1 m k).2) := rfl
      rw [s165_19, e1]
      simp (disch := first | exact ok_i | exact ok_r | exact ok_n | exact cat_i | exact cat_r | exact t103 | exact ro_0 | exact ro_1 | omega | assumption | (refine i103 ?_; omega) | (simp only [List.map_cons, List.map_nil, List.sum_cons, List.sum_nil, cat_i, cat_r, cat_l, Nat.reduceAdd, Nat.reduceLeDiff]; done) | decide) only [s165_20, s165_21, s165_24, s165_25, s165_26, s165_29, s165_30, s165_31, s165_34, tl_s, tl_n, nI_add, pk_mul, i_cl, row_s, u2_row, i_le, i_lt, i_eq, if_true, if_false, Nat.le_refl, Nat.reduceEqDiff, Nat.reduceLeDiff, n1, c_passes hm2 hm4 hk2 hk4]
theorem c_mean {m q : Nat} {p : Int32} (hm : N 446 = nI m) (hm4 : m ≤ 40) (hq : mnW N m = nI q) (hq2 : q < 2147483648) : Call X (d + 3) 195 [.ref 102, .int p] G0 (row I 103 N) Q ↔ Q (some (.int (if inL p 0 1 = true then (if mnB N m = 0 then -3 else nI ((if p = nI 0 then q else mnB N m) / Nat.gcd q (mnB N m))) else -2))) G0 (row I 103 N) := by
  simp (disch := first | exact ok_i | exact ok_r | exact ok_n | exact cat_i | exact cat_r | exact t103 | exact ro_0 | exact ro_1 | omega | assumption | (refine i103 ?_; omega) | (simp only [List.map_cons, List.map_nil, List.sum_cons, List.sum_nil, cat_i, cat_r, cat_l, Nat.reduceAdd, Nat.reduceLeDiff]; done) | decide) only [e195, s195_0, s195_1, s195_4, tl_s, tl_n, nI_add, pk_mul, i_cl, row_s, u2_row, i_le, i_lt, i_eq, if_true, if_false, Nat.le_refl, Nat.reduceEqDiff, Nat.reduceLeDiff, c_isPart, b2i_0]
  cases h1 : inL p 0 1
  · simp (disch := first | exact ok_i | exact ok_r | exact ok_n | exact cat_i | exact cat_r | exact t103 | exact ro_0 | exact ro_1 | omega | assumption | (refine i103 ?_; omega) | (simp only [List.map_cons, List.map_nil, List.sum_cons, List.sum_nil, cat_i, cat_r, cat_l, Nat.reduceAdd, Nat.reduceLeDiff]; done) | decide) only [s195_7, s195_9, tl_s, tl_n, nI_add, pk_mul, i_cl, row_s, u2_row, i_le, i_lt, i_eq, if_true, if_false, Nat.le_refl, Nat.reduceEqDiff, Nat.reduceLeDiff, Bool.false_eq_true]
  · simp (disch := first | exact ok_i | exact ok_r | exact ok_n | exact cat_i | exact cat_r | exact t103 | exact ro_0 | exact ro_1 | omega | assumption | (refine i103 ?_; omega) | (simp only [List.map_cons, List.map_nil, List.sum_cons, List.sum_nil, cat_i, cat_r, cat_l, Nat.reduceAdd, Nat.reduceLeDiff]; done) | decide) only [s195_10, s195_11, s195_12, s195_13, s195_14, s195_15, tl_s, tl_n, nI_add, pk_mul, i_cl, row_s, u2_row, i_le, i_lt, i_eq, if_true, if_false, Nat.le_refl, Nat.reduceEqDiff, Nat.reduceLeDiff, Bool.true_eq_false]
    have hb : mnB N m ≤ m := mnB_le
    refine loop_up (P := fun g => At X (d + 2) 195 17 [some (.ref 102), some (.int p), some (.int (nI (mnB N g))), some (.int (mnW N g)), some (.int (nI g))] [] G0 (row I 103 N) Q) (n := m) ?_ ?_ 0 (Nat.zero_le _)
    · simp (disch := first | exact ok_i | exact ok_r | exact ok_n | exact cat_i | exact cat_r | exact t103 | exact ro_0 | exact ro_1 | omega | assumption | (refine i103 ?_; omega) | (simp only [List.map_cons, List.map_nil, List.sum_cons, List.sum_nil, cat_i, cat_r, cat_l, Nat.reduceAdd, Nat.reduceLeDiff]; done) | decide) only [s195_17, s195_19, s195_20, s195_23, s195_26, s195_27, s195_77, s195_78, tl_s, tl_n, nI_add, pk_mul, i_cl, row_s, u2_row, i_le, i_lt, i_eq, if_true, if_false, Nat.le_refl, Nat.reduceEqDiff, Nat.reduceLeDiff, hm, hq]
      by_cases h2 : mnB N m = 0
      · simp (disch := first | exact ok_i | exact ok_r | exact ok_n | exact cat_i | exact cat_r | exact t103 | exact ro_0 | exact ro_1 | omega | assumption | (refine i103 ?_; omega) | (simp only [List.map_cons, List.map_nil, List.sum_cons, List.sum_nil, cat_i, cat_r, cat_l, Nat.reduceAdd, Nat.reduceLeDiff]; done) | decide) only [h2, s195_81, s195_83, s195_92, tl_s, tl_n, nI_add, pk_mul, i_cl, row_s, u2_row, i_le, i_lt, i_eq, if_true, if_false, Nat.le_refl, Nat.reduceEqDiff, Nat.reduceLeDiff]
      · simp (disch := first | exact ok_i | exact ok_r | exact ok_n | exact cat_i | exact cat_r | exact t103 | exact ro_0 | exact ro_1 | omega | assumption | (refine i103 ?_; omega) | (simp only [List.map_cons, List.map_nil, List.sum_cons, List.sum_nil, cat_i, cat_r, cat_l, Nat.reduceAdd, Nat.reduceLeDiff]; done) | decide) only [h2, s195_86, s195_87, s195_88, tl_s, tl_n, nI_add, pk_mul, i_cl, row_s, u2_row, i_le, i_lt, i_eq, if_true, if_false, Nat.le_refl, Nat.reduceEqDiff, Nat.reduceLeDiff]
        rw [s195_89 (by simp only [List.map_cons, List.map_nil, List.sum_cons, List.sum_nil, cat_i, cat_r, cat_l, Nat.reduceAdd, Nat.reduceLeDiff]), c_lowest hq2 (by omega) (by omega)]
        simp (disch := first | exact ok_i | exact ok_r | exact ok_n | exact cat_i | exact cat_r | exact t103 | exact ro_0 | exact ro_1 | omega | assumption | (refine i103 ?_; omega) | (simp only [List.map_cons, List.map_nil, List.sum_cons, List.sum_nil, cat_i, cat_r, cat_l, Nat.reduceAdd, Nat.reduceLeDiff]; done) | decide) only [s195_92, tl_s, tl_n, nI_add, pk_mul, i_cl, row_s, u2_row, i_le, i_lt, i_eq, if_true, if_false, Nat.le_refl, Nat.reduceEqDiff, Nat.reduceLeDiff]
    · intro g hg
      have n1 : ¬ m ≤ g := by omega
      have hb2 : mnB N g ≤ g := mnB_le
      rw [s195_17]
      simp (disch := first | exact ok_i | exact ok_r | exact ok_n | exact cat_i | exact cat_r | exact t103 | exact ro_0 | exact ro_1 | omega | assumption | (refine i103 ?_; omega) | (simp only [List.map_cons, List.map_nil, List.sum_cons, List.sum_nil, cat_i, cat_r, cat_l, Nat.reduceAdd, Nat.reduceLeDiff]; done) | decide) only [s195_19, s195_20, s195_23, s195_26, s195_27, s195_30, s195_31, s195_32, s195_34, s195_37, s195_40, s195_41, s195_44, s195_45, s195_46, s195_47, s195_48, s195_49, s195_51, s195_54, s195_57, s195_58, s195_61, s195_62, s195_64, s195_66, s195_69, s195_70, s195_71, s195_74, tl_s, tl_n, nI_add, pk_mul, i_cl, row_s, u2_row, i_le, i_lt, i_eq, if_true, if_false, Nat.le_refl, Nat.reduceEqDiff, Nat.reduceLeDiff, hm, n1, c_pass, c_ofGroup, b2i_0, mnB, mnW, itr_s]
      by_cases h2 : gf N g 4 = nI 0
      · simp only [h2, decide_true, Bool.true_eq_false, tl_s, tl_n, nI_add, pk_mul, i_cl, row_s, u2_row, i_le, i_lt, i_eq, if_true, if_false, Nat.le_refl, Nat.reduceEqDiff, Nat.reduceLeDiff]
      · simp only [h2, decide_false, tl_s, tl_n, nI_add, pk_mul, i_cl, row_s, u2_row, i_le, i_lt, i_eq, if_true, if_false, Nat.le_refl, Nat.reduceEqDiff, Nat.reduceLeDiff]
end
