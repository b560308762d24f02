/-! the model: what is asked in thought -/
theorem back_Sm {I J : pI} {t : Nat} {N : Nat → Int32} (hI : I 102 4 = nI t) (hJ : Sm (t + 1) (thk I t N) J) : Sm t I (upd2 J 102 4 (nI t)) := by
  refine ⟨fun a ha => ?_, fun j hj => ?_⟩
  · funext j
    unfold upd2
    by_cases h : a = 102 ∧ j = 4
    · rw [if_pos h, h.1, h.2, hI]
    · rw [if_neg h, hJ.1 a ha, thk_n ha (fun e e2 => h ⟨e, e2⟩)]
  · unfold upd2
    rw [if_neg (by omega), hJ.2 j (by omega), thk_105, if_neg (by omega)]
theorem back_N {I J : pI} {t : Nat} {N N' : Nat → Int32} (hJ : Sm (t + 1) (thk I t N) J) (hN : ∀ j, 452 ≤ j → N' j = N j) : (fun j => if j < 452 then upd2 J 102 4 (nI t) 105 (452 * t + j) else N' j) = N := by
  funext j
  by_cases h : j < 452
  · have e : upd2 J 102 4 (nI t) 105 (452 * t + j) = J 105 (452 * t + j) := by unfold upd2; rw [if_neg (by omega)]
    rw [if_pos h, e, hJ.2 _ (by omega), thk_105, if_pos (by omega), show 452 * t + j - 452 * t = j by omega]
  · rw [if_neg h, hN j (by omega)]
def Bnd (N : Nat → Int32) (f k m : Nat) : Prop := (N 444 = nI f ∧ 2 ≤ f ∧ f ≤ 12) ∧ (N 445 = nI k ∧ 1 ≤ k ∧ k ≤ 4) ∧ N 446 = nI m ∧ m ≤ 40
theorem takeN_o {N : Nat → Int32} {m k a j : Nat} {y s : Int32} (ha : a < 12) (hm : m < 40) (hk1 : 1 ≤ k) (hk4 : k ≤ 4) (h : 444 ≤ j) (h2 : j ≠ 446) (h3 : j ≠ 451) : takeN N m k a y s j = N j := by
  unfold takeN
  have hb : (chS (newN N m a y s) (m + 1) k m (k - 1)).1 ≤ k - 1 := chS_le
  rw [hap_o (by omega), ownN_o hm (by omega) (by omega), newN_o ha hm h h2]
theorem takeN_m {N : Nat → Int32} {m k a : Nat} {y s : Int32} (ha : a < 12) (hm : m < 40) (hk1 : 1 ≤ k) (hk4 : k ≤ 4) (h : N 446 = nI m) : takeN N m k a y s 446 = nI (m + 1) := by
  unfold takeN
  have hb : (chS (newN N m a y s) (m + 1) k m (k - 1)).1 ≤ k - 1 := chS_le
  rw [hap_o (by omega), ownN_o hm (by omega) (by omega), newN_m ha hm h]
theorem clN_ok {N : Nat → Int32} {f k m : Nat} {x y s : Int32} (h : Bnd N f k m) : (∃ m', Bnd (clN N f m k x y s) f k m') ∧ ∀ j, 452 ≤ j → clN N f m k x y s j = N j := by
  obtain ⟨⟨hf, hf1, hf4⟩, ⟨hk, hk1, hk4⟩, hm, hm4⟩ := h
  unfold clN
  by_cases c : (okC f x y s && roomM N s k && !fullM N m) = true
  · rw [if_pos c]
    simp only [Bool.and_eq_true, Bool.not_eq_true'] at c
    obtain ⟨⟨c1, c2⟩, c3⟩ := c
    have c1' := (okC_iff.mp c1).1
    have ha : x.toInt.toNat < 12 := by omega
    have hm40 : m < 40 := by
      unfold fullM at c3
      by_cases e : m = 40
      · rw [decide_eq_true e, Bool.true_or] at c3
        cases c3
      · omega
    refine ⟨⟨m + 1, ⟨?_, hf1, hf4⟩, ⟨?_, hk1, hk4⟩, takeN_m ha hm40 hk1 hk4 hm, by omega⟩, fun j hj => takeN_o ha hm40 hk1 hk4 (by omega) (by omega) (by omega)⟩
    · rw [takeN_o ha hm40 hk1 hk4 (by omega) (by omega) (by omega), hf]
    · rw [takeN_o ha hm40 hk1 hk4 (by omega) (by omega) (by omega), hk]
  · rw [if_neg c]
    exact ⟨⟨m, ⟨hf, hf1, hf4⟩, ⟨hk, hk1, hk4⟩, hm, hm4⟩, fun _ _ => rfl⟩
def mOf (N : Nat → Int32) : Nat := (N 446).toNatClampNeg
theorem mOf_n {N : Nat → Int32} {m : Nat} (h : N 446 = nI m) (hm : m ≤ 40) : mOf N = m := by unfold mOf; rw [h, i_cl (by omega)]
/-- drawing: the seed, from, to, size -/
def zN (z : Int32) : Int32 := z * nI 1103515245 + nI 12345
def dwX (f : Nat) (z : Int32) : Int32 := irm (ushr (zN z) (nI 9)) (nI f)
def dwT (f : Nat) (z : Int32) : Int32 := irm (ushr (zN (zN z)) (nI 9)) (nI (f - 1))
def dwY (f : Nat) (z : Int32) : Int32 := if dwX f z ≤ dwT f z then dwT f z + nI 1 else dwT f z
def dwZ (z : Int32) : Int32 := nI 1 + irm (ushr (zN (zN (zN z))) (nI 9)) (nI 4)
def dwF (f k : Nat) (s : (Nat → Int32) × Int32) : (Nat → Int32) × Int32 := (clN s.1 f (mOf s.1) k (dwX f s.2) (dwY f s.2) (dwZ s.2), zN (zN (zN s.2)))
def dwS (N : Nat → Int32) (z : Int32) (f k : Nat) : Nat → (Nat → Int32) × Int32 := itr (fun _ s => dwF f k s) (N, z)
theorem dwS_ok {N : Nat → Int32} {z : Int32} {f k m : Nat} (h : Bnd N f k m) : ∀ {n : Nat}, (∃ m', Bnd (dwS N z f k n).1 f k m') ∧ ∀ j, 452 ≤ j → (dwS N z f k n).1 j = N j
  | 0 => ⟨⟨m, h⟩, fun _ _ => rfl⟩
  | n + 1 => by
    obtain ⟨⟨m', h1⟩, h2⟩ := dwS_ok (n := n) h
    have e := mOf_n h1.2.2.1 h1.2.2.2
    obtain ⟨h3, h4⟩ := clN_ok (x := dwX f (dwS N z f k n).2) (y := dwY f (dwS N z f k n).2) (s := dwZ (dwS N z f k n).2) h1
    rw [← e] at h3 h4
    exact ⟨h3, fun j hj => (h4 j hj).trans (h2 j hj)⟩
def dwV (N : Nat → Int32) (f k : Nat) (z : Int32) (n : Nat) (x : Int32) : Int32 := dnV (dwS N z f k n).1 (mOf (dwS N z f k n).1) k x
section
variable {X : pX} {d : Nat} {I : pI} {Q : Option Value → pG → pI → Prop} {N : Nat → Int32} {G : pG}
theorem c_done {m k t : Nat} {x : Int32} (hm : N 446 = nI m) (hm4 : m ≤ 40) (hk : N 445 = nI k) (hk4 : k ≤ 4) (hI : I 102 4 = nI t) (ht : t < 4)
    (h : ∀ J, Sm t I J → Q (some (.int (if inL x 0 2 = true then dnV N m k x else -2))) G0 (row J 103 N)) : Call X (d + 10) 197 [.ref 102, .int x] G0 (row I 103 N) Q := by
  have h0 := h I Sm.refl
  simp (disch := first | exact ok_i | exact ok_r | exact ok_n | exact cat_i | exact cat_r | exact t103 | exact ro_0 | exact ro_1 | omega | assumption | (refine i103 ?_; omega) | (simp only [List.map_cons, List.map_nil, List.sum_cons, List.sum_nil, cat_i, cat_r, cat_l, Nat.reduceAdd, Nat.reduceLeDiff]; done) | decide) only [e197, s197_0, s197_1, s197_2, s197_3, s197_6, s197_9, tl_s, tl_n, nI_add, pk_mul, i_cl, row_s, u2_row, i_le, i_lt, i_eq, if_true, if_false, Nat.le_refl, Nat.reduceEqDiff, Nat.reduceLeDiff, c_inL, b2i_0]
  cases h1 : inL x 0 2
  · simp only [h1, Bool.false_eq_true, if_false] at h0
    simp (disch := first | exact ok_i | exact ok_r | exact ok_n | exact cat_i | exact cat_r | exact t103 | exact ro_0 | exact ro_1 | omega | assumption | (refine i103 ?_; omega) | (simp only [List.map_cons, List.map_nil, List.sum_cons, List.sum_nil, cat_i, cat_r, cat_l, Nat.reduceAdd, Nat.reduceLeDiff]; done) | decide) only [s197_12, s197_14, tl_s, tl_n, nI_add, pk_mul, i_cl, row_s, u2_row, i_le, i_lt, i_eq, if_true, if_false, Nat.le_refl, Nat.reduceEqDiff, Nat.reduceLeDiff]
    exact h0
  · simp only [h1, if_true] at h
    have hh := h _ (thk_Sm (N := N) hI)
    have hb := back_N (N := N) (N' := (dnR m k 2500 N).1) (J := thk I t N) Sm.refl (fun j hj => dnR_o hm4 hk4 (by unfold fixP; omega))
    simp (disch := first | exact ok_i | exact ok_r | exact ok_n | exact cat_i | exact cat_r | exact t103 | exact ro_0 | exact ro_1 | omega | assumption | (refine i103 ?_; omega) | (simp only [List.map_cons, List.map_nil, List.sum_cons, List.sum_nil, cat_i, cat_r, cat_l, Nat.reduceAdd, Nat.reduceLeDiff]; done) | decide) only [s197_15, s197_16, s197_19, s197_20, s197_21, s197_24, s197_25, s197_26, s197_29, s197_30, tl_s, tl_n, nI_add, pk_mul, i_cl, row_s, u2_row, i_le, i_lt, i_eq, if_true, if_false, Nat.le_refl, Nat.reduceEqDiff, Nat.reduceLeDiff, Bool.true_eq_false, c_thinks hI ht, c_doneNow hm hm4 hk hk4, c_laysBack thk_102 ht, hb]
    exact hh
def wouV (N : Nat → Int32) (m k : Nat) (x y w : Int32) : Int32 := if (inR x m && inR y k && inL w 0 1) = true then (if gf N (tN x) 4 = nI 0 ∧ ¬ cf N (tN y) 2 < gf N (tN x) 2 then (if 2500 < tkM N m k (tN x) (tN y) (if w = nI 0 then nI 1 else nI 2) 2500 then -1 else nI (tkM N m k (tN x) (tN y) (if w = nI 0 then nI 1 else nI 2) 2500)) else -3) else -2
theorem c_would {m k t : Nat} {x y w : Int32} (hm : N 446 = nI m) (hm4 : m ≤ 40) (hk : N 445 = nI k) (hk1 : 1 ≤ k) (hk4 : k ≤ 4) (hI : I 102 4 = nI t) (ht : t < 4)
    (h : ∀ J, Sm t I J → Q (some (.int (wouV N m k x y w))) G0 (row J 103 N)) : Call X (d + 10) 198 [.ref 102, .int x, .int y, .int w] G0 (row I 103 N) Q := by
  have h0 := h I Sm.refl
  unfold wouV at h h0
  simp (disch := first | exact ok_i | exact ok_r | exact ok_n | exact cat_i | exact cat_r | exact t103 | exact ro_0 | exact ro_1 | omega | assumption | (refine i103 ?_; omega) | (simp only [List.map_cons, List.map_nil, List.sum_cons, List.sum_nil, cat_i, cat_r, cat_l, Nat.reduceAdd, Nat.reduceLeDiff]; done) | decide) only [e198, s198_0, s198_1, s198_2, s198_5, tl_s, tl_n, nI_add, pk_mul, i_cl, row_s, u2_row, i_le, i_lt, i_eq, if_true, if_false, Nat.le_refl, Nat.reduceEqDiff, Nat.reduceLeDiff, c_group hm hm4, b2i_0]
  cases h1 : inR x m
  · simp only [h1, Bool.false_and, Bool.false_eq_true, if_false] at h0
    simp (disch := first | exact ok_i | exact ok_r | exact ok_n | exact cat_i | exact cat_r | exact t103 | exact ro_0 | exact ro_1 | omega | assumption | (refine i103 ?_; omega) | (simp only [List.map_cons, List.map_nil, List.sum_cons, List.sum_nil, cat_i, cat_r, cat_l, Nat.reduceAdd, Nat.reduceLeDiff]; done) | decide) only [s198_26, s198_28, tl_s, tl_n, nI_add, pk_mul, i_cl, row_s, u2_row, i_le, i_lt, i_eq, if_true, if_false, Nat.le_refl, Nat.reduceEqDiff, Nat.reduceLeDiff]
    exact h0
  · simp only [h1, Bool.true_and] at h h0
    simp (disch := first | exact ok_i | exact ok_r | exact ok_n | exact cat_i | exact cat_r | exact t103 | exact ro_0 | exact ro_1 | omega | assumption | (refine i103 ?_; omega) | (simp only [List.map_cons, List.map_nil, List.sum_cons, List.sum_nil, cat_i, cat_r, cat_l, Nat.reduceAdd, Nat.reduceLeDiff]; done) | decide) only [s198_8, s198_9, s198_10, s198_13, tl_s, tl_n, nI_add, pk_mul, i_cl, row_s, u2_row, i_le, i_lt, i_eq, if_true, if_false, Nat.le_refl, Nat.reduceEqDiff, Nat.reduceLeDiff, c_car hk hk1 hk4, b2i_0, Bool.true_eq_false]
    cases h2 : inR y k
    · simp only [h2, Bool.false_and, Bool.false_eq_true, if_false] at h0
      simp (disch := first | exact ok_i | exact ok_r | exact ok_n | exact cat_i | exact cat_r | exact t103 | exact ro_0 | exact ro_1 | omega | assumption | (refine i103 ?_; omega) | (simp only [List.map_cons, List.map_nil, List.sum_cons, List.sum_nil, cat_i, cat_r, cat_l, Nat.reduceAdd, Nat.reduceLeDiff]; done) | decide) only [s198_26, s198_28, tl_s, tl_n, nI_add, pk_mul, i_cl, row_s, u2_row, i_le, i_lt, i_eq, if_true, if_false, Nat.le_refl, Nat.reduceEqDiff, Nat.reduceLeDiff]
      exact h0
    · simp only [h2, Bool.true_and] at h h0
      simp (disch := first | exact ok_i | exact ok_r | exact ok_n | exact cat_i | exact cat_r | exact t103 | exact ro_0 | exact ro_1 | omega | assumption | (refine i103 ?_; omega) | (simp only [List.map_cons, List.map_nil, List.sum_cons, List.sum_nil, cat_i, cat_r, cat_l, Nat.reduceAdd, Nat.reduceLeDiff]; done) | decide) only [s198_16, s198_17, s198_18, s198_19, s198_20, s198_23, tl_s, tl_n, nI_add, pk_mul, i_cl, row_s, u2_row, i_le, i_lt, i_eq, if_true, if_false, Nat.le_refl, Nat.reduceEqDiff, Nat.reduceLeDiff, c_inL, b2i_0, Bool.true_eq_false]
      cases h3 : inL w 0 1
      · simp only [h3, Bool.false_eq_true, if_false] at h0
        simp (disch := first | exact ok_i | exact ok_r | exact ok_n | exact cat_i | exact cat_r | exact t103 | exact ro_0 | exact ro_1 | omega | assumption | (refine i103 ?_; omega) | (simp only [List.map_cons, List.map_nil, List.sum_cons, List.sum_nil, cat_i, cat_r, cat_l, Nat.reduceAdd, Nat.reduceLeDiff]; done) | decide) only [s198_26, s198_28, tl_s, tl_n, nI_add, pk_mul, i_cl, row_s, u2_row, i_le, i_lt, i_eq, if_true, if_false, Nat.le_refl, Nat.reduceEqDiff, Nat.reduceLeDiff]
        exact h0
      · simp only [h3, if_true] at h h0
        obtain ⟨hx, hx4⟩ := inR_t h1
        obtain ⟨hy, hy4⟩ := inR_t h2
        generalize tN x = g at *
        generalize tN y = c at *
        subst hx
        subst hy
        simp (disch := first | exact ok_i | exact ok_r | exact ok_n | exact cat_i | exact cat_r | exact t103 | exact ro_0 | exact ro_1 | omega | assumption | (refine i103 ?_; omega) | (simp only [List.map_cons, List.map_nil, List.sum_cons, List.sum_nil, cat_i, cat_r, cat_l, Nat.reduceAdd, Nat.reduceLeDiff]; done) | decide) only [s198_29, s198_30, s198_31, s198_34, tl_s, tl_n, nI_add, pk_mul, i_cl, row_s, u2_row, i_le, i_lt, i_eq, if_true, if_false, Nat.le_refl, Nat.reduceEqDiff, Nat.reduceLeDiff, c_pass, b2i_0, Bool.true_eq_false]
        by_cases h4 : gf N g 4 = nI 0
        · simp only [h4, true_and] at h h0
          simp (disch := first | exact ok_i | exact ok_r | exact ok_n | exact cat_i | exact cat_r | exact t103 | exact ro_0 | exact ro_1 | omega | assumption | (refine i103 ?_; omega) | (simp only [List.map_cons, List.map_nil, List.sum_cons, List.sum_nil, cat_i, cat_r, cat_l, Nat.reduceAdd, Nat.reduceLeDiff]; done) | decide) only [h4, decide_true, Bool.true_eq_false, s198_37, s198_38, s198_39, s198_40, s198_41, s198_42, s198_45, s198_48, tl_s, tl_n, nI_add, pk_mul, i_cl, row_s, u2_row, i_le, i_lt, i_eq, if_true, if_false, Nat.le_refl, Nat.reduceEqDiff, Nat.reduceLeDiff, c_ofGroup, c_hasRoom]
          by_cases h5 : cf N c 2 < gf N g 2
          · simp only [h5, not_true, if_false] at h0
            simp (disch := first | exact ok_i | exact ok_r | exact ok_n | exact cat_i | exact cat_r | exact t103 | exact ro_0 | exact ro_1 | omega | assumption | (refine i103 ?_; omega) | (simp only [List.map_cons, List.map_nil, List.sum_cons, List.sum_nil, cat_i, cat_r, cat_l, Nat.reduceAdd, Nat.reduceLeDiff]; done) | decide) only [h5, s198_51, s198_53, tl_s, tl_n, nI_add, pk_mul, i_cl, row_s, u2_row, i_le, i_lt, i_eq, if_true, if_false, Nat.le_refl, Nat.reduceEqDiff, Nat.reduceLeDiff]
            exact h0
          · simp only [h5, not_false_eq_true, if_true] at h
            have fin : ∀ how : Int32, (∀ J, Sm t I J → Q (some (.int (if 2500 < tkM N m k g c how 2500 then -1 else nI (tkM N m k g c how 2500)))) G0 (row J 103 N)) →
                At X (d + 9) 198 69 [some (.ref 102), some (.int (nI g)), some (.int (nI c)), some (.int w), none] [.int (nI 2500), .int how, .int (nI c), .int (nI g), .ref 102] G0 (row I 103 N) Q := by
              intro how hq
              have hl : tkM N m k g c how 2500 ≤ 2501 := tkR_le
              rw [s198_69 (by simp only [List.map_cons, List.map_nil, List.sum_cons, List.sum_nil, cat_i, cat_r, cat_l, Nat.reduceAdd, Nat.reduceLeDiff])]
              refine c_ticksTill (by omega) (by omega) hm hm4 hk hk4 (by omega) hI ht (fun J hJ => ?_)
              have hh := hq J hJ
              simp (disch := first | exact ok_i | exact ok_r | exact ok_n | exact cat_i | exact cat_r | exact t103 | exact ro_0 | exact ro_1 | omega | assumption | (refine i103 ?_; omega) | (simp only [List.map_cons, List.map_nil, List.sum_cons, List.sum_nil, cat_i, cat_r, cat_l, Nat.reduceAdd, Nat.reduceLeDiff]; done) | decide) only [s198_72, s198_74, s198_76, s198_79, tl_s, tl_n, nI_add, pk_mul, i_cl, row_s, u2_row, i_le, i_lt, i_eq, if_true, if_false, Nat.le_refl, Nat.reduceEqDiff, Nat.reduceLeDiff]
              by_cases h6 : 2500 < tkM N m k g c how 2500
              · have h6' : ¬ tkM N m k g c how 2500 ≤ 2500 := by omega
                simp only [h6, if_true] at hh
                simp (disch := first | exact ok_i | exact ok_r | exact ok_n | exact cat_i | exact cat_r | exact t103 | exact ro_0 | exact ro_1 | omega | assumption | (refine i103 ?_; omega) | (simp only [List.map_cons, List.map_nil, List.sum_cons, List.sum_nil, cat_i, cat_r, cat_l, Nat.reduceAdd, Nat.reduceLeDiff]; done) | decide) only [h6', s198_82, s198_83, s198_86, s198_88, tl_s, tl_n, nI_add, pk_mul, i_cl, row_s, u2_row, i_le, i_lt, i_eq, if_true, if_false, Nat.le_refl, Nat.reduceEqDiff, Nat.reduceLeDiff]
                exact hh
              · have h6' : tkM N m k g c how 2500 ≤ 2500 := by omega
                simp only [h6, if_false] at hh
                simp (disch := first | exact ok_i | exact ok_r | exact ok_n | exact cat_i | exact cat_r | exact t103 | exact ro_0 | exact ro_1 | omega | assumption | (refine i103 ?_; omega) | (simp only [List.map_cons, List.map_nil, List.sum_cons, List.sum_nil, cat_i, cat_r, cat_l, Nat.reduceAdd, Nat.reduceLeDiff]; done) | decide) only [h6', s198_86, s198_88, tl_s, tl_n, nI_add, pk_mul, i_cl, row_s, u2_row, i_le, i_lt, i_eq, if_true, if_false, Nat.le_refl, Nat.reduceEqDiff, Nat.reduceLeDiff]
                exact hh
            simp (disch := first | exact ok_i | exact ok_r | exact ok_n | exact cat_i | exact cat_r | exact t103 | exact ro_0 | exact ro_1 | omega | assumption | (refine i103 ?_; omega) | (simp only [List.map_cons, List.map_nil, List.sum_cons, List.sum_nil, cat_i, cat_r, cat_l, Nat.reduceAdd, Nat.reduceLeDiff]; done) | decide) only [h5, n10, s198_54, s198_55, s198_56, s198_57, s198_58, tl_s, tl_n, nI_add, pk_mul, i_cl, row_s, u2_row, i_le, i_lt, i_eq, if_true, if_false, Nat.le_refl, Nat.reduceEqDiff, Nat.reduceLeDiff]
            by_cases h6 : w = nI 0
            · simp only [h6, if_true] at h
              simp (disch := first | exact ok_i | exact ok_r | exact ok_n | exact cat_i | exact cat_r | exact t103 | exact ro_0 | exact ro_1 | omega | assumption | (refine i103 ?_; omega) | (simp only [List.map_cons, List.map_nil, List.sum_cons, List.sum_nil, cat_i, cat_r, cat_l, Nat.reduceAdd, Nat.reduceLeDiff]; done) | decide) only [h6, s198_61, s198_62, s198_65, s198_66, tl_s, tl_n, nI_add, pk_mul, i_cl, row_s, u2_row, i_le, i_lt, i_eq, if_true, if_false, Nat.le_refl, Nat.reduceEqDiff, Nat.reduceLeDiff]
              rw [h6] at fin
              exact fin _ h
            · simp only [h6, if_false] at h
              simp (disch := first | exact ok_i | exact ok_r | exact ok_n | exact cat_i | exact cat_r | exact t103 | exact ro_0 | exact ro_1 | omega | assumption | (refine i103 ?_; omega) | (simp only [List.map_cons, List.map_nil, List.sum_cons, List.sum_nil, cat_i, cat_r, cat_l, Nat.reduceAdd, Nat.reduceLeDiff]; done) | decide) only [h6, s198_65, s198_66, tl_s, tl_n, nI_add, pk_mul, i_cl, row_s, u2_row, i_le, i_lt, i_eq, if_true, if_false, Nat.le_refl, Nat.reduceEqDiff, Nat.reduceLeDiff]
              exact fin _ h
        · simp only [h4, false_and, if_false] at h0
          simp (disch := first | exact ok_i | exact ok_r | exact ok_n | exact cat_i | exact cat_r | exact t103 | exact ro_0 | exact ro_1 | omega | assumption | (refine i103 ?_; omega) | (simp only [List.map_cons, List.map_nil, List.sum_cons, List.sum_nil, cat_i, cat_r, cat_l, Nat.reduceAdd, Nat.reduceLeDiff]; done) | decide) only [h4, decide_false, s198_51, s198_53, tl_s, tl_n, nI_add, pk_mul, i_cl, row_s, u2_row, i_le, i_lt, i_eq, if_true, if_false, Nat.le_refl, Nat.reduceEqDiff, Nat.reduceLeDiff]
          exact h0
theorem c_dwLoop {f k t n : Nat} {z0 x : Int32} {m0 : Nat} (hB : Bnd N f k m0) (hn : n ≤ 6) (ht : t < 4) (h : ∀ J l6 l7 l8, Sm t I J → okL l6 = true → okL l7 = true → okL l8 = true → At X (d + 12) 200 117 [some (.ref 102), some (.int z0), some (.int (nI n)), some (.int x), some (.int (dwS N z0 f k n).2), some (.int (nI n)), l6, l7, l8] [] G0 (row J 103 (dwS N z0 f k n).1) Q) :
    ∀ r, r ≤ n → ∀ J l6 l7 l8, J 102 4 = nI t → Sm t I J → okL l6 = true → okL l7 = true → okL l8 = true → At X (d + 12) 200 10 [some (.ref 102), some (.int z0), some (.int (nI n)), some (.int x), some (.int (dwS N z0 f k (n - r)).2), some (.int (nI (n - r))), l6, l7, l8] [] G0 (row J 103 (dwS N z0 f k (n - r)).1) Q := by
  intro r
  induction r with
  | zero =>
    intro _ J l6 l7 l8 hJ4 hJ k6 k7 k8
    have hh := h J l6 l7 l8 hJ k6 k7 k8
    rw [s200_10]
    simp (disch := first | exact ok_i | exact ok_r | exact ok_n | exact cat_i | exact cat_r | exact t103 | exact ro_0 | exact ro_1 | omega | assumption | (refine i103 ?_; omega) | (simp only [List.map_cons, List.map_nil, List.sum_cons, List.sum_nil, cat_i, cat_r, cat_l, Nat.reduceAdd, Nat.reduceLeDiff]; done) | decide) only [s200_12, s200_13, tl_s, tl_n, nI_add, pk_mul, i_cl, row_s, u2_row, i_le, i_lt, i_eq, if_true, if_false, Nat.le_refl, Nat.reduceEqDiff, Nat.reduceLeDiff, Nat.sub_zero]
    exact hh
  | succ r ih =>
    intro hr J l6 l7 l8 hJ4 hJ k6 k7 k8
    have n1 : ¬ n ≤ n - (r + 1) := by omega
    have e1 : n - (r + 1) + 1 = n - r := by omega
    obtain ⟨⟨m', hB'⟩, _⟩ := dwS_ok (z := z0) (n := n - (r + 1)) hB
    have e2 : dwS N z0 f k (n - r) = dwF f k (dwS N z0 f k (n - (r + 1))) := by rw [← e1]; rfl
    have ih' := ih (by omega)
    rw [e2] at ih'
    unfold dwF at ih'
    dsimp only at ih'
    generalize dwS N z0 f k (n - (r + 1)) = s at *
    obtain ⟨N', z⟩ := s
    dsimp only at hB' ih' ⊢
    rw [mOf_n hB'.2.2.1 hB'.2.2.2] at ih'
    obtain ⟨⟨hf, hf1, hf4⟩, ⟨hk, hk1, hk4⟩, hm, hm4⟩ := hB'
    have nf : nI f ≠ 0 := fun e => by
      have e' : nI f = nI 0 := e
      rw [i_eq (by omega) (by decide)] at e'
      omega
    have nf1 : nI (f - 1) ≠ 0 := fun e => by
      have e' : nI (f - 1) = nI 0 := e
      rw [i_eq (by omega) (by decide)] at e'
      omega
    have n4 : nI 4 ≠ 0 := by decide
    have fin : At X (d + 12) 200 106 [some (.ref 102), some (.int z0), some (.int (nI n)), some (.int x), some (.int (zN (zN (zN z)))), some (.int (nI (n - (r + 1)))), some (.int (dwX f z)), some (.int (dwT f z)), l8] [.int (dwZ z), .int (dwY f z), .int (dwX f z), .ref 102] G0 (row J 103 N') Q := by
      rw [s200_106 (by simp only [List.map_cons, List.map_nil, List.sum_cons, List.sum_nil, cat_i, cat_r, cat_l, Nat.reduceAdd, Nat.reduceLeDiff])]
      refine c_call hf hf1 hf4 hm hm4 hk hk1 hk4 hJ4 ht (fun J2 hJ2 => ?_)
      simp (disch := first | exact ok_i | exact ok_r | exact ok_n | exact cat_i | exact cat_r | exact t103 | exact ro_0 | exact ro_1 | omega | assumption | (refine i103 ?_; omega) | (simp only [List.map_cons, List.map_nil, List.sum_cons, List.sum_nil, cat_i, cat_r, cat_l, Nat.reduceAdd, Nat.reduceLeDiff]; done) | decide) only [s200_109, s200_111, s200_114, tl_s, tl_n, nI_add, pk_mul, i_cl, row_s, u2_row, i_le, i_lt, i_eq, if_true, if_false, Nat.le_refl, Nat.reduceEqDiff, Nat.reduceLeDiff, e1]
      exact ih' J2 _ _ _ (by rw [hJ2.1 102 (by decide), hJ4]) (hJ.trans hJ2) rfl rfl rfl
    rw [s200_10]
    simp (disch := first | exact ok_i | exact ok_r | exact ok_n | exact cat_i | exact cat_r | exact t103 | exact ro_0 | exact ro_1 | omega | assumption | (refine i103 ?_; omega) | (simp only [List.map_cons, List.map_nil, List.sum_cons, List.sum_nil, cat_i, cat_r, cat_l, Nat.reduceAdd, Nat.reduceLeDiff]; done) | decide) only [s200_12, s200_13, s200_16, s200_18, s200_21, s200_22, s200_25, s200_26, s200_28, s200_30, s200_32, s200_33, s200_34, s200_37, s200_38, s200_40, s200_42, s200_45, s200_46, s200_49, s200_50, s200_52, s200_54, s200_56, s200_57, s200_58, s200_61, s200_62, s200_63, s200_64, s200_66, s200_68, s200_71, s200_72, s200_75, s200_76, s200_78, s200_79, s200_81, s200_83, s200_85, tl_s, tl_n, nI_add, pk_mul, i_cl, row_s, u2_row, i_le, i_lt, i_eq, if_true, if_false, Nat.le_refl, Nat.reduceEqDiff, Nat.reduceLeDiff, n1, c_floors, hf, i_sub, nf, nf1]
    unfold dwY at fin
    by_cases h1 : dwX f z ≤ dwT f z
    · have h1' : ¬ dwT f z < dwX f z := Int32.not_lt.mpr h1
      rw [if_pos h1] at fin
      unfold dwX dwT zN at h1'
      simp (disch := first | exact ok_i | exact ok_r | exact ok_n | exact cat_i | exact cat_r | exact t103 | exact ro_0 | exact ro_1 | omega | assumption | (refine i103 ?_; omega) | (simp only [List.map_cons, List.map_nil, List.sum_cons, List.sum_nil, cat_i, cat_r, cat_l, Nat.reduceAdd, Nat.reduceLeDiff]; done) | decide) only [h1', s200_88, s200_90, s200_91, s200_92, s200_95, s200_97, s200_98, s200_100, s200_102, s200_103, s200_104, s200_105, tl_s, tl_n, nI_add, pk_mul, i_cl, row_s, u2_row, i_le, i_lt, i_eq, if_true, if_false, Nat.le_refl, Nat.reduceEqDiff, Nat.reduceLeDiff, n4]
      exact fin
    · have h1' : dwT f z < dwX f z := Int32.not_le.mp h1
      rw [if_neg h1] at fin
      unfold dwX dwT zN at h1'
      simp (disch := first | exact ok_i | exact ok_r | exact ok_n | exact cat_i | exact cat_r | exact t103 | exact ro_0 | exact ro_1 | omega | assumption | (refine i103 ?_; omega) | (simp only [List.map_cons, List.map_nil, List.sum_cons, List.sum_nil, cat_i, cat_r, cat_l, Nat.reduceAdd, Nat.reduceLeDiff]; done) | decide) only [h1', s200_95, s200_97, s200_98, s200_100, s200_102, s200_103, s200_104, s200_105, tl_s, tl_n, nI_add, pk_mul, i_cl, row_s, u2_row, i_le, i_lt, i_eq, if_true, if_false, Nat.le_refl, Nat.reduceEqDiff, Nat.reduceLeDiff, n4]
      exact fin
theorem c_drawnBy {f k m t n : Nat} {z x : Int32} (hB : Bnd N f k m) (hn : n ≤ 6) (hI : I 102 4 = nI t) (ht : t < 3)
    (h : ∀ J, Sm t I J → Q (some (.int (dwV N f k z n x))) G0 (row J 103 N)) : Call X (d + 13) 200 [.ref 102, .int z, .int (nI n), .int x] G0 (row I 103 N) Q := by
  simp (disch := first | exact ok_i | exact ok_r | exact ok_n | exact cat_i | exact cat_r | exact t103 | exact ro_0 | exact ro_1 | omega | assumption | (refine i103 ?_; omega) | (simp only [List.map_cons, List.map_nil, List.sum_cons, List.sum_nil, cat_i, cat_r, cat_l, Nat.reduceAdd, Nat.reduceLeDiff]; done) | decide) only [e200, s200_0, s200_1, s200_3, s200_4, s200_7, s200_8, tl_s, tl_n, nI_add, pk_mul, i_cl, row_s, u2_row, i_le, i_lt, i_eq, if_true, if_false, Nat.le_refl, Nat.reduceEqDiff, Nat.reduceLeDiff, c_thinks hI (show t < 4 by omega)]
  have key := c_dwLoop (X := X) (d := d) (I := thk I t N) (Q := Q) (z0 := z) (x := x) (t := t + 1) hB hn (by omega) (fun J l6 l7 l8 hJ k6 k7 k8 => ?_) n (Nat.le_refl _) (thk I t N) none none none thk_102 Sm.refl rfl rfl rfl
  · rw [Nat.sub_self] at key
    exact key
  · obtain ⟨⟨m', hB'⟩, h2⟩ := dwS_ok (z := z) (n := n) hB
    have em := mOf_n hB'.2.2.1 hB'.2.2.2
    have hh := h _ (back_Sm hI hJ)
    unfold dwV at hh
    rw [em] at hh
    have hJ4 : J 102 4 = nI (t + 1) := by rw [hJ.1 102 (by decide), thk_102]
    have hb := back_N (N := N) (N' := (dnR m' k 2500 (dwS N z f k n).1).1) hJ (fun j hj => by rw [dnR_o hB'.2.2.2 hB'.2.1.2.2 (by unfold fixP; omega), h2 j hj])
    simp (disch := first | exact ok_i | exact ok_r | exact ok_n | exact cat_i | exact cat_r | exact t103 | exact ro_0 | exact ro_1 | omega | assumption | (refine i103 ?_; omega) | (simp only [List.map_cons, List.map_nil, List.sum_cons, List.sum_nil, cat_i, cat_r, cat_l, Nat.reduceAdd, Nat.reduceLeDiff]; done) | decide) only [s200_117, s200_118, s200_119, s200_122, s200_124, s200_125, s200_128, s200_130, tl_s, tl_n, nI_add, pk_mul, i_cl, row_s, u2_row, i_le, i_lt, i_eq, if_true, if_false, Nat.le_refl, Nat.reduceEqDiff, Nat.reduceLeDiff, c_doneNow hB'.2.2.1 hB'.2.2.2 hB'.2.1.1 hB'.2.1.2.2, c_laysBack hJ4 (show t < 4 by omega), hb]
    exact hh
end
