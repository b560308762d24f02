/-! the model: costs -/
def nearM (N : Nat → Int32) (a : Int32) (c : Nat) : Int32 := mabs (a - cf N c 3) + (if (cf N c 4 = nI 1 ∧ a < cf N c 3) ∨ (cf N c 4 = nI 2 ∧ cf N c 3 < a) then nI 2 * N 444 else nI 0)
def othM (N : Nat → Int32) (g c : Nat) : Nat → Int32 := itr (fun k s => s + (if ¬ k = g ∧ gf N k 3 = nI c ∧ ¬ gf N k 4 = nI 2 then gf N k 2 else nI 0)) (nI 0)
def ownN (N : Nat → Int32) (g c : Nat) : Nat → Int32 := if gf N g 3 = nI c then N else upd (upd N (32 + 8 * g + 3) (nI c)) (8 * c + 7) (-1)
theorem ownN_o {N : Nat → Int32} {g c a : Nat} (hg : g < 40) (hc : c < 4) (h : 352 ≤ a) : ownN N g c a = N a := by
  unfold ownN; split
  · rfl
  · rw [up_n (by omega), up_n (by omega)]
/-- ticks till a group is so; r are left -/
def tkR (m k g : Nat) (how : Int32) : Nat → (Nat → Int32) → Nat
  | 0, _ => 0
  | r + 1, N => if gf N g 4 < how then 1 + tkR m k g how r (psS N m k).1 else 0
theorem tkR_le {m k g : Nat} {how : Int32} : ∀ {r : Nat} {N : Nat → Int32}, tkR m k g how r N ≤ r
  | 0, _ => Nat.le_refl _
  | r + 1, N => by
    have h := tkR_le (m := m) (k := k) (g := g) (how := how) (r := r) (N := (psS N m k).1)
    show (if gf N g 4 < how then 1 + tkR m k g how r (psS N m k).1 else 0) ≤ r + 1
    split <;> omega
def tkM (N : Nat → Int32) (m k g c : Nat) (how : Int32) (most : Nat) : Nat := tkR m k g how (most + 1) (ownN N g c)
section
variable {X : pX} {d : Nat} {I : pI} {Q : Option Value → pG → pI → Prop} {N : Nat → Int32}
theorem c_near {c : Nat} {a : Int32} (hc : c < 4) : Call X (d + 2) 167 [.ref 102, .int a, .int (nI c)] G0 (row I 103 N) Q ↔ Q (some (.int (nearM N a c))) G0 (row I 103 N) := by
  simp (disch := first | exact ok_i | exact ok_r | exact ok_n | exact cat_i | exact cat_r | exact t103 | exact ro_0 | exact ro_1 | omega | assumption | (refine i103 ?_; omega) | (simp only [List.map_cons, List.map_nil, List.sum_cons, List.sum_nil, cat_i, cat_r, cat_l, Nat.reduceAdd, Nat.reduceLeDiff]; done) | decide) only [e167, s167_0, s167_1, s167_2, s167_3, s167_6, s167_7, s167_8, s167_9, s167_10, s167_13, s167_14, tl_s, tl_n, nI_add, pk_mul, i_cl, row_s, u2_row, i_le, i_lt, i_eq, if_true, if_false, Nat.le_refl, Nat.reduceEqDiff, Nat.reduceLeDiff, c_of, nearM]
  by_cases h1 : cf N c 4 = nI 1
  · have n12 : (nI 1 = nI 2) = False := by rw [i_eq (by decide) (by decide)]; simp
    by_cases h2 : a < cf N c 3
    · simp (disch := first | exact ok_i | exact ok_r | exact ok_n | exact cat_i | exact cat_r | exact t103 | exact ro_0 | exact ro_1 | omega | assumption | (refine i103 ?_; omega) | (simp only [List.map_cons, List.map_nil, List.sum_cons, List.sum_nil, cat_i, cat_r, cat_l, Nat.reduceAdd, Nat.reduceLeDiff]; done) | decide) only [h1, h2, n12, s167_17, s167_18, s167_19, s167_22, s167_23, s167_24, s167_25, s167_28, s167_29, s167_32, s167_33, s167_34, s167_37, s167_38, s167_41, s167_42, s167_44, s167_45, s167_46, s167_47, s167_50, s167_52, s167_55, s167_56, s167_57, s167_60, s167_61, s167_64, s167_65, s167_66, tl_s, tl_n, nI_add, pk_mul, i_cl, row_s, u2_row, i_le, i_lt, i_eq, if_true, if_false, Nat.le_refl, Nat.reduceEqDiff, Nat.reduceLeDiff, c_floors, and_self, true_or]
    · simp (disch := first | exact ok_i | exact ok_r | exact ok_n | exact cat_i | exact cat_r | exact t103 | exact ro_0 | exact ro_1 | omega | assumption | (refine i103 ?_; omega) | (simp only [List.map_cons, List.map_nil, List.sum_cons, List.sum_nil, cat_i, cat_r, cat_l, Nat.reduceAdd, Nat.reduceLeDiff]; done) | decide) only [h1, h2, n12, s167_17, s167_18, s167_19, s167_22, s167_23, s167_24, s167_25, s167_28, s167_29, s167_32, s167_33, s167_34, s167_37, s167_38, s167_41, s167_42, s167_44, s167_45, s167_46, s167_47, s167_50, s167_52, s167_55, s167_56, s167_57, s167_60, s167_61, s167_64, s167_65, s167_66, tl_s, tl_n, nI_add, pk_mul, i_cl, row_s, u2_row, i_le, i_lt, i_eq, if_true, if_false, Nat.le_refl, Nat.reduceEqDiff, Nat.reduceLeDiff, c_of, c_floors, and_false, false_and, or_false]
  · by_cases h2 : cf N c 4 = nI 2
    · by_cases h3 : cf N c 3 < a
      · have h3' : ¬ a ≤ cf N c 3 := Int32.not_le.mpr h3
        simp (disch := first | exact ok_i | exact ok_r | exact ok_n | exact cat_i | exact cat_r | exact t103 | exact ro_0 | exact ro_1 | omega | assumption | (refine i103 ?_; omega) | (simp only [List.map_cons, List.map_nil, List.sum_cons, List.sum_nil, cat_i, cat_r, cat_l, Nat.reduceAdd, Nat.reduceLeDiff]; done) | decide) only [h1, h2, h3, h3', s167_17, s167_18, s167_19, s167_22, s167_23, s167_24, s167_25, s167_28, s167_29, s167_32, s167_33, s167_34, s167_37, s167_38, s167_41, s167_42, s167_44, s167_45, s167_46, s167_47, s167_50, s167_52, s167_55, s167_56, s167_57, s167_60, s167_61, s167_64, s167_65, s167_66, tl_s, tl_n, nI_add, pk_mul, i_cl, row_s, u2_row, i_le, i_lt, i_eq, if_true, if_false, Nat.le_refl, Nat.reduceEqDiff, Nat.reduceLeDiff, c_of, c_floors, and_self, false_and, false_or]
      · have h3' : a ≤ cf N c 3 := Int32.not_lt.mp h3
        simp (disch := first | exact ok_i | exact ok_r | exact ok_n | exact cat_i | exact cat_r | exact t103 | exact ro_0 | exact ro_1 | omega | assumption | (refine i103 ?_; omega) | (simp only [List.map_cons, List.map_nil, List.sum_cons, List.sum_nil, cat_i, cat_r, cat_l, Nat.reduceAdd, Nat.reduceLeDiff]; done) | decide) only [h1, h2, h3, h3', s167_17, s167_18, s167_19, s167_22, s167_23, s167_24, s167_25, s167_28, s167_29, s167_32, s167_33, s167_34, s167_37, s167_38, s167_41, s167_42, s167_44, s167_45, s167_46, s167_47, s167_50, s167_52, s167_55, s167_56, s167_57, s167_60, s167_61, s167_64, s167_65, s167_66, tl_s, tl_n, nI_add, pk_mul, i_cl, row_s, u2_row, i_le, i_lt, i_eq, if_true, if_false, Nat.le_refl, Nat.reduceEqDiff, Nat.reduceLeDiff, c_of, c_floors, and_false, false_and, or_false]
    · simp (disch := first | exact ok_i | exact ok_r | exact ok_n | exact cat_i | exact cat_r | exact t103 | exact ro_0 | exact ro_1 | omega | assumption | (refine i103 ?_; omega) | (simp only [List.map_cons, List.map_nil, List.sum_cons, List.sum_nil, cat_i, cat_r, cat_l, Nat.reduceAdd, Nat.reduceLeDiff]; done) | decide) only [h1, h2, s167_17, s167_18, s167_19, s167_22, s167_23, s167_24, s167_25, s167_28, s167_29, s167_32, s167_33, s167_34, s167_37, s167_38, s167_41, s167_42, s167_44, s167_45, s167_46, s167_47, s167_50, s167_52, s167_55, s167_56, s167_57, s167_60, s167_61, s167_64, s167_65, s167_66, tl_s, tl_n, nI_add, pk_mul, i_cl, row_s, u2_row, i_le, i_lt, i_eq, if_true, if_false, Nat.le_refl, Nat.reduceEqDiff, Nat.reduceLeDiff, c_of, c_floors, false_and, or_false]
theorem c_others {g c m : Nat} (hg : g < 40) (hm : N 446 = nI m) (hm4 : m ≤ 40) : Call X (d + 2) 168 [.ref 102, .int (nI g), .int (nI c)] G0 (row I 103 N) Q ↔ Q (some (.int (othM N g c m))) G0 (row I 103 N) := by
  simp (disch := first | exact ok_i | exact ok_r | exact ok_n | exact cat_i | exact cat_r | exact t103 | exact ro_0 | exact ro_1 | omega | assumption | (refine i103 ?_; omega) | (simp only [List.map_cons, List.map_nil, List.sum_cons, List.sum_nil, cat_i, cat_r, cat_l, Nat.reduceAdd, Nat.reduceLeDiff]; done) | decide) only [e168, s168_0, s168_1, s168_2, s168_3, tl_s, tl_n, nI_add, pk_mul, i_cl, row_s, u2_row, i_le, i_lt, i_eq, if_true, if_false, Nat.le_refl, Nat.reduceEqDiff, Nat.reduceLeDiff]
  refine loop_up (P := fun k => At X (d + 1) 168 5 [some (.ref 102), some (.int (nI g)), some (.int (nI c)), some (.int (othM N g c k)), some (.int (nI k))] [] G0 (row I 103 N) Q) (n := m) ?_ ?_ 0 (Nat.zero_le _)
  · simp (disch := first | exact ok_i | exact ok_r | exact ok_n | exact cat_i | exact cat_r | exact t103 | exact ro_0 | exact ro_1 | omega | assumption | (refine i103 ?_; omega) | (simp only [List.map_cons, List.map_nil, List.sum_cons, List.sum_nil, cat_i, cat_r, cat_l, Nat.reduceAdd, Nat.reduceLeDiff]; done) | decide) only [s168_5, s168_7, s168_8, s168_11, s168_14, s168_15, s168_66, s168_67, tl_s, tl_n, nI_add, pk_mul, i_cl, row_s, u2_row, i_le, i_lt, i_eq, if_true, if_false, Nat.le_refl, Nat.reduceEqDiff, Nat.reduceLeDiff, hm]
  · intro k hk
    have n1 : ¬ m ≤ k := by omega
    rw [s168_5]
    simp (disch := first | exact ok_i | exact ok_r | exact ok_n | exact cat_i | exact cat_r | exact t103 | exact ro_0 | exact ro_1 | omega | assumption | (refine i103 ?_; omega) | (simp only [List.map_cons, List.map_nil, List.sum_cons, List.sum_nil, cat_i, cat_r, cat_l, Nat.reduceAdd, Nat.reduceLeDiff]; done) | decide) only [s168_0, s168_1, s168_2, s168_3, s168_7, s168_8, s168_11, s168_14, s168_15, s168_18, s168_19, s168_21, s168_22, s168_25, s168_26, s168_28, s168_29, s168_32, s168_33, s168_36, s168_37, s168_39, s168_40, s168_43, s168_44, s168_47, s168_48, s168_50, s168_51, s168_54, s168_57, s168_58, s168_59, s168_60, s168_63, s168_66, s168_67, tl_s, tl_n, nI_add, pk_mul, i_cl, row_s, u2_row, i_le, i_lt, i_eq, if_true, if_false, Nat.le_refl, Nat.reduceEqDiff, Nat.reduceLeDiff, hm, n1, c_ofGroup, othM, itr_s]
    by_cases h0 : k = g <;> by_cases h1 : gf N k 3 = nI c <;> by_cases h2 : gf N k 4 = nI 2 <;> simp only [h0, h1, h2, not_true, not_false_eq_true, and_self, and_true, and_false, true_and, false_and, tl_s, tl_n, nI_add, pk_mul, i_cl, row_s, u2_row, i_le, i_lt, i_eq, if_true, if_false, Nat.le_refl, Nat.reduceEqDiff, Nat.reduceLeDiff]
theorem c_becomesOwn {g c : Nat} (hg : g < 40) (hc : c < 4) : Call X (d + 2) 169 [.ref 102, .int (nI g), .int (nI c)] G0 (row I 103 N) Q ↔ Q none G0 (row I 103 (ownN N g c)) := by
  simp (disch := first | exact ok_i | exact ok_r | exact ok_n | exact cat_i | exact cat_r | exact t103 | exact ro_0 | exact ro_1 | omega | assumption | (refine i103 ?_; omega) | (simp only [List.map_cons, List.map_nil, List.sum_cons, List.sum_nil, cat_i, cat_r, cat_l, Nat.reduceAdd, Nat.reduceLeDiff]; done) | decide) only [e169, s169_0, s169_1, s169_2, s169_3, s169_6, s169_7, s169_10, s169_11, s169_12, s169_13, s169_14, s169_17, s169_18, s169_19, s169_21, s169_22, s169_25, tl_s, tl_n, nI_add, pk_mul, i_cl, row_s, u2_row, i_le, i_lt, i_eq, if_true, if_false, Nat.le_refl, Nat.reduceEqDiff, Nat.reduceLeDiff, c_ofGroup, ownN]
  by_cases h1 : gf N g 3 = nI c <;> simp (disch := first | exact ok_i | exact ok_r | exact ok_n | exact cat_i | exact cat_r | exact t103 | exact ro_0 | exact ro_1 | omega | assumption | (refine i103 ?_; omega) | (simp only [List.map_cons, List.map_nil, List.sum_cons, List.sum_nil, cat_i, cat_r, cat_l, Nat.reduceAdd, Nat.reduceLeDiff]; done) | decide) only [h1, s169_0, s169_1, s169_2, s169_3, s169_6, s169_7, s169_10, s169_11, s169_12, s169_13, s169_14, s169_17, s169_18, s169_19, s169_21, s169_22, s169_25, tl_s, tl_n, nI_add, pk_mul, i_cl, row_s, u2_row, i_le, i_lt, i_eq, if_true, if_false, Nat.le_refl, Nat.reduceEqDiff, Nat.reduceLeDiff, c_setsGroup, c_sets]
theorem c_tkLoop {m k g c : Nat} {how : Int32} {most : Nat} (hg : g < 40) (hm4 : m ≤ 40) (hk4 : k ≤ 4) (hmost : most ≤ 2500) (N0 : Nat → Int32) :
    ∀ r, r ≤ most + 1 → ∀ N : Nat → Int32, N 446 = nI m → N 445 = nI k → (∀ j, 452 ≤ j → N j = N0 j) →
    (∀ N' : Nat → Int32, (∀ j, 452 ≤ j → N' j = N0 j) → At X (d + 8) 170 48 [some (.ref 102), some (.int (nI g)), some (.int (nI c)), some (.int how), some (.int (nI most)), some (.int (nI (most + 1 - r + tkR m k g how r N)))] [] G0 (row I 103 N') Q) →
    At X (d + 8) 170 13 [some (.ref 102), some (.int (nI g)), some (.int (nI c)), some (.int how), some (.int (nI most)), some (.int (nI (most + 1 - r)))] [] G0 (row I 103 N) Q := by
  intro r
  induction r with
  | zero =>
    intro _ N hm hk hN h
    have n1 : most < most + 1 - 0 := by omega
    have h' := h N hN
    simp only [tkR, Nat.add_zero] at h'
    rw [s170_13]
    simp (disch := first | exact ok_i | exact ok_r | exact ok_n | exact cat_i | exact cat_r | exact t103 | exact ro_0 | exact ro_1 | omega | assumption | (refine i103 ?_; omega) | (simp only [List.map_cons, List.map_nil, List.sum_cons, List.sum_nil, cat_i, cat_r, cat_l, Nat.reduceAdd, Nat.reduceLeDiff]; done) | decide) only [s170_15, s170_17, tl_s, tl_n, nI_add, pk_mul, i_cl, row_s, u2_row, i_le, i_lt, i_eq, if_true, if_false, Nat.le_refl, Nat.reduceEqDiff, Nat.reduceLeDiff, n1]
    exact h'
  | succ r ih =>
    intro hr N hm hk hN h
    have n1 : ¬ most < most + 1 - (r + 1) := by omega
    rw [s170_13]
    simp (disch := first | exact ok_i | exact ok_r | exact ok_n | exact cat_i | exact cat_r | exact t103 | exact ro_0 | exact ro_1 | omega | assumption | (refine i103 ?_; omega) | (simp only [List.map_cons, List.map_nil, List.sum_cons, List.sum_nil, cat_i, cat_r, cat_l, Nat.reduceAdd, Nat.reduceLeDiff]; done) | decide) only [s170_15, s170_17, s170_20, s170_21, s170_22, s170_23, s170_26, s170_27, tl_s, tl_n, nI_add, pk_mul, i_cl, row_s, u2_row, i_le, i_lt, i_eq, if_true, if_false, Nat.le_refl, Nat.reduceEqDiff, Nat.reduceLeDiff, n1, c_ofGroup]
    by_cases h1 : gf N g 4 < how
    · have h1' : ¬ how ≤ gf N g 4 := Int32.not_le.mpr h1
      have e1 : most + 1 - (r + 1) + 1 = most + 1 - r := by omega
      have e3 : most + 1 - (r + 1) + tkR m k g how (r + 1) N = most + 1 - r + tkR m k g how r (psS N m k).1 := by
        show most + 1 - (r + 1) + (if gf N g 4 < how then 1 + tkR m k g how r (psS N m k).1 else 0) = _
        rw [if_pos h1]; omega
      rw [e3] at h
      simp (disch := first | exact ok_i | exact ok_r | exact ok_n | exact cat_i | exact cat_r | exact t103 | exact ro_0 | exact ro_1 | omega | assumption | (refine i103 ?_; omega) | (simp only [List.map_cons, List.map_nil, List.sum_cons, List.sum_nil, cat_i, cat_r, cat_l, Nat.reduceAdd, Nat.reduceLeDiff]; done) | decide) only [s170_30, s170_33, s170_35, s170_37, tl_s, tl_n, nI_add, pk_mul, i_cl, row_s, u2_row, i_le, i_lt, i_eq, if_true, if_false, Nat.le_refl, Nat.reduceEqDiff, Nat.reduceLeDiff, h1', e1]
      by_cases h2 : most < most + 1 - r
      · have hr0 : r = 0 := by omega
        subst hr0
        have ih' := ih (by omega) N hm hk hN (by simpa only [tkR] using h)
        simp only [h2, if_true]
        exact ih'
      · simp (disch := first | exact ok_i | exact ok_r | exact ok_n | exact cat_i | exact cat_r | exact t103 | exact ro_0 | exact ro_1 | omega | assumption | (refine i103 ?_; omega) | (simp only [List.map_cons, List.map_nil, List.sum_cons, List.sum_nil, cat_i, cat_r, cat_l, Nat.reduceAdd, Nat.reduceLeDiff]; done) | decide) only [h2, s170_40, s170_41, s170_44, s170_45, tl_s, tl_n, nI_add, pk_mul, i_cl, row_s, u2_row, i_le, i_lt, i_eq, if_true, if_false, Nat.le_refl, Nat.reduceEqDiff, Nat.reduceLeDiff, c_passes hm hm4 hk hk4]
        exact ih (by omega) (psS N m k).1 (by rw [psS_o hm4 (by unfold fixP; omega) hk4, hm]) (by rw [psS_o hm4 (by unfold fixP; omega) hk4, hk]) (fun j hj => by rw [psS_o hm4 (by unfold fixP; omega) hk4, hN j hj]) h
    · have h1' : how ≤ gf N g 4 := Int32.not_lt.mp h1
      have e3 : most + 1 - (r + 1) + tkR m k g how (r + 1) N = most + 1 - (r + 1) := by
        show most + 1 - (r + 1) + (if gf N g 4 < how then 1 + tkR m k g how r (psS N m k).1 else 0) = _
        rw [if_neg h1]; omega
      rw [e3] at h
      simp only [h1', if_true]
      exact h N hN
theorem c_ticksTill {m k g c t : Nat} {how : Int32} {most : Nat} (hg : g < 40) (hc : c < 4) (hm : N 446 = nI m) (hm4 : m ≤ 40) (hk : N 445 = nI k) (hk4 : k ≤ 4) (hmost : most ≤ 2500) (hI : I 102 4 = nI t) (ht : t < 4)
    (h : ∀ J, Sm t I J → Q (some (.int (nI (tkM N m k g c how most)))) G0 (row J 103 N)) : Call X (d + 9) 170 [.ref 102, .int (nI g), .int (nI c), .int how, .int (nI most)] G0 (row I 103 N) Q := by
  simp (disch := first | exact ok_i | exact ok_r | exact ok_n | exact cat_i | exact cat_r | exact t103 | exact ro_0 | exact ro_1 | omega | assumption | (refine i103 ?_; omega) | (simp only [List.map_cons, List.map_nil, List.sum_cons, List.sum_nil, cat_i, cat_r, cat_l, Nat.reduceAdd, Nat.reduceLeDiff]; done) | decide) only [e170, s170_0, s170_1, s170_4, s170_5, s170_6, s170_7, s170_10, s170_11, tl_s, tl_n, nI_add, pk_mul, i_cl, row_s, u2_row, i_le, i_lt, i_eq, if_true, if_false, Nat.le_refl, Nat.reduceEqDiff, Nat.reduceLeDiff, c_thinks hI ht, c_becomesOwn]
  have key := c_tkLoop (X := X) (d := d) (I := thk I t N) (Q := Q) (c := c) (how := how) (k := k) hg hm4 hk4 hmost (ownN N g c) (most + 1) (Nat.le_refl _) (ownN N g c) (by rw [ownN_o hg hc (by omega), hm]) (by rw [ownN_o hg hc (by omega), hk]) (fun _ _ => rfl)
  rw [Nat.sub_self] at key
  refine key (fun N' hN' => ?_)
  rw [Nat.zero_add]
  have hb : (fun j => if j < 452 then upd2 (thk I t N) 102 4 (nI t) 105 (452 * t + j) else N' j) = N := by
    have hn : ∀ j, upd2 (thk I t N) 102 4 (nI t) 105 j = thk I t N 105 j := fun j => by unfold upd2; rw [if_neg (by omega)]
    simp only [hn]
    exact thk_back (fun j hj => by rw [hN' j hj, ownN_o hg hc (by omega)])
  have hh := h _ (thk_Sm (N := N) hI)
  simp (disch := first | exact ok_i | exact ok_r | exact ok_n | exact cat_i | exact cat_r | exact t103 | exact ro_0 | exact ro_1 | omega | assumption | (refine i103 ?_; omega) | (simp only [List.map_cons, List.map_nil, List.sum_cons, List.sum_nil, cat_i, cat_r, cat_l, Nat.reduceAdd, Nat.reduceLeDiff]; done) | decide) only [s170_48, s170_49, s170_52, s170_54, tl_s, tl_n, nI_add, pk_mul, i_cl, row_s, u2_row, i_le, i_lt, i_eq, if_true, if_false, Nat.le_refl, Nat.reduceEqDiff, Nat.reduceLeDiff, c_laysBack thk_102 ht, hb]
  exact hh
end
/-- costs -/
def costM (N : Nat → Int32) (m k g c : Nat) : Int32 := if cf N c 2 < gf N g 2 then nI 999 else if N 448 = nI 0 then nearM N (gf N g 0) c else if N 448 = nI 1 then nI 10 * othM N g c m + nearM N (gf N g 0) c else mmin (nI 120) (nI (tkM N m k g c (nI 1) 120))
def chF (N : Nat → Int32) (m k g : Nat) (n : Nat) (s : Nat × Int32) : Nat × Int32 := (if costM N m k g (n + 1) < s.2 then n + 1 else s.1, mmin s.2 (costM N m k g (n + 1)))
def chS (N : Nat → Int32) (m k g : Nat) : Nat → Nat × Int32 := itr (chF N m k g) (0, costM N m k g 0)
theorem chS_le {N : Nat → Int32} {m k g : Nat} : ∀ {n : Nat}, (chS N m k g n).1 ≤ n
  | 0 => Nat.le_refl _
  | n + 1 => by
    have h := chS_le (N := N) (m := m) (k := k) (g := g) (n := n)
    show (if costM N m k g (n + 1) < (chS N m k g n).2 then n + 1 else (chS N m k g n).1) ≤ n + 1
    split <;> omega
section
variable {X : pX} {d : Nat} {I : pI} {Q : Option Value → pG → pI → Prop} {N : Nat → Int32}
theorem c_costOf {m k g c t : Nat} (hg : g < 40) (hc : c < 4) (hm : N 446 = nI m) (hm4 : m ≤ 40) (hk : N 445 = nI k) (hk4 : k ≤ 4) (hI : I 102 4 = nI t) (ht : t < 4)
    (h : ∀ J, Sm t I J → Q (some (.int (costM N m k g c))) G0 (row J 103 N)) : Call X (d + 10) 171 [.ref 102, .int (nI g), .int (nI c)] G0 (row I 103 N) Q := by
  have h0 := h I Sm.refl
  simp (disch := first | exact ok_i | exact ok_r | exact ok_n | exact cat_i | exact cat_r | exact t103 | exact ro_0 | exact ro_1 | omega | assumption | (refine i103 ?_; omega) | (simp only [List.map_cons, List.map_nil, List.sum_cons, List.sum_nil, cat_i, cat_r, cat_l, Nat.reduceAdd, Nat.reduceLeDiff]; done) | decide) only [e171, s171_0, s171_1, s171_2, s171_3, s171_4, s171_5, s171_8, s171_11, tl_s, tl_n, nI_add, pk_mul, i_cl, row_s, u2_row, i_le, i_lt, i_eq, if_true, if_false, Nat.le_refl, Nat.reduceEqDiff, Nat.reduceLeDiff, c_ofGroup, c_hasRoom]
  unfold costM at h h0
  by_cases h1 : cf N c 2 < gf N g 2
  · simp only [h1, if_true] at h0
    simp (disch := first | exact ok_i | exact ok_r | exact ok_n | exact cat_i | exact cat_r | exact t103 | exact ro_0 | exact ro_1 | omega | assumption | (refine i103 ?_; omega) | (simp only [List.map_cons, List.map_nil, List.sum_cons, List.sum_nil, cat_i, cat_r, cat_l, Nat.reduceAdd, Nat.reduceLeDiff]; done) | decide) only [h1, s171_14, s171_17, tl_s, tl_n, nI_add, pk_mul, i_cl, row_s, u2_row, i_le, i_lt, i_eq, if_true, if_false, Nat.le_refl, Nat.reduceEqDiff, Nat.reduceLeDiff]
    exact h0
  · simp only [h1, if_false] at h h0
    have n10 : (nI 1 = nI 0) = False := by rw [i_eq (by decide) (by decide)]; simp
    simp (disch := first | exact ok_i | exact ok_r | exact ok_n | exact cat_i | exact cat_r | exact t103 | exact ro_0 | exact ro_1 | omega | assumption | (refine i103 ?_; omega) | (simp only [List.map_cons, List.map_nil, List.sum_cons, List.sum_nil, cat_i, cat_r, cat_l, Nat.reduceAdd, Nat.reduceLeDiff]; done) | decide) only [h1, n10, s171_18, s171_19, s171_22, s171_25, s171_26, tl_s, tl_n, nI_add, pk_mul, i_cl, row_s, u2_row, i_le, i_lt, i_eq, if_true, if_false, Nat.le_refl, Nat.reduceEqDiff, Nat.reduceLeDiff]
    by_cases h2 : N 448 = nI 0
    · simp only [h2, if_true] at h0
      simp (disch := first | exact ok_i | exact ok_r | exact ok_n | exact cat_i | exact cat_r | exact t103 | exact ro_0 | exact ro_1 | omega | assumption | (refine i103 ?_; omega) | (simp only [List.map_cons, List.map_nil, List.sum_cons, List.sum_nil, cat_i, cat_r, cat_l, Nat.reduceAdd, Nat.reduceLeDiff]; done) | decide) only [h2, s171_52, s171_53, s171_54, s171_55, s171_56, s171_59, s171_60, s171_63, tl_s, tl_n, nI_add, pk_mul, i_cl, row_s, u2_row, i_le, i_lt, i_eq, if_true, if_false, Nat.le_refl, Nat.reduceEqDiff, Nat.reduceLeDiff, c_ofGroup, c_near]
      exact h0
    · by_cases h3 : N 448 = nI 1
      · simp only [h2, h3, n10, if_true, if_false] at h0
        simp (disch := first | exact ok_i | exact ok_r | exact ok_n | exact cat_i | exact cat_r | exact t103 | exact ro_0 | exact ro_1 | omega | assumption | (refine i103 ?_; omega) | (simp only [List.map_cons, List.map_nil, List.sum_cons, List.sum_nil, cat_i, cat_r, cat_l, Nat.reduceAdd, Nat.reduceLeDiff]; done) | decide) only [h2, h3, n10, s171_64, s171_66, s171_67, s171_68, s171_69, s171_72, s171_73, s171_74, s171_75, s171_76, s171_77, s171_80, s171_81, s171_84, s171_85, tl_s, tl_n, nI_add, pk_mul, i_cl, row_s, u2_row, i_le, i_lt, i_eq, if_true, if_false, Nat.le_refl, Nat.reduceEqDiff, Nat.reduceLeDiff, c_ofGroup, c_near, c_others hg hm hm4]
        exact h0
      · simp only [h2, h3, if_false] at h
        simp (disch := first | exact ok_i | exact ok_r | exact ok_n | exact cat_i | exact cat_r | exact t103 | exact ro_0 | exact ro_1 | omega | assumption | (refine i103 ?_; omega) | (simp only [List.map_cons, List.map_nil, List.sum_cons, List.sum_nil, cat_i, cat_r, cat_l, Nat.reduceAdd, Nat.reduceLeDiff]; done) | decide) only [h2, h3, s171_86, s171_88, s171_89, s171_90, s171_91, s171_92, tl_s, tl_n, nI_add, pk_mul, i_cl, row_s, u2_row, i_le, i_lt, i_eq, if_true, if_false, Nat.le_refl, Nat.reduceEqDiff, Nat.reduceLeDiff]
        rw [s171_94 (by decide)]
        refine c_ticksTill hg hc hm hm4 hk hk4 (by omega) hI ht (fun J hJ => ?_)
        simp (disch := first | exact ok_i | exact ok_r | exact ok_n | exact cat_i | exact cat_r | exact t103 | exact ro_0 | exact ro_1 | omega | assumption | (refine i103 ?_; omega) | (simp only [List.map_cons, List.map_nil, List.sum_cons, List.sum_nil, cat_i, cat_r, cat_l, Nat.reduceAdd, Nat.reduceLeDiff]; done) | decide) only [s171_97, s171_100, tl_s, tl_n, nI_add, pk_mul, i_cl, row_s, u2_row, i_le, i_lt, i_eq, if_true, if_false, Nat.le_refl, Nat.reduceEqDiff, Nat.reduceLeDiff]
        exact h J hJ
theorem c_cheapest {m k g t : Nat} (hg : g < 40) (hm : N 446 = nI m) (hm4 : m ≤ 40) (hk : N 445 = nI k) (hk1 : 1 ≤ k) (hk4 : k ≤ 4) (hI : I 102 4 = nI t) (ht : t < 4)
    (h : ∀ J, Sm t I J → Q (some (.int (nI (chS N m k g (k - 1)).1))) G0 (row J 103 N)) : Call X (d + 11) 172 [.ref 102, .int (nI g)] G0 (row I 103 N) Q := by
  simp (disch := first | exact ok_i | exact ok_r | exact ok_n | exact cat_i | exact cat_r | exact t103 | exact ro_0 | exact ro_1 | omega | assumption | (refine i103 ?_; omega) | (simp only [List.map_cons, List.map_nil, List.sum_cons, List.sum_nil, cat_i, cat_r, cat_l, Nat.reduceAdd, Nat.reduceLeDiff]; done) | decide) only [e172, s172_0, s172_1, s172_2, s172_3, s172_4, tl_s, tl_n, nI_add, pk_mul, i_cl, row_s, u2_row, i_le, i_lt, i_eq, if_true, if_false, Nat.le_refl, Nat.reduceEqDiff, Nat.reduceLeDiff]
  rw [s172_5 (by decide)]
  refine c_costOf hg (by omega) hm hm4 hk hk4 hI ht (fun J0 hJ0 => ?_)
  simp (disch := first | exact ok_i | exact ok_r | exact ok_n | exact cat_i | exact cat_r | exact t103 | exact ro_0 | exact ro_1 | omega | assumption | (refine i103 ?_; omega) | (simp only [List.map_cons, List.map_nil, List.sum_cons, List.sum_nil, cat_i, cat_r, cat_l, Nat.reduceAdd, Nat.reduceLeDiff]; done) | decide) only [s172_8, s172_9, s172_10, tl_s, tl_n, nI_add, pk_mul, i_cl, row_s, u2_row, i_le, i_lt, i_eq, if_true, if_false, Nat.le_refl, Nat.reduceEqDiff, Nat.reduceLeDiff]
  have key : ∀ r, r < k → ∀ l : Option Value, okL l = true → ∀ J, Sm t I J → At X (d + 10) 172 12 [some (.ref 102), some (.int (nI g)), some (.int (nI (chS N m k g (k - 1 - r)).1)), some (.int (chS N m k g (k - 1 - r)).2), some (.int (nI (k - r))), l] [] G0 (row J 103 N) Q := by
    intro r
    induction r with
    | zero =>
      intro _ l hl J hJ
      have hh := h J hJ
      simp (disch := first | exact ok_i | exact ok_r | exact ok_n | exact cat_i | exact cat_r | exact t103 | exact ro_0 | exact ro_1 | omega | assumption | (refine i103 ?_; omega) | (simp only [List.map_cons, List.map_nil, List.sum_cons, List.sum_nil, cat_i, cat_r, cat_l, Nat.reduceAdd, Nat.reduceLeDiff]; done) | decide) only [s172_12, s172_14, s172_15, s172_18, s172_21, s172_22, s172_60, s172_61, tl_s, tl_n, nI_add, pk_mul, i_cl, row_s, u2_row, i_le, i_lt, i_eq, if_true, if_false, Nat.le_refl, Nat.reduceEqDiff, Nat.reduceLeDiff, hk, Nat.sub_zero]
      exact hh
    | succ r ih =>
      intro hr l hl J hJ
      have n1 : ¬ k ≤ k - (r + 1) := by omega
      have e1 : k - 1 - r = k - 1 - (r + 1) + 1 := by omega
      have e2 : k - (r + 1) = k - 1 - (r + 1) + 1 := by omega
      have e3 : k - (r + 1) + 1 = k - r := by omega
      have hb : (chS N m k g (k - 1 - (r + 1))).1 ≤ k - 1 - (r + 1) := chS_le
      have hJ4 : J 102 4 = nI t := by rw [hJ.1 102 (by decide), hI]
      rw [s172_12]
      simp (disch := first | exact ok_i | exact ok_r | exact ok_n | exact cat_i | exact cat_r | exact t103 | exact ro_0 | exact ro_1 | omega | assumption | (refine i103 ?_; omega) | (simp only [List.map_cons, List.map_nil, List.sum_cons, List.sum_nil, cat_i, cat_r, cat_l, Nat.reduceAdd, Nat.reduceLeDiff]; done) | decide) only [s172_14, s172_15, s172_18, s172_21, s172_22, s172_25, s172_26, s172_27, tl_s, tl_n, nI_add, pk_mul, i_cl, row_s, u2_row, i_le, i_lt, i_eq, if_true, if_false, Nat.le_refl, Nat.reduceEqDiff, Nat.reduceLeDiff, n1, hk]
      rw [s172_29 (by decide)]
      refine c_costOf hg (by omega) hm hm4 hk hk4 hJ4 ht (fun J1 hJ1 => ?_)
      have ih' := ih (by omega) (some (.int (costM N m k g (k - (r + 1))))) rfl J1 (hJ.trans hJ1)
      have s1 : chS N m k g (k - 1 - r) = (if costM N m k g (k - (r + 1)) < (chS N m k g (k - 1 - (r + 1))).2 then k - (r + 1) else (chS N m k g (k - 1 - (r + 1))).1, mmin (chS N m k g (k - 1 - (r + 1))).2 (costM N m k g (k - (r + 1)))) := by
        rw [e1, e2]; rfl
      rw [s1] at ih'
      dsimp only at ih'
      by_cases h2 : costM N m k g (k - (r + 1)) < (chS N m k g (k - 1 - (r + 1))).2
      · have h2' : ¬ (chS N m k g (k - 1 - (r + 1))).2 ≤ costM N m k g (k - (r + 1)) := Int32.not_le.mpr h2
        rw [if_pos h2] at ih'
        simp (disch := first | exact ok_i | exact ok_r | exact ok_n | exact cat_i | exact cat_r | exact t103 | exact ro_0 | exact ro_1 | omega | assumption | (refine i103 ?_; omega) | (simp only [List.map_cons, List.map_nil, List.sum_cons, List.sum_nil, cat_i, cat_r, cat_l, Nat.reduceAdd, Nat.reduceLeDiff]; done) | decide) only [s172_32, s172_34, s172_36, s172_37, s172_40, s172_42, s172_45, s172_46, s172_47, s172_48, s172_50, s172_53, s172_54, s172_57, tl_s, tl_n, nI_add, pk_mul, i_cl, row_s, u2_row, i_le, i_lt, i_eq, if_true, if_false, Nat.le_refl, Nat.reduceEqDiff, Nat.reduceLeDiff, h2', e3]
        exact ih'
      · have h2' : (chS N m k g (k - 1 - (r + 1))).2 ≤ costM N m k g (k - (r + 1)) := Int32.not_lt.mp h2
        rw [if_neg h2] at ih'
        simp (disch := first | exact ok_i | exact ok_r | exact ok_n | exact cat_i | exact cat_r | exact t103 | exact ro_0 | exact ro_1 | omega | assumption | (refine i103 ?_; omega) | (simp only [List.map_cons, List.map_nil, List.sum_cons, List.sum_nil, cat_i, cat_r, cat_l, Nat.reduceAdd, Nat.reduceLeDiff]; done) | decide) only [s172_32, s172_34, s172_36, s172_37, s172_40, s172_42, s172_45, s172_46, s172_47, s172_48, s172_50, s172_53, s172_54, s172_57, tl_s, tl_n, nI_add, pk_mul, i_cl, row_s, u2_row, i_le, i_lt, i_eq, if_true, if_false, Nat.le_refl, Nat.reduceEqDiff, Nat.reduceLeDiff, h2', e3]
        exact ih'
  have k0 := key (k - 1) (by omega) none rfl J0 hJ0
  rw [Nat.sub_self, show k - (k - 1) = 1 by omega] at k0
  exact k0
end
