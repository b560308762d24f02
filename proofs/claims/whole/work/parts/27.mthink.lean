/-! the model: passing, thinking, costs -/
def psS (N : Nat → Int32) (m : Nat) : Nat → (Nat → Int32) × Nat := itr (fun c s => (mvN s.1 c m, s.2 + mvT s.1 c m)) (upd N 447 (N 447 + nI 1), 0)
def fixP (a : Nat) : Prop := 444 ≤ a ∧ a ≠ 447 ∧ a ≠ 450 ∧ a ≠ 451
theorem psS_o {N : Nat → Int32} {m a : Nat} (hm : m ≤ 40) (h : fixP a) : ∀ {k : Nat}, k ≤ 4 → (psS N m k).1 a = N a
  | 0, _ => by
    unfold fixP at h
    show upd N 447 (N 447 + nI 1) a = N a
    rw [up_n (by omega)]
  | k + 1, hk => by
    show mvN (psS N m k).1 k m a = N a
    rw [mvN_o (by omega) hm (by unfold fixA; unfold fixP at h; omega)]
    exact psS_o hm h (by omega)
theorem psS_le {N : Nat → Int32} {m : Nat} : ∀ {k : Nat}, (psS N m k).2 ≤ k * m
  | 0 => Nat.zero_le _
  | k + 1 => by
    have h := psS_le (N := N) (m := m) (k := k)
    have h2 := mvT_le (N := (psS N m k).1) (c := k) (m := m)
    show (psS N m k).2 + mvT (psS N m k).1 k m ≤ (k + 1) * m
    rw [Nat.add_mul, Nat.one_mul]
    omega
def Sm (t : Nat) (I J : pI) : Prop := (∀ a, a ≠ 105 → J a = I a) ∧ ∀ j, j < 452 * t → J 105 j = I 105 j
theorem Sm.refl {t : Nat} {I : pI} : Sm t I I := ⟨fun _ _ => rfl, fun _ _ => rfl⟩
theorem Sm.trans {t : Nat} {I J K : pI} (h : Sm t I J) (h2 : Sm t J K) : Sm t I K := ⟨fun a ha => (h2.1 a ha).trans (h.1 a ha), fun j hj => (h2.2 j hj).trans (h.2 j hj)⟩
theorem u2_n {I : pI} {r s k : Nat} {f : Nat → Int32} {v : Int32} (h : s ≠ r) : upd2 (row I r f) s k v = row (upd2 I s k v) r f := by
  funext a j
  unfold upd2 row
  by_cases h1 : a = s
  · rw [if_neg (show ¬ a = r from fun e => h (h1.symm.trans e)), if_neg (show ¬ a = r from fun e => h (h1.symm.trans e))]
  · by_cases h2 : a = r
    · rw [if_pos h2, if_pos h2, if_neg (fun e => h1 e.1)]
    · have n1 : ¬ (a = s ∧ j = k) := fun e => h1 e.1
      simp only [h2, n1, if_false]
def thk (I : pI) (t : Nat) (N : Nat → Int32) : pI := upd2 (row I 105 (fun j => if 452 * t ≤ j ∧ j < 452 * t + 452 then N (j - 452 * t) else I 105 j)) 102 4 (nI (t + 1))
theorem cpy_thk {I : pI} {t : Nat} {N : Nat → Int32} : cpy2 (row I 103 N) 103 0 105 (452 * t) 452 = row (row I 105 (fun j => if 452 * t ≤ j ∧ j < 452 * t + 452 then N (j - 452 * t) else I 105 j)) 103 N := by
  funext a j
  unfold cpy2 row
  by_cases h1 : a = 105
  · by_cases h2 : 452 * t ≤ j ∧ j < 452 * t + 452
    · rw [if_pos ⟨h1, h2⟩, if_neg (show ¬ a = 103 by omega), if_pos h1, if_pos rfl, Nat.zero_add]
      rw [if_pos h2]
    · rw [if_neg (fun e => h2 e.2), if_neg (show ¬ a = 103 by omega), if_neg (show ¬ a = 103 by omega), if_pos h1]
      rw [if_neg h2, h1]
  · rw [if_neg (fun e => h1 e.1)]
    by_cases h2 : a = 103
    · rw [if_pos h2, if_pos h2]
    · rw [if_neg h2, if_neg h2, if_neg h1]
theorem cpy_back {I : pI} {t : Nat} {N : Nat → Int32} : cpy2 (row I 103 N) 105 (452 * t) 103 0 452 = row I 103 (fun j => if j < 452 then I 105 (452 * t + j) else N j) := by
  funext a j
  unfold cpy2 row
  by_cases h1 : a = 103
  · by_cases h2 : j < 452
    · rw [if_pos ⟨h1, by omega⟩, if_neg (by decide), if_pos h1]
      rw [if_pos h2, Nat.sub_zero]
    · rw [if_neg (fun e => h2 (by omega)), if_pos h1, if_pos h1]
      rw [if_neg h2]
  · rw [if_neg (fun e => h1 e.1), if_neg h1, if_neg h1]
theorem thk_102 {I : pI} {t : Nat} {N : Nat → Int32} : thk I t N 102 4 = nI (t + 1) := by
  unfold thk upd2
  rw [if_pos ⟨rfl, rfl⟩]
theorem thk_105 {I : pI} {t : Nat} {N : Nat → Int32} {j : Nat} : thk I t N 105 j = if 452 * t ≤ j ∧ j < 452 * t + 452 then N (j - 452 * t) else I 105 j := by
  unfold thk upd2
  rw [if_neg (by omega), row_s]
theorem thk_n {I : pI} {t a j : Nat} {N : Nat → Int32} (h : a ≠ 105) (h2 : a = 102 → j ≠ 4) : thk I t N a j = I a j := by
  unfold thk upd2
  rw [if_neg (fun e => h2 e.1 e.2), row_n h]
theorem thk_back {I : pI} {t : Nat} {N N' : Nat → Int32} (hN : ∀ j, 452 ≤ j → N' j = N j) : (fun j => if j < 452 then thk I t N 105 (452 * t + j) else N' j) = N := by
  funext j
  by_cases h : j < 452
  · rw [if_pos h, thk_105, if_pos (by omega), show 452 * t + j - 452 * t = j by omega]
  · rw [if_neg h, hN j (by omega)]
theorem thk_Sm {I : pI} {t : Nat} {N : Nat → Int32} (hI : I 102 4 = nI t) : Sm t I (upd2 (thk I t N) 102 4 (nI t)) := by
  refine ⟨fun a ha => ?_, fun j hj => ?_⟩
  · funext j
    unfold upd2
    by_cases h : a = 102 ∧ j = 4
    · rw [if_pos h, h.1, h.2, hI]
    · rw [if_neg h, thk_n ha (fun e e2 => h ⟨e, e2⟩)]
  · unfold upd2
    rw [if_neg (by omega), thk_105, if_neg (by omega)]
section
variable {X : pX} {d : Nat} {I : pI} {Q : Option Value → pG → pI → Prop} {N : Nat → Int32}
theorem c_passes {m k : Nat} (hm : N 446 = nI m) (hm4 : m ≤ 40) (hk : N 445 = nI k) (hk4 : k ≤ 4) : Call X (d + 8) 163 [.ref 102] G0 (row I 103 N) Q ↔ Q (some (.int (nI (psS N m k).2))) G0 (row I 103 (psS N m k).1) := by
  simp (disch := first | exact ok_i | exact ok_r | exact ok_n | exact cat_i | exact cat_r | exact t103 | exact ro_0 | exact ro_1 | omega | assumption | (refine i103 ?_; omega) | (simp only [List.map_cons, List.map_nil, List.sum_cons, List.sum_nil, cat_i, cat_r, cat_l, Nat.reduceAdd, Nat.reduceLeDiff]; done) | decide) only [e163, s163_0, s163_1, s163_4, s163_7, s163_8, s163_9, s163_10, s163_11, s163_12, s163_13, s163_14, s163_15, tl_s, tl_n, nI_add, pk_mul, i_cl, row_s, u2_row, i_le, i_lt, i_eq, if_true, if_false, Nat.le_refl, Nat.reduceEqDiff, Nat.reduceLeDiff]
  refine loop_up (P := fun c => At X (d + 7) 163 16 [some (.ref 102), some (.int (nI (psS N m c).2)), some (.int (nI c))] [] G0 (row I 103 (psS N m c).1) Q) (n := k) ?_ ?_ 0 (Nat.zero_le _)
  · have hk2 : (psS N m k).1 445 = nI k := by rw [psS_o hm4 (by unfold fixP; omega) hk4, hk]
    simp (disch := first | exact ok_i | exact ok_r | exact ok_n | exact cat_i | exact cat_r | exact t103 | exact ro_0 | exact ro_1 | omega | assumption | (refine i103 ?_; omega) | (simp only [List.map_cons, List.map_nil, List.sum_cons, List.sum_nil, cat_i, cat_r, cat_l, Nat.reduceAdd, Nat.reduceLeDiff]; done) | decide) only [s163_0, s163_1, s163_4, s163_7, s163_8, s163_9, s163_10, s163_11, s163_12, s163_13, s163_14, s163_15, s163_16, s163_17, s163_18, s163_21, s163_24, s163_25, s163_28, s163_29, s163_30, s163_31, s163_34, s163_35, s163_36, s163_39, s163_42, s163_43, tl_s, tl_n, nI_add, pk_mul, i_cl, row_s, u2_row, i_le, i_lt, i_eq, if_true, if_false, Nat.le_refl, Nat.reduceEqDiff, Nat.reduceLeDiff, hk2]
  · intro c hc
    have hk2 : (psS N m c).1 445 = nI k := by rw [psS_o hm4 (by unfold fixP; omega) (by omega), hk]
    have hm2 : (psS N m c).1 446 = nI m := by rw [psS_o hm4 (by unfold fixP; omega) (by omega), hm]
    have hl : (psS N m c).2 ≤ c * m := psS_le
    have hl2 : c * m ≤ 4 * 40 := Nat.mul_le_mul (by omega) hm4
    have hl3 : mvT (psS N m c).1 c m ≤ m := mvT_le
    have n1 : ¬ k ≤ c := by omega
    have e1 : psS N m (c + 1) = (mvN (psS N m c).1 c m, (psS N m c).2 + mvT (psS N m c).1 c m) := rfl
    rw [s163_16, e1]
    simp (disch := first | exact ok_i | exact ok_r | exact ok_n | exact cat_i | exact cat_r | exact t103 | exact ro_0 | exact ro_1 | omega | assumption | (refine i103 ?_; omega) | (simp only [List.map_cons, List.map_nil, List.sum_cons, List.sum_nil, cat_i, cat_r, cat_l, Nat.reduceAdd, Nat.reduceLeDiff]; done) | decide) only [s163_0, s163_1, s163_4, s163_7, s163_8, s163_9, s163_10, s163_11, s163_12, s163_13, s163_14, s163_15, s163_17, s163_18, s163_21, s163_24, s163_25, s163_28, s163_29, s163_30, s163_31, s163_34, s163_35, s163_36, s163_39, s163_42, s163_43, tl_s, tl_n, nI_add, pk_mul, i_cl, row_s, u2_row, i_le, i_lt, i_eq, if_true, if_false, Nat.le_refl, Nat.reduceEqDiff, Nat.reduceLeDiff, hk2, n1, c_moves (show c < 4 by omega) hm2 hm4]
theorem c_thinks {t : Nat} (hI : I 102 4 = nI t) (ht : t < 4) : Call X (d + 1) 125 [.ref 102] G0 (row I 103 N) Q ↔ Q none G0 (row (thk I t N) 103 N) := by
  have e1 : row I 103 N 102 4 = nI t := by rw [row_n (by decide), hI]
  have e2 : row (row I 105 (fun j => if 452 * t ≤ j ∧ j < 452 * t + 452 then N (j - 452 * t) else I 105 j)) 103 N 102 4 = nI t := by rw [row_n (by decide), row_n (by decide), hI]
  simp (disch := first | exact ok_i | exact ok_r | exact ok_n | exact cat_i | exact cat_r | exact t103 | exact ro_0 | exact ro_1 | omega | assumption | (refine i103 ?_; omega) | (simp only [List.map_cons, List.map_nil, List.sum_cons, List.sum_nil, cat_i, cat_r, cat_l, Nat.reduceAdd, Nat.reduceLeDiff]; done) | decide) only [e125, s125_0, s125_1, s125_4, s125_5, s125_6, s125_9, s125_12, s125_13, s125_16, s125_17, tl_s, tl_n, nI_add, pk_mul, i_cl, row_s, u2_row, i_le, i_lt, i_eq, if_true, if_false, Nat.le_refl, Nat.reduceEqDiff, Nat.reduceLeDiff, e1]
  rw [s125_20 t103 t105 (nI_pos' (by omega)) (nI_pos' (by omega)) (nI_pos' (by omega)) (by rw [i_cl (by omega), i_cl (by omega), n103]; omega) (by rw [i_cl (by omega), i_cl (by omega), n105]; omega) (by decide), i_cl (by omega), i_cl (by omega), i_cl (by omega), cpy_thk]
  simp (disch := first | exact ok_i | exact ok_r | exact ok_n | exact cat_i | exact cat_r | exact t103 | exact ro_0 | exact ro_1 | omega | assumption | (refine i103 ?_; omega) | (simp only [List.map_cons, List.map_nil, List.sum_cons, List.sum_nil, cat_i, cat_r, cat_l, Nat.reduceAdd, Nat.reduceLeDiff]; done) | decide) only [s125_23, s125_24, s125_25, s125_28, s125_29, s125_30, s125_33, tl_s, tl_n, nI_add, pk_mul, i_cl, row_s, u2_row, i_le, i_lt, i_eq, if_true, if_false, Nat.le_refl, Nat.reduceEqDiff, Nat.reduceLeDiff, e2, u2_n, thk]
theorem c_laysBack {t : Nat} (hI : I 102 4 = nI (t + 1)) (ht : t < 4) : Call X (d + 1) 126 [.ref 102] G0 (row I 103 N) Q ↔ Q none G0 (row (upd2 I 102 4 (nI t)) 103 (fun j => if j < 452 then upd2 I 102 4 (nI t) 105 (452 * t + j) else N j)) := by
  have e1 : row I 103 N 102 4 = nI (t + 1) := by rw [row_n (by decide), hI]
  have e2 : row (upd2 I 102 4 (nI t)) 103 N 102 4 = nI t := by rw [row_n (by decide)]; unfold upd2; rw [if_pos ⟨rfl, rfl⟩]
  have e3 : nI (t + 1) - nI 1 = nI t := by rw [i_sub (by omega), Nat.add_sub_cancel]
  simp (disch := first | exact ok_i | exact ok_r | exact ok_n | exact cat_i | exact cat_r | exact t103 | exact ro_0 | exact ro_1 | omega | assumption | (refine i103 ?_; omega) | (simp only [List.map_cons, List.map_nil, List.sum_cons, List.sum_nil, cat_i, cat_r, cat_l, Nat.reduceAdd, Nat.reduceLeDiff]; done) | decide) only [e126, s126_0, s126_1, s126_2, s126_5, s126_6, s126_7, s126_10, s126_11, s126_14, s126_17, s126_18, s126_21, s126_22, s126_23, s126_26, s126_27, tl_s, tl_n, nI_add, pk_mul, i_cl, row_s, u2_row, i_le, i_lt, i_eq, if_true, if_false, Nat.le_refl, Nat.reduceEqDiff, Nat.reduceLeDiff, e1, e3, u2_n, e2]
  rw [s126_30 t105 t103 (nI_pos' (by omega)) (nI_pos' (by omega)) (nI_pos' (by omega)) (by rw [i_cl (by omega), i_cl (by omega), n105]; omega) (by rw [i_cl (by omega), i_cl (by omega), n103]; omega) (by decide), i_cl (by omega), i_cl (by omega), i_cl (by omega), cpy_back]
  simp (disch := first | exact ok_i | exact ok_r | exact ok_n | exact cat_i | exact cat_r | exact t103 | exact ro_0 | exact ro_1 | omega | assumption | (refine i103 ?_; omega) | (simp only [List.map_cons, List.map_nil, List.sum_cons, List.sum_nil, cat_i, cat_r, cat_l, Nat.reduceAdd, Nat.reduceLeDiff]; done) | decide) only [s126_33, tl_s, tl_n, nI_add, pk_mul, i_cl, row_s, u2_row, i_le, i_lt, i_eq, if_true, if_false, Nat.le_refl, Nat.reduceEqDiff, Nat.reduceLeDiff]
end
