/-! the class: words, values, clauses of the tape -/
theorem nums_0 {X : pX} : (roT X 1002).1 = 20 := rfl
theorem tag1002 : tagW G0 1002 = 99 := rfl
theorem inb1002 {X : pX} {w : Nat} (h : w < 6) : inb (nI w) (roT X 1002).2 = true := i_inb h (by show 6 < 2147483648; omega)
def nN (w : Nat) : Nat := ([3, 1, 2, 1, 0, 0] : List Nat).getD w 0
theorem nN_le {w : Nat} (h : w < 6) : nN w ≤ 3 := by rcases w6 h with rfl | rfl | rfl | rfl | rfl | rfl <;> decide
theorem roN {X : pX} {w : Nat} (h : w < 6) : roI X 1002 w = nI (nN w) := by rcases w6 h with rfl | rfl | rfl | rfl | rfl | rfl <;> rfl
/-- the value that stands between two places -/
def vh (I : pI) (b : Nat) : Nat → Int32 := itr (fun i v => nI 10 * v + I 106 (b + i) - nI 48) (nI 0)
section
variable {X : pX} {d : Nat} {I : pI} {Q : Option Value → pG → pI → Prop} {G : pG} {T : Nat}
theorem t_valueHere {b e : Nat} {t : Int32} (hB : ByOk I T) (hbe : b ≤ e) (he : e ≤ T) (hT2 : T ≤ 60) : Call X (d + 1) 70 [.ref 89] G0 (tpI I b e t) Q ↔ Q (some (.int (vh I b (e - b)))) G0 (tpI I b e t) := by
  have e90 : tpI I b e t 90 = I 90 := tp_n (by decide)
  simp (disch := first | exact ok_i | exact ok_r | exact ok_n | exact cat_i | exact cat_r | exact t89 | exact t90 | exact t91 | exact t92 | exact ro_0 | exact ro_1 | (refine i90 ?_; omega) | (refine i91 ?_; omega) | (refine i92 ?_; omega) | omega | assumption | (simp only [List.map_cons, List.map_nil, List.sum_cons, List.sum_nil, cat_i, cat_r, cat_l, Nat.reduceAdd, Nat.reduceLeDiff]; done) | decide) only [e70, s70_0, s70_1, s70_2, s70_3, s70_6, tl_s, tl_n, nI_add, pk_mul, i_cl, row_s, u2_row, i_le, i_lt, i_eq, if_true, if_false, Nat.le_refl, Nat.reduceEqDiff, Nat.reduceLeDiff, tp_g6]
  have key := loop_up (P := fun i => At X d 70 7 [some (.ref 89), some (.int (vh I b i)), some (.int (nI (b + i)))] [] G0 (tpI I b e t) Q) (R := Q (some (.int (vh I b (e - b)))) G0 (tpI I b e t)) (n := e - b) ?_ ?_ 0 (Nat.zero_le _)
  · exact key
  · have e1 : b + (e - b) = e := by omega
    simp (disch := first | exact ok_i | exact ok_r | exact ok_n | exact cat_i | exact cat_r | exact t89 | exact t90 | exact t91 | exact t92 | exact ro_0 | exact ro_1 | (refine i90 ?_; omega) | (refine i91 ?_; omega) | (refine i92 ?_; omega) | omega | assumption | (simp only [List.map_cons, List.map_nil, List.sum_cons, List.sum_nil, cat_i, cat_r, cat_l, Nat.reduceAdd, Nat.reduceLeDiff]; done) | decide) only [s70_7, s70_8, s70_9, s70_12, s70_36, s70_37, tl_s, tl_n, nI_add, pk_mul, i_cl, row_s, u2_row, i_le, i_lt, i_eq, if_true, if_false, Nat.le_refl, Nat.reduceEqDiff, Nat.reduceLeDiff, tp_g7, e1]
  · intro i hi
    have n1 : ¬ e ≤ b + i := by omega
    obtain ⟨h1, -⟩ := hB (b + i) (by omega)
    have e2 : vh I b (i + 1) = nI 10 * vh I b i + I 106 (b + i) - nI 48 := rfl
    rw [s70_7, e2]
    simp (disch := first | exact ok_i | exact ok_r | exact ok_n | exact cat_i | exact cat_r | exact t89 | exact t90 | exact t91 | exact t92 | exact ro_0 | exact ro_1 | (refine i90 ?_; omega) | (refine i91 ?_; omega) | (refine i92 ?_; omega) | omega | assumption | (simp only [List.map_cons, List.map_nil, List.sum_cons, List.sum_nil, cat_i, cat_r, cat_l, Nat.reduceAdd, Nat.reduceLeDiff]; done) | decide) only [s70_8, s70_9, s70_12, s70_15, s70_17, s70_18, s70_19, s70_20, s70_23, s70_24, s70_25, s70_26, s70_28, s70_29, s70_30, s70_33, tl_s, tl_n, nI_add, pk_mul, i_cl, row_s, u2_row, i_le, i_lt, i_eq, if_true, if_false, Nat.le_refl, Nat.reduceEqDiff, Nat.reduceLeDiff, tp_g7, n1, r89_2, e90, h1, Nat.add_assoc]
theorem t_isHere {b e w : Nat} {t : Int32} (hw : w < 6) (hbe : b ≤ e) (he : e ≤ 60) : Call X (d + 5) 72 [.ref 89, .ref (1004 + w)] G0 (tpI I b e t) Q ↔ Q (some (.int (b2i (isB I b e w)))) G0 (tpI I b e t) := by
  have e90 : tpI I b e t 90 = I 90 := tp_n (by decide)
  have hl := lw_le hw
  unfold isB
  simp (disch := first | exact ok_i | exact ok_r | exact ok_n | exact cat_i | exact cat_r | exact t89 | exact t90 | exact t91 | exact t92 | exact ro_0 | exact ro_1 | (refine i90 ?_; omega) | (refine i91 ?_; omega) | (refine i92 ?_; omega) | omega | assumption | (simp only [List.map_cons, List.map_nil, List.sum_cons, List.sum_nil, cat_i, cat_r, cat_l, Nat.reduceAdd, Nat.reduceLeDiff]; done) | decide) only [e72, s72_0, s72_1, s72_4, s72_5, s72_8, s72_9, s72_12, s72_13, tl_s, tl_n, nI_add, pk_mul, i_cl, row_s, u2_row, i_le, i_lt, i_eq, if_true, if_false, Nat.le_refl, Nat.reduceEqDiff, Nat.reduceLeDiff, tp_g6, tp_g7, x_length hw, i_sub]
  by_cases c1 : lw w = e - b
  · rw [if_pos c1, decide_eq_true c1, Bool.true_and]
    simp (disch := first | exact ok_i | exact ok_r | exact ok_n | exact cat_i | exact cat_r | exact t89 | exact t90 | exact t91 | exact t92 | exact ro_0 | exact ro_1 | (refine i90 ?_; omega) | (refine i91 ?_; omega) | (refine i92 ?_; omega) | omega | assumption | (simp only [List.map_cons, List.map_nil, List.sum_cons, List.sum_nil, cat_i, cat_r, cat_l, Nat.reduceAdd, Nat.reduceLeDiff]; done) | decide) only [s72_18, s72_19, tl_s, tl_n, nI_add, pk_mul, i_cl, row_s, u2_row, i_le, i_lt, i_eq, if_true, if_false, Nat.le_refl, Nat.reduceEqDiff, Nat.reduceLeDiff]
    have key : ∀ r, r ≤ lw w → alB I b w (lw w - r) = true → (At X (d + 4) 72 20 [some (.ref 89), some (.ref (1004 + w)), some (.int (nI (lw w - r)))] [] G0 (tpI I b e t) Q ↔ Q (some (.int (b2i (alB I b w (lw w))))) G0 (tpI I b e t)) := by
      intro r
      induction r with
      | zero =>
        intro _ h0
        rw [Nat.sub_zero] at h0 ⊢
        simp (disch := first | exact ok_i | exact ok_r | exact ok_n | exact cat_i | exact cat_r | exact t89 | exact t90 | exact t91 | exact t92 | exact ro_0 | exact ro_1 | (refine i90 ?_; omega) | (refine i91 ?_; omega) | (refine i92 ?_; omega) | omega | assumption | (simp only [List.map_cons, List.map_nil, List.sum_cons, List.sum_nil, cat_i, cat_r, cat_l, Nat.reduceAdd, Nat.reduceLeDiff]; done) | decide) only [s72_20, s72_21, s72_22, s72_25, s72_55, s72_56, tl_s, tl_n, nI_add, pk_mul, i_cl, row_s, u2_row, i_le, i_lt, i_eq, if_true, if_false, Nat.le_refl, Nat.reduceEqDiff, Nat.reduceLeDiff, x_length hw, h0, b2i]
      | succ r ih =>
        intro hr h0
        have n1 : ¬ lw w ≤ lw w - (r + 1) := by omega
        have hk : lw w - (r + 1) < lw w := by omega
        have e2 : lw w - (r + 1) + 1 = lw w - r := by omega
        have e3 : alB I b w (lw w - r) = decide (I 90 (b + (lw w - (r + 1))) = nI (chr w (lw w - (r + 1)))) := by
          rw [← e2]
          show (alB I b w (lw w - (r + 1)) && _) = _
          rw [h0, Bool.true_and]
        rw [s72_20]
        simp (disch := first | exact ok_i | exact ok_r | exact ok_n | exact cat_i | exact cat_r | exact t89 | exact t90 | exact t91 | exact t92 | exact ro_0 | exact ro_1 | (refine i90 ?_; omega) | (refine i91 ?_; omega) | (refine i92 ?_; omega) | omega | assumption | (simp only [List.map_cons, List.map_nil, List.sum_cons, List.sum_nil, cat_i, cat_r, cat_l, Nat.reduceAdd, Nat.reduceLeDiff]; done) | decide) only [s72_21, s72_22, s72_25, s72_28, s72_29, s72_32, s72_33, s72_36, s72_37, s72_38, s72_39, s72_40, s72_41, tl_s, tl_n, nI_add, pk_mul, i_cl, row_s, u2_row, i_le, i_lt, i_eq, if_true, if_false, Nat.le_refl, Nat.reduceEqDiff, Nat.reduceLeDiff, x_length hw, n1, tp_g6, r89_2, e90, x_charAt hw hk]
        rw [s72_44]
        by_cases c2 : I 90 (b + (lw w - (r + 1))) = nI (chr w (lw w - (r + 1)))
        · rw [if_pos c2]
          simp (disch := first | exact ok_i | exact ok_r | exact ok_n | exact cat_i | exact cat_r | exact t89 | exact t90 | exact t91 | exact t92 | exact ro_0 | exact ro_1 | (refine i90 ?_; omega) | (refine i91 ?_; omega) | (refine i92 ?_; omega) | omega | assumption | (simp only [List.map_cons, List.map_nil, List.sum_cons, List.sum_nil, cat_i, cat_r, cat_l, Nat.reduceAdd, Nat.reduceLeDiff]; done) | decide) only [s72_49, s72_52, tl_s, tl_n, nI_add, pk_mul, i_cl, row_s, u2_row, i_le, i_lt, i_eq, if_true, if_false, Nat.le_refl, Nat.reduceEqDiff, Nat.reduceLeDiff, e2]
          exact ih (by omega) (by rw [e3, decide_eq_true c2])
        · have e4 : alB I b w (lw w) = false := by
            have := alB_f (I := I) (b := b) (w := w) (j := r) (k := lw w - r) (by rw [e3, decide_eq_false c2])
            rwa [show lw w - r + r = lw w by omega] at this
          rw [if_neg c2, e4]
          simp (disch := first | exact ok_i | exact ok_r | exact ok_n | exact cat_i | exact cat_r | exact t89 | exact t90 | exact t91 | exact t92 | exact ro_0 | exact ro_1 | (refine i90 ?_; omega) | (refine i91 ?_; omega) | (refine i92 ?_; omega) | omega | assumption | (simp only [List.map_cons, List.map_nil, List.sum_cons, List.sum_nil, cat_i, cat_r, cat_l, Nat.reduceAdd, Nat.reduceLeDiff]; done) | decide) only [s72_47, s72_48, tl_s, tl_n, nI_add, pk_mul, i_cl, row_s, u2_row, i_le, i_lt, i_eq, if_true, if_false, Nat.le_refl, Nat.reduceEqDiff, Nat.reduceLeDiff, b2i, Bool.false_eq_true]
    have k0 := key (lw w) (Nat.le_refl _) (by rw [Nat.sub_self]; rfl)
    rw [Nat.sub_self] at k0
    exact k0
  · rw [if_neg c1, decide_eq_false c1, Bool.false_and]
    simp (disch := first | exact ok_i | exact ok_r | exact ok_n | exact cat_i | exact cat_r | exact t89 | exact t90 | exact t91 | exact t92 | exact ro_0 | exact ro_1 | (refine i90 ?_; omega) | (refine i91 ?_; omega) | (refine i92 ?_; omega) | omega | assumption | (simp only [List.map_cons, List.map_nil, List.sum_cons, List.sum_nil, cat_i, cat_r, cat_l, Nat.reduceAdd, Nat.reduceLeDiff]; done) | decide) only [s72_16, s72_17, tl_s, tl_n, nI_add, pk_mul, i_cl, row_s, u2_row, i_le, i_lt, i_eq, if_true, if_false, Nat.le_refl, Nat.reduceEqDiff, Nat.reduceLeDiff, b2i, Bool.false_eq_true]
theorem t_wordHere {b e : Nat} {t : Int32} (hW : WdsOk I) (hB : ByOk I T) (hbe : b ≤ e) (he : e ≤ T) (hT2 : T ≤ 60) (hl : ∀ j, b ≤ j → j < e → inL (I 106 j) 97 122 = true) : Call X (d + 6) 71 [.ref 89] G0 (tpI I b e t) Q ↔ Q (some (.int (o2i (wfR I b e 6)))) G0 (tpI I b e t) := by
  simp (disch := first | exact ok_i | exact ok_r | exact ok_n | exact cat_i | exact cat_r | exact t89 | exact t90 | exact t91 | exact t92 | exact ro_0 | exact ro_1 | (refine i90 ?_; omega) | (refine i91 ?_; omega) | (refine i92 ?_; omega) | omega | assumption | (simp only [List.map_cons, List.map_nil, List.sum_cons, List.sum_nil, cat_i, cat_r, cat_l, Nat.reduceAdd, Nat.reduceLeDiff]; done) | decide) only [e71, s71_0, s71_1, tl_s, tl_n, nI_add, pk_mul, i_cl, row_s, u2_row, i_le, i_lt, i_eq, if_true, if_false, Nat.le_refl, Nat.reduceEqDiff, Nat.reduceLeDiff]
  have key : ∀ r, r ≤ 6 → (At X (d + 5) 71 2 [some (.ref 89), some (.int (nI (6 - r)))] [] G0 (tpI I b e t) Q ↔ Q (some (.int (o2i (wfR I b e r)))) G0 (tpI I b e t)) := by
    intro r
    induction r with
    | zero =>
      intro _
      rw [Nat.sub_zero]
      simp (disch := first | exact ok_i | exact ok_r | exact ok_n | exact cat_i | exact cat_r | exact t89 | exact t90 | exact t91 | exact t92 | exact ro_0 | exact ro_1 | (refine i90 ?_; omega) | (refine i91 ?_; omega) | (refine i92 ?_; omega) | omega | assumption | (simp only [List.map_cons, List.map_nil, List.sum_cons, List.sum_nil, cat_i, cat_r, cat_l, Nat.reduceAdd, Nat.reduceLeDiff]; done) | decide) only [s71_2, s71_3, s71_5, s71_27, s71_28, tl_s, tl_n, nI_add, pk_mul, i_cl, row_s, u2_row, i_le, i_lt, i_eq, if_true, if_false, Nat.le_refl, Nat.reduceEqDiff, Nat.reduceLeDiff]
      rfl
    | succ r ih =>
      intro hr
      have n1 : ¬ 6 ≤ 6 - (r + 1) := by omega
      have e2 : 6 - (r + 1) + 1 = 6 - r := by omega
      have e3 : wfR I b e (r + 1) = if isB I b e (6 - (r + 1)) = true then some (6 - (r + 1)) else wfR I b e r := by
        show (if mtB I b e (6 - (r + 1)) 6 = true then some (6 - (r + 1)) else wfR I b e r) = _
        rw [mt_is (by omega) hW hB hbe he hl]
      rw [s71_2, e3]
      simp (disch := first | exact ok_i | exact ok_r | exact ok_n | exact cat_i | exact cat_r | exact t89 | exact t90 | exact t91 | exact t92 | exact ro_0 | exact ro_1 | (refine i90 ?_; omega) | (refine i91 ?_; omega) | (refine i92 ?_; omega) | omega | assumption | (simp only [List.map_cons, List.map_nil, List.sum_cons, List.sum_nil, cat_i, cat_r, cat_l, Nat.reduceAdd, Nat.reduceLeDiff]; done) | decide) only [s71_3, s71_5, s71_8, s71_9, s71_10, tl_s, tl_n, nI_add, pk_mul, i_cl, row_s, u2_row, i_le, i_lt, i_eq, if_true, if_false, Nat.le_refl, Nat.reduceEqDiff, Nat.reduceLeDiff, n1, t_spelling (show 6 - (r + 1) < 6 by omega)]
      simp (disch := first | exact ok_i | exact ok_r | exact ok_n | exact cat_i | exact cat_r | exact t89 | exact t90 | exact t91 | exact t92 | exact ro_0 | exact ro_1 | (refine i90 ?_; omega) | (refine i91 ?_; omega) | (refine i92 ?_; omega) | omega | assumption | (simp only [List.map_cons, List.map_nil, List.sum_cons, List.sum_nil, cat_i, cat_r, cat_l, Nat.reduceAdd, Nat.reduceLeDiff]; done) | decide) only [s71_13, s71_16, tl_s, tl_n, nI_add, pk_mul, i_cl, row_s, u2_row, i_le, i_lt, i_eq, if_true, if_false, Nat.le_refl, Nat.reduceEqDiff, Nat.reduceLeDiff, t_isHere (show 6 - (r + 1) < 6 by omega) hbe (show e ≤ 60 by omega), b2i_0]
      cases c : isB I b e (6 - (r + 1))
      · simp (disch := first | exact ok_i | exact ok_r | exact ok_n | exact cat_i | exact cat_r | exact t89 | exact t90 | exact t91 | exact t92 | exact ro_0 | exact ro_1 | (refine i90 ?_; omega) | (refine i91 ?_; omega) | (refine i92 ?_; omega) | omega | assumption | (simp only [List.map_cons, List.map_nil, List.sum_cons, List.sum_nil, cat_i, cat_r, cat_l, Nat.reduceAdd, Nat.reduceLeDiff]; done) | decide) only [s71_21, s71_24, tl_s, tl_n, nI_add, pk_mul, i_cl, row_s, u2_row, i_le, i_lt, i_eq, if_true, if_false, Nat.le_refl, Nat.reduceEqDiff, Nat.reduceLeDiff, e2, Bool.false_eq_true]
        exact ih (by omega)
      · simp (disch := first | exact ok_i | exact ok_r | exact ok_n | exact cat_i | exact cat_r | exact t89 | exact t90 | exact t91 | exact t92 | exact ro_0 | exact ro_1 | (refine i90 ?_; omega) | (refine i91 ?_; omega) | (refine i92 ?_; omega) | omega | assumption | (simp only [List.map_cons, List.map_nil, List.sum_cons, List.sum_nil, cat_i, cat_r, cat_l, Nat.reduceAdd, Nat.reduceLeDiff]; done) | decide) only [s71_19, s71_20, tl_s, tl_n, nI_add, pk_mul, i_cl, row_s, u2_row, i_le, i_lt, i_eq, if_true, if_false, Nat.le_refl, Nat.reduceEqDiff, Nat.reduceLeDiff, Bool.true_eq_false, o2i]
  exact key 6 (Nat.le_refl _)
end
/-! tokens -/
theorem lw_all {I : pI} {T : Nat} : ∀ {r q : Nat}, ∀ j, q ≤ j → j < lwR I T r q → inL (bytA I T j) 97 122 = true
  | 0, q, j, h1, h2 => absurd h2 (by show ¬ j < q; omega)
  | r + 1, q, j, h1, h2 => by
    unfold lwR at h2
    by_cases c : inL (bytA I T q) 97 122 = true
    · rw [if_pos c] at h2
      by_cases e : j = q
      · subst e; exact c
      · exact lw_all (r := r) (q := q + 1) j (by omega) h2
    · rw [if_neg c] at h2
      omega
theorem dg_all {I : pI} {T b : Nat} : ∀ {r q : Nat} {v : Int32}, ∀ j, q ≤ j → j < (dgR I T b r q v).1 → inL (bytA I T j) 48 57 = true
  | 0, q, v, j, h1, h2 => absurd h2 (by show ¬ j < q; omega)
  | r + 1, q, v, j, h1, h2 => by
    unfold dgR at h2
    by_cases c : inL (bytA I T q) 48 57 = true
    · rw [if_pos c] at h2
      by_cases e : j = q
      · subst e; exact c
      · exact dg_all (r := r) (q := q + 1) j (by omega) h2
    · rw [if_neg c] at h2
      dsimp only at h2
      omega
theorem itr_sh {α : Type} {g : Nat → α → α} {a : α} : ∀ {n : Nat}, itr (fun i s => g (i + 1) s) (g 0 a) n = itr g a (n + 1)
  | 0 => rfl
  | n + 1 => by
    rw [itr_s, itr_sh (n := n), itr_s]
    rfl
theorem dg_val {I : pI} {T b : Nat} : ∀ {r q : Nat} {v : Int32}, b ≤ q → q + r ≤ T → (dgR I T b r q v).1 - b ≤ 2 → (dgR I T b r q v).2 = itr (fun i v => nI 10 * v + I 106 (q + i) - nI 48) v ((dgR I T b r q v).1 - q)
  | 0, q, v, _, _, _ => by
    show v = itr _ v (q - q)
    rw [Nat.sub_self]
    rfl
  | r + 1, q, v, hq, hT, h => by
    have e0 : dgR I T b (r + 1) q v = if inL (bytA I T q) 48 57 = true then dgR I T b r (q + 1) (if q - b < 2 then nI 10 * v + bytA I T q - nI 48 else v) else (q, v) := rfl
    rw [e0] at h ⊢
    by_cases c : inL (bytA I T q) 48 57 = true
    · rw [if_pos c] at h ⊢
      have hle := dgR_le (I := I) (T := T) (b := b) (r := r) (q := q + 1) (v := if q - b < 2 then nI 10 * v + bytA I T q - nI 48 else v)
      have ih := dg_val (I := I) (T := T) (b := b) (r := r) (q := q + 1) (v := if q - b < 2 then nI 10 * v + bytA I T q - nI 48 else v) (by omega) (by omega) h
      rw [ih]
      generalize (dgR I T b r (q + 1) (if q - b < 2 then nI 10 * v + bytA I T q - nI 48 else v)).1 = F at *
      rw [if_pos (by omega), bytA_lt (by omega)]
      have e1 : F - q = (F - (q + 1)) + 1 := by omega
      rw [e1, ← itr_sh]
      have e2 : (fun (i : Nat) (v : Int32) => nI 10 * v + I 106 (q + 1 + i) - nI 48) = (fun (i : Nat) (s : Int32) => nI 10 * s + I 106 (q + (i + 1)) - nI 48) := by
        funext i s
        rw [show q + 1 + i = q + (i + 1) by omega]
      rw [e2]
      rfl
    · rw [if_neg c]
      show v = itr _ v (q - q)
      rw [Nat.sub_self]
      rfl
