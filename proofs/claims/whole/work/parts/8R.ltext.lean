/-! the class: clauses are done -/
theorem dm_all {N : Nat → Int32} {f k m T : Nat} {w a b c : Int32} (h : AllOk N f k m T) : ∃ T', T' ≤ T + 99 ∧ AllOk (doM N f m k w a b c).2 f k (mOf (doM N f m k w a b c).2) T' := by
  have self : ∀ {N' : Nat → Int32} {m' T' : Nat}, AllOk N' f k m' T' → T' ≤ T + 99 → ∃ T', T' ≤ T + 99 ∧ AllOk N' f k (mOf N') T' := fun {N' m' T'} h1 h2 => ⟨T', h2, by rw [mOf_n h1.1.1.2.2.1 h1.1.1.2.2.2]; exact h1⟩
  unfold doM
  by_cases w0 : w = nI 0
  · rw [if_pos w0]; exact self (cl_all h) (by omega)
  · rw [if_neg w0]
    by_cases w1 : w = nI 1
    · rw [if_pos w1]
      dsimp only
      split
      · rename_i c1
        obtain ⟨-, -, c3⟩ := inL_t c1
        exact self (ts_all h) (by omega)
      · exact self h (by omega)
    · rw [if_neg w1]
      by_cases w2 : w = nI 2
      · rw [if_pos w2]; exact self (giv_all h) (by omega)
      · rw [if_neg w2]
        by_cases w3 : w = nI 3
        · rw [if_pos w3]; exact self (way_all h) (by omega)
        · rw [if_neg w3]
          by_cases w4 : w = nI 4
          · rw [if_pos w4]; exact self (rg_all h) (by omega)
          · rw [if_neg w4]; exact self (pk_all h) (by omega)
theorem tx_all {N C : Nat → Int32} {f k m T : Nat} (h : AllOk N f k m T) : ∀ {n : Nat}, ∃ T', T' ≤ T + 99 * n ∧ AllOk (txS C N f k n).1 f k (mOf (txS C N f k n).1) T'
  | 0 => ⟨T, by omega, by
    show AllOk N f k (mOf N) T
    rw [mOf_n h.1.1.2.2.1 h.1.1.2.2.2]
    exact h⟩
  | n + 1 => by
    obtain ⟨T', h1, h2⟩ := tx_all (C := C) h (n := n)
    obtain ⟨T2, h3, h4⟩ := dm_all (w := C (4 * n)) (a := C (4 * n + 1)) (b := C (4 * n + 2)) (c := C (4 * n + 3)) h2
    exact ⟨T2, by omega, h4⟩
section
variable {X : pX} {d : Nat} {I : pI} {Q : Option Value → pG → pI → Prop} {N : Nat → Int32} {f k m T : Nat}
theorem t_wordOf {i cm : Nat} (h1 : I 89 1 = nI cm) (hi : i < cm) (hc : cm ≤ 30) : Call X (d + 1) 64 [.ref 89, .int (nI i)] G0 I Q ↔ Q (some (.int (I 91 i))) G0 I := by
  have n1 : ¬ nI i < nI 0 := by rw [i_lt (by omega) (by omega)]; omega
  have n2 : ¬ cm ≤ i := by omega
  simp (disch := first | exact ok_i | exact ok_r | exact ok_n | exact cat_i | exact cat_r | exact t89 | exact t90 | exact t91 | exact t92 | exact ro_0 | exact ro_1 | (refine i90 ?_; omega) | (refine i91 ?_; omega) | (refine i92 ?_; omega) | omega | assumption | (simp only [List.map_cons, List.map_nil, List.sum_cons, List.sum_nil, cat_i, cat_r, cat_l, Nat.reduceAdd, Nat.reduceLeDiff]; done) | decide) only [e64, s64_0, s64_1, s64_4, s64_5, s64_6, s64_9, s64_12, s64_13, s64_16, s64_17, s64_18, s64_21, s64_22, tl_s, tl_n, nI_add, pk_mul, i_cl, row_s, u2_row, i_le, i_lt, i_eq, if_true, if_false, Nat.le_refl, Nat.reduceEqDiff, Nat.reduceLeDiff, n1, n2, h1, r89_3]
theorem t_numberOf {i j cm : Nat} (h1 : I 89 1 = nI cm) (hi : i < cm) (hc : cm ≤ 30) (hj : j < 3) : Call X (d + 1) 65 [.ref 89, .int (nI i), .int (nI j)] G0 I Q ↔ Q (some (.int (I 92 (3 * i + j)))) G0 I := by
  have n1 : ¬ nI i < nI 0 := by rw [i_lt (by omega) (by omega)]; omega
  have n2 : ¬ cm ≤ i := by omega
  have n3 : ¬ nI j < nI 0 := by rw [i_lt (by omega) (by omega)]; omega
  have n4 : ¬ 3 ≤ j := by omega
  have n5 : ¬ nI 1 = nI 0 := by decide
  simp (disch := first | exact ok_i | exact ok_r | exact ok_n | exact cat_i | exact cat_r | exact t89 | exact t90 | exact t91 | exact t92 | exact ro_0 | exact ro_1 | (refine i90 ?_; omega) | (refine i91 ?_; omega) | (refine i92 ?_; omega) | omega | assumption | (simp only [List.map_cons, List.map_nil, List.sum_cons, List.sum_nil, cat_i, cat_r, cat_l, Nat.reduceAdd, Nat.reduceLeDiff]; done) | decide) only [e65, s65_0, s65_1, s65_4, s65_5, s65_6, s65_9, s65_12, s65_13, s65_16, s65_17, s65_18, s65_21, s65_22, s65_25, s65_26, s65_27, s65_28, s65_31, s65_32, s65_35, s65_36, s65_37, s65_38, s65_39, s65_40, s65_41, s65_44, s65_45, tl_s, tl_n, nI_add, pk_mul, i_cl, row_s, u2_row, i_le, i_lt, i_eq, if_true, if_false, Nat.le_refl, Nat.reduceEqDiff, Nat.reduceLeDiff, n1, n2, n3, n4, n5, h1, r89_4]
theorem l_perform {i cm : Nat} {C : Nat → Int32} (hr : HR 45 46 I N m (live N m)) (al : AllOk N f k m T) (h1 : I 89 1 = nI cm) (hi : i < cm) (hc : cm ≤ 30) (hC : ClR I C i)
    (h : ∀ I' m', HR 45 46 I' (doM N f m k (C (4 * i)) (C (4 * i + 1)) (C (4 * i + 2)) (C (4 * i + 3))).2 m' (live (doM N f m k (C (4 * i)) (C (4 * i + 1)) (C (4 * i + 2)) (C (4 * i + 3))).2 m') → FrC I I' → Q (some (.int (doM N f m k (C (4 * i)) (C (4 * i + 1)) (C (4 * i + 2)) (C (4 * i + 3))).1)) G0 I') :
    Call X (d + 8) 119 [.ref 0, .int (nI i)] G0 I Q := by
  have ho := hr.ho
  have l12 := hr.l12
  have m40 := hr.m40
  obtain ⟨w, hw, q1, q2, q3⟩ := hC
  simp (disch := first | exact ok_i | exact ok_r | exact ok_n | exact cat_i | exact cat_r | exact t89 | exact t90 | exact t91 | exact t92 | exact ro_0 | exact ro_1 | (refine i90 ?_; omega) | (refine i91 ?_; omega) | (refine i92 ?_; omega) | omega | assumption | (simp only [List.map_cons, List.map_nil, List.sum_cons, List.sum_nil, cat_i, cat_r, cat_l, Nat.reduceAdd, Nat.reduceLeDiff]; done) | decide) only [e119, s119_0, s119_1, s119_4, s119_5, s119_6, s119_9, s119_10, s119_11, s119_14, s119_15, s119_16, s119_19, s119_20, s119_21, s119_24, s119_25, s119_26, s119_29, s119_31, s119_32, s119_35, s119_36, tl_s, tl_n, nI_add, pk_mul, i_cl, row_s, u2_row, i_le, i_lt, i_eq, if_true, if_false, Nat.le_refl, Nat.reduceEqDiff, Nat.reduceLeDiff, t_numberOf h1 hi hc (show 0 < 3 by omega), t_numberOf h1 hi hc (show 1 < 3 by omega), t_numberOf h1 hi hc (show 2 < 3 by omega), t_wordOf h1 hi hc]
  rw [s119_39, q1]
  rw [q2] at h
  rcases w6 hw with rfl | rfl | rfl | rfl | rfl | rfl
  · have a0 := q3 0 (by decide)
    have a1 := q3 1 (by decide)
    have a2 := q3 2 (by decide)
    rw [Nat.add_zero] at a0
    rw [Nat.add_assoc] at a1 a2
    simp (disch := first | exact ok_i | exact ok_r | exact ok_n | exact cat_i | exact cat_r | exact t89 | exact t90 | exact t91 | exact t92 | exact ro_0 | exact ro_1 | (refine i90 ?_; omega) | (refine i91 ?_; omega) | (refine i92 ?_; omega) | omega | assumption | (simp only [List.map_cons, List.map_nil, List.sum_cons, List.sum_nil, cat_i, cat_r, cat_l, Nat.reduceAdd, Nat.reduceLeDiff]; done) | decide) only [s119_76, s119_77, s119_80, s119_81, s119_82, tl_s, tl_n, nI_add, pk_mul, i_cl, row_s, u2_row, i_le, i_lt, i_eq, if_true, if_false, Nat.le_refl, Nat.reduceEqDiff, Nat.reduceLeDiff, Nat.add_zero, a0, a1, a2]
    rw [s119_84 (by simp only [List.map_cons, List.map_nil, List.sum_cons, List.sum_nil, cat_i, cat_r, cat_l, Nat.reduceAdd, Nat.reduceLeDiff]) ho.tag]
    refine h_takeCall hr deep1 al.1 al.2.1 (fun I' hr' hF' => ?_)
    simp (disch := first | exact ok_i | exact ok_r | exact ok_n | exact cat_i | exact cat_r | exact t89 | exact t90 | exact t91 | exact t92 | exact ro_0 | exact ro_1 | (refine i90 ?_; omega) | (refine i91 ?_; omega) | (refine i92 ?_; omega) | omega | assumption | (simp only [List.map_cons, List.map_nil, List.sum_cons, List.sum_nil, cat_i, cat_r, cat_l, Nat.reduceAdd, Nat.reduceLeDiff]; done) | decide) only [s119_87, tl_s, tl_n, nI_add, pk_mul, i_cl, row_s, u2_row, i_le, i_lt, i_eq, if_true, if_false, Nat.le_refl, Nat.reduceEqDiff, Nat.reduceLeDiff]
    exact h I' _ hr' hF'.c
  · have a0 := q3 0 (by decide)
    rw [Nat.add_zero] at a0
    have e : ∀ a b c, doM N f m k (nI 1) a b c = (if inL a 0 99 = true then nI (tsS N m k (tN a)).2 else -2, if inL a 0 99 = true then (tsS N m k (tN a)).1 else N) := fun a b c => by unfold doM; rw [if_neg (by decide), if_pos rfl]
    rw [e] at h
    simp (disch := first | exact ok_i | exact ok_r | exact ok_n | exact cat_i | exact cat_r | exact t89 | exact t90 | exact t91 | exact t92 | exact ro_0 | exact ro_1 | (refine i90 ?_; omega) | (refine i91 ?_; omega) | (refine i92 ?_; omega) | omega | assumption | (simp only [List.map_cons, List.map_nil, List.sum_cons, List.sum_nil, cat_i, cat_r, cat_l, Nat.reduceAdd, Nat.reduceLeDiff]; done) | decide) only [s119_88, s119_89, tl_s, tl_n, nI_add, pk_mul, i_cl, row_s, u2_row, i_le, i_lt, i_eq, if_true, if_false, Nat.le_refl, Nat.reduceEqDiff, Nat.reduceLeDiff, Nat.add_zero, a0]
    rw [s119_90 (by simp only [List.map_cons, List.map_nil, List.sum_cons, List.sum_nil, cat_i, cat_r, cat_l, Nat.reduceAdd, Nat.reduceLeDiff])]
    refine l_ticks hr al (fun I' hr' hF' => ?_)
    simp (disch := first | exact ok_i | exact ok_r | exact ok_n | exact cat_i | exact cat_r | exact t89 | exact t90 | exact t91 | exact t92 | exact ro_0 | exact ro_1 | (refine i90 ?_; omega) | (refine i91 ?_; omega) | (refine i92 ?_; omega) | omega | assumption | (simp only [List.map_cons, List.map_nil, List.sum_cons, List.sum_nil, cat_i, cat_r, cat_l, Nat.reduceAdd, Nat.reduceLeDiff]; done) | decide) only [s119_93, tl_s, tl_n, nI_add, pk_mul, i_cl, row_s, u2_row, i_le, i_lt, i_eq, if_true, if_false, Nat.le_refl, Nat.reduceEqDiff, Nat.reduceLeDiff]
    exact h I' _ hr' hF'
  · have a0 := q3 0 (by decide)
    have a1 := q3 1 (by decide)
    rw [Nat.add_zero] at a0
    rw [Nat.add_assoc] at a1
    have e : ∀ a b c, doM N f m k (nI 2) a b c = (givV N m k a b, givN N m k a b) := fun a b c => by unfold doM; rw [if_neg (by decide), if_neg (by decide), if_pos rfl]
    rw [e] at h
    simp (disch := first | exact ok_i | exact ok_r | exact ok_n | exact cat_i | exact cat_r | exact t89 | exact t90 | exact t91 | exact t92 | exact ro_0 | exact ro_1 | (refine i90 ?_; omega) | (refine i91 ?_; omega) | (refine i92 ?_; omega) | omega | assumption | (simp only [List.map_cons, List.map_nil, List.sum_cons, List.sum_nil, cat_i, cat_r, cat_l, Nat.reduceAdd, Nat.reduceLeDiff]; done) | decide) only [s119_94, s119_95, s119_96, tl_s, tl_n, nI_add, pk_mul, i_cl, row_s, u2_row, i_le, i_lt, i_eq, if_true, if_false, Nat.le_refl, Nat.reduceEqDiff, Nat.reduceLeDiff, Nat.add_zero, a0, a1]
    rw [s119_97 (by simp only [List.map_cons, List.map_nil, List.sum_cons, List.sum_nil, cat_i, cat_r, cat_l, Nat.reduceAdd, Nat.reduceLeDiff])]
    refine l_give hr al (fun I' hr' hF' => ?_)
    simp (disch := first | exact ok_i | exact ok_r | exact ok_n | exact cat_i | exact cat_r | exact t89 | exact t90 | exact t91 | exact t92 | exact ro_0 | exact ro_1 | (refine i90 ?_; omega) | (refine i91 ?_; omega) | (refine i92 ?_; omega) | omega | assumption | (simp only [List.map_cons, List.map_nil, List.sum_cons, List.sum_nil, cat_i, cat_r, cat_l, Nat.reduceAdd, Nat.reduceLeDiff]; done) | decide) only [s119_100, tl_s, tl_n, nI_add, pk_mul, i_cl, row_s, u2_row, i_le, i_lt, i_eq, if_true, if_false, Nat.le_refl, Nat.reduceEqDiff, Nat.reduceLeDiff]
    exact h I' _ hr' hF'
  · have a0 := q3 0 (by decide)
    rw [Nat.add_zero] at a0
    have e : ∀ a b c, doM N f m k (nI 3) a b c = (wayV N a, wayN N a) := fun a b c => by unfold doM; rw [if_neg (by decide), if_neg (by decide), if_neg (by decide), if_pos rfl]
    rw [e] at h
    simp (disch := first | exact ok_i | exact ok_r | exact ok_n | exact cat_i | exact cat_r | exact t89 | exact t90 | exact t91 | exact t92 | exact ro_0 | exact ro_1 | (refine i90 ?_; omega) | (refine i91 ?_; omega) | (refine i92 ?_; omega) | omega | assumption | (simp only [List.map_cons, List.map_nil, List.sum_cons, List.sum_nil, cat_i, cat_r, cat_l, Nat.reduceAdd, Nat.reduceLeDiff]; done) | decide) only [s119_101, s119_102, tl_s, tl_n, nI_add, pk_mul, i_cl, row_s, u2_row, i_le, i_lt, i_eq, if_true, if_false, Nat.le_refl, Nat.reduceEqDiff, Nat.reduceLeDiff, Nat.add_zero, a0]
    rw [s119_103 (by simp only [List.map_cons, List.map_nil, List.sum_cons, List.sum_nil, cat_i, cat_r, cat_l, Nat.reduceAdd, Nat.reduceLeDiff])]
    refine l_way hr (fun I' hr' hF' => ?_)
    simp (disch := first | exact ok_i | exact ok_r | exact ok_n | exact cat_i | exact cat_r | exact t89 | exact t90 | exact t91 | exact t92 | exact ro_0 | exact ro_1 | (refine i90 ?_; omega) | (refine i91 ?_; omega) | (refine i92 ?_; omega) | omega | assumption | (simp only [List.map_cons, List.map_nil, List.sum_cons, List.sum_nil, cat_i, cat_r, cat_l, Nat.reduceAdd, Nat.reduceLeDiff]; done) | decide) only [s119_106, tl_s, tl_n, nI_add, pk_mul, i_cl, row_s, u2_row, i_le, i_lt, i_eq, if_true, if_false, Nat.le_refl, Nat.reduceEqDiff, Nat.reduceLeDiff]
    exact h I' _ hr' hF'
  · have e : ∀ a b c, doM N f m k (nI 4) a b c = (nI (rgS N m k m).2, (rgS N m k m).1) := fun a b c => by unfold doM; rw [if_neg (by decide), if_neg (by decide), if_neg (by decide), if_neg (by decide), if_pos rfl]
    rw [e] at h
    simp (disch := first | exact ok_i | exact ok_r | exact ok_n | exact cat_i | exact cat_r | exact t89 | exact t90 | exact t91 | exact t92 | exact ro_0 | exact ro_1 | (refine i90 ?_; omega) | (refine i91 ?_; omega) | (refine i92 ?_; omega) | omega | assumption | (simp only [List.map_cons, List.map_nil, List.sum_cons, List.sum_nil, cat_i, cat_r, cat_l, Nat.reduceAdd, Nat.reduceLeDiff]; done) | decide) only [s119_107, s119_108, tl_s, tl_n, nI_add, pk_mul, i_cl, row_s, u2_row, i_le, i_lt, i_eq, if_true, if_false, Nat.le_refl, Nat.reduceEqDiff, Nat.reduceLeDiff]
    rw [s119_111 (by simp only [List.map_cons, List.map_nil, List.sum_cons, List.sum_nil, cat_i, cat_r, cat_l, Nat.reduceAdd, Nat.reduceLeDiff]) ho.tag]
    refine h_regiveAll hr deep1 al.rg (fun I' hr' hF' => ?_)
    simp (disch := first | exact ok_i | exact ok_r | exact ok_n | exact cat_i | exact cat_r | exact t89 | exact t90 | exact t91 | exact t92 | exact ro_0 | exact ro_1 | (refine i90 ?_; omega) | (refine i91 ?_; omega) | (refine i92 ?_; omega) | omega | assumption | (simp only [List.map_cons, List.map_nil, List.sum_cons, List.sum_nil, cat_i, cat_r, cat_l, Nat.reduceAdd, Nat.reduceLeDiff]; done) | decide) only [s119_114, tl_s, tl_n, nI_add, pk_mul, i_cl, row_s, u2_row, i_le, i_lt, i_eq, if_true, if_false, Nat.le_refl, Nat.reduceEqDiff, Nat.reduceLeDiff]
    exact h I' _ hr' hF'.c
  · have e : ∀ a b c, doM N f m k (nI 5) a b c = (nI (pkS N m f k).2.1, (pkS N m f k).1) := fun a b c => by unfold doM; rw [if_neg (by decide), if_neg (by decide), if_neg (by decide), if_neg (by decide), if_neg (by decide)]
    rw [e] at h
    simp (disch := first | exact ok_i | exact ok_r | exact ok_n | exact cat_i | exact cat_r | exact t89 | exact t90 | exact t91 | exact t92 | exact ro_0 | exact ro_1 | (refine i90 ?_; omega) | (refine i91 ?_; omega) | (refine i92 ?_; omega) | omega | assumption | (simp only [List.map_cons, List.map_nil, List.sum_cons, List.sum_nil, cat_i, cat_r, cat_l, Nat.reduceAdd, Nat.reduceLeDiff]; done) | decide) only [s119_115, s119_116, tl_s, tl_n, nI_add, pk_mul, i_cl, row_s, u2_row, i_le, i_lt, i_eq, if_true, if_false, Nat.le_refl, Nat.reduceEqDiff, Nat.reduceLeDiff]
    rw [s119_119 (by simp only [List.map_cons, List.map_nil, List.sum_cons, List.sum_nil, cat_i, cat_r, cat_l, Nat.reduceAdd, Nat.reduceLeDiff]) ho.tag]
    refine h_parkIdle hr al.1 (fun I' hr' hF' => ?_)
    simp (disch := first | exact ok_i | exact ok_r | exact ok_n | exact cat_i | exact cat_r | exact t89 | exact t90 | exact t91 | exact t92 | exact ro_0 | exact ro_1 | (refine i90 ?_; omega) | (refine i91 ?_; omega) | (refine i92 ?_; omega) | omega | assumption | (simp only [List.map_cons, List.map_nil, List.sum_cons, List.sum_nil, cat_i, cat_r, cat_l, Nat.reduceAdd, Nat.reduceLeDiff]; done) | decide) only [s119_122, tl_s, tl_n, nI_add, pk_mul, i_cl, row_s, u2_row, i_le, i_lt, i_eq, if_true, if_false, Nat.le_refl, Nat.reduceEqDiff, Nat.reduceLeDiff]
    exact h I' _ hr' hF'.c
end
/-- all but the hall and the tape's clauses -/
def FrX (I I' : pI) : Prop := ∀ a, a = 0 ∨ 66 < a → a ≠ 89 → a ≠ 91 → a ≠ 92 → I' a = I a
section
variable {X : pX} {d : Nat} {I : pI} {Q : Option Value → pG → pI → Prop} {N : Nat → Int32} {f k m T : Nat}
theorem l_text {L : Nat} (hr : HR 45 46 I N m (live N m)) (al : AllOk N f k m T) (hL : I 89 0 = nI L) (hL2 : L ≤ 60) (hB : ByOk I L) (hW : WdsOk I) (hN : WanEq I)
    (h : ∀ I' m', HR 45 46 I' (txN I L N f k) m' (live (txN I L N f k) m') → FrX I I' → I' 89 0 = nI 0 → Q (some (.int (txV I L N f k))) G0 I') :
    Call X (d + 10) 100 [.ref 0] G0 I Q := by
  have ho := hr.ho
  have l12 := hr.l12
  have m40 := hr.m40
  have hcm := rAll_cm (I := I) hL2
  simp (disch := first | exact ok_i | exact ok_r | exact ok_n | exact cat_i | exact cat_r | exact t89 | exact t90 | exact t91 | exact t92 | exact ro_0 | exact ro_1 | (refine i90 ?_; omega) | (refine i91 ?_; omega) | (refine i92 ?_; omega) | omega | assumption | (simp only [List.map_cons, List.map_nil, List.sum_cons, List.sum_nil, cat_i, cat_r, cat_l, Nat.reduceAdd, Nat.reduceLeDiff]; done) | decide) only [e100, s100_0, s100_1, tl_s, tl_n, nI_add, pk_mul, i_cl, row_s, u2_row, i_le, i_lt, i_eq, if_true, if_false, Nat.le_refl, Nat.reduceEqDiff, Nat.reduceLeDiff]
  rw [s100_4 (by simp only [List.map_cons, List.map_nil, List.sum_cons, List.sum_nil, cat_i, cat_r, cat_l, Nat.reduceAdd, Nat.reduceLeDiff]) t89]
  unfold txN txV txOk at h
  refine t_read hL hL2 hB hW hN (fun I1 s hF hs h1 h2 => ?_) (fun I1 hF h1 h2 h3 => ?_)
  · have nm : ¬ nI s = -1 := by
      intro e
      have e2 : (nI s).toInt = (-1 : Int32).toInt := by rw [e]
      rw [i_toInt (by omega)] at e2
      have : (-1 : Int32).toInt = -1 := by decide
      omega
    rw [h1, h2] at h
    simp only [Bool.false_eq_true, if_false] at h
    simp (disch := first | exact ok_i | exact ok_r | exact ok_n | exact cat_i | exact cat_r | exact t89 | exact t90 | exact t91 | exact t92 | exact ro_0 | exact ro_1 | (refine i90 ?_; omega) | (refine i91 ?_; omega) | (refine i92 ?_; omega) | omega | assumption | (simp only [List.map_cons, List.map_nil, List.sum_cons, List.sum_nil, cat_i, cat_r, cat_l, Nat.reduceAdd, Nat.reduceLeDiff]; done) | decide) only [s100_7, s100_8, s100_9, s100_12, s100_13, s100_16, s100_17, s100_18, s100_21, s100_23, s100_24, s100_25, tl_s, tl_n, nI_add, pk_mul, i_cl, row_s, u2_row, i_le, i_lt, i_eq, if_true, if_false, Nat.le_refl, Nat.reduceEqDiff, Nat.reduceLeDiff, nm]
    refine h _ m ?_ (fun a a1 a2 a3 a4 => ?_) u2_s
    · exact hr.ext (by rw [u2_ne (by decide), hF.1 45 (by decide) (by decide) (by decide)]) (fun a b1 b2 => by rw [u2_ne (by omega), hF.1 a (by omega) (by omega) (by omega)])
    · rw [u2_ne (by omega), hF.1 a (by omega) (by omega) (by omega)]
  · rw [h1] at h
    simp only [if_true] at h
    have hr2 : HR 45 46 (upd2 I1 89 0 (nI 0)) N m (live N m) := hr.ext (by rw [u2_ne (by decide), hF.1 45 (by decide) (by decide) (by decide)]) (fun a b1 b2 => by rw [u2_ne (by omega), hF.1 a (by omega) (by omega) (by omega)])
    have hF2 : FrX I (upd2 I1 89 0 (nI 0)) := fun a a1 a2 a3 a4 => by rw [u2_ne (by omega), hF.1 a (by omega) (by omega) (by omega)]
    have g0 : upd2 I1 89 0 (nI 0) 89 0 = nI 0 := u2_s
    have g1 : upd2 I1 89 0 (nI 0) 89 1 = nI (rAll I L).2.2.1 := by rw [u2_nk (by omega)]; exact h2
    have g3 : ∀ j, j < (rAll I L).2.2.1 → ClR (upd2 I1 89 0 (nI 0)) (rAll I L).2.1 j := fun j hj => by
      obtain ⟨w, hw, p1, p2, p3⟩ := h3 j hj
      exact ⟨w, hw, by rw [u2_ne (by decide)]; exact p1, p2, fun k hk => by rw [u2_ne (by decide)]; exact p3 k hk⟩
    simp (disch := first | exact ok_i | exact ok_r | exact ok_n | exact cat_i | exact cat_r | exact t89 | exact t90 | exact t91 | exact t92 | exact ro_0 | exact ro_1 | (refine i90 ?_; omega) | (refine i91 ?_; omega) | (refine i92 ?_; omega) | omega | assumption | (simp only [List.map_cons, List.map_nil, List.sum_cons, List.sum_nil, cat_i, cat_r, cat_l, Nat.reduceAdd, Nat.reduceLeDiff]; done) | decide) only [s100_7, s100_8, s100_9, s100_12, s100_13, s100_16, s100_17, s100_18, s100_21, s100_23, s100_24, s100_25, s100_26, s100_27, s100_28, s100_29, tl_s, tl_n, nI_add, pk_mul, i_cl, row_s, u2_row, i_le, i_lt, i_eq, if_true, if_false, Nat.le_refl, Nat.reduceEqDiff, Nat.reduceLeDiff]
    generalize (rAll I L).2.2.1 = cm at *
    generalize (rAll I L).2.1 = C at *
    generalize upd2 I1 89 0 (nI 0) = I2 at *
    refine loop_h (σ := pI × Nat) (n := cm)
      (A := fun i s => At X (d + 9) 100 30 [some (.ref 0), some (.int (-1)), some (.int (nI (txS C N f k i).2)), some (.int (nI i))] [] G0 s.1 Q)
      (ok := fun i s => HR 45 46 s.1 (txS C N f k i).1 s.2 (live (txS C N f k i).1 s.2) ∧ FrC I2 s.1)
      (fun s hs => ?_) (fun i s hi hs ih => ?_) 0 (I2, m) (Nat.zero_le _) ⟨hr2, FrC.refl⟩
    · obtain ⟨hr', hF'⟩ := hs
      have j1 : s.1 89 1 = nI cm := by rw [hF' 89 (by omega)]; exact g1
      simp (disch := first | exact ok_i | exact ok_r | exact ok_n | exact cat_i | exact cat_r | exact t89 | exact t90 | exact t91 | exact t92 | exact ro_0 | exact ro_1 | (refine i90 ?_; omega) | (refine i91 ?_; omega) | (refine i92 ?_; omega) | omega | assumption | (simp only [List.map_cons, List.map_nil, List.sum_cons, List.sum_nil, cat_i, cat_r, cat_l, Nat.reduceAdd, Nat.reduceLeDiff]; done) | decide) only [s100_30, s100_31, s100_32, s100_35, s100_38, s100_58, s100_59, tl_s, tl_n, nI_add, pk_mul, i_cl, row_s, u2_row, i_le, i_lt, i_eq, if_true, if_false, Nat.le_refl, Nat.reduceEqDiff, Nat.reduceLeDiff, j1]
      exact h s.1 s.2 hr' (fun a a1 a2 a3 a4 => by rw [hF' a a1, hF2 a a1 a2 a3 a4]) (by rw [hF' 89 (by omega)]; exact g0)
    · obtain ⟨hr', hF'⟩ := hs
      have n3 : ¬ cm ≤ i := by omega
      have j1 : s.1 89 1 = nI cm := by rw [hF' 89 (by omega)]; exact g1
      have jC : ClR s.1 C i := by
        obtain ⟨w, hw, p1, p2, p3⟩ := g3 i hi
        exact ⟨w, hw, by rw [hF' 91 (by omega)]; exact p1, p2, fun k hk => by rw [hF' 92 (by omega)]; exact p3 k hk⟩
      obtain ⟨T', -, al'⟩ := tx_all (C := C) al (n := i)
      have em : s.2 = mOf (txS C N f k i).1 := by
        rw [mOf_n hr'.m446 hr'.m40]
      have e2 : txS C N f k (i + 1) = txF C f k i (txS C N f k i) := rfl
      rw [← em] at al'
      unfold txF at e2
      dsimp only at e2
      rw [← em] at e2
      rw [s100_30]
      simp (disch := first | exact ok_i | exact ok_r | exact ok_n | exact cat_i | exact cat_r | exact t89 | exact t90 | exact t91 | exact t92 | exact ro_0 | exact ro_1 | (refine i90 ?_; omega) | (refine i91 ?_; omega) | (refine i92 ?_; omega) | omega | assumption | (simp only [List.map_cons, List.map_nil, List.sum_cons, List.sum_nil, cat_i, cat_r, cat_l, Nat.reduceAdd, Nat.reduceLeDiff]; done) | decide) only [s100_31, s100_32, s100_35, s100_38, s100_41, s100_42, tl_s, tl_n, nI_add, pk_mul, i_cl, row_s, u2_row, i_le, i_lt, i_eq, if_true, if_false, Nat.le_refl, Nat.reduceEqDiff, Nat.reduceLeDiff, n3, j1]
      rw [s100_43 (by simp only [List.map_cons, List.map_nil, List.sum_cons, List.sum_nil, cat_i, cat_r, cat_l, Nat.reduceAdd, Nat.reduceLeDiff])]
      refine l_perform (C := C) hr' al' j1 hi hcm jC (fun I' m' hr2' hF2' => ?_)
      have ih' := ih (I', m')
      rw [e2] at ih'
      have ih' := ih' ⟨hr2', hF'.trans hF2'⟩
      rw [tl_s, s100_46]
      generalize doM (txS C N f k i).1 f s.2 k (C (4 * i)) (C (4 * i + 1)) (C (4 * i + 2)) (C (4 * i + 3)) = o at *
      by_cases c4 : nI 0 ≤ o.1
      · have c4' : ¬ o.1 < nI 0 := Int32.not_lt.mpr c4
        rw [if_pos c4] at ih'
        simp (disch := first | exact ok_i | exact ok_r | exact ok_n | exact cat_i | exact cat_r | exact t89 | exact t90 | exact t91 | exact t92 | exact ro_0 | exact ro_1 | (refine i90 ?_; omega) | (refine i91 ?_; omega) | (refine i92 ?_; omega) | omega | assumption | (simp only [List.map_cons, List.map_nil, List.sum_cons, List.sum_nil, cat_i, cat_r, cat_l, Nat.reduceAdd, Nat.reduceLeDiff]; done) | decide) only [c4', s100_49, s100_52, s100_55, tl_s, tl_n, nI_add, pk_mul, i_cl, row_s, u2_row, i_le, i_lt, i_eq, if_true, if_false, Nat.le_refl, Nat.reduceEqDiff, Nat.reduceLeDiff]
        exact ih'
      · have c4' : o.1 < nI 0 := Int32.not_le.mp c4
        rw [if_neg c4] at ih'
        simp (disch := first | exact ok_i | exact ok_r | exact ok_n | exact cat_i | exact cat_r | exact t89 | exact t90 | exact t91 | exact t92 | exact ro_0 | exact ro_1 | (refine i90 ?_; omega) | (refine i91 ?_; omega) | (refine i92 ?_; omega) | omega | assumption | (simp only [List.map_cons, List.map_nil, List.sum_cons, List.sum_nil, cat_i, cat_r, cat_l, Nat.reduceAdd, Nat.reduceLeDiff]; done) | decide) only [c4', s100_52, s100_55, tl_s, tl_n, nI_add, pk_mul, i_cl, row_s, u2_row, i_le, i_lt, i_eq, if_true, if_false, Nat.le_refl, Nat.reduceEqDiff, Nat.reduceLeDiff]
        exact ih'
end
