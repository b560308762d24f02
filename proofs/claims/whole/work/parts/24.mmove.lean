/-! the model: events, leaving, boarding, moving -/
theorem i_dec {k : Nat} (h : 1 ≤ k) : nI k + (-1) = nI (k - 1) := by
  rw [← i_sub h]
  exact (Int32.sub_eq_add_neg _ _).symm
/-- events one place further: those of places above k, and i numbers of place k -/
def shE (N : Nat → Int32) (k i : Nat) : Nat → Int32 := fun a => if (368 + 4 * k ≤ a ∧ a < 444) ∨ (364 + 4 * k ≤ a ∧ a < 364 + 4 * k + i) then N (a - 4) else N a
theorem shE_o {N : Nat → Int32} {k i a : Nat} (hi : i ≤ 4) (hk : k < 20) (h : a < 364 + 4 * k ∨ 444 ≤ a) : shE N k i a = N a := by
  unfold shE
  rw [if_neg (by omega)]
theorem shE_0 {N : Nat → Int32} : shE N 19 0 = N := by
  funext a
  unfold shE
  rw [if_neg (by omega)]
theorem shE_4 {N : Nat → Int32} {k : Nat} (h : 1 ≤ k) (hk : k < 20) : shE N k 4 = shE N (k - 1) 0 := by
  funext a
  unfold shE
  by_cases c : (368 + 4 * k ≤ a ∧ a < 444) ∨ (364 + 4 * k ≤ a ∧ a < 364 + 4 * k + 4)
  · by_cases c2 : 368 + 4 * (k - 1) ≤ a ∧ a < 444
    · rw [if_pos c, if_pos (Or.inl c2)]
    · rw [if_pos c, if_neg (by omega)]
      exfalso; omega
  · rw [if_neg c, if_neg (by omega)]
theorem shE_u {N : Nat → Int32} {k i : Nat} (h : 1 ≤ k) (hk : k < 20) (hi : i < 4) : upd (shE N k i) (364 + 4 * k + i) (shE N k i (364 + 4 * (k - 1) + i)) = shE N k (i + 1) := by
  rw [shE_o (a := 364 + 4 * (k - 1) + i) (by omega) hk (by omega)]
  funext a
  unfold shE upd
  by_cases c : a = 364 + 4 * k + i
  · rw [if_pos c, if_pos (by omega), c, show 364 + 4 * (k - 1) + i = 364 + 4 * k + i - 4 from by omega]
  · rw [if_neg c]
    dsimp only
    by_cases c2 : (368 + 4 * k ≤ a ∧ a < 444) ∨ (364 + 4 * k ≤ a ∧ a < 364 + 4 * k + i)
    · rw [if_pos c2, if_pos (by omega)]
    · rw [if_neg c2, if_neg (by omega)]
def hapM (N : Nat → Int32) (w : Int32) (g : Nat) : Nat → Int32 := upd (upd (upd (upd (upd (shE N 0 0) 364 w) 365 (nI g)) 366 (gf N g 3)) 367 (N 447)) 451 (mmin (nI 20) (N 451 + nI 1))
theorem hap_o {N : Nat → Int32} {w : Int32} {g a : Nat} (h : a < 364 ∨ (444 ≤ a ∧ a ≠ 451)) : hapM N w g a = N a := by
  unfold hapM
  rw [up_n (by omega), up_n (by omega), up_n (by omega), up_n (by omega), up_n (by omega), shE_o (by omega) (by omega) (by omega)]
section
variable {X : pX} {d : Nat} {I : pI} {Q : Option Value → pG → pI → Prop} {N : Nat → Int32}
theorem c_hapL {w : Int32} {g k : Nat} {R : Prop} (hg : g < 40) (hk : 1 ≤ k) (hk2 : k < 20) (ih : At X (d + 1) 154 3 [some (.ref 102), some (.int w), some (.int (nI g)), some (.int (nI (k - 1))), some (.int (nI 4))] [] G0 (row I 103 (shE N (k - 1) 0)) Q ↔ R) : At X (d + 1) 154 10 [some (.ref 102), some (.int w), some (.int (nI g)), some (.int (nI k)), some (.int (nI 0))] [] G0 (row I 103 (shE N k 0)) Q ↔ R := by
  refine loop_up (P := fun i => At X (d + 1) 154 10 [some (.ref 102), some (.int w), some (.int (nI g)), some (.int (nI k)), some (.int (nI i))] [] G0 (row I 103 (shE N k i)) Q) (n := 4) ?_ ?_ 0 (by omega)
  · simp (disch := first | exact ok_i | exact ok_r | exact ok_n | exact t103 | exact ro_0 | exact ro_1 | omega | assumption | (refine i103 ?_; omega) | (simp only [List.map_cons, List.map_nil, List.sum_cons, List.sum_nil, cat_i, cat_r, cat_l, Nat.reduceAdd, Nat.reduceLeDiff]; done) | decide) only [s154_10, s154_12, s154_13, s154_54, s154_57, tl_s, tl_n, nI_add, pk_mul, i_cl, row_s, u2_row, i_le, i_lt, i_eq, if_true, if_false, Nat.le_refl, Nat.reduceEqDiff, Nat.reduceLeDiff, i_dec, shE_4, ih]
  · intro i hi
    have n1 : ¬ 4 ≤ i := by omega
    rw [s154_10]
    simp (disch := first | exact ok_i | exact ok_r | exact ok_n | exact t103 | exact ro_0 | exact ro_1 | omega | assumption | (refine i103 ?_; omega) | (simp only [List.map_cons, List.map_nil, List.sum_cons, List.sum_nil, cat_i, cat_r, cat_l, Nat.reduceAdd, Nat.reduceLeDiff]; done) | decide) only [s154_12, s154_13, s154_16, s154_17, s154_20, s154_23, s154_24, s154_25, s154_26, s154_27, s154_29, s154_30, s154_31, s154_34, s154_37, s154_38, s154_39, s154_40, s154_41, s154_42, s154_43, s154_45, s154_46, s154_47, s154_48, s154_51, tl_s, tl_n, nI_add, pk_mul, i_cl, row_s, u2_row, i_le, i_lt, i_eq, if_true, if_false, Nat.le_refl, Nat.reduceEqDiff, Nat.reduceLeDiff, n1, i_sub, shE_u]
theorem c_happens {w : Int32} {g : Nat} (hg : g < 40) : Call X (d + 2) 154 [.ref 102, .int w, .int (nI g)] G0 (row I 103 N) Q ↔ Q none G0 (row I 103 (hapM N w g)) := by
  simp (disch := first | exact ok_i | exact ok_r | exact ok_n | exact t103 | exact ro_0 | exact ro_1 | omega | assumption | (refine i103 ?_; omega) | (simp only [List.map_cons, List.map_nil, List.sum_cons, List.sum_nil, cat_i, cat_r, cat_l, Nat.reduceAdd, Nat.reduceLeDiff]; done) | decide) only [e154, s154_0, s154_2, tl_s, tl_n, nI_add, pk_mul, i_cl, row_s, u2_row, i_le, i_lt, i_eq, if_true, if_false, Nat.le_refl, Nat.reduceEqDiff, Nat.reduceLeDiff]
  have key : ∀ k, k < 20 → ∀ l : Option Value, okL l = true → (At X (d + 1) 154 3 [some (.ref 102), some (.int w), some (.int (nI g)), some (.int (nI k)), l] [] G0 (row I 103 (shE N k 0)) Q ↔ Q none G0 (row I 103 (hapM N w g))) := by
    intro k
    induction k with
    | zero =>
      intro _ l hl
      simp (disch := first | exact ok_i | exact ok_r | exact ok_n | exact t103 | exact ro_0 | exact ro_1 | omega | assumption | (refine i103 ?_; omega) | (simp only [List.map_cons, List.map_nil, List.sum_cons, List.sum_nil, cat_i, cat_r, cat_l, Nat.reduceAdd, Nat.reduceLeDiff]; done) | decide) only [s154_3, s154_4, s154_60, s154_61, s154_64, s154_67, s154_68, s154_69, s154_70, s154_73, s154_76, s154_77, s154_78, s154_79, s154_82, s154_85, s154_86, s154_87, s154_88, s154_91, s154_92, s154_93, s154_96, s154_99, s154_100, s154_103, s154_106, s154_107, s154_108, s154_109, s154_112, s154_115, s154_117, s154_118, s154_121, s154_124, s154_125, s154_126, s154_127, s154_130, s154_131, tl_s, tl_n, nI_add, pk_mul, i_cl, row_s, u2_row, i_le, i_lt, i_eq, if_true, if_false, Nat.le_refl, Nat.reduceEqDiff, Nat.reduceLeDiff, c_ofGroup, gf, up_n, shE_o, hapM]
    | succ k ih =>
      intro hk l hl
      have n1 : ¬ k + 1 ≤ 0 := by omega
      have ih' := ih (by omega) (some (.int (nI 4))) rfl
      have hh := c_hapL (X := X) (d := d) (I := I) (Q := Q) (N := N) (w := w) (k := k + 1) hg (by omega) hk ih'
      rw [s154_3]
      simp (disch := first | exact ok_i | exact ok_r | exact ok_n | exact t103 | exact ro_0 | exact ro_1 | omega | assumption | (refine i103 ?_; omega) | (simp only [List.map_cons, List.map_nil, List.sum_cons, List.sum_nil, cat_i, cat_r, cat_l, Nat.reduceAdd, Nat.reduceLeDiff]; done) | decide) only [s154_4, s154_7, s154_8, tl_s, tl_n, nI_add, pk_mul, i_cl, row_s, u2_row, i_le, i_lt, i_eq, if_true, if_false, Nat.le_refl, Nat.reduceEqDiff, Nat.reduceLeDiff, n1, hh]
  have k0 := key 19 (by omega) none rfl
  rw [shE_0] at k0
  exact k0
end
