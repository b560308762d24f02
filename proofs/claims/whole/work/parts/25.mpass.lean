/-! the model: leaving, boarding -/
def lvB (N : Nat → Int32) (c g : Nat) : Bool := decide (gf N g 3 = nI c) && decide (gf N g 4 = nI 1) && decide (gf N g 1 = cf N c 3)
def lvF (c g : Nat) (N : Nat → Int32) : Nat → Int32 := if lvB N c g = true then hapM (upd N (32 + 8 * g + 4) (nI 2)) (nI 2) g else N
def lvN (N : Nat → Int32) (c : Nat) : Nat → Nat → Int32 := itr (lvF c) N
def lvC (N : Nat → Int32) (c : Nat) : Nat → Nat := itr (fun g s => s + if lvB (lvN N c g) c g = true then 1 else 0) 0
/-- numbers that no event and no group writes -/
def fixA (a : Nat) : Prop := 444 ≤ a ∧ a ≠ 450 ∧ a ≠ 451
theorem lvF_o {N : Nat → Int32} {c g a : Nat} (hg : g < 40) (h : fixA a) : lvF c g N a = N a := by
  unfold fixA at h
  unfold lvF
  cases lvB N c g
  · rw [if_neg (by decide)]
  · rw [if_pos rfl, hap_o (by omega), up_n (by omega)]
theorem lvN_o {N : Nat → Int32} {c a : Nat} (h : fixA a) : ∀ {n : Nat}, n ≤ 40 → lvN N c n a = N a
  | 0, _ => rfl
  | n + 1, hn => by
    show lvF c n (lvN N c n) a = N a
    rw [lvF_o (by omega) h]
    exact lvN_o h (by omega)
theorem lvC_le {N : Nat → Int32} {c : Nat} : ∀ {n : Nat}, lvC N c n ≤ n
  | 0 => Nat.le_refl _
  | n + 1 => by
    have h := lvC_le (N := N) (c := c) (n := n)
    show lvC N c n + (if lvB (lvN N c n) c n = true then 1 else 0) ≤ n + 1
    cases lvB (lvN N c n) c n
    · rw [if_neg (by decide)]; omega
    · rw [if_pos rfl]; omega
section
variable {X : pX} {d : Nat} {I : pI} {Q : Option Value → pG → pI → Prop} {N : Nat → Int32}
theorem c_leaves {c m : Nat} (hc : c < 4) (hm : N 446 = nI m) (hm4 : m ≤ 40) : Call X (d + 3) 156 [.ref 102, .int (nI c)] G0 (row I 103 N) Q ↔ Q (some (.int (nI (lvC N c m)))) G0 (row I 103 (lvN N c m)) := by
  simp (disch := first | exact ok_i | exact ok_r | exact ok_n | exact t103 | exact ro_0 | exact ro_1 | omega | assumption | (refine i103 ?_; omega) | (simp only [List.map_cons, List.map_nil, List.sum_cons, List.sum_nil, cat_i, cat_r, cat_l, Nat.reduceAdd, Nat.reduceLeDiff]; done) | decide) only [e156, s156_0, s156_1, s156_2, s156_3, tl_s, tl_n, nI_add, pk_mul, i_cl, row_s, u2_row, i_le, i_lt, i_eq, if_true, if_false, Nat.le_refl, Nat.reduceEqDiff, Nat.reduceLeDiff]
  refine loop_up (P := fun g => At X (d + 2) 156 4 [some (.ref 102), some (.int (nI c)), some (.int (nI (lvC N c g))), some (.int (nI g))] [] G0 (row I 103 (lvN N c g)) Q) (n := m) ?_ ?_ 0 (Nat.zero_le _)
  · have hm2 : lvN N c m 446 = nI m := by rw [lvN_o (by unfold fixA; omega) hm4, hm]
    simp (disch := first | exact ok_i | exact ok_r | exact ok_n | exact t103 | exact ro_0 | exact ro_1 | omega | assumption | (refine i103 ?_; omega) | (simp only [List.map_cons, List.map_nil, List.sum_cons, List.sum_nil, cat_i, cat_r, cat_l, Nat.reduceAdd, Nat.reduceLeDiff]; done) | decide) only [s156_0, s156_1, s156_2, s156_3, s156_4, s156_5, s156_6, s156_9, s156_12, s156_13, s156_16, s156_17, s156_18, s156_19, s156_20, s156_23, s156_26, s156_27, s156_28, s156_29, s156_32, s156_33, s156_34, s156_35, s156_38, s156_41, s156_42, s156_43, s156_44, s156_45, s156_48, s156_49, s156_50, s156_51, s156_54, s156_57, s156_60, s156_63, s156_64, tl_s, tl_n, nI_add, pk_mul, i_cl, row_s, u2_row, i_le, i_lt, i_eq, if_true, if_false, Nat.le_refl, Nat.reduceEqDiff, Nat.reduceLeDiff, hm2]
  · intro g hg
    have hm2 : lvN N c g 446 = nI m := by rw [lvN_o (by unfold fixA; omega) (by omega), hm]
    have hl : lvC N c g ≤ g := lvC_le
    have n1 : ¬ m ≤ g := by omega
    have e1 : lvC N c (g + 1) = lvC N c g + (if lvB (lvN N c g) c g = true then 1 else 0) := rfl
    have e2 : lvN N c (g + 1) = (if lvB (lvN N c g) c g = true then hapM (upd (lvN N c g) (32 + 8 * g + 4) (nI 2)) (nI 2) g else lvN N c g) := rfl
    rw [s156_4, e1, e2]
    simp (disch := first | exact ok_i | exact ok_r | exact ok_n | exact t103 | exact ro_0 | exact ro_1 | omega | assumption | (refine i103 ?_; omega) | (simp only [List.map_cons, List.map_nil, List.sum_cons, List.sum_nil, cat_i, cat_r, cat_l, Nat.reduceAdd, Nat.reduceLeDiff]; done) | decide) only [s156_0, s156_1, s156_2, s156_3, s156_5, s156_6, s156_9, s156_12, s156_13, s156_16, s156_17, s156_18, s156_19, s156_20, s156_23, s156_26, s156_27, s156_28, s156_29, s156_32, s156_33, s156_34, s156_35, s156_38, s156_41, s156_42, s156_43, s156_44, s156_45, s156_48, s156_49, s156_50, s156_51, s156_54, s156_57, s156_60, s156_63, s156_64, tl_s, tl_n, nI_add, pk_mul, i_cl, row_s, u2_row, i_le, i_lt, i_eq, if_true, if_false, Nat.le_refl, Nat.reduceEqDiff, Nat.reduceLeDiff, hm2, n1, c_isSo, c_ofGroup, lvB]
    by_cases h1 : gf (lvN N c g) g 3 = nI c <;> by_cases h2 : gf (lvN N c g) g 4 = nI 1 <;> by_cases h3 : gf (lvN N c g) g 1 = cf (lvN N c g) c 3 <;> simp (disch := first | exact ok_i | exact ok_r | exact ok_n | exact t103 | exact ro_0 | exact ro_1 | omega | assumption | (refine i103 ?_; omega) | (simp only [List.map_cons, List.map_nil, List.sum_cons, List.sum_nil, cat_i, cat_r, cat_l, Nat.reduceAdd, Nat.reduceLeDiff]; done) | decide) only [h1, h2, h3, c_of, c_setsGroup, c_happens, s156_0, s156_1, s156_2, s156_3, s156_5, s156_6, s156_9, s156_12, s156_13, s156_16, s156_17, s156_18, s156_19, s156_20, s156_23, s156_26, s156_27, s156_28, s156_29, s156_32, s156_33, s156_34, s156_35, s156_38, s156_41, s156_42, s156_43, s156_44, s156_45, s156_48, s156_49, s156_50, s156_51, s156_54, s156_57, s156_60, s156_63, s156_64, tl_s, tl_n, nI_add, pk_mul, i_cl, row_s, u2_row, i_le, i_lt, i_eq, if_true, if_false, Nat.le_refl, Nat.reduceEqDiff, Nat.reduceLeDiff, decide_true, decide_false, Bool.and_self, Bool.and_true, Bool.and_false, Bool.false_and, Bool.true_and, Bool.false_eq_true, Nat.add_zero]
end
/-- boarding: the numbers, how many, whether one stays -/
def bdF (c m g : Nat) (s : (Nat → Int32) × Nat × Bool) : (Nat → Int32) × Nat × Bool :=
  if (hereB s.1 g c && decide (wayM s.1 g = cf s.1 c 4)) = true then
    if cf s.1 c 2 < loadM s.1 c m + gf s.1 g 2 then (s.1, s.2.1, true)
    else
      let N1 := upd s.1 (32 + 8 * g + 4) (nI 1)
      let N2 := hapM (upd N1 (32 + 8 * g + 6) (N1 447 - gf N1 g 5)) (nI 1) g
      (upd N2 450 (N2 450 + b2i s.2.2), s.2.1 + 1, s.2.2)
  else s
def bdS (N : Nat → Int32) (c m : Nat) : Nat → (Nat → Int32) × Nat × Bool := itr (bdF c m) (N, 0, false)
theorem bdF_o {c m g a : Nat} {s : (Nat → Int32) × Nat × Bool} (hg : g < 40) (h : fixA a) : (bdF c m g s).1 a = s.1 a := by
  unfold fixA at h
  unfold bdF
  by_cases h1 : (hereB s.1 g c && decide (wayM s.1 g = cf s.1 c 4)) = true
  · rw [if_pos h1]
    by_cases h2 : cf s.1 c 2 < loadM s.1 c m + gf s.1 g 2
    · rw [if_pos h2]
    · rw [if_neg h2]
      dsimp only
      rw [up_n (by omega), hap_o (by omega), up_n (by omega), up_n (by omega)]
  · rw [if_neg h1]
theorem bdS_o {N : Nat → Int32} {c m a : Nat} (h : fixA a) : ∀ {n : Nat}, n ≤ 40 → (bdS N c m n).1 a = N a
  | 0, _ => rfl
  | n + 1, hn => by
    show (bdF c m n (bdS N c m n)).1 a = N a
    rw [bdF_o (by omega) h]
    exact bdS_o h (by omega)
theorem bdF_le {c m g : Nat} {s : (Nat → Int32) × Nat × Bool} : (bdF c m g s).2.1 ≤ s.2.1 + 1 := by
  unfold bdF
  by_cases h1 : (hereB s.1 g c && decide (wayM s.1 g = cf s.1 c 4)) = true
  · rw [if_pos h1]
    by_cases h2 : cf s.1 c 2 < loadM s.1 c m + gf s.1 g 2
    · rw [if_pos h2]; exact Nat.le_succ _
    · rw [if_neg h2]; exact Nat.le_refl _
  · rw [if_neg h1]; exact Nat.le_succ _
theorem bdS_le {N : Nat → Int32} {c m : Nat} : ∀ {n : Nat}, (bdS N c m n).2.1 ≤ n
  | 0 => Nat.le_refl _
  | n + 1 => by
    have h := bdS_le (N := N) (c := c) (m := m) (n := n)
    have h2 := bdF_le (c := c) (m := m) (g := n) (s := bdS N c m n)
    show (bdF c m n (bdS N c m n)).2.1 ≤ n + 1
    omega
