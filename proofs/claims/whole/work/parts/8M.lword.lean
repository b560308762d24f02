/-! the class: words and numbers of the tape -/
def lw (w : Nat) : Nat := ([4, 4, 4, 3, 6, 4] : List Nat).getD w 0
def chr (w k : Nat) : Nat := (([[99, 97, 108, 108], [116, 105, 99, 107], [103, 105, 118, 101], [119, 97, 121], [114, 101, 103, 105, 118, 101], [112, 97, 114, 107]] : List (List Nat)).getD w []).getD k 0
theorem w6 {w : Nat} (h : w < 6) : w = 0 ∨ w = 1 ∨ w = 2 ∨ w = 3 ∨ w = 4 ∨ w = 5 := by omega
theorem lw_le {w : Nat} (h : w < 6) : 3 ≤ lw w ∧ lw w ≤ 6 := by rcases w6 h with rfl | rfl | rfl | rfl | rfl | rfl <;> decide
theorem tx_t {X : pX} {w : Nat} (h : w < 6) : (roT X (1004 + w + 6)).1 = 24 := by rcases w6 h with rfl | rfl | rfl | rfl | rfl | rfl <;> rfl
theorem tx_l {X : pX} {w : Nat} (h : w < 6) : (roT X (1004 + w + 6)).2 = lw w := by rcases w6 h with rfl | rfl | rfl | rfl | rfl | rfl <;> rfl
theorem tx_n {X : pX} {w : Nat} (h : w < 6) : Int32.ofNat (roT X (1004 + w + 6)).2 = nI (lw w) := by rw [tx_l h]; rfl
theorem chr_dec : (List.range 6).all (fun w => (List.range (lw w)).all (fun k => decide (97 ≤ chr w k) && decide (chr w k ≤ 122))) = true := by decide +kernel
theorem chr_r {w k : Nat} (h : w < 6) (hk : k < lw w) : 97 ≤ chr w k ∧ chr w k ≤ 122 := by
  have h1 := List.all_eq_true.mp (List.all_eq_true.mp chr_dec w (List.mem_range.mpr h)) k (List.mem_range.mpr hk)
  rwa [Bool.and_eq_true, decide_eq_true_eq, decide_eq_true_eq] at h1
theorem tx_c {X : pX} {w k : Nat} (h : w < 6) (hk : k < lw w) : roI X (1004 + w + 6) k = nI (chr w k) := by
  rcases w6 h with rfl | rfl | rfl | rfl | rfl | rfl
  · have hk : k < 4 := hk
    rcases (by omega : k = 0 ∨ k = 1 ∨ k = 2 ∨ k = 3) with rfl | rfl | rfl | rfl <;> rfl
  · have hk : k < 4 := hk
    rcases (by omega : k = 0 ∨ k = 1 ∨ k = 2 ∨ k = 3) with rfl | rfl | rfl | rfl <;> rfl
  · have hk : k < 4 := hk
    rcases (by omega : k = 0 ∨ k = 1 ∨ k = 2 ∨ k = 3) with rfl | rfl | rfl | rfl <;> rfl
  · have hk : k < 3 := hk
    rcases (by omega : k = 0 ∨ k = 1 ∨ k = 2) with rfl | rfl | rfl <;> rfl
  · have hk : k < 6 := hk
    rcases (by omega : k = 0 ∨ k = 1 ∨ k = 2 ∨ k = 3 ∨ k = 4 ∨ k = 5) with rfl | rfl | rfl | rfl | rfl | rfl <;> rfl
  · have hk : k < 4 := hk
    rcases (by omega : k = 0 ∨ k = 1 ∨ k = 2 ∨ k = 3) with rfl | rfl | rfl | rfl <;> rfl
theorem c16_dec : (List.range 128).all (fun c => decide (((nI c).toUInt32 % 65536).toInt32 = nI c) && retOk (some .char) (nI c)) = true := by decide +kernel
theorem c16 {c : Nat} (h : c < 128) : ((nI c).toUInt32 % 65536).toInt32 = nI c ∧ retOk (some .char) (nI c) = true := by
  have h1 := List.all_eq_true.mp c16_dec c (List.mem_range.mpr h)
  rwa [Bool.and_eq_true, decide_eq_true_eq] at h1
theorem itr_and {f : Nat → Bool} {s : Bool} : ∀ {n : Nat}, itr (fun k a => a && f k) s n = true ↔ s = true ∧ ∀ k, k < n → f k = true
  | 0 => ⟨fun h => ⟨h, fun k hk => absurd hk (Nat.not_lt_zero k)⟩, fun h => h.1⟩
  | n + 1 => by
    rw [itr_s, Bool.and_eq_true, itr_and (n := n)]
    constructor
    · rintro ⟨⟨h1, h2⟩, h3⟩
      refine ⟨h1, fun k hk => ?_⟩
      by_cases e : k = n
      · subst e; exact h3
      · exact h2 k (by omega)
    · rintro ⟨h1, h2⟩
      exact ⟨⟨h1, fun k hk => h2 k (by omega)⟩, h2 n (by omega)⟩
def alB (I : pI) (b w : Nat) : Nat → Bool := itr (fun k a => a && decide (I 90 (b + k) = nI (chr w k))) true
def isB (I : pI) (b e w : Nat) : Bool := decide (lw w = e - b) && alB I b w (lw w)
def WdsOk (I : pI) : Prop := ∀ w k, w < 6 → k < 6 → I 107 (6 * w + k) = if k < lw w then nI (chr w k) else nI 0
theorem mt_is {I : pI} {b e w T : Nat} (hw : w < 6) (hW : WdsOk I) (hB : ByOk I T) (hbe : b ≤ e) (he : e ≤ T) (hl : ∀ j, b ≤ j → j < e → inL (I 106 j) 97 122 = true) : mtB I b e w 6 = isB I b e w := by
  have h1 := (lw_le hw).2
  have nz : ∀ {x : Int32}, inL x 97 122 = true → x ≠ nI 0 := fun hx e => by subst e; exact absurd hx (by decide)
  unfold mtB isB alB
  rw [Bool.eq_iff_iff, itr_and, Bool.and_eq_true, itr_and, decide_eq_true_eq, decide_eq_true_eq]
  constructor
  · rintro ⟨a1, a2⟩
    have key : ∀ k, k < 6 → (k < e - b ↔ k < lw w) := fun k hk => by
      have a3 := a2 k hk
      rw [decide_eq_true_eq, hW w k hw hk] at a3
      by_cases c1 : b + k < e
      · rw [if_pos c1] at a3
        have a4 := nz (hl (b + k) (by omega) c1)
        by_cases c2 : k < lw w
        · exact ⟨fun _ => c2, fun _ => by omega⟩
        · rw [if_neg c2] at a3; exact absurd a3.symm a4
      · rw [if_neg c1] at a3
        by_cases c2 : k < lw w
        · rw [if_pos c2] at a3
          have a5 := chr_r hw c2
          rw [i_eq (by omega) (by omega)] at a3
          omega
        · exact ⟨fun h => by omega, fun h => absurd h c2⟩
    have el : lw w = e - b := by
      by_cases c1 : lw w < e - b
      · have := (key (lw w) (by omega)).mp c1; omega
      · by_cases c2 : e - b < lw w
        · have := (key (e - b) (by omega)).mpr c2; omega
        · omega
    refine ⟨el, rfl, fun k hk => ?_⟩
    have a3 := a2 k (by omega)
    rw [decide_eq_true_eq, hW w k hw (by omega), if_pos hk, if_pos (by omega)] at a3
    rw [decide_eq_true_eq, (hB (b + k) (by omega)).1]
    exact a3.symm
  · rintro ⟨el, -, a2⟩
    refine ⟨by omega, fun k hk => ?_⟩
    rw [decide_eq_true_eq, hW w k hw hk]
    by_cases c2 : k < lw w
    · have a3 := a2 k c2
      rw [decide_eq_true_eq, (hB (b + k) (by omega)).1] at a3
      rw [if_pos c2, if_pos (by omega), a3]
    · rw [if_neg c2, if_neg (by omega)]
theorem alB_f {I : pI} {b w : Nat} : ∀ {j k : Nat}, alB I b w k = false → alB I b w (k + j) = false
  | 0, _, h => h
  | j + 1, k, h => by
    have ih := alB_f (j := j) h
    show (alB I b w (k + j) && _) = false
    rw [ih, Bool.false_and]
section
variable {X : pX} {d : Nat} {I : pI} {Q : Option Value → pG → pI → Prop} {G : pG} {T : Nat}
theorem x_length {w : Nat} (hw : w < 6) : Call X (d + 2) 228 [.ref (1004 + w)] G I Q ↔ Q (some (.int (nI (lw w)))) G I := by
  have e1 : shr (nI (lw w)) (nI 0) = nI (lw w) := by
    have := (lw_le hw).2
    rw [shr_n (by omega) (by omega)]
    congr 1
    omega
  have rb : retOk (some .byte) (nI 0) = true := by decide
  have o24 : (roT X (1004 + w + 6)).1 = 20 ∨ (roT X (1004 + w + 6)).1 = 24 := Or.inr (tx_t hw)
  simp (disch := first | exact ok_i | exact ok_r | exact ok_n | exact cat_i | exact cat_r | exact t89 | exact t90 | exact t91 | exact t92 | exact ro_0 | exact ro_1 | (refine i90 ?_; omega) | (refine i91 ?_; omega) | (refine i92 ?_; omega) | omega | assumption | (simp only [List.map_cons, List.map_nil, List.sum_cons, List.sum_nil, cat_i, cat_r, cat_l, Nat.reduceAdd, Nat.reduceLeDiff]; done) | decide) only [e228, s228_0, s228_1, s228_4, s228_5, s228_6, s228_9, s228_10, tl_s, tl_n, nI_add, pk_mul, i_cl, row_s, u2_row, i_le, i_lt, i_eq, if_true, if_false, Nat.le_refl, Nat.reduceEqDiff, Nat.reduceLeDiff, tx_n hw, e230, s230_0, s230_3, s230_6, s230_7, s230_10, s230_13, s230_14, n10F, e1]
theorem x_charAt {w k : Nat} (hw : w < 6) (hk : k < lw w) : Call X (d + 4) 229 [.ref (1004 + w), .int (nI k)] G I Q ↔ Q (some (.int (nI (chr w k)))) G I := by
  have hc := chr_r hw hk
  have hl := lw_le hw
  obtain ⟨e1, e2⟩ := c16 (c := chr w k) (by omega)
  have t24 : (roT X (1004 + w + 6)).1 = 24 := tx_t hw
  have o24 : (roT X (1004 + w + 6)).1 = 20 ∨ (roT X (1004 + w + 6)).1 = 24 := Or.inr (tx_t hw)
  have ib : inb (nI k) (roT X (1004 + w + 6)).2 = true := by rw [tx_l hw]; exact i_inb hk (by omega)
  have nk : ¬ nI k < nI 0 := by rw [i_lt (by omega) (by omega)]; omega
  have c1 : (Value.int (nI k)).category = 1 := rfl
  have ea : nI (chr w k) &&& nI 255 = nI (chr w k) := and_small (by omega)
  simp (disch := first | exact ok_i | exact ok_r | exact ok_n | exact cat_i | exact cat_r | exact t89 | exact t90 | exact t91 | exact t92 | exact ro_0 | exact ro_1 | (refine i90 ?_; omega) | (refine i91 ?_; omega) | (refine i92 ?_; omega) | omega | assumption | (simp only [List.map_cons, List.map_nil, List.sum_cons, List.sum_nil, cat_i, cat_r, cat_l, Nat.reduceAdd, Nat.reduceLeDiff]; done) | decide) only [e229, s229_0, s229_1, tl_s, tl_n, nI_add, pk_mul, i_cl, row_s, u2_row, i_le, i_lt, i_eq, if_true, if_false, Nat.le_refl, Nat.reduceEqDiff, Nat.reduceLeDiff, e231, s231_0, s231_3, s231_6, s231_7, s231_10, s231_13, s231_14, s231_17, s231_18, n10F]
  simp (disch := first | exact ok_i | exact ok_r | exact ok_n | exact cat_i | exact cat_r | exact t89 | exact t90 | exact t91 | exact t92 | exact ro_0 | exact ro_1 | (refine i90 ?_; omega) | (refine i91 ?_; omega) | (refine i92 ?_; omega) | omega | assumption | (simp only [List.map_cons, List.map_nil, List.sum_cons, List.sum_nil, cat_i, cat_r, cat_l, Nat.reduceAdd, Nat.reduceLeDiff]; done) | decide) only [s229_4, s229_7, s229_8, s229_11, s229_12, s229_15, tl_s, tl_n, nI_add, pk_mul, i_cl, row_s, u2_row, i_le, i_lt, i_eq, if_true, if_false, Nat.le_refl, Nat.reduceEqDiff, Nat.reduceLeDiff, n10F, e233, s233_0, s233_1, s233_2, s233_3, s233_6, s233_7, s233_8, s233_9, s233_12, s233_13, s233_14, tx_n hw, e232, s232_0, s232_1, s232_2, s232_5, s232_8, s232_9, e238, s238_0, s238_1, s238_4, s238_5, s238_6, s238_16, s238_17, nk, hk, tx_c hw hk, ea, e1]
theorem t_spelling {w : Nat} (hw : w < 6) : Call X (d + 1) 73 [.int (nI w)] G I Q ↔ Q (some (.ref (1004 + w))) G I := by
  rcases w6 hw with rfl | rfl | rfl | rfl | rfl | rfl <;> simp (disch := first | exact ok_i | exact ok_r | exact ok_n | exact cat_i | exact cat_r | exact t89 | exact t90 | exact t91 | exact t92 | exact ro_0 | exact ro_1 | (refine i90 ?_; omega) | (refine i91 ?_; omega) | (refine i92 ?_; omega) | omega | assumption | (simp only [List.map_cons, List.map_nil, List.sum_cons, List.sum_nil, cat_i, cat_r, cat_l, Nat.reduceAdd, Nat.reduceLeDiff]; done) | decide) only [e73, s73_0, s73_1, s73_36, s73_38, s73_39, s73_41, s73_42, s73_44, s73_45, s73_47, s73_48, s73_50, s73_51, s73_53, tl_s, tl_n, nI_add, pk_mul, i_cl, row_s, u2_row, i_le, i_lt, i_eq, if_true, if_false, Nat.le_refl, Nat.reduceEqDiff, Nat.reduceLeDiff]
end
