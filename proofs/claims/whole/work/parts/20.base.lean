/-! words for running methods of the pure machine -/
theorem loop_up {P : Nat → Prop} {R : Prop} {n : Nat} (he : P n ↔ R) (hs : ∀ g, g < n → (P g ↔ P (g + 1))) : ∀ g, g ≤ n → (P g ↔ R) := by
  have key : ∀ k g, g + k = n → (P g ↔ R) := by
    intro k
    induction k with
    | zero => intro g h; rw [Nat.add_zero] at h; rw [h]; exact he
    | succ k ih => intro g h; exact (hs g (by omega)).trans (ih (g + 1) (by omega))
  intro g hg
  exact key (n - g) g (by omega)
theorem loop_imp {P : Nat → Prop} {n : Nat} (he : P n) (hs : ∀ g, g < n → P (g + 1) → P g) : ∀ g, g ≤ n → P g := by
  have key : ∀ k g, g + k = n → P g := by
    intro k
    induction k with
    | zero => intro g h; rw [Nat.add_zero] at h; rw [h]; exact he
    | succ k ih => intro g h; exact hs g (by omega) (ih (g + 1) (by omega))
  intro g hg
  exact key (n - g) g (by omega)
theorem tl_s {v : Value} {st : List Value} : (some v).toList ++ st = v :: st := rfl
theorem tl_n {st : List Value} : (none : Option Value).toList ++ st = st := rfl
theorem ok_i {x : Int32} : okL (some (.int x)) = true := rfl
theorem ok_r {r : Nat} : okL (some (.ref r)) = true := rfl
theorem ok_n : okL none = true := rfl
theorem cat_i {x : Int32} : (Value.int x).category = 1 := rfl
theorem cat_r {r : Nat} : (Value.ref r).category = 1 := rfl
theorem cat_l {x : Int64} : (Value.long x).category = 2 := rfl
theorem ro_0 : retOk (some .boolean) (nI 0) = true := rfl
theorem ro_1 : retOk (some .boolean) (nI 1) = true := rfl
theorem i_le {a b : Nat} (ha : a < 2147483648) (hb : b < 2147483648) : (nI a ≤ nI b) = (a ≤ b) := propext (nI_leI ha hb)
theorem i_lt {a b : Nat} (ha : a < 2147483648) (hb : b < 2147483648) : (nI a < nI b) = (a < b) := propext (nI_ltI ha hb)
theorem i_eq {a b : Nat} (ha : a < 2147483648) (hb : b < 2147483648) : (nI a = nI b) = (a = b) := propext (nI_eq ha hb)
theorem i_cl {a : Nat} (ha : a < 2147483648) : (nI a).toNatClampNeg = a := nI_clamp ha
theorem i_inb {a n : Nat} (h : a < n) (hn : n < 2147483648) : inb (nI a) n = true := by
  unfold inb
  rw [Bool.and_eq_true, decide_eq_true_eq, decide_eq_true_eq]
  exact ⟨nI_pos' (by omega), by rw [nI_clamp (by omega)]; exact h⟩
theorem i_sub {a b : Nat} (h : b ≤ a) : nI a - nI b = nI (a - b) := pk_sub h
theorem i_toInt {a : Nat} (h : a < 2147483648) : (nI a).toInt = (a : Int) := nI_toInt h
/-! rows of numbers -/
def row (I : pI) (r : Nat) (f : Nat → Int32) : pI := fun a => if a = r then f else I a
theorem row_s {I : pI} {r : Nat} {f : Nat → Int32} : row I r f r = f := by unfold row; rw [if_pos rfl]
theorem row_n {I : pI} {r a : Nat} {f : Nat → Int32} (h : a ≠ r) : row I r f a = I a := by unfold row; rw [if_neg h]
theorem row_id {I : pI} {r : Nat} : row I r (I r) = I := by
  funext a
  unfold row
  by_cases h : a = r
  · rw [if_pos h, h]
  · rw [if_neg h]
theorem row_row {I : pI} {r : Nat} {f g : Nat → Int32} : row (row I r f) r g = row I r g := by
  funext a
  unfold row
  by_cases h : a = r
  · rw [if_pos h, if_pos h]
  · rw [if_neg h, if_neg h, if_neg h]
theorem row_c {I : pI} {r q : Nat} {f g : Nat → Int32} (h : r ≠ q) : row (row I r f) q g = row (row I q g) r f := by
  funext a
  unfold row
  by_cases h1 : a = q
  · rw [if_pos h1, if_neg (fun e => h (e.symm.trans h1)), if_pos h1]
  · rw [if_neg h1]
    by_cases h2 : a = r
    · rw [if_pos h2, if_pos h2]
    · rw [if_neg h2, if_neg h2, if_neg h1]
theorem u2_row {I : pI} {r k : Nat} {f : Nat → Int32} {v : Int32} : upd2 (row I r f) r k v = row I r (upd f k v) := by
  funext a j
  unfold upd2 row upd
  by_cases h : a = r
  · simp only [h, true_and, if_true]
  · simp only [h, false_and, if_false]
theorem u2_of {I : pI} {r k : Nat} {v : Int32} : upd2 I r k v = row I r (upd (I r) k v) := by
  rw [← u2_row, row_id]
theorem up_s {f : Nat → Int32} {k : Nat} {v : Int32} : upd f k v k = v := by unfold upd; rw [if_pos rfl]
theorem up_n {f : Nat → Int32} {k j : Nat} {v : Int32} (h : j ≠ k) : upd f k v j = f j := by unfold upd; rw [if_neg h]
/-! the cells of the model -/
theorem t102 : tagW G0 102 = 7 := rfl
theorem t103 : tagW G0 103 = 20 := rfl
theorem t104 : tagW G0 104 = 20 := rfl
theorem t105 : tagW G0 105 = 20 := rfl
theorem t106 : tagW G0 106 = 20 := rfl
theorem t107 : tagW G0 107 = 21 := rfl
theorem t108 : tagW G0 108 = 20 := rfl
theorem t109 : tagW G0 109 = 20 := rfl
theorem t110 : tagW G0 110 = 20 := rfl
theorem t111 : tagW G0 111 = 20 := rfl
theorem t112 : tagW G0 112 = 20 := rfl
theorem n103 : lenW G0 103 = 452 := rfl
theorem n104 : lenW G0 104 = 452 := rfl
theorem n105 : lenW G0 105 = 1808 := rfl
theorem n106 : lenW G0 106 = 60 := rfl
theorem n107 : lenW G0 107 = 36 := rfl
theorem n108 : lenW G0 108 = 6 := rfl
theorem n109 : lenW G0 109 = 120 := rfl
theorem n110 : lenW G0 110 = 4 := rfl
theorem n111 : lenW G0 111 = 4 := rfl
theorem n112 : lenW G0 112 = 160 := rfl
/-! longs -/
theorem cmp_lt {a b : Int64} : (lg_cmp a b < nI 0) = (a < b) := propext (by show lg_cmp a b < 0 ↔ a < b; rw [← Int32.not_le, lg_cmp_ge, Int64.not_le])
theorem cmp_gt {a b : Int64} : (nI 0 < lg_cmp a b) = (b < a) := propext (by show 0 < lg_cmp a b ↔ b < a; rw [← Int32.not_le, lg_cmp_le, Int64.not_le])
theorem l_xx {x y : Int32} : (x.toInt64 < y.toInt64) = (x.toInt < y.toInt) := propext (by rw [Int64.lt_iff_toInt_lt, Int32.toInt_toInt64, Int32.toInt_toInt64])
theorem lN_toI {a : Nat} (h : a < 2147483648) : (lN a).toInt = (a : Int) := lN_toInt h
theorem l_xn {x : Int32} {a : Nat} (h : a < 2147483648) : (x.toInt64 < lN a) = (x.toInt < (a : Int)) := propext (by rw [Int64.lt_iff_toInt_lt, Int32.toInt_toInt64, lN_toI h])
theorem l_nx {x : Int32} {a : Nat} (h : a < 2147483648) : (lN a < x.toInt64) = ((a : Int) < x.toInt) := propext (by rw [Int64.lt_iff_toInt_lt, Int32.toInt_toInt64, lN_toI h])
theorem l_xm {x : Int32} : (x.toInt64 < (-1)) = (x.toInt < -1) := propext (by rw [Int64.lt_iff_toInt_lt, Int32.toInt_toInt64]; rfl)
theorem i103 {k : Nat} (h : k < 452) : inb (nI k) (lenW G0 103) = true := i_inb h (by decide)
theorem i104 {k : Nat} (h : k < 452) : inb (nI k) (lenW G0 104) = true := i_inb h (by decide)
theorem i105 {k : Nat} (h : k < 1808) : inb (nI k) (lenW G0 105) = true := i_inb h (by decide)
theorem i106 {k : Nat} (h : k < 60) : inb (nI k) (lenW G0 106) = true := i_inb h (by decide)
theorem i107 {k : Nat} (h : k < 36) : inb (nI k) (lenW G0 107) = true := i_inb h (by decide)
theorem i108 {k : Nat} (h : k < 6) : inb (nI k) (lenW G0 108) = true := i_inb h (by decide)
theorem i109 {k : Nat} (h : k < 120) : inb (nI k) (lenW G0 109) = true := i_inb h (by decide)
theorem i110 {k : Nat} (h : k < 4) : inb (nI k) (lenW G0 110) = true := i_inb h (by decide)
theorem i111 {k : Nat} (h : k < 4) : inb (nI k) (lenW G0 111) = true := i_inb h (by decide)
theorem i112 {k : Nat} (h : k < 160) : inb (nI k) (lenW G0 112) = true := i_inb h (by decide)
