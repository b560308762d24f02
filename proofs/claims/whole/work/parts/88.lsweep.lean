/-! the class: kinds, sweeps, a hall made anew -/
theorem rK0 {X : pX} : roI X 1001 0 = -1 := rfl
theorem rK1 {X : pX} : roI X 1001 1 = nI 0 := rfl
theorem rK2 {X : pX} : roI X 1001 2 = nI 0 := rfl
theorem rK3 {X : pX} : roI X 1001 3 = nI 1 := rfl
theorem rK4 {X : pX} : roI X 1001 4 = nI 2 := rfl
theorem rK5 {X : pX} : roI X 1001 5 = nI 0 := rfl
theorem m1_lt : (-1 : Int32) < nI 0 := by decide
theorem m1_eq {a : Nat} (h : a < 2147483648) : ((-1 : Int32) = nI a) = False := propext ⟨fun e => by have e2 := e.symm; rw [nI_m1 h] at e2; exact e2, False.elim⟩
def clA (x st : Int32) (k : Nat) : Int32 := if k < 12 then x + st * nI k else x - st * (nI k - nI 12 + nI 1)
theorem swA_dec : (List.range 12).all (fun x => (List.range 24).all (fun k => decide (clA (nI x) (nI 1) k = swA (nI x) (nI 1) k) && decide (clA (nI x) (-1) k = swA (nI x) (-1) k))) = true := by decide +kernel
theorem swA_c {x k : Nat} {st : Int32} (hx : x < 12) (hk : k < 24) (hst : st = nI 1 ∨ st = -1) : clA (nI x) st k = swA (nI x) st k := by
  have h1 := List.all_eq_true.mp (List.all_eq_true.mp swA_dec x (List.mem_range.mpr hx)) k (List.mem_range.mpr hk)
  rw [Bool.and_eq_true, decide_eq_true_eq, decide_eq_true_eq] at h1
  rcases hst with rfl | rfl
  · exact h1.1
  · exact h1.2
/-- the floors of the last r steps of a sweep -/
def vsL (x : Nat) (st : Int32) (f r : Nat) : List Nat := ((List.range r).reverse.map (fun j => 24 - (j + 1))).filterMap (fun k => if inR (swA (nI x) st k) f = true then some (tN (swA (nI x) st k)) else none)
theorem vs_dec : (List.range 13).all (fun f => (List.range f).all (fun x => (vsL x (nI 1) f 24).isPerm (List.range f) && (vsL x (-1) f 24).isPerm (List.range f))) = true := by decide +kernel
theorem vs_perm {x f : Nat} {st : Int32} (hf : f ≤ 12) (hx : x < f) (hst : st = nI 1 ∨ st = -1) : (vsL x st f 24).Perm (List.range f) := by
  have h1 := List.all_eq_true.mp (List.all_eq_true.mp vs_dec f (List.mem_range.mpr (by omega))) x (List.mem_range.mpr hx)
  rw [Bool.and_eq_true, List.isPerm_iff, List.isPerm_iff] at h1
  rcases hst with rfl | rfl
  · exact h1.1
  · exact h1.2
theorem on_dec : (List.range 13).all (fun f => (List.range (2 ^ f)).all (fun b => decide (onF 12 b = ((List.range f).filter (fun a => b.testBit a)).length))) = true := by decide +kernel
theorem on_len {b f : Nat} (hf : f ≤ 12) (hb : b < 2 ^ f) : onF 12 b = ((List.range f).filter (fun a => b.testBit a)).length := by
  have h1 := List.all_eq_true.mp (List.all_eq_true.mp on_dec f (List.mem_range.mpr (by omega))) b (List.mem_range.mpr hb)
  rwa [decide_eq_true_eq] at h1
theorem vs_s {x f r : Nat} {st : Int32} : vsL x st f (r + 1) = (if inR (swA (nI x) st (24 - (r + 1))) f = true then [tN (swA (nI x) st (24 - (r + 1)))] else []) ++ vsL x st f r := by
  unfold vsL
  rw [List.range_succ, List.reverse_append, List.reverse_singleton, List.map_append, List.filterMap_append]
  congr 1
  show [24 - (r + 1)].filterMap _ = _
  by_cases c : inR (swA (nI x) st (24 - (r + 1))) f = true
  · rw [List.filterMap_cons, if_pos c, if_pos c, List.filterMap_nil]
  · rw [List.filterMap_cons, if_neg c, if_neg c, List.filterMap_nil]
/-- more are asked for than there are -/
theorem swR_out {x f b : Nat} {st : Int32} (hb : b < 4096) (hf : f ≤ 12) : ∀ {r left : Nat}, ((vsL x st f r).filter (fun a => b.testBit a)).length ≤ left → swR (nI x) st (nI b) f r left = -12
  | 0, _, _ => rfl
  | r + 1, left, h => by
    rw [vs_s, List.filter_append, List.length_append] at h
    unfold swR
    by_cases c : inR (swA (nI x) st (24 - (r + 1))) f = true
    · obtain ⟨e1, e2⟩ := inR_t c
      rw [if_pos c] at h
      have eb : bitA (nI b) (swA (nI x) st (24 - (r + 1))) = b.testBit (tN (swA (nI x) st (24 - (r + 1)))) := by
        rw [e1]
        have : tN (nI (tN (swA (nI x) st (24 - (r + 1))))) = tN (swA (nI x) st (24 - (r + 1))) := by rw [← e1]
        rw [this]
        exact bitA_n (by omega) (by omega)
      rw [c, Bool.true_and, eb]
      cases e : b.testBit (tN (swA (nI x) st (24 - (r + 1))))
      · rw [if_neg (by decide)]
        exact swR_out hb hf (by omega)
      · have e3 : ([tN (swA (nI x) st (24 - (r + 1)))].filter (fun a => b.testBit a)).length = 1 := by rw [List.filter_cons_of_pos e]; rfl
        rw [e3] at h
        rw [if_pos rfl, if_neg (by omega)]
        exact swR_out hb hf (by omega)
    · rw [Bool.eq_false_iff.mpr c, Bool.false_and, if_neg (by decide)]
      exact swR_out hb hf (by omega)
theorem swR_big {x f b j : Nat} {st : Int32} (hb : b < 2 ^ f) (hf : f ≤ 12) (hx : x < f) (hst : st = nI 1 ∨ st = -1) (hj : onF 12 b ≤ j) : swR (nI x) st (nI b) f 24 j = -12 := by
  refine swR_out (Nat.lt_of_lt_of_le hb (Nat.pow_le_pow_right (by omega) hf)) hf ?_
  rw [(vs_perm hf hx hst).filter (fun a => b.testBit a) |>.length_eq, ← on_len hf hb]
  exact hj
