/-! the class: a hall tells the same numbers as the model's row -/
section
variable {o p : Nat}
theorem IsHall.tC (h : IsHall o p) {a : Nat} (h1 : p + 1 ≤ a) (h2 : a ≤ p + 4) : tagW G0 a = 0 := by
  have := h.tc (a - (p + 1)) (by omega)
  rwa [show p + 1 + (a - (p + 1)) = a by omega] at this
theorem IsHall.tA (h : IsHall o p) {a : Nat} (h1 : p + 6 ≤ a) (h2 : a ≤ p + 15) : tagW G0 a = 20 := by
  have := h.ta (a - (p + 6)) (by omega)
  rwa [show p + 6 + (a - (p + 6)) = a by omega] at this
theorem IsHall.tJ (h : IsHall o p) {a : Nat} (h1 : p + 17 ≤ a) (h2 : a ≤ p + 20) : tagW G0 a = 20 := by
  have := (h.tjs (a - (p + 17)) (by omega)).1
  rwa [show p + 17 + (a - (p + 17)) = a by omega] at this
theorem IsHall.nC (h : IsHall o p) {c : Nat} (hc : c < 4) : inb (nI c) (lenW G0 p) = true := by rw [h.lp]; exact i_inb hc (by omega)
theorem IsHall.nA (h : IsHall o p) {a g : Nat} (h1 : p + 6 ≤ a) (h2 : a ≤ p + 13) (hg : g < 40) : inb (nI g) (lenW G0 a) = true := by
  have := h.la (a - (p + 6)) (by omega)
  rw [show p + 6 + (a - (p + 6)) = a by omega] at this
  rw [this]; exact i_inb hg (by omega)
theorem IsHall.nL (h : IsHall o p) {i : Nat} (hi : i < 12) : inb (nI i) (lenW G0 (p + 14)) = true := by rw [h.ll]; exact i_inb hi (by omega)
theorem IsHall.nD (h : IsHall o p) {i : Nat} (hi : i < 12) : inb (nI i) (lenW G0 (p + 15)) = true := by rw [h.ld]; exact i_inb hi (by omega)
theorem IsHall.nJ (h : IsHall o p) {a i : Nat} (h1 : p + 17 ≤ a) (h2 : a ≤ p + 20) (hi : i < 20) : inb (nI i) (lenW G0 a) = true := by
  have := (h.tjs (a - (p + 17)) (by omega)).2
  rw [show p + 17 + (a - (p + 17)) = a by omega] at this
  rw [this]; exact i_inb hi (by omega)
theorem IsHall.np (h : IsHall o p) : o < p ∨ p + 20 < o := by rcases h with h | h | h | h <;> omega
end
/-- the journal: the ring tells the events -/
def HJ (p : Nat) (I : pI) (N : Nat → Int32) : Prop := ∃ e q, e ≤ 20 ∧ q < 20 ∧ N 451 = nI e ∧ I (p + 16) 4 = nI e ∧ I (p + 16) 5 = nI q ∧
  ∀ i j, i < e → j < 4 → I (p + 17 + j) ((q + 19 - i) % 20) = N (364 + 4 * i + j)
/-- the row's place of a hall's number, of a car's -/
def om (k : Nat) : Nat := if k = 0 then 444 else if k = 1 then 445 else if k = 2 then 447 else if k = 3 then 450 else if k = 4 then 448 else 449
def jm (k : Nat) : Nat := if k = 6 then 7 else if k = 7 then 6 else k
def HR (o p : Nat) (I : pI) (N : Nat → Int32) (m : Nat) (L : List Nat) : Prop :=
  IsHall o p ∧ (N 446 = nI m ∧ m ≤ 40) ∧ (∀ k, k < 6 → I o k = N (om k)) ∧ (∀ c k, c < 4 → k < 8 → I (p + 1 + c) k = cf N c (jm k)) ∧
  (I (p + 5) 10 = nI m ∧ I (p + 5) 9 = nI L.length ∧ L.length ≤ 12) ∧ (∀ i, i < L.length → I (p + 14) i = nI (L.getD i 0) ∧ L.getD i 0 < m) ∧
  (∀ g j, g < m → j < 8 → I (p + 6 + j) g = gf N g j) ∧ (∀ a, a < 12 → I (p + 15) a = N (352 + a)) ∧ HJ p I N
section
variable {o p m : Nat} {I : pI} {N : Nat → Int32} {L : List Nat}
theorem HR.ho (h : HR o p I N m L) : IsHall o p := h.1
theorem HR.m446 (h : HR o p I N m L) : N 446 = nI m := h.2.1.1
theorem HR.m40 (h : HR o p I N m L) : m ≤ 40 := h.2.1.2
theorem HR.o0 (h : HR o p I N m L) : I o 0 = N 444 := h.2.2.1 0 (by omega)
theorem HR.o1 (h : HR o p I N m L) : I o 1 = N 445 := h.2.2.1 1 (by omega)
theorem HR.o2 (h : HR o p I N m L) : I o 2 = N 447 := h.2.2.1 2 (by omega)
theorem HR.o3 (h : HR o p I N m L) : I o 3 = N 450 := h.2.2.1 3 (by omega)
theorem HR.o4 (h : HR o p I N m L) : I o 4 = N 448 := h.2.2.1 4 (by omega)
theorem HR.o5 (h : HR o p I N m L) : I o 5 = N 449 := h.2.2.1 5 (by omega)
theorem HR.c0 (h : HR o p I N m L) : ∀ c, c < 4 → I (p + 1 + c) 0 = cf N c 0 := fun c hc => h.2.2.2.1 c 0 hc (by omega)
theorem HR.c1 (h : HR o p I N m L) : ∀ c, c < 4 → I (p + 1 + c) 1 = cf N c 1 := fun c hc => h.2.2.2.1 c 1 hc (by omega)
theorem HR.c2 (h : HR o p I N m L) : ∀ c, c < 4 → I (p + 1 + c) 2 = cf N c 2 := fun c hc => h.2.2.2.1 c 2 hc (by omega)
theorem HR.c3 (h : HR o p I N m L) : ∀ c, c < 4 → I (p + 1 + c) 3 = cf N c 3 := fun c hc => h.2.2.2.1 c 3 hc (by omega)
theorem HR.c4 (h : HR o p I N m L) : ∀ c, c < 4 → I (p + 1 + c) 4 = cf N c 4 := fun c hc => h.2.2.2.1 c 4 hc (by omega)
theorem HR.c5 (h : HR o p I N m L) : ∀ c, c < 4 → I (p + 1 + c) 5 = cf N c 5 := fun c hc => h.2.2.2.1 c 5 hc (by omega)
theorem HR.c6 (h : HR o p I N m L) : ∀ c, c < 4 → I (p + 1 + c) 6 = cf N c 7 := fun c hc => h.2.2.2.1 c 6 hc (by omega)
theorem HR.c7 (h : HR o p I N m L) : ∀ c, c < 4 → I (p + 1 + c) 7 = cf N c 6 := fun c hc => h.2.2.2.1 c 7 hc (by omega)
theorem HR.mc (h : HR o p I N m L) : I (p + 5) 10 = nI m := h.2.2.2.2.1.1
theorem HR.lc (h : HR o p I N m L) : I (p + 5) 9 = nI L.length := h.2.2.2.2.1.2.1
theorem HR.l12 (h : HR o p I N m L) : L.length ≤ 12 := h.2.2.2.2.1.2.2
theorem HR.lv (h : HR o p I N m L) : ∀ i, i < L.length → I (p + 14) i = nI (L.getD i 0) := fun i hi => (h.2.2.2.2.2.1 i hi).1
theorem HR.lm (h : HR o p I N m L) : ∀ i, i < L.length → L.getD i 0 < m := fun i hi => (h.2.2.2.2.2.1 i hi).2
theorem HR.g0 (h : HR o p I N m L) : ∀ g, g < m → I (p + 6) g = gf N g 0 := fun g hg => h.2.2.2.2.2.2.1 g 0 hg (by omega)
theorem HR.g1 (h : HR o p I N m L) : ∀ g, g < m → I (p + 7) g = gf N g 1 := fun g hg => h.2.2.2.2.2.2.1 g 1 hg (by omega)
theorem HR.g2 (h : HR o p I N m L) : ∀ g, g < m → I (p + 8) g = gf N g 2 := fun g hg => h.2.2.2.2.2.2.1 g 2 hg (by omega)
theorem HR.g3 (h : HR o p I N m L) : ∀ g, g < m → I (p + 9) g = gf N g 3 := fun g hg => h.2.2.2.2.2.2.1 g 3 hg (by omega)
theorem HR.g4 (h : HR o p I N m L) : ∀ g, g < m → I (p + 10) g = gf N g 4 := fun g hg => h.2.2.2.2.2.2.1 g 4 hg (by omega)
theorem HR.g5 (h : HR o p I N m L) : ∀ g, g < m → I (p + 11) g = gf N g 5 := fun g hg => h.2.2.2.2.2.2.1 g 5 hg (by omega)
theorem HR.g6 (h : HR o p I N m L) : ∀ g, g < m → I (p + 12) g = gf N g 6 := fun g hg => h.2.2.2.2.2.2.1 g 6 hg (by omega)
theorem HR.g7 (h : HR o p I N m L) : ∀ g, g < m → I (p + 13) g = gf N g 7 := fun g hg => h.2.2.2.2.2.2.1 g 7 hg (by omega)
theorem HR.dm (h : HR o p I N m L) : ∀ a, a < 12 → I (p + 15) a = N (352 + a) := h.2.2.2.2.2.2.2.1
theorem HR.hj (h : HR o p I N m L) : HJ p I N := h.2.2.2.2.2.2.2.2
end
/-- nothing else is written than a hall's own cells -/
def Fr (o p : Nat) (I I' : pI) : Prop := ∀ a, a ≠ o → (a < p ∨ p + 20 < a) → I' a = I a
theorem Fr.refl {o p : Nat} {I : pI} : Fr o p I I := fun _ _ _ => rfl
theorem Fr.trans {o p : Nat} {I I' I'' : pI} (h : Fr o p I I') (h2 : Fr o p I' I'') : Fr o p I I'' := fun a h3 h4 => (h2 a h3 h4).trans (h a h3 h4)
theorem u2_ne {I : pI} {r k a : Nat} {v : Int32} (h : a ≠ r) : upd2 I r k v a = I a := by
  funext j
  unfold upd2
  rw [if_neg (fun e => h e.1)]
theorem u2_nk {I : pI} {r k a j : Nat} {v : Int32} (h : a ≠ r ∨ j ≠ k) : upd2 I r k v a j = I a j := by
  unfold upd2
  rw [if_neg (fun e => by omega)]
theorem u2_s {I : pI} {r k : Nat} {v : Int32} : upd2 I r k v r k = v := by
  unfold upd2
  rw [if_pos ⟨rfl, rfl⟩]
theorem Fr.up {o p r k : Nat} {I : pI} {v : Int32} (h : r = o ∨ (p ≤ r ∧ r ≤ p + 20)) : Fr o p I (upd2 I r k v) := fun a h3 h4 => u2_ne (by omega)
theorem HR.ext {o p m : Nat} {I I' : pI} {N : Nat → Int32} {L : List Nat} (h : HR o p I N m L) (h1 : I' o = I o) (h2 : ∀ a, p ≤ a → a ≤ p + 20 → I' a = I a) : HR o p I' N m L := by
  obtain ⟨ho, hm, h3, h4, h5, h6, h7, h8, e, q, h9, h10, h11, h12, h13, h14⟩ := h
  refine ⟨ho, hm, by rw [h1]; exact h3, fun c k hc hk => by rw [h2 _ (by omega) (by omega)]; exact h4 c k hc hk, by rw [h2 _ (by omega) (by omega)]; exact h5, fun i hi => by rw [h2 _ (by omega) (by omega)]; exact h6 i hi, fun g j hg hj => by rw [h2 _ (by omega) (by omega)]; exact h7 g j hg hj, fun a ha => by rw [h2 _ (by omega) (by omega)]; exact h8 a ha, e, q, h9, h10, h11, by rw [h2 _ (by omega) (by omega)]; exact h12, by rw [h2 _ (by omega) (by omega)]; exact h13, fun i j hi hj => by rw [h2 _ (by omega) (by omega)]; exact h14 i j hi hj⟩
/-! those that live -/
def live (N : Nat → Int32) (m : Nat) : List Nat := (List.range m).filter (fun g => !decide (gf N g 4 = nI 2))
theorem live_s {N : Nat → Int32} {m : Nat} : live N (m + 1) = live N m ++ (if gf N m 4 = nI 2 then [] else [m]) := by
  unfold live
  rw [List.range_succ, List.filter_append]
  congr 1
  by_cases h : gf N m 4 = nI 2 <;> simp [h]
theorem live_mem {N : Nat → Int32} {m g : Nat} : g ∈ live N m ↔ g < m ∧ ¬ gf N g 4 = nI 2 := by
  unfold live
  rw [List.mem_filter, List.mem_range]
  simp
theorem getD_mem {L : List Nat} {i : Nat} (h : i < L.length) : L.getD i 0 ∈ L := by
  rw [List.getD_eq_getElem?_getD, List.getElem?_eq_getElem h]
  exact List.getElem_mem h
theorem live_i {N : Nat → Int32} {m i : Nat} (h : i < (live N m).length) : (live N m).getD i 0 < m ∧ ¬ gf N ((live N m).getD i 0) 4 = nI 2 := live_mem.mp (getD_mem h)
theorem itr_L {α : Type} {f : Nat → α → α} {L : List Nat} {a : α} : ∀ {n : Nat}, n ≤ L.length → itr (fun i s => f (L.getD i 0) s) a n = (L.take n).foldl (fun s g => f g s) a
  | 0, _ => by rw [List.take_zero]; rfl
  | n + 1, h => by
    rw [itr_s, itr_L (by omega), List.take_succ_eq_append_getElem (by omega), List.foldl_append]
    show _ = f _ _
    rw [List.getD_eq_getElem?_getD, List.getElem?_eq_getElem (by omega)]
    rfl
theorem live_fold {α : Type} {f : Nat → α → α} {N : Nat → Int32} {a : α} (P : α → Prop) (h0 : P a) : ∀ {m : Nat}, (∀ g s, g < m → P s → P (f g s)) → (∀ g s, g < m → gf N g 4 = nI 2 → P s → f g s = s) →
    (live N m).foldl (fun s g => f g s) a = itr f a m ∧ P (itr f a m)
  | 0, _, _ => ⟨rfl, h0⟩
  | m + 1, hp, hd => by
    obtain ⟨h1, h2⟩ := live_fold P h0 (m := m) (fun g s hg => hp g s (by omega)) (fun g s hg => hd g s (by omega))
    refine ⟨?_, by rw [itr_s]; exact hp m _ (by omega) h2⟩
    rw [live_s, List.foldl_append, h1, itr_s]
    by_cases h : gf N m 4 = nI 2
    · rw [if_pos h, hd m _ (by omega) h h2]; rfl
    · rw [if_neg h]; rfl
/-- a walk over those that live is one over all, where nothing is done for those that are there -/
theorem lv_itr {α : Type} {f : Nat → α → α} {N : Nat → Int32} {a : α} {m : Nat} (P : α → Prop) (h0 : P a) (hp : ∀ g s, g < m → P s → P (f g s)) (hd : ∀ g s, g < m → gf N g 4 = nI 2 → P s → f g s = s) :
    itr (fun i s => f ((live N m).getD i 0) s) a (live N m).length = itr f a m := by
  rw [itr_L (Nat.le_refl _), List.take_length]
  exact (live_fold P h0 hp hd).1
theorem lv_itr0 {α : Type} {f : Nat → α → α} {N : Nat → Int32} {a : α} {m : Nat} (hd : ∀ g s, g < m → gf N g 4 = nI 2 → f g s = s) :
    itr (fun i s => f ((live N m).getD i 0) s) a (live N m).length = itr f a m :=
  lv_itr (fun _ => True) trivial (fun _ _ _ _ => trivial) (fun g s hg h _ => hd g s hg h)
/-- a loop with locals that are stored over -/
theorem loop_l {α : Type} {P : Nat → α → Prop} {ok : α → Prop} {R : Prop} {n : Nat} (he : ∀ l, ok l → (P n l ↔ R)) (hs : ∀ g l, g < n → ok l → ∃ l', ok l' ∧ (P g l ↔ P (g + 1) l')) : ∀ g l, g ≤ n → ok l → (P g l ↔ R) := by
  have key : ∀ k g l, g + k = n → ok l → (P g l ↔ R) := by
    intro k
    induction k with
    | zero => intro g l h hl; rw [Nat.add_zero] at h; rw [h]; exact he l hl
    | succ k ih =>
      intro g l h hl
      obtain ⟨l', h1, h2⟩ := hs g l (by omega) hl
      exact h2.trans (ih (g + 1) l' (by omega) h1)
  intro g l hg hl
  exact key (n - g) g l (by omega) hl
/-- the first of a row -/
theorem drop_D {L : List Nat} {i : Nat} (h : i < L.length) : L.drop i = L.getD i 0 :: L.drop (i + 1) := by
  rw [List.drop_eq_getElem_cons h, List.getD_eq_getElem?_getD, List.getElem?_eq_getElem h]
  rfl
theorem live_find {N : Nat → Int32} {m : Nat} {q : Nat → Bool} (h : ∀ g, q g = true → ¬ gf N g 4 = nI 2) : (live N m).find? q = (List.range m).find? q := by
  unfold live
  rw [List.find?_filter]
  congr 1
  funext g
  by_cases c : q g = true
  · simp [c, h g c]
  · simp [c]
theorem onR_find {N : Nat → Int32} {m : Nat} : ∀ {k : Nat}, k ≤ m → onR N m k = ((List.range m).drop (m - k)).find? (fun g => decide (gf N g 4 = nI 0))
  | 0, _ => by rw [Nat.sub_zero, List.drop_eq_nil_of_le (by simp)]; rfl
  | k + 1, h => by
    have e1 : ((List.range m).getD (m - (k + 1)) 0) = m - (k + 1) := by
      rw [List.getD_eq_getElem?_getD, List.getElem?_range (by omega)]; rfl
    rw [drop_D (by rw [List.length_range]; omega), e1, show m - (k + 1) + 1 = m - k by omega, List.find?_cons]
    unfold onR
    by_cases c : gf N (m - (k + 1)) 4 = nI 0
    · rw [if_pos c, decide_eq_true c]
    · rw [if_neg c, decide_eq_false c]
      exact onR_find (by omega)
theorem onR_live {N : Nat → Int32} {m : Nat} : onR N m m = (live N m).find? (fun g => decide (gf N g 4 = nI 0)) := by
  rw [onR_find (Nat.le_refl m), Nat.sub_self, List.drop_zero, live_find]
  intro g h
  rw [decide_eq_true_eq] at h
  rw [h]
  decide
theorem add_n0 {x : Int32} : x + nI 0 = x := by
  rw [show nI 0 = 0 by decide]
  exact Int32.add_zero x
