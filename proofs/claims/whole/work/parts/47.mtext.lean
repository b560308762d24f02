/-! the model: texts -/
theorem byt_lt {I : pI} {T q : Nat} (h : bytA I T q ≠ -1) : q < T := by
  by_cases h4 : q < T
  · exact h4
  · exfalso
    unfold bytA at h
    rw [if_neg h4] at h
    exact h rfl
theorem lwR_1 {I : pI} {T q : Nat} (h : inL (bytA I T q) 97 122 = true) : q + 1 ≤ lwR I T (T - q) q := by
  have hq : q < T := byt_lt (fun e => by rw [e] at h; exact absurd h (by decide))
  obtain ⟨r, hr⟩ : ∃ r, T - q = r + 1 := ⟨T - q - 1, by omega⟩
  rw [hr]
  unfold lwR
  rw [if_pos h]
  exact lwR_le.1
theorem dgR_1 {I : pI} {T q b : Nat} {v : Int32} (h : inL (bytA I T q) 48 57 = true) : q + 1 ≤ (dgR I T b (T - q) q v).1 := by
  have hq : q < T := byt_lt (fun e => by rw [e] at h; exact absurd h (by decide))
  obtain ⟨r, hr⟩ : ∃ r, T - q = r + 1 := ⟨T - q - 1, by omega⟩
  rw [hr]
  unfold dgR
  rw [if_pos h]
  exact dgR_le.1
theorem nx_adv {I : pI} {T p : Nat} : nxB I T p + 1 ≤ nxE I T p ∨ nxT I T p = nI 300 ∨ nxT I T p = -1 := by
  unfold nxE nxT
  generalize nxB I T p = q
  by_cases h1 : inL (bytA I T q) 97 122 = true
  · rw [if_pos h1]
    exact Or.inl (lwR_1 h1)
  · rw [if_neg h1]
    by_cases h2 : inL (bytA I T q) 48 57 = true
    · rw [if_pos h2]
      exact Or.inl (dgR_1 h2)
    · rw [if_neg h2]
      by_cases h3 : bytA I T q = nI 59
      · rw [if_pos h3]
        exact Or.inl (Nat.le_refl _)
      · rw [if_neg h3, if_neg h1, if_neg h2, if_neg h3]
        by_cases h4 : bytA I T q = -1
        · rw [if_pos h4]
          exact Or.inr (Or.inl rfl)
        · rw [if_neg h4]
          exact Or.inr (Or.inr rfl)
/-- how many numbers a word wants -/
def nW (I : pI) (v : Int32) : Nat := (I 108 (tN v)).toNatClampNeg
def WanOk (I : pI) : Prop := ∀ w, w < 6 → ∃ n, n ≤ 3 ∧ I 108 w = nI n
theorem WanOk.at {I : pI} (h : WanOk I) {v : Int32} (hv : inL v 0 5 = true) : I 108 (tN v) = nI (nW I v) ∧ nW I v ≤ 3 := by
  obtain ⟨_, _, h2⟩ := inL_t hv
  obtain ⟨n, hn, e⟩ := h (tN v) (by omega)
  unfold nW
  rw [e, i_cl (by omega)]
  exact ⟨rfl, hn⟩
/-- a clause where the next token comes first -/
def rdM (I : pI) (T cm : Nat) (C : Nat → Int32) (p : Nat) : Bool × (Nat → Int32) × Nat × Int32 × Int32 := rcM I T cm (if inL (nxT I T p) 0 5 = true then nW I (nxT I T p) else 0) C (nxE I T p) (nI (nxB I T p)) (nxT I T p)
theorem ncR_p {I : pI} {T k n : Nat} : ∀ {r : Nat} {C : Nat → Int32} {p : Nat} {b v : Int32}, p ≤ T → p ≤ (ncR I T k n r C p b v).2.2.1 ∧ (ncR I T k n r C p b v).2.2.1 ≤ T
  | 0, _, p, _, _, h => ⟨Nat.le_refl _, h⟩
  | r + 1, C, p, b, v, h => by
    unfold ncR
    have k1 := nxt_le (I := I) h
    split
    · have ih := ncR_p (k := k) (n := n) (r := r) (C := upd C (k + (n - r)) (v - nI 100)) (p := nxE I T p) (b := nI (nxB I T p)) (v := nxT I T p) (I := I) (T := T) k1.2.2
      omega
    · exact ⟨Nat.le_refl _, h⟩
theorem ncR_200 {I : pI} {T k n pw : Nat} : ∀ {r : Nat} {C : Nat → Int32} {p : Nat} {b v : Int32}, p ≤ T → pw ≤ p → (v = nI 200 → pw + 1 ≤ p) → (ncR I T k n r C p b v).2.2.2.2 = nI 200 → pw + 1 ≤ (ncR I T k n r C p b v).2.2.1
  | 0, _, _, _, _, _, _, h2, h3 => h2 h3
  | r + 1, C, p, b, v, h, h1, h2, h3 => by
    unfold ncR at h3 ⊢
    have k1 := nxt_le (I := I) h
    by_cases c : inL v 100 199 = true
    · rw [if_pos c] at h3 ⊢
      refine ncR_200 (pw := pw) k1.2.2 (by omega) (fun e => ?_) h3
      have k2 := nx_adv (I := I) (T := T) (p := p)
      rcases k2 with k2 | k2 | k2
      · omega
      · rw [k2, i_eq (by decide) (by decide)] at e
        omega
      · rw [k2] at e
        exact absurd e (by decide)
    · rw [if_neg c] at h3 ⊢
      exact h2 h3
abbrev rS : Type := Bool × (Nat → Int32) × Nat × Nat × Int32 × Int32
def raF (I : pI) (T : Nat) (s : rS) : rS :=
  let q := rdM I T s.2.2.1 s.2.1 s.2.2.2.1
  (q.1, q.2.1, if q.1 = true then s.2.2.1 + 1 else s.2.2.1, q.2.2.1, q.2.2.2.1, q.2.2.2.2)
def raR (I : pI) (T : Nat) : Nat → rS → rS
  | 0, s => s
  | r + 1, s => if (s.1 && decide (s.2.2.2.2.2 = nI 200)) = true then raR I T r (raF I T s) else s
def raOk (T : Nat) (s : rS) : Prop := s.2.2.2.1 ≤ T ∧ (s.1 = true → s.2.2.2.2.2 = nI 200 → 2 * s.2.2.1 ≤ s.2.2.2.1)
theorem raF_ok {I : pI} {T : Nat} {s : rS} (h : s.2.2.2.1 ≤ T) (h2 : 2 * s.2.2.1 ≤ s.2.2.2.1) : raOk T (raF I T s) ∧ (inL (nxT I T s.2.2.2.1) 0 5 = true → 2 * s.2.2.1 + 1 ≤ T) := by
  obtain ⟨ok, C, cm, p, b, v⟩ := s
  dsimp only at h h2 ⊢
  have k1 := nxt_le (I := I) h
  have adv : inL (nxT I T p) 0 5 = true → nxB I T p + 1 ≤ nxE I T p := fun hw => by
    rcases nx_adv (I := I) (T := T) (p := p) with k2 | k2 | k2
    · exact k2
    · rw [k2] at hw; exact absurd hw (by decide)
    · rw [k2] at hw; exact absurd hw (by decide)
  refine ⟨?_, fun hw => by have := adv hw; omega⟩
  unfold raOk raF rdM rcM
  dsimp only
  by_cases c : inL (nxT I T p) 0 5 = true
  · have a1 := adv c
    simp only [c, if_true]
    have k3 := nxt_le (I := I) k1.2.2
    have np := ncR_p (I := I) (T := T) (k := 4 * cm) (n := nW I (nxT I T p)) (r := nW I (nxT I T p)) (C := upd C (4 * cm) (nxT I T p)) (b := nI (nxB I T (nxE I T p))) (v := nxT I T (nxE I T p)) k3.2.2
    refine ⟨np.2, fun hok hv => ?_⟩
    have n2 := ncR_200 (I := I) (T := T) (pw := nxE I T p) (k := 4 * cm) (n := nW I (nxT I T p)) (r := nW I (nxT I T p)) (C := upd C (4 * cm) (nxT I T p)) (b := nI (nxB I T (nxE I T p))) (v := nxT I T (nxE I T p)) k3.2.2 (by omega) (fun e => by
      rcases nx_adv (I := I) (T := T) (p := nxE I T p) with k2 | k2 | k2
      · omega
      · rw [k2, i_eq (by decide) (by decide)] at e
        omega
      · rw [k2] at e
        exact absurd e (by decide)) hv
    rw [if_pos hok]
    omega
  · rw [Bool.not_eq_true] at c
    simp only [c, Bool.false_eq_true, if_false]
    exact ⟨k1.2.2, fun e => by cases e⟩
