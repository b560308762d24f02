/-! the model: texts -/
theorem byt_lt {I : pI} {T q : Nat} (h : bytA I T q ≠ -1) : q < T := by
  by_cases h4 : q < T
  · exact h4
  · exfalso
    unfold bytA at h
    rw [if_neg h4] at h
    exact h rfl
theorem lwR_1 {I : pI} {T q : Nat} (h : inL (bytA I T q) 97 122 = true) : q + 1 ≤ lwR I T (T - q) q := by
  have hq : q < T := byt_lt (fun e => by rw [e] at h; exact absurd h (by decide))
  obtain ⟨r, hr⟩ : ∃ r, T - q = r + 1 := ⟨T - q - 1, by omega⟩
  rw [hr]
  unfold lwR
  rw [if_pos h]
  exact lwR_le.1
theorem dgR_1 {I : pI} {T q b : Nat} {v : Int32} (h : inL (bytA I T q) 48 57 = true) : q + 1 ≤ (dgR I T b (T - q) q v).1 := by
  have hq : q < T := byt_lt (fun e => by rw [e] at h; exact absurd h (by decide))
  obtain ⟨r, hr⟩ : ∃ r, T - q = r + 1 := ⟨T - q - 1, by omega⟩
  rw [hr]
  unfold dgR
  rw [if_pos h]
  exact dgR_le.1
theorem nx_adv {I : pI} {T p : Nat} : nxB I T p + 1 ≤ nxE I T p ∨ nxT I T p = nI 300 ∨ nxT I T p = -1 := by
  unfold nxE nxT
  generalize nxB I T p = q
  by_cases h1 : inL (bytA I T q) 97 122 = true
  · rw [if_pos h1]
    exact Or.inl (lwR_1 h1)
  · rw [if_neg h1]
    by_cases h2 : inL (bytA I T q) 48 57 = true
    · rw [if_pos h2]
      exact Or.inl (dgR_1 h2)
    · rw [if_neg h2]
      by_cases h3 : bytA I T q = nI 59
      · rw [if_pos h3]
        exact Or.inl (Nat.le_refl _)
      · rw [if_neg h3, if_neg h1, if_neg h2, if_neg h3]
        by_cases h4 : bytA I T q = -1
        · rw [if_pos h4]
          exact Or.inr (Or.inl rfl)
        · rw [if_neg h4]
          exact Or.inr (Or.inr rfl)
/-- how many numbers a word wants -/
def nW (I : pI) (v : Int32) : Nat := (I 108 (tN v)).toNatClampNeg
def WanOk (I : pI) : Prop := ∀ w, w < 6 → ∃ n, n ≤ 3 ∧ I 108 w = nI n
theorem WanOk.at {I : pI} (h : WanOk I) {v : Int32} (hv : inL v 0 5 = true) : I 108 (tN v) = nI (nW I v) ∧ nW I v ≤ 3 := by
  obtain ⟨_, _, h2⟩ := inL_t hv
  obtain ⟨n, hn, e⟩ := h (tN v) (by omega)
  unfold nW
  rw [e, i_cl (by omega)]
  exact ⟨rfl, hn⟩
/-- a clause where the next token comes first -/
def rdM (I : pI) (T cm : Nat) (C : Nat → Int32) (p : Nat) : Bool × (Nat → Int32) × Nat × Int32 × Int32 := rcM I T cm (if inL (nxT I T p) 0 5 = true then nW I (nxT I T p) else 0) C (nxE I T p) (nI (nxB I T p)) (nxT I T p)
theorem ncR_p {I : pI} {T k n : Nat} : ∀ {r : Nat} {C : Nat → Int32} {p : Nat} {b v : Int32}, p ≤ T → p ≤ (ncR I T k n r C p b v).2.2.1 ∧ (ncR I T k n r C p b v).2.2.1 ≤ T
  | 0, _, p, _, _, h => ⟨Nat.le_refl _, h⟩
  | r + 1, C, p, b, v, h => by
    unfold ncR
    have k1 := nxt_le (I := I) h
    split
    · have ih := ncR_p (k := k) (n := n) (r := r) (C := upd C (k + (n - r)) (v - nI 100)) (p := nxE I T p) (b := nI (nxB I T p)) (v := nxT I T p) (I := I) (T := T) k1.2.2
      omega
    · exact ⟨Nat.le_refl _, h⟩
