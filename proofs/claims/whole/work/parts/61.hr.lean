/-! the class: a hall tells the same numbers as the model's row -/
/-- the hall's own numbers and its cars -/
def HC (o p : Nat) (I : pI) (N : Nat → Int32) : Prop :=
  (I o 0 = N 444 ∧ I o 1 = N 445 ∧ I o 2 = N 447 ∧ I o 3 = N 450 ∧ I o 4 = N 448 ∧ I o 5 = N 449) ∧
  (∀ c, c < 4 → I (p + 1 + c) 0 = cf N c 0 ∧ I (p + 1 + c) 1 = cf N c 1 ∧ I (p + 1 + c) 2 = cf N c 2 ∧ I (p + 1 + c) 3 = cf N c 3 ∧ I (p + 1 + c) 4 = cf N c 4 ∧ I (p + 1 + c) 5 = cf N c 5 ∧ I (p + 1 + c) 6 = cf N c 7 ∧ I (p + 1 + c) 7 = cf N c 6)
/-- its groups, those that live, its demands -/
def HG (p : Nat) (I : pI) (N : Nat → Int32) (m : Nat) (L : List Nat) : Prop :=
  I (p + 5) 10 = N 446 ∧ I (p + 5) 9 = nI L.length ∧ L.length ≤ 12 ∧ (∀ i (h : i < L.length), I (p + 14) i = nI L[i] ∧ L[i] < m) ∧
  (∀ g j, g < m → j < 8 → I (p + 6 + j) g = gf N g j) ∧ (∀ a, a < 12 → I (p + 15) a = N (352 + a))
