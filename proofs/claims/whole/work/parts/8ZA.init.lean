/-! both constructors, by the kernel -/
def X00 : pX := (0, fun _ => 0)
def bad (i : Instr) (st : List Value) (G : pG) : Bool := match i with
  | .arraylength => true
  | .baload => true
  | .iaload => match st with
    | _ :: .ref r :: _ => !(tagW G r == 20)
    | _ => false
  | _ => false
theorem opH_X {X : pX} {own : Nat} {i : Instr} {st : List Value} {G : pG} {I : pI} (h : bad i st G = false) : opH X own i st G I = opH X00 own i st G I := by
  cases i <;> first
    | rfl
    | (exfalso; revert h; simp [bad]; done)
    | (unfold opH
       unfold bad at h
       dsimp only at h ⊢
       split
       · next j r s =>
         have : tagW G r = 20 := by simpa using h
         rw [if_pos this, if_pos this]
       · rfl)
def lupT (cal : Nat → List Value → pG → pI → Option pR) (z : Nat) : Nat → Nat → pL → List Value → pG → pI → Option pR
  | 0, _, _, _, _, _ => none
  | n + 1, pc, ls, st, G, I => match decode (pmth z).1 pc with
    | .error _ => none
    | .ok (i, len) => if bad i st G = true then none else match opR (pmth z).2.2.1 i len st with
      | some v => some (v, G, I)
      | none => match opA (pmth z).2.2.2.1 i ls st with
        | some (l, ls', st') => if l = len then lupT cal z n (pc + l) ls' st' G I else none
        | none => match opB i len pc st with
          | some (l, t, st') => if l = len then lupT cal z n t ls st' G I else none
          | none => match opH X00 (pmth z).2.2.2.1 i st G I with
            | some (l, st', G', I') => if l = len then lupT cal z n (pc + l) ls st' G' I' else none
            | none => match opK (pmth z).2.2.2.1 i st G with
              | some (y, as, rest) => if len = 3 then (match cal y as G I with
                | some (v, G', I') => lupT cal z n (pc + 3) ls (v.toList ++ rest) G' I'
                | none => none) else none
              | none => match opC (pmth z).2.2.2.1 i st G I with
                | some (st', I') => if len = 3 then lupT cal z n (pc + 3) ls st' G I' else none
                | none => match opN (pmth z).2.2.2.1 ((pmth z).2.2.2.2.2.name == "<init>") i st G I with
                  | some (l, st', G', I') => if l = len then lupT cal z n (pc + l) ls st' G' I' else none
                  | none => none
def rundT (F : Nat) : Nat → Nat → List Value → pG → pI → Option pR
  | 0 => fun _ _ _ _ => none
  | d + 1 => fun z as G I => lupT (rundT F d) z F 0 (entr z as) [] G I
def gN : pG := [(6, 6, List.replicate 6 .null)]
def w1 : Option pR := rundT 400 8 74 [.ref 0] gN (fun _ _ => 0)
def okG (G : pG) (n : Nat) : Bool := decide (G.length = n)
def chk1 : Bool := match w1 with
  | some (none, G, _) => okG G 102
  | _ => false
theorem chk1_ok : chk1 = true := by decide +kernel
