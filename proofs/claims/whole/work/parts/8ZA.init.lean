/-! both constructors, by the kernel -/
def X00 : pX := (0, fun _ => 0)
def bad (i : Instr) (st : List Value) (G : pG) : Bool := match i with
  | .arraylength => true
  | .baload => true
  | .iaload => match st with
    | _ :: .ref r :: _ => !(tagW G r == 20)
    | _ => false
  | _ => false
theorem opH_X {X : pX} {own : Nat} {i : Instr} {st : List Value} {G : pG} {I : pI} (h : bad i st G = false) : opH X own i st G I = opH X00 own i st G I := by
  cases i <;> first
    | rfl
    | (exfalso; revert h; simp [bad]; done)
    | (unfold opH
       unfold bad at h
       dsimp only at h ⊢
       split
       · next j r s =>
         have : tagW G r = 20 := by simpa using h
         rw [if_pos this, if_pos this]
       · rfl)
def lupT (cal : Nat → List Value → pG → pI → Option pR) (z : Nat) : Nat → Nat → pL → List Value → pG → pI → Option pR
  | 0, _, _, _, _, _ => none
  | n + 1, pc, ls, st, G, I => match decode (pmth z).1 pc with
    | .error _ => none
    | .ok (i, len) => if bad i st G = true then none else match opR (pmth z).2.2.1 i len st with
      | some v => some (v, G, I)
      | none => match opA (pmth z).2.2.2.1 i ls st with
        | some (l, ls', st') => if l = len then lupT cal z n (pc + l) ls' st' G I else none
        | none => match opB i len pc st with
          | some (l, t, st') => if l = len then lupT cal z n t ls st' G I else none
          | none => match opH X00 (pmth z).2.2.2.1 i st G I with
            | some (l, st', G', I') => if l = len then lupT cal z n (pc + l) ls st' G' I' else none
            | none => match opK (pmth z).2.2.2.1 i st G with
              | some (y, as, rest) => if len = 3 then (match cal y as G I with
                | some (v, G', I') => lupT cal z n (pc + 3) ls (v.toList ++ rest) G' I'
                | none => none) else none
              | none => match opC (pmth z).2.2.2.1 i st G I with
                | some (st', I') => if len = 3 then lupT cal z n (pc + 3) ls st' G I' else none
                | none => match opN (pmth z).2.2.2.1 ((pmth z).2.2.2.2.2.name == "<init>") i st G I with
                  | some (l, st', G', I') => if l = len then lupT cal z n (pc + l) ls st' G' I' else none
                  | none => none
def rundT (F : Nat) : Nat → Nat → List Value → pG → pI → Option pR
  | 0 => fun _ _ _ _ => none
  | d + 1 => fun z as G I => lupT (rundT F d) z F 0 (entr z as) [] G I
def gN : pG := [(6, 6, List.replicate 6 .null)]
def w1 : Option pR := rundT 400 15 74 [.ref 0] gN (zero2 (fun _ _ => 0) 0)
def chk1 : Bool := match w1 with
  | some (none, G, _) => decide (G.length = 102)
  | _ => false
theorem chk1_ok : chk1 = true := by decide +kernel
/-- a method's way to a place, no calls on it: locals, stack, heap there -/
def lupS (z stop : Nat) : Nat → Nat → pL → List Value → pG → pI → Option (pL × List Value × pG × pI)
  | 0, _, _, _, _, _ => none
  | n + 1, pc, ls, st, G, I => if pc = stop then some (ls, st, G, I) else match decode (pmth z).1 pc with
    | .error _ => none
    | .ok (i, len) => if bad i st G = true then none else match opR (pmth z).2.2.1 i len st with
      | some _ => none
      | none => match opA (pmth z).2.2.2.1 i ls st with
        | some (l, ls', st') => if l = len then lupS z stop n (pc + l) ls' st' G I else none
        | none => match opB i len pc st with
          | some (l, t, st') => if l = len then lupS z stop n t ls st' G I else none
          | none => match opH X00 (pmth z).2.2.2.1 i st G I with
            | some (l, st', G', I') => if l = len then lupS z stop n (pc + l) ls st' G' I' else none
            | none => match opK (pmth z).2.2.2.1 i st G with
              | some _ => none
              | none => match opC (pmth z).2.2.2.1 i st G I with
                | some (st', I') => if len = 3 then lupS z stop n (pc + 3) ls st' G I' else none
                | none => match opN (pmth z).2.2.2.1 ((pmth z).2.2.2.2.2.name == "<init>") i st G I with
                  | some (l, st', G', I') => if l = len then lupS z stop n (pc + l) ls st' G' I' else none
                  | none => none
theorem S_At {X : pX} {d z stop : Nat} {Q : Option Value → pG → pI → Prop} : ∀ (n pc : Nat) (ls : pL) (st : List Value) (G : pG) (I : pI) (s : pL × List Value × pG × pI), lupS z stop n pc ls st G I = some s → At X d z stop s.1 s.2.1 s.2.2.1 s.2.2.2 Q → At X d z pc ls st G I Q := by
  intro n
  induction n with
  | zero => intro pc ls st G I s h; simp [lupS] at h
  | succ n ih =>
    intro pc ls st G I s h hq
    simp only [lupS] at h
    split at h
    · next e =>
      subst e
      injection h with h
      subst h
      exact hq
    · split at h
      · cases h
      · next i len hd =>
        split at h
        · cases h
        · next hb =>
          rw [Bool.not_eq_true] at hb
          have hX := opH_X (X := X) (own := (pmth z).2.2.2.1) (I := I) hb
          split at h
          · cases h
          · next hR =>
            split at h
            · next l ls1 st1 hA =>
              split at h
              · next hl => subst hl; exact (At_step fun F n => by simp only [lup, hd, hR, hA, if_true]).mpr (ih _ _ _ _ _ _ h hq)
              · cases h
            · next hA =>
              split at h
              · next l t st1 hB =>
                split at h
                · next hl => subst hl; exact (At_step fun F n => by simp only [lup, hd, hR, hA, hB, if_true]).mpr (ih _ _ _ _ _ _ h hq)
                · cases h
              · next hB =>
                split at h
                · next l st1 G1 I1 hH =>
                  rw [← hX] at hH
                  split at h
                  · next hl => subst hl; exact (At_step fun F n => by simp only [lup, hd, hR, hA, hB, hH, if_true]).mpr (ih _ _ _ _ _ _ h hq)
                  · cases h
                · next hH =>
                  rw [← hX] at hH
                  split at h
                  · cases h
                  · next hK =>
                    split at h
                    · next st1 I1 hC =>
                      split at h
                      · next hl => subst hl; exact (At_step fun F n => by simp only [lup, hd, hR, hA, hB, hH, hK, hC, if_true]).mpr (ih _ _ _ _ _ _ h hq)
                      · cases h
                    · next hC =>
                      split at h
                      · next l st1 G1 I1 hN =>
                        split at h
                        · next hl => subst hl; exact (At_step fun F n => by simp only [lup, hd, hR, hA, hB, hH, hK, hC, hN, if_true]).mpr (ih _ _ _ _ _ _ h hq)
                        · cases h
                      · cases h
theorem T_mono {X : pX} {c1 c2 : Nat → List Value → pG → pI → Option pR} (hc : ∀ y as G I r, c1 y as G I = some r → c2 y as G I = some r) (z : Nat) :
    ∀ (n : Nat) (pc : Nat) (ls : pL) (st : List Value) (G : pG) (I : pI) (r : pR), lupT c1 z n pc ls st G I = some r → lup X c2 z n pc ls st G I = some r := by
  intro n
  induction n with
  | zero => intro pc ls st G I r h; simp [lupT] at h
  | succ n ih =>
    intro pc ls st G I r h
    simp only [lupT] at h
    simp only [lup]
    split at h
    · cases h
    · next i len hd =>
      simp only [hd]
      split at h
      · cases h
      · next hb =>
        rw [Bool.not_eq_true] at hb
        have hX := opH_X (X := X) (own := (pmth z).2.2.2.1) (I := I) hb
        split at h
        · next v hv => simp only [hv]; exact h
        · next hv =>
          simp only [hv]
          split at h
          · next l ls' st' hA =>
            simp only [hA]
            split at h
            · next hl => subst hl; simp only [if_true]; exact ih _ _ _ _ _ _ h
            · cases h
          · next hA =>
            simp only [hA]
            split at h
            · next l t st' hB =>
              simp only [hB]
              split at h
              · next hl => subst hl; simp only [if_true]; exact ih _ _ _ _ _ _ h
              · cases h
            · next hB =>
              simp only [hB]
              rw [hX]
              split at h
              · next l st' G' I' hH =>
                simp only [hH]
                split at h
                · next hl => subst hl; simp only [if_true]; exact ih _ _ _ _ _ _ h
                · cases h
              · next hH =>
                simp only [hH]
                split at h
                · next y as rest hK =>
                  simp only [hK]
                  split at h
                  · next hl =>
                    simp only [hl, if_true]
                    split at h
                    · next v G' I' hcal =>
                      rw [hc _ _ _ _ _ hcal]
                      exact ih _ _ _ _ _ _ h
                    · cases h
                  · cases h
                · next hK =>
                  simp only [hK]
                  split at h
                  · next st' I' hC =>
                    simp only [hC]
                    split at h
                    · next hl => subst hl; simp only [if_true]; exact ih _ _ _ _ _ _ h
                    · cases h
                  · next hC =>
                    simp only [hC]
                    split at h
                    · next l st' G' I' hN =>
                      simp only [hN]
                      split at h
                      · next hl => subst hl; simp only [if_true]; exact ih _ _ _ _ _ _ h
                      · cases h
                    · cases h
theorem RT_mono {X : pX} (F : Nat) : ∀ (d z : Nat) (as : List Value) (G : pG) (I : pI) (r : pR), rundT F d z as G I = some r → rund X F d z as G I = some r := by
  intro d
  induction d with
  | zero => intro z as G I r h; simp [rundT] at h
  | succ d ih =>
    intro z as G I r h
    exact T_mono ih z _ _ _ _ _ _ _ h
def w2 : Option (pL × List Value × pG × pI) := match w1 with
  | some (none, G, I) => lupS 124 334 300 0 [some (.ref 102)] [] (G ++ [(7, 17, List.replicate 17 .null)]) (zero2 I G.length)
  | _ => none
/-- what is checked of the numbers there -/
def vH (k : Nat) : Int32 := if k = 0 then nI 8 else if k = 1 then nI 2 else if k = 5 then nI 3 else nI 0
def chkH (I : pI) : Bool := (List.range 6).all (fun k => decide (I 45 k = vH k)) && (List.range 4).all (fun c => (List.range 8).all (fun k => decide (I (46 + 1 + c) k = if k = 2 then nI 4 else if k = 6 then -1 else nI 0)))
def chkJ (I : pI) : Bool := decide (I 51 10 = nI 0) && decide (I 51 9 = nI 0) && (List.range 12).all (fun a => decide (I 61 a = nI 0)) && decide (I 62 4 = nI 0) && decide (I 62 5 = nI 0) && decide (I 103 448 = nI 0) && decide (I 103 449 = nI 3)
def chkS (I : pI) : Bool := decide (I 0 5 = nI 0) && decide (I 102 2 = nI 0) && decide (I 102 4 = nI 0) && decide (I 102 6 = nI 0) && decide (I 89 0 = nI 0)
def chkW (I : pI) : Bool := (List.range 6).all (fun w => decide (I 108 w = nI (nN w)) && (List.range 6).all (fun k => decide (I 107 (6 * w + k) = if k < lw w then nI (chr w k) else nI 0)))
def chkT (I : pI) : Bool := (List.range 4).all (fun s => decide (I (94 + 2 * s) 0 = -1) && decide (I (94 + 2 * s) 1 = nI 0) && decide (I 110 s = -1) && decide (I 111 s = nI 0) && (List.range 40).all (fun j => decide (I (95 + 2 * s) j = nI 0) && decide (I 112 (40 * s + j) = nI 0)))
def chkA (I : pI) : Bool := chkH I && chkJ I && chkS I && chkW I && chkT I
def chk2 : Bool := match w2 with
  | some (ls, st, G, I) => decide (ls = [some (.ref 102)]) && decide (st = []) && decide (G = G0) && chkA I
  | _ => false
theorem chk2_ok : chk2 = true := by decide +kernel
