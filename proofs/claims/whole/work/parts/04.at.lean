/-! What a run of the pure machine comes to: At (from inside a method), Call (a whole method); each instruction a row, read in both directions. -/
theorem lup_mono {X : pX} {c1 c2 : Nat → List Value → pG → pI → Option pR} (hc : ∀ y as G I r, c1 y as G I = some r → c2 y as G I = some r) (z : Nat) :
    ∀ (n k : Nat) (pc : Nat) (ls : pL) (st : List Value) (G : pG) (I : pI) (r : pR), lup X c1 z n pc ls st G I = some r → lup X c2 z (n + k) pc ls st G I = some r := by
  intro n
  induction n with
  | zero => intro k pc ls st G I r h; simp [lup] at h
  | succ n ih =>
    intro k pc ls st G I r h
    rw [show n + 1 + k = (n + k) + 1 by omega]
    simp only [lup] at h ⊢
    split at h
    · cases h
    · next i len hd =>
      try simp only [hd]
      split at h
      · next v hv => (try simp only [hv]); exact h
      · next hv =>
        try simp only [hv]
        split at h
        · next l ls' st' hA =>
          try simp only [hA]
          split at h
          · next hl => subst hl; (try simp only [if_true]); exact ih k _ _ _ _ _ _ h
          · cases h
        · next hA =>
          try simp only [hA]
          split at h
          · next l t st' hB =>
            try simp only [hB]
            split at h
            · next hl => subst hl; (try simp only [if_true]); exact ih k _ _ _ _ _ _ h
            · cases h
          · next hB =>
            try simp only [hB]
            split at h
            · next l st' G' I' hH =>
              try simp only [hH]
              split at h
              · next hl => subst hl; (try simp only [if_true]); exact ih k _ _ _ _ _ _ h
              · cases h
            · next hH =>
              try simp only [hH]
              split at h
              · next y as rest hK =>
                try simp only [hK]
                split at h
                · next hl =>
                  (try simp only [hl, if_true])
                  split at h
                  · next v G' I' hcal =>
                    rw [hc _ _ _ _ _ hcal]
                    exact ih k _ _ _ _ _ _ h
                  · cases h
                · cases h
              · next hK =>
                try simp only [hK]
                split at h
                · next st' I' hC =>
                  try simp only [hC]
                  split at h
                  · next hl => subst hl; (try simp only [if_true]); exact ih k _ _ _ _ _ _ h
                  · cases h
                · next hC =>
                  try simp only [hC]
                  split at h
                  · next l st' G' I' hN =>
                    try simp only [hN]
                    split at h
                    · next hl => subst hl; (try simp only [if_true]); exact ih k _ _ _ _ _ _ h
                    · cases h
                  · cases h
theorem rund_mono {X : pX} (F k : Nat) : ∀ (d z : Nat) (as : List Value) (G : pG) (I : pI) (r : pR), rund X F d z as G I = some r → rund X (F + k) d z as G I = some r := by
  intro d
  induction d with
  | zero => intro z as G I r h; simp [rund] at h
  | succ d ih =>
    intro z as G I r h
    simp only [rund] at h ⊢
    exact lup_mono (fun y as G I r h => ih y as G I r h) z F k _ _ _ _ _ _ h
def At (X : pX) (d z pc : Nat) (ls : pL) (st : List Value) (G : pG) (I : pI) (Q : Option Value → pG → pI → Prop) : Prop :=
  ∃ (F n : Nat) (r : pR), lup X (rund X F d) z n pc ls st G I = some r ∧ Q r.1 r.2.1 r.2.2
def Call (X : pX) (d z : Nat) (as : List Value) (G : pG) (I : pI) (Q : Option Value → pG → pI → Prop) : Prop :=
  ∃ (F : Nat) (r : pR), rund X F d z as G I = some r ∧ Q r.1 r.2.1 r.2.2
section AT
variable {X : pX} {d z pc : Nat} {ls : pL} {st : List Value} {G : pG} {I : pI} {Q : Option Value → pG → pI → Prop}
theorem At.mono {Q' : Option Value → pG → pI → Prop} (h : At X d z pc ls st G I Q) (hq : ∀ v G I, Q v G I → Q' v G I) : At X d z pc ls st G I Q' := by
  obtain ⟨F, n, r, h1, h2⟩ := h
  exact ⟨F, n, r, h1, hq _ _ _ h2⟩
theorem Call.mono {as : List Value} {Q' : Option Value → pG → pI → Prop} (h : Call X d z as G I Q) (hq : ∀ v G I, Q v G I → Q' v G I) : Call X d z as G I Q' := by
  obtain ⟨F, r, h1, h2⟩ := h
  exact ⟨F, r, h1, hq _ _ _ h2⟩
theorem Call_At {as : List Value} : Call X (d + 1) z as G I Q ↔ At X d z 0 (entr z as) [] G I Q := by
  constructor
  · rintro ⟨F, r, h1, h2⟩
    exact ⟨F, F, r, h1, h2⟩
  · rintro ⟨F, n, r, h1, h2⟩
    refine ⟨F + n, r, ?_, h2⟩
    show lup X (rund X (F + n) d) z (F + n) 0 (entr z as) [] G I = some r
    rw [Nat.add_comm F n]
    exact lup_mono (fun y as G I r h => by rw [Nat.add_comm]; exact rund_mono F n d y as G I r h) z n F _ _ _ _ _ _ h1
/-- deeper calls do no harm -/
theorem rund_succ {F : Nat} : ∀ (d z : Nat) (as : List Value) (G : pG) (I : pI) (r : pR), rund X F d z as G I = some r → rund X F (d + 1) z as G I = some r := by
  intro d
  induction d with
  | zero => intro z as G I r h; simp [rund] at h
  | succ d ih =>
    intro z as G I r h
    have h' : lup X (rund X F d) z F 0 (entr z as) [] G I = some r := h
    show lup X (rund X F (d + 1)) z F 0 (entr z as) [] G I = some r
    exact lup_mono (fun y as G I r h => ih y as G I r h) z F 0 _ _ _ _ _ _ h'
theorem Call.deep {as : List Value} (h : Call X d z as G I Q) : Call X (d + 1) z as G I Q := by
  obtain ⟨F, r, h1, h2⟩ := h
  exact ⟨F, r, rund_succ d z as G I r h1, h2⟩
theorem At_step {pc' : Nat} {ls' : pL} {st' : List Value} {G' : pG} {I' : pI} (h : ∀ F n, lup X (rund X F d) z (n + 1) pc ls st G I = lup X (rund X F d) z n pc' ls' st' G' I') : At X d z pc ls st G I Q ↔ At X d z pc' ls' st' G' I' Q := by
  constructor
  · rintro ⟨F, n, r, h1, h2⟩
    cases n with
    | zero => simp [lup] at h1
    | succ n => rw [h] at h1; exact ⟨F, n, r, h1, h2⟩
  · rintro ⟨F, n, r, h1, h2⟩
    exact ⟨F, n + 1, r, by rw [h]; exact h1, h2⟩
variable {cc : ByteArray} {ml own na len : Nat} {ret : Option FieldType} {nm : MethodName} {i : Instr}
theorem At_A {ls' : pL} {st' : List Value} (hm : pmth z = (cc, ml, ret, own, na, nm)) (hd : decode cc pc = .ok (i, len)) (hR : opR ret i len st = none) (hA : opA own i ls st = some (len, ls', st')) :
    At X d z pc ls st G I Q ↔ At X d z (pc + len) ls' st' G I Q :=
  At_step fun F n => by simp only [lup, hm, hd, hR, hA, if_true]
theorem At_B {t : Nat} {st' : List Value} (hm : pmth z = (cc, ml, ret, own, na, nm)) (hd : decode cc pc = .ok (i, len)) (hR : opR ret i len st = none) (hA : opA own i ls st = none) (hB : opB i len pc st = some (len, t, st')) :
    At X d z pc ls st G I Q ↔ At X d z t ls st' G I Q :=
  At_step fun F n => by simp only [lup, hm, hd, hR, hA, hB, if_true]
theorem At_ite {c : Prop} (hc : Decidable c) {t e : Nat} : At X d z (if c then t else e) ls st G I Q ↔ (if c then At X d z t ls st G I Q else At X d z e ls st G I Q) := by
  split <;> exact Iff.rfl
theorem At_Bi {c : Prop} {hc : Decidable c} {t e : Nat} {st' : List Value} (hm : pmth z = (cc, ml, ret, own, na, nm)) (hd : decode cc pc = .ok (i, len)) (hR : opR ret i len st = none) (hA : opA own i ls st = none) (hB : opB i len pc st = some (len, if c then t else e, st')) :
    At X d z pc ls st G I Q ↔ (if c then At X d z t ls st' G I Q else At X d z e ls st' G I Q) :=
  (At_B hm hd hR hA hB).trans (At_ite hc)
theorem At_H {st' : List Value} {G' : pG} {I' : pI} (hm : pmth z = (cc, ml, ret, own, na, nm)) (hd : decode cc pc = .ok (i, len)) (hR : opR ret i len st = none) (hA : opA own i ls st = none) (hB : opB i len pc st = none) (hH : opH X own i st G I = some (len, st', G', I')) :
    At X d z pc ls st G I Q ↔ At X d z (pc + len) ls st' G' I' Q :=
  At_step fun F n => by simp only [lup, hm, hd, hR, hA, hB, hH, if_true]
theorem At_C {st' : List Value} {I' : pI} (hm : pmth z = (cc, ml, ret, own, na, nm)) (hd : decode cc pc = .ok (i, 3)) (hR : opR ret i 3 st = none) (hA : opA own i ls st = none) (hB : opB i 3 pc st = none) (hH : opH X own i st G I = none) (hK : opK own i st G = none) (hC : opC own i st G I = some (st', I')) :
    At X d z pc ls st G I Q ↔ At X d z (pc + 3) ls st' G I' Q :=
  At_step fun F n => by simp only [lup, hm, hd, hR, hA, hB, hH, hK, hC, if_true]
theorem At_N {st' : List Value} {G' : pG} {I' : pI} (hm : pmth z = (cc, ml, ret, own, na, nm)) (hd : decode cc pc = .ok (i, len)) (hR : opR ret i len st = none) (hA : opA own i ls st = none) (hB : opB i len pc st = none) (hH : opH X own i st G I = none) (hK : opK own i st G = none) (hC : opC own i st G I = none) (hN : opN own (nm.name == "<init>") i st G I = some (len, st', G', I')) :
    At X d z pc ls st G I Q ↔ At X d z (pc + len) ls st' G' I' Q :=
  At_step fun F n => by simp only [lup, hm, hd, hR, hA, hB, hH, hK, hC, hN, if_true]
theorem At_R {v : Option Value} (hm : pmth z = (cc, ml, ret, own, na, nm)) (hd : decode cc pc = .ok (i, len)) (hR : opR ret i len st = some v) : At X d z pc ls st G I Q ↔ Q v G I := by
  constructor
  · rintro ⟨F, n, r, h1, h2⟩
    cases n with
    | zero => simp [lup] at h1
    | succ n =>
      simp only [lup, hm, hd, hR] at h1
      cases h1
      exact h2
  · intro h
    exact ⟨0, 1, (v, G, I), by simp only [lup, hm, hd, hR], h⟩
theorem At_K {y : Nat} {as rest : List Value} (hm : pmth z = (cc, ml, ret, own, na, nm)) (hd : decode cc pc = .ok (i, 3)) (hR : opR ret i 3 st = none) (hA : opA own i ls st = none) (hB : opB i 3 pc st = none) (hH : opH X own i st G I = none) (hK : opK own i st G = some (y, as, rest)) :
    At X d z pc ls st G I Q ↔ Call X d y as G I (fun v G' I' => At X d z (pc + 3) ls (v.toList ++ rest) G' I' Q) := by
  constructor
  · rintro ⟨F, n, r, h1, h2⟩
    cases n with
    | zero => simp [lup] at h1
    | succ n =>
      simp only [lup, hm, hd, hR, hA, hB, hH, hK, if_true] at h1
      split at h1
      · next v G' I' hcal => exact ⟨F, (v, G', I'), hcal, F, n, r, h1, h2⟩
      · cases h1
  · rintro ⟨F1, ⟨v, G', I'⟩, h1, F2, n, r, h2, h3⟩
    refine ⟨F1 + F2, n + 1, r, ?_, h3⟩
    simp only [lup, hm, hd, hR, hA, hB, hH, hK, if_true]
    rw [rund_mono F1 F2 d y as G I _ h1]
    have := lup_mono (c2 := rund X (F1 + F2) d) (fun y as G I r h => by rw [Nat.add_comm F1 F2]; exact rund_mono F2 F1 d y as G I r h) z n 0 _ _ _ _ _ _ h2
    exact this
end AT
