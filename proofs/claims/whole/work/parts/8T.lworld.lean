/-! the class and the model side by side -/
theorem HR.cong {o p m : Nat} {I : pI} {N N' : Nat → Int32} (h : HR o p I N m (live N m)) (e : ∀ j, j < 452 → N' j = N j) : HR o p I N' m (live N' m) := by
  have gfe : ∀ g j, g < 40 → j < 8 → gf N' g j = gf N g j := fun g j h1 h2 => e _ (by omega)
  have cfe : ∀ c j, c < 4 → j < 8 → cf N' c j = cf N c j := fun c j h1 h2 => e _ (by omega)
  have m40 := h.m40
  have el : live N' m = live N m := live_eq (fun g hg => by rw [gfe g 4 (by omega) (by omega)])
  rw [el]
  obtain ⟨h1, h2, h3, h4, h5, h6, h7, h8, e1, q, j1, j2, j3, j4, j5, j6⟩ := h
  refine ⟨h1, ⟨by rw [e _ (by omega)]; exact h2.1, h2.2⟩, fun k hk => ?_, fun c k hc hk => ?_, h5, h6, fun g j hg hj => ?_, fun a ha => ?_, e1, q, j1, j2, ?_, j4, j5, fun i j hi hj => ?_⟩
  · rw [h3 k hk, e (om k) (by unfold om; split; omega; split; omega; split; omega; split; omega; split <;> omega)]
  · rw [h4 c k hc hk, cfe c _ hc (by unfold jm; split; omega; split <;> omega)]
  · rw [h7 g j hg hj, gfe g j (by omega) hj]
  · rw [h8 a ha, e _ (by omega)]
  · rw [e _ (by omega)]; exact j3
  · rw [j6 i j hi hj, e _ (by omega)]
theorem AllOk.cong {f k m T : Nat} {N N' : Nat → Int32} (h : AllOk N f k m T) (e : ∀ j, j < 452 → N' j = N j) : AllOk N' f k m T := by
  obtain ⟨h1, h2, h3⟩ := h
  have m40 := h1.1.2.2.2
  refine ⟨h1.ext (fun a ha => e a (by omega)) (e _ (by omega)) (e _ (by omega)) (e _ (by omega)) (e _ (by omega)), h2.of (e _ (by omega)) (e _ (by omega)), fun g hg => ?_⟩
  obtain ⟨c, k1, k2⟩ := h3 g hg
  exact ⟨c, k1, (e (32 + 8 * g + 3) (by omega)).trans k2⟩
/-- the image: none, or a hall and its numbers -/
def ImgOk (n : Nat) (I : pI) : Prop := I 0 5 = I 102 2 ∧ (I 0 5 = nI 0 ∨ (I 0 5 = nI 1 ∧ ∃ f k m T, HR 67 68 I (I 104) m (live (I 104) m) ∧ AllOk (I 104) f k m T ∧ T ≤ 3000 * n))
def TapOk (I : pI) : Prop := ∃ L, L ≤ 60 ∧ I 89 0 = nI L ∧ I 102 6 = nI L ∧ ByOk I L
def Side (n : Nat) (I : pI) : Prop := ImgOk n I ∧ TapOk I ∧ (∀ s, s < 4 → ShOk I s) ∧ I 102 4 = nI 0 ∧ WanEq I ∧ WdsOk I
def Hal (n : Nat) (I : pI) (N : Nat → Int32) : Prop := ∃ f k m T, HR 45 46 I N m (live N m) ∧ AllOk N f k m T ∧ T ≤ 3000 * n
/-- the class and the model after n calls -/
def Wd (n : Nat) (I : pI) : Prop := Hal n I (I 103) ∧ Side n I
def FrS (I I' : pI) : Prop := ∀ a, (a = 0 ∨ 66 < a) → a ≠ 91 → a ≠ 92 → a ≠ 103 → a ≠ 105 → a ≠ 109 → I' a = I a
theorem ImgOk.fr {n n' : Nat} {I I' : pI} (h : ImgOk n I) (hF : ∀ a, a = 0 ∨ (66 < a ∧ a ≤ 88) ∨ a = 104 → I' a = I a) (h2 : I' 102 2 = I 102 2) (hn : n ≤ n') : ImgOk n' I' := by
  obtain ⟨i1, i2⟩ := h
  have e4 : I' 104 = I 104 := hF 104 (by omega)
  unfold ImgOk
  rw [hF 0 (by omega), h2, e4]
  refine ⟨i1, i2.imp id (fun i3 => ⟨i3.1, ?_⟩)⟩
  obtain ⟨f, k, m, T, a1, a2, a3⟩ := i3.2
  exact ⟨f, k, m, T, a1.ext (hF _ (by omega)) (fun a b1 b2 => hF a (by omega)), a2, by omega⟩
theorem ShOk.fr {I I' : pI} {s : Nat} (h : ShOk I s) (hs : s < 4) (hF : ∀ a, a = 94 + 2 * s ∨ a = 95 + 2 * s → I' a = I a) (h0 : I' 110 s = I 110 s) (h1 : I' 111 s = I 111 s) (h2 : ∀ j, j < 40 → I' 112 (40 * s + j) = I 112 (40 * s + j)) : ShOk I' s := by
  obtain ⟨z, z1, z2, z3, z4, z5, z6⟩ := h
  refine ⟨z, z1, ?_, ?_, ?_, ?_, fun j hj => ?_⟩
  · rw [hF _ (by omega), h0]; exact z2
  · rw [hF _ (by omega)]; exact z3
  · rw [h1]; exact z4
  · rw [h0]; exact z5
  · rw [hF _ (by omega), h2 j hj]; exact z6 j hj
theorem TapOk.fr {I I' : pI} (h : TapOk I) (h0 : I' 89 0 = I 89 0) (h6 : I' 102 6 = I 102 6) (h9 : I' 90 = I 90) (h10 : I' 106 = I 106) : TapOk I' := by
  obtain ⟨L, l1, l2, l3, l4⟩ := h
  exact ⟨L, l1, by rw [h0]; exact l2, by rw [h6]; exact l3, byok_c l4 h9 h10⟩
theorem WanEq.fr {I I' : pI} (h : WanEq I) (e : I' 108 = I 108) : WanEq I' := fun w hw => by rw [e]; exact h w hw
theorem WdsOk.fr {I I' : pI} (h : WdsOk I) (e : I' 107 = I 107) : WdsOk I' := fun w k hw hk => by rw [e]; exact h w k hw hk
theorem Side.fr {n n' : Nat} {I I' : pI} (h : Side n I) (hF : FrS I I') (hn : n ≤ n') : Side n' I' := by
  obtain ⟨i, t, s, z, w1, w2⟩ := h
  have e : ∀ a, (a = 0 ∨ 66 < a) ∧ a ≠ 91 ∧ a ≠ 92 ∧ a ≠ 103 ∧ a ≠ 105 ∧ a ≠ 109 → I' a = I a := fun a ⟨h1, h2, h3, h4, h5, h6⟩ => hF a h1 h2 h3 h4 h5 h6
  refine ⟨i.fr (fun a ha => e a (by omega)) (by rw [e 102 (by omega)]) hn, t.fr (by rw [e 89 (by omega)]) (by rw [e 102 (by omega)]) (e 90 (by omega)) (e 106 (by omega)), fun q hq => (s q hq).fr hq (fun a ha => e a (by omega)) (by rw [e 110 (by omega)]) (by rw [e 111 (by omega)]) (fun j _ => by rw [e 112 (by omega)]), by rw [e 102 (by omega)]; exact z, w1.fr (e 108 (by omega)), w2.fr (e 107 (by omega))⟩
theorem Hal.fr {n n' : Nat} {I I' : pI} {N : Nat → Int32} (h : Hal n I N) (hF : ∀ a, 45 ≤ a → a ≤ 66 → I' a = I a) (hn : n ≤ n') : Hal n' I' N := by
  obtain ⟨f, k, m, T, a1, a2, a3⟩ := h
  exact ⟨f, k, m, T, a1.ext (hF _ (by omega) (by omega)) (fun a b1 b2 => hF a (by omega) (by omega)), a2, by omega⟩
theorem Wd.mono {n n' : Nat} {I : pI} (h : Wd n I) (hn : n ≤ n') : Wd n' I := ⟨h.1.fr (fun _ _ _ => rfl) hn, h.2.fr (fun _ _ _ _ _ _ _ => rfl) hn⟩
theorem FrC.s {I I' : pI} (h : FrC I I') : FrS I I' := fun a h1 _ _ _ _ _ => h a h1
/-- the class answers v, and then the model too -/
def Duo (X : pX) (zL zM : Nat) (args : List Value) (n : Nat) (I : pI) : Prop := ∀ Q : Option Value → pG → pI → Prop,
  (∀ v I', (∀ Q2 : Option Value → pG → pI → Prop, (∀ I'', Wd (n + 1) I'' → Q2 (some (.int v)) G0 I'') → Call X 15 zM (.ref 102 :: args) G0 I' Q2) → Q (some (.int v)) G0 I') → Call X 15 zL (.ref 0 :: args) G0 I Q
theorem duo_read {X : pX} {zL zM n : Nat} {args : List Value} {I : pI} {v : Int32} (hW : Wd n I) (hL : ∀ Q, Call X 15 zL (.ref 0 :: args) G0 I Q ↔ Q (some (.int v)) G0 I) (hM : ∀ Q, Call X 15 zM (.ref 102 :: args) G0 (row I 103 (I 103)) Q ↔ Q (some (.int v)) G0 (row I 103 (I 103))) : Duo X zL zM args n I := by
  intro Q h
  rw [hL]
  refine h v I (fun Q2 h2 => ?_)
  have := (hM Q2).mpr
  rw [row_id] at this
  exact this (h2 I (hW.mono (by omega)))
theorem duo_chg {X : pX} {zL zM n f k m' T' : Nat} {args : List Value} {I : pI} {v : Int32} {N' : Nat → Int32} (hW : Wd n I) (al : AllOk N' f k m' T') (hT : T' ≤ 3000 * (n + 1))
    (hL : ∀ Q, (∀ I1, HR 45 46 I1 N' m' (live N' m') → FrC I I1 → Q (some (.int v)) G0 I1) → Call X 15 zL (.ref 0 :: args) G0 I Q)
    (hM : ∀ I1 Q, I1 102 4 = nI 0 → (∀ J, Sm 0 I1 J → Q (some (.int v)) G0 (row J 103 N')) → Call X 15 zM (.ref 102 :: args) G0 (row I1 103 (I 103)) Q) : Duo X zL zM args n I := by
  intro Q h
  refine hL Q (fun I1 hr hF => h v I1 (fun Q2 h2 => ?_))
  have e3 : I1 103 = I 103 := hF 103 (by omega)
  have := hM I1 Q2 (by rw [hF 102 (by omega)]; exact hW.2.2.2.2.1) (fun J hJ => h2 _ ⟨?_, ?_⟩)
  · rw [← e3, row_id] at this
    exact this
  · rw [row_s]
    exact ⟨f, k, m', T', hr.ext (by rw [row_n (by decide), hJ.1 _ (by decide)]) (fun a b1 b2 => by rw [row_n (by omega), hJ.1 _ (by omega)]), al, hT⟩
  · exact hW.2.fr (fun a a1 a2 a3 a4 a5 a6 => by rw [row_n a4, hJ.1 a a5, hF a a1]) (by omega)
