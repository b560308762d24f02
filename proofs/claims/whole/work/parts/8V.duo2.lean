/-! calls that tell, load; calls of sheets -/
theorem wd_sh {n : Nat} {I I' : pI} (hW : Wd n I) (hF : ∀ a, (a = 0 ∨ 44 < a) → (a < 94 ∨ 101 < a) → a ≠ 105 → a ≠ 110 → a ≠ 111 → a ≠ 112 → I' a = I a) (hs : ∀ s, s < 4 → ShOk I' s) : Wd (n + 1) I' := by
  obtain ⟨h, i, t, -, z, w1, w2⟩ := hW
  have e : ∀ a, ((a = 0 ∨ 44 < a) ∧ (a < 94 ∨ 101 < a)) ∧ a ≠ 105 ∧ a ≠ 110 ∧ a ≠ 111 ∧ a ≠ 112 → I' a = I a := fun a ⟨⟨h1, h2⟩, h3, h4, h5, h6⟩ => hF a h1 h2 h3 h4 h5 h6
  refine ⟨?_, i.fr (fun a ha => e a (by omega)) (by rw [e 102 (by omega)]) (by omega), t.fr (by rw [e 89 (by omega)]) (by rw [e 102 (by omega)]) (e 90 (by omega)) (e 106 (by omega)), hs, by rw [e 102 (by omega)]; exact z, w1.fr (e 108 (by omega)), w2.fr (e 107 (by omega))⟩
  rw [e 103 (by omega)]
  exact h.fr (fun a h1 h2 => e a (by omega)) (by omega)
theorem wd_fr {n : Nat} {I I' : pI} (hW : Wd n I) (hF : ∀ a, (a = 0 ∨ 44 < a) → a ≠ 105 → I' a = I a) : Wd (n + 1) I' :=
  wd_sh hW (fun a h1 _ h3 _ _ _ => hF a h1 h3) (fun s hs => (hW.2.2.2.1 s hs).fr hs (fun a ha => hF a (by omega) (by omega)) (by rw [hF 110 (by omega) (by omega)]) (by rw [hF 111 (by omega) (by omega)]) (fun j _ => by rw [hF 112 (by omega) (by omega)]))
theorem sh_z {I : pI} (h : ∀ s, s < 4 → ShOk I s) (x : Int32) : ∃ z, z ≤ 40 ∧ (inL x 0 3 = true → (I (94 + 2 * tN x) 1 = nI z ∧ I (94 + 2 * tN x) 0 = I 110 (tN x) ∧ (∀ i, i < 40 → RelB (I (95 + 2 * tN x) i) (I 112 (40 * tN x + i)))) ∧ I 111 (tN x) = nI z) := by
  by_cases c : inL x 0 3 = true
  · obtain ⟨-, -, x2⟩ := inL_t c
    obtain ⟨z, z1, z2, z3, z4, -, z6⟩ := h (tN x) (by omega)
    exact ⟨z, z1, fun _ => ⟨⟨z3, z2, z6⟩, z4⟩⟩
  · exact ⟨0, by omega, fun e => absurd e c⟩
theorem tel_c {I I' : pI} {N : Nat → Int32} {m k z : Nat} {x y w : Int32} (h0 : I' 110 = I 110) (h2 : I' 112 = I 112) : telV I' N m k z x y w = telV I N m k z x y w := by
  have e : ∀ N m k c s z, unM I' N m k c s z = unM I N m k c s z := fun N m k c s z => by unfold unM; rw [h2]
  have e2 : ∀ N m k c s z j, lbF I' N m k c s z j = lbF I N m k c s z j := fun N m k c s z j => by
    funext v b
    unfold lbF
    rw [e]
  unfold telV lbM
  rw [h0, e, e2, e2]
theorem lod_c {I I' : pI} {N : Nat → Int32} {f k z : Nat} {x y w n : Int32} (h0 : I' 110 = I 110) (h2 : I' 112 = I 112) : lodR I' N f k z x y w n = lodR I N f k z x y w n := by
  unfold lodR
  rw [h0, h2]
theorem put_c {I I' : pI} {z : Nat} {x i : Int32} (h0 : I' 110 = I 110) : putV I' z x i = putV I z x i := by
  unfold putV
  rw [h0]
section
variable {X : pX} {n : Nat} {I : pI} {x y w pp a b r s z i v : Int32}
theorem w_tells (hW : Wd n I) : Duo X 102 218 [.int x, .int y, .int w] n I := by
  obtain ⟨f, k, m, T, hr, al, hT⟩ := hW.1
  obtain ⟨⟨hf, hf1, hf4⟩, ⟨hk, hk1, hk4⟩, hm, hm4⟩ := al.1.1
  obtain ⟨z, z4, hz⟩ := sh_z hW.2.2.2.1 x
  intro Q h
  refine l_tells hr al (fun c => (hz c).1) z4 (fun I' hF => h _ I' (fun Q2 h2 => ?_))
  have e3 : I' 103 = I 103 := hF 103 (by omega)
  have h0 : I' 102 4 = nI 0 := by rw [hF 102 (by omega)]; exact hW.2.2.2.2.1
  have key := c_tells (X := X) (d := 4) (I := I') (Q := Q2) (N := I 103) (x := x) (y := y) (w := w) hm hm4 hk hk1 hk4 (z := z) (fun c => by rw [hF 111 (by omega)]; exact (hz c).2) z4 h0 (by omega) (fun J hJ => ?_)
  · rw [← e3, row_id] at key
    exact key
  · rw [tel_c (hF 110 (by omega)) (hF 112 (by omega))]
    refine h2 _ (wd_fr hW (fun a h1 h3 => ?_))
    by_cases e : a = 103
    · subst e; rw [row_s]
    · rw [row_n e, hJ.1 a h3, hF a h1]
theorem w_load (hW : Wd n I) : Duo X 104 220 [.int x, .int y, .int w, .int v] n I := by
  obtain ⟨f, k, m, T, hr, al, hT⟩ := hW.1
  obtain ⟨z, z4, hz⟩ := sh_z hW.2.2.2.1 x
  intro Q h
  refine l_load hr al (fun c => (hz c).1) z4 (fun I' M hr' al' hF => h _ I' (fun Q2 h2 => ?_))
  have e3 : I' 103 = I 103 := hF 103 (by omega)
  have h0 : I' 102 4 = nI 0 := by rw [hF 102 (by omega)]; exact hW.2.2.2.2.1
  have key := c_load_ (X := X) (d := 2) (I := I') (Q := Q2) (N := I 103) (x := x) (y := y) (w := w) (n := v) al.1.1 (z := z) (fun c => by rw [hF 111 (by omega)]; exact (hz c).2) z4 h0 (by omega) (fun J hJ => ?_)
  · rw [← e3, row_id] at key
    exact key
  · rw [lod_c (hF 110 (by omega)) (hF 112 (by omega))]
    refine h2 _ ⟨?_, hW.2.fr (fun a a1 a2 a3 a4 a5 a6 => by rw [row_n a4, hJ.1 a a5, hF a a1]) (by omega)⟩
    rw [row_s]
    exact ⟨f, k, M, T, hr'.ext (by rw [row_n (by decide), hJ.1 _ (by decide)]) (fun a b1 b2 => by rw [row_n (by omega), hJ.1 _ (by omega)]), al', by omega⟩
theorem w_put (hW : Wd n I) : Duo X 109 214 [.int x, .int i, .int v] n I := by
  obtain ⟨z, z4, hz⟩ := sh_z hW.2.2.2.1 x
  intro Q h
  rw [l_put (fun c => ⟨(hz c).1.1, (hz c).1.2.1⟩) z4]
  refine h _ _ (fun Q2 h2 => ?_)
  have hF : ∀ a, (a < 94 ∨ 101 < a) → cputI I z x i v a = I a := fun a ha => by
    unfold cputI
    split
    · rename_i c
      obtain ⟨-, -, x2⟩ := inL_t c
      split
      · rfl
      · split
        · exact u2_ne (by omega)
        · rfl
    · rfl
  have key := (c_put (X := X) (d := 12) (I := cputI I z x i v) (Q := Q2) (N := I 103) (x := x) (i := i) (v := v) (z := z) (fun c => by rw [hF 111 (by omega)]; exact (hz c).2) z4).mpr
  rw [put_c (hF 110 (by omega)), ← hF 103 (by omega), row_id] at key
  refine key (h2 _ ?_)
  have hF2 : ∀ a, (a < 94 ∨ 101 < a) → a ≠ 112 → (row (putI (cputI I z x i v) z x i v) 103 (cputI I z x i v 103)) a = I a := fun a ha h12 => by
    by_cases e : a = 103
    · subst e; rw [row_s]; exact hF 103 (by omega)
    · rw [row_n e]
      unfold putI
      split
      · split
        · exact hF a ha
        · split
          · rw [u2_ne h12]; exact hF a ha
          · exact hF a ha
      · exact hF a ha
  refine wd_sh hW (fun a h1 h3 h4 h5 h6 h7 => hF2 a h3 h7) (fun s hs => ?_)
  have ok := hW.2.2.2.1 s hs
  by_cases c1 : inL x 0 3 = true
  · obtain ⟨-, -, x2⟩ := inL_t c1
    obtain ⟨⟨g1, g2, g3⟩, g4⟩ := hz c1
    by_cases c2 : I 110 (tN x) = -1
    · have e1 : cputI I z x i v = I := by unfold cputI; rw [if_pos c1, if_pos (by rw [g2]; exact c2)]
      have e2 : putI I z x i v = I := by unfold putI; rw [if_pos c1, if_pos c2]
      rw [e1, e2, row_id]; exact ok
    · by_cases c3 : inR i z = true
      · obtain ⟨-, i2⟩ := inR_t c3
        have e1 : cputI I z x i v = upd2 I (95 + 2 * tN x) (tN i) (if I 110 (tN x) = nI 0 then v &&& nI 255 else v) := by unfold cputI; rw [if_pos c1, if_neg (by rw [g2]; exact c2), if_pos c3, g2]
        rw [e1]
        generalize hu : (if I 110 (tN x) = nI 0 then v &&& nI 255 else v) = u
        have e2 : putI (upd2 I (95 + 2 * tN x) (tN i) u) z x i v = upd2 (upd2 I (95 + 2 * tN x) (tN i) u) 112 (40 * tN x + tN i) (if I 110 (tN x) = nI 0 then v.toInt8.toInt32 else v) := by
          have e0 : upd2 I (95 + 2 * tN x) (tN i) u 110 = I 110 := u2_ne (by omega)
          unfold putI
          rw [if_pos c1, e0, if_neg c2, if_pos c3]
        rw [e2]
        generalize hq : (if I 110 (tN x) = nI 0 then v.toInt8.toInt32 else v) = q
        have rel : RelB u q := by
          subst hu hq
          split
          · exact rel_byte
          · exact RelB.refl
        obtain ⟨z', y1, y2, y3, y4, y5, y6⟩ := ok
        refine ⟨z', y1, ?_, ?_, ?_, ?_, fun j hj => ?_⟩
        · rw [row_n (by omega), row_n (by omega), u2_ne (by omega), u2_ne (by omega), u2_ne (by omega), u2_ne (by omega)]; exact y2
        · rw [row_n (by omega), u2_ne (by omega), u2_ne (by omega)]; exact y3
        · rw [row_n (by omega), u2_ne (by omega), u2_ne (by omega)]; exact y4
        · rw [row_n (by omega), u2_ne (by omega), u2_ne (by omega)]; exact y5
        · rw [row_n (by omega), row_n (by omega), u2_ne (by omega)]
          by_cases e : s = tN x
          · by_cases ej : j = tN i
            · subst e ej
              rw [u2_s, u2_s]
              exact rel
            · rw [u2_nk (by omega), u2_nk (by omega), u2_ne (by omega)]
              exact y6 j hj
          · rw [u2_ne (by omega), u2_nk (by omega), u2_ne (by omega)]
            exact y6 j hj
      · have e1 : cputI I z x i v = I := by unfold cputI; rw [if_pos c1, if_neg (by rw [g2]; exact c2), if_neg c3]
        have e2 : putI I z x i v = I := by unfold putI; rw [if_pos c1, if_neg c2, if_neg c3]
        rw [e1, e2, row_id]; exact ok
  · have e1 : cputI I z x i v = I := by unfold cputI; rw [if_neg c1]
    have e2 : putI I z x i v = I := by unfold putI; rw [if_neg c1]
    rw [e1, e2, row_id]; exact ok
theorem w_sheet (hW : Wd n I) : Duo X 108 213 [.int x, .int y, .int v] n I := by
  intro Q h
  refine l_sheet (fun I' c1 c2 hS => h _ I' (fun Q2 h2 => ?_)) (fun c => h _ I (fun Q2 h2 => ?_))
  · obtain ⟨-, -, x2⟩ := inL_t c1
    obtain ⟨s1, s2, s3, s4⟩ := hS
    have key := (c_sheet (X := X) (d := 12) (I := I') (Q := Q2) (N := I 103) (x := x) (y := y) (n := v)).mpr
    rw [← s4 103 (by omega) (by omega), row_id] at key
    refine key (h2 _ ?_)
    unfold shV at c2
    have n1 : ¬ (-14 : Int32) = nI 1 := by decide
    have n2 : ¬ (-2 : Int32) = nI 1 := by decide
    have k1 : shOk x y v = true := by
      by_cases k : shOk x y v = true
      · exact k
      · rw [if_neg k] at c2; exact absurd c2 n2
    rw [if_pos k1] at c2
    have k2 : (decide (y = -1) || decide (nI 0 ≤ v)) = true := by
      by_cases k : (decide (y = -1) || decide (nI 0 ≤ v)) = true
      · exact k
      · rw [if_neg k] at c2; exact absurd c2 n1
    have e1 : shI I' x y v = shN I' (tN x) y v := by unfold shI; rw [if_pos k1, if_pos k2]
    rw [e1]
    refine wd_sh hW (fun a h1 h3 h4 h5 h6 h7 => ?_) (fun s hs => ?_)
    · by_cases e : a = 103
      · subst e; rw [row_s]; exact s4 103 (by omega) (by omega)
      · rw [row_n e, shN_o h5 h6 h7]; exact s4 a (by omega) (by omega)
    · have ok := hW.2.2.2.1 s hs
      have g0 : ∀ q, shN I' (tN x) y v 110 q = if q = tN x then y else I 110 q := fun q => by
        unfold shN zrI
        rw [row_n (by decide), u2_ne (by decide), ← s4 110 (by omega) (by omega)]
        by_cases e : q = tN x
        · subst e; rw [u2_s, if_pos rfl]
        · rw [u2_nk (by omega), if_neg e]
      have g1 : ∀ q, shN I' (tN x) y v 111 q = if q = tN x then (if y = -1 then nI 0 else v) else I 111 q := fun q => by
        unfold shN zrI
        rw [row_n (by decide), ← s4 111 (by omega) (by omega)]
        by_cases e : q = tN x
        · subst e; rw [u2_s, if_pos rfl]
        · rw [u2_nk (by omega), u2_ne (by decide), if_neg e]
      have g2 : ∀ q, shN I' (tN x) y v 112 q = if 40 * tN x ≤ q ∧ q < 40 * tN x + 40 then nI 0 else I 112 q := fun q => by
        unfold shN zrI
        rw [row_s, u2_ne (by decide), u2_ne (by decide), s4 112 (by omega) (by omega)]
      have gr : ∀ a, 94 ≤ a → a ≤ 101 → (row (shN I' (tN x) y v) 103 (I' 103)) a = I' a := fun a a1 a2 => by rw [row_n (by omega), shN_o (by omega) (by omega) (by omega)]
      unfold ShOk
      rw [gr (94 + 2 * s) (by omega) (by omega), gr (95 + 2 * s) (by omega) (by omega), row_n (show (110 : Nat) ≠ 103 by decide), row_n (show (111 : Nat) ≠ 103 by decide), row_n (show (112 : Nat) ≠ 103 by decide), g0, g1]
      by_cases e : s = tN x
      · subst e
        rw [if_pos rfl, if_pos rfl, s1, s2]
        unfold shOk at k1
        rw [Bool.and_eq_true, Bool.and_eq_true, Bool.or_eq_true] at k1
        rw [Bool.or_eq_true] at k2
        have sy : y = -1 ∨ y = nI 0 ∨ y = nI 1 := by
          have k5 := k1.1.2
          unfold sortB at k5
          rw [decide_eq_true_eq] at k5
          rcases (by omega : y.toInt = -1 ∨ y.toInt = 0 ∨ y.toInt = 1) with e | e | e
          · exact Or.inl (eq_m.mpr e)
          · exact Or.inr (Or.inl (by rw [← Int32.toInt_inj, e]; rfl))
          · exact Or.inr (Or.inr (by rw [← Int32.toInt_inj, e]; rfl))
        have ez : ∃ z, z ≤ 40 ∧ (if y = -1 then nI 0 else v) = nI z := by
          by_cases e : y = -1
          · rw [if_pos e]; exact ⟨0, by omega, rfl⟩
          · rw [if_neg e]
            have p1 : v ≤ nI 40 := by
              rcases k1.2 with k | k
              · exact absurd (of_decide_eq_true k) e
              · exact of_decide_eq_true k
            have p2 : nI 0 ≤ v := by
              rcases k2 with k | k
              · exact absurd (of_decide_eq_true k) e
              · exact of_decide_eq_true k
            rw [c_le (by omega)] at p1
            rw [c_ge (by omega)] at p2
            have p3 : inL v 0 40 = true := by rw [inL_i]; omega
            obtain ⟨q1, -, q2⟩ := inL_t p3
            exact ⟨tN v, q2, q1⟩
        obtain ⟨z, z1, z2⟩ := ez
        refine ⟨z, z1, rfl, z2, z2, sy, fun j hj => ?_⟩
        rw [s3 j hj, g2, if_pos (by omega)]
        exact RelB.refl
      · rw [if_neg e, if_neg e, s4 _ (by omega) (by omega), s4 _ (by omega) (by omega)]
        obtain ⟨z', y1, y2, y3, y4, y5, y6⟩ := ok
        refine ⟨z', y1, y2, y3, y4, y5, fun j hj => ?_⟩
        rw [g2, if_neg (by omega)]
        exact y6 j hj
  · have key := (c_sheet (X := X) (d := 12) (I := I) (Q := Q2) (N := I 103) (x := x) (y := y) (n := v)).mpr
    rw [row_id] at key
    have e1 : shI I x y v = I := by
      unfold shI
      split
      · rename_i k1
        split
        · rename_i k2
          exfalso
          apply c
          have k3 := k1
          unfold shOk at k3
          rw [Bool.and_eq_true, Bool.and_eq_true] at k3
          exact ⟨k3.1.1, by unfold shV; rw [if_pos k1, if_pos k2]⟩
        · rfl
      · rfl
    rw [e1, row_id] at key
    exact key (h2 I (hW.mono (by omega)))
end
