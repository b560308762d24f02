/-! copies, images -/
theorem cpyB_c {I I' : pI} {x y i j n : Int32} {z z2 : Nat} : cpyB I' x y i j n z z2 = cpyB I x y i j n z z2 := rfl
theorem cpyV_c {I I' : pI} {z z2 : Nat} {x i y j n : Int32} (h : I' 110 = I 110) : cpyV I' z z2 x i y j n = cpyV I z z2 x i y j n := by
  unfold cpyV
  rw [h]
  rfl
section
variable {X : pX} {n : Nat} {I : pI} {x y w pp a b r s z i j v : Int32}
theorem w_copy (hW : Wd n I) : Duo X 110 215 [.int x, .int i, .int y, .int j, .int v] n I := by
  obtain ⟨z, z4, hz⟩ := sh_z hW.2.2.2.1 x
  obtain ⟨z2, z24, hz2⟩ := sh_z hW.2.2.2.1 y
  intro Q h
  rw [l_copy (fun c => ⟨(hz c).1.1, (hz c).1.2.1⟩) z4 (fun c => ⟨(hz2 c).1.1, (hz2 c).1.2.1⟩) z24]
  refine h _ _ (fun Q2 h2 => ?_)
  have hF : ∀ a, (a < 94 ∨ 101 < a) → ccpyI I z z2 x i y j v a = I a := fun a ha => by
    unfold ccpyI
    split
    · rename_i c
      rw [Bool.and_eq_true] at c
      obtain ⟨-, -, y2⟩ := inL_t c.2
      split
      · rfl
      · split
        · split
          · funext q
            unfold cpy2
            rw [if_neg (by omega)]
          · rfl
        · rfl
    · rfl
  have key := (c_copy (X := X) (d := 12) (I := ccpyI I z z2 x i y j v) (Q := Q2) (N := I 103) (x := x) (i := i) (y := y) (j := j) (n := v) (z := z) (z2 := z2) (fun c => by rw [hF 111 (by omega)]; exact (hz c).2) z4 (fun c => by rw [hF 111 (by omega)]; exact (hz2 c).2) z24).mpr
  rw [cpyV_c (hF 110 (by omega)), ← hF 103 (by omega), row_id] at key
  refine key (h2 _ ?_)
  by_cases go : (inL x 0 3 && inL y 0 3) = true ∧ ¬ (I 110 (tN x) = -1 ∨ I 110 (tN y) = -1) ∧ I 110 (tN x) = I 110 (tN y) ∧ cpyB I x y i j v z z2 = true
  · obtain ⟨c1, c2, c3, c4⟩ := go
    have e1 : ccpyI I z z2 x i y j v = cpy2 I (95 + 2 * tN x) (tN i) (95 + 2 * tN y) (tN j) (tN v) := by
      unfold ccpyI
      rw [if_pos c1, if_neg c2, if_pos c3, if_pos c4]
    have e2 : cpyI (ccpyI I z z2 x i y j v) z z2 x i y j v = cpy2 (ccpyI I z z2 x i y j v) 112 (40 * tN x + tN i) 112 (40 * tN y + tN j) (tN v) := by
      unfold cpyI
      rw [if_pos c1, hF 110 (by omega), if_neg c2, if_pos c3, cpyB_c, if_pos c4]
    rw [e2]
    rw [hold_cpy z4 z24, Bool.and_eq_true] at c4
    rw [Bool.and_eq_true] at c1
    obtain ⟨-, -, x2⟩ := inL_t c1.1
    obtain ⟨-, -, y2⟩ := inL_t c1.2
    obtain ⟨⟨g1, g2, g3⟩, g4⟩ := hz c1.1
    have h1 := c4.1
    have h2' := c4.2
    unfold holdB at h1 h2'
    rw [Bool.and_eq_true, Bool.and_eq_true, decide_eq_true_eq, decide_eq_true_eq, decide_eq_true_eq] at h1 h2'
    obtain ⟨⟨i0, n0⟩, i1⟩ := h1
    obtain ⟨⟨j0, -⟩, j1⟩ := h2'
    have b1 : tN i + tN v ≤ 40 := by unfold tN; omega
    have b2 : tN j + tN v ≤ 40 := by unfold tN; omega
    have hC : ∀ a, (a < 94 ∨ 101 < a) → a ≠ 112 → cpy2 (ccpyI I z z2 x i y j v) 112 (40 * tN x + tN i) 112 (40 * tN y + tN j) (tN v) a = I a := fun a a1 a2 => by
      rw [← hF a a1]
      funext q
      unfold cpy2
      rw [if_neg (by omega)]
    have hC2 : ∀ a, 94 ≤ a → a ≤ 101 → ∀ q, cpy2 (ccpyI I z z2 x i y j v) 112 (40 * tN x + tN i) 112 (40 * tN y + tN j) (tN v) a q = if a = 95 + 2 * tN y ∧ tN j ≤ q ∧ q < tN j + tN v then I (95 + 2 * tN x) (tN i + (q - tN j)) else I a q := fun a a1 a2 q => by
      unfold cpy2
      rw [if_neg (by omega), e1]
      rfl
    have hC3 : ∀ q, cpy2 (ccpyI I z z2 x i y j v) 112 (40 * tN x + tN i) 112 (40 * tN y + tN j) (tN v) 112 q = if 40 * tN y + tN j ≤ q ∧ q < 40 * tN y + tN j + tN v then I 112 (40 * tN x + tN i + (q - (40 * tN y + tN j))) else I 112 q := fun q => by
      rw [← hF 112 (by omega)]
      unfold cpy2
      by_cases e : 40 * tN y + tN j ≤ q ∧ q < 40 * tN y + tN j + tN v
      · rw [if_pos ⟨rfl, e⟩, if_pos e]
      · rw [if_neg (fun e2 => e e2.2), if_neg e]
    generalize cpy2 (ccpyI I z z2 x i y j v) 112 (40 * tN x + tN i) 112 (40 * tN y + tN j) (tN v) = J at *
    refine wd_sh hW (fun a h1 h3 h4 h5 h6 h7 => ?_) (fun s hs => ?_)
    · by_cases e : a = 103
      · subst e; rw [row_s]; exact hF 103 (by omega)
      · rw [row_n e]; exact hC a h3 h7
    · obtain ⟨z', y1, y2', y3, y4, y5, y6⟩ := hW.2.2.2.1 s hs
      unfold ShOk
      rw [row_n (show 94 + 2 * s ≠ 103 by omega), row_n (show 95 + 2 * s ≠ 103 by omega), row_n (show (110 : Nat) ≠ 103 by decide), row_n (show (111 : Nat) ≠ 103 by decide), row_n (show (112 : Nat) ≠ 103 by decide), hC 110 (by omega) (by omega), hC 111 (by omega) (by omega), hC2 (94 + 2 * s) (by omega) (by omega) 0, hC2 (94 + 2 * s) (by omega) (by omega) 1, if_neg (by omega), if_neg (by omega)]
      refine ⟨z', y1, y2', y3, y4, y5, fun q hq => ?_⟩
      rw [hC2 (95 + 2 * s) (by omega) (by omega), hC3]
      by_cases e : s = tN y ∧ tN j ≤ q ∧ q < tN j + tN v
      · obtain ⟨e0, e1', e2'⟩ := e
        rw [if_pos ⟨by omega, e1', e2'⟩, if_pos (by omega)]
        have := g3 (tN i + (q - tN j)) (by omega)
        rw [show 40 * tN x + tN i + (40 * s + q - (40 * tN y + tN j)) = 40 * tN x + (tN i + (q - tN j)) by omega]
        exact this
      · rw [if_neg (by omega), if_neg (by omega)]
        exact y6 q hq
  · have e1 : ccpyI I z z2 x i y j v = I := by
      unfold ccpyI
      split
      · rename_i k1
        split
        · rfl
        · rename_i k2
          split
          · rename_i k3
            split
            · rename_i k4; exact absurd ⟨k1, k2, k3, k4⟩ go
            · rfl
          · rfl
      · rfl
    have e2 : cpyI I z z2 x i y j v = I := by
      unfold cpyI
      split
      · rename_i k1
        split
        · rfl
        · rename_i k2
          split
          · rename_i k3
            split
            · rename_i k4; exact absurd ⟨k1, k2, k3, k4⟩ go
            · rfl
          · rfl
      · rfl
    rw [e1, e2, row_id]
    exact hW.mono (by omega)
theorem w_image (hW : Wd n I) : Duo X 105 221 [] n I := by
  obtain ⟨f, k, m, T, hr, al, hT⟩ := hW.1
  intro Q h
  refine l_image hr al (fun I1 hr1 hF => h _ _ (fun Q2 h2 => ?_))
  have hF2 : ∀ a, a ≠ 0 → (a < 67 ∨ 88 < a) → upd2 I1 0 5 (nI 1) a = I a := fun a h1 h3 => by rw [u2_ne h1]; exact hF a (by omega) (by omega)
  have key := (c_image (X := X) (d := 13) (I := upd2 I1 0 5 (nI 1)) (Q := Q2) (N := I 103)).mpr
  have e0 : row (upd2 I1 0 5 (nI 1)) 103 (I 103) = upd2 I1 0 5 (nI 1) := by rw [← hF2 103 (by omega) (by omega), row_id]
  rw [e0] at key
  refine key (h2 _ ?_)
  have g4 : imgI (upd2 I1 0 5 (nI 1)) (I 103) 104 = fun j => if j < 452 then I 103 j else I 104 j := by
    unfold imgI
    rw [u2_ne (by decide), row_s, hF2 104 (by omega) (by omega)]
  have g : ∀ a, a ≠ 104 → a ≠ 102 → imgI (upd2 I1 0 5 (nI 1)) (I 103) a = upd2 I1 0 5 (nI 1) a := fun a a1 a2 => by
    unfold imgI
    rw [u2_ne a2, row_n a1]
  have g2 : ∀ j, j ≠ 2 → imgI (upd2 I1 0 5 (nI 1)) (I 103) 102 j = I 102 j := fun j hj => by
    unfold imgI
    rw [u2_nk (by omega), row_n (by decide), hF2 102 (by omega) (by omega)]
  have g22 : imgI (upd2 I1 0 5 (nI 1)) (I 103) 102 2 = nI 1 := by
    unfold imgI
    exact u2_s
  generalize imgI (upd2 I1 0 5 (nI 1)) (I 103) = J at *
  have gJ : ∀ a, a ≠ 0 → (a < 67 ∨ 88 < a) → a ≠ 104 → a ≠ 102 → J a = I a := fun a a1 a2 a3 a4 => by rw [g a a3 a4]; exact hF2 a a1 a2
  obtain ⟨hH, hi, ht, hs, hz, hw1, hw2⟩ := hW
  unfold Wd
  rw [row_s]
  refine ⟨hH.fr (fun a h1 h3 => by rw [row_n (by omega)]; exact gJ a (by omega) (by omega) (by omega) (by omega)) (by omega), ⟨?_, Or.inr ⟨?_, f, k, m, T, ?_, ?_, by omega⟩⟩, ht.fr ?_ ?_ ?_ ?_, fun s hs4 => (hs s hs4).fr hs4 (fun a ha => by rw [row_n (by omega)]; exact gJ a (by omega) (by omega) (by omega) (by omega)) ?_ ?_ (fun j _ => ?_), ?_, hw1.fr ?_, hw2.fr ?_⟩
  · rw [row_n (by decide), row_n (by decide), g 0 (by omega) (by omega), u2_s, g22]
  · rw [row_n (by decide), g 0 (by omega) (by omega), u2_s]
  · rw [row_n (by decide), g4]
    refine HR.cong (hr1.ext ?_ (fun a b1 b2 => ?_)) (fun j hj => if_pos hj)
    · rw [row_n (by decide), g 67 (by omega) (by omega), u2_ne (by decide)]
    · rw [row_n (by omega), g a (by omega) (by omega), u2_ne (by omega)]
  · rw [row_n (by decide), g4]
    exact al.cong (fun j hj => if_pos hj)
  · rw [row_n (by decide), gJ 89 (by omega) (by omega) (by omega) (by omega)]
  · rw [row_n (by decide), g2 6 (by omega)]
  · rw [row_n (by decide), gJ 90 (by omega) (by omega) (by omega) (by omega)]
  · rw [row_n (by decide), gJ 106 (by omega) (by omega) (by omega) (by omega)]
  · rw [row_n (by decide), gJ 110 (by omega) (by omega) (by omega) (by omega)]
  · rw [row_n (by decide), gJ 111 (by omega) (by omega) (by omega) (by omega)]
  · rw [row_n (by decide), gJ 112 (by omega) (by omega) (by omega) (by omega)]
  · rw [row_n (by decide), g2 4 (by omega)]; exact hz
  · rw [row_n (by decide), gJ 108 (by omega) (by omega) (by omega) (by omega)]
  · rw [row_n (by decide), gJ 107 (by omega) (by omega) (by omega) (by omega)]
theorem w_back (hW : Wd n I) : Duo X 106 222 [] n I := by
  intro Q h
  obtain ⟨i1, i2⟩ := hW.2.1
  rcases i2 with i2 | ⟨i2, f, k, m, T, hr, al, hT⟩
  · have n1 : ¬ I 0 5 = nI 1 := by rw [i2]; decide
    refine l_back (K := I 103) (mk := 0) (fk := 0) (kk := 0) (Tk := 0) (Or.inl i2) (fun e => absurd e n1) (fun _ => h _ I (fun Q2 h2 => ?_)) (fun e => absurd e n1)
    have key := (c_back (X := X) (d := 13) (I := I) (Q := Q2) (N := I 103)).mpr
    have e1 : bckN I (I 103) = I 103 := by unfold bckN; rw [if_pos (by rw [← i1]; exact i2)]
    rw [e1, row_id, if_pos (by rw [← i1]; exact i2)] at key
    exact key (h2 I (hW.mono (by omega)))
  · have n1 : ¬ I 0 5 = nI 0 := by rw [i2]; decide
    refine l_back (Or.inr i2) (fun _ => ⟨hr, al⟩) (fun e => absurd e n1) (fun _ I' hr' hF => h _ I' (fun Q2 h2 => ?_))
    have key := (c_back (X := X) (d := 13) (I := I') (Q := Q2) (N := I 103)).mpr
    have n2 : ¬ I 102 2 = nI 0 := by rw [← i1]; exact n1
    have e1 : bckN I' (I 103) = fun j => if j < 452 then I 104 j else I 103 j := by unfold bckN; rw [hF 102 (by omega), if_neg n2, hF 104 (by omega)]
    rw [e1, ← hF 103 (by omega), row_id, hF 102 (by omega), if_neg n2, hF 104 (by omega)] at key
    refine key (h2 _ ⟨?_, hW.2.fr (fun a a1 a2 a3 a4 a5 a6 => by rw [row_n a4, hF a a1]) (by omega)⟩)
    rw [row_s]
    refine ⟨f, k, m, T, HR.cong (hr'.ext (by rw [row_n (by decide)]) (fun a b1 b2 => by rw [row_n (by omega)])) (fun j hj => if_pos hj), al.cong (fun j hj => if_pos hj), by omega⟩
end
