/-! films, the tape -/
theorem fiS_1 {N R : Nat → Int32} {m k c s : Nat} : ∀ {n : Nat}, (fiS N m k c s R n).1 = (tsS N m k n).1
  | 0 => rfl
  | n + 1 => by
    show (psS (fiS N m k c s R n).1 m k).1 = (psS (tsS N m k n).1 m k).1
    rw [fiS_1 (n := n)]
theorem fiS_2 {N R : Nat → Int32} {m k c s : Nat} : ∀ {n : Nat} (q : Nat), (fiS N m k c s R n).2 q = if 40 * s ≤ q ∧ q < 40 * s + n then cf (tsS N m k (q - 40 * s + 1)).1 c 3 else R q
  | 0, q => by
    rw [if_neg (by omega)]
    rfl
  | n + 1, q => by
    have e : (fiS N m k c s R (n + 1)).2 = upd (fiS N m k c s R n).2 (40 * s + n) (cf (psS (fiS N m k c s R n).1 m k).1 c 3) := rfl
    rw [e]
    by_cases h : q = 40 * s + n
    · rw [h, up_s, if_pos (by omega), fiS_1, show 40 * s + n - 40 * s + 1 = n + 1 by omega]
      rfl
    · rw [up_n (by omega), fiS_2 (n := n) q]
      by_cases h2 : 40 * s ≤ q ∧ q < 40 * s + n
      · rw [if_pos h2, if_pos (by omega)]
      · rw [if_neg h2, if_neg (by omega)]
theorem fdC_n {I : pI} {T : Nat} {a b c e f : Int32} {r : Nat} (h : r ≠ 89) (h2 : r ≠ 90) : ∀ {n : Nat}, fdC I T a b c e f n r = I r
  | 0 => rfl
  | n + 1 => by
    show upd2 (upd2 (fdC I T a b c e f n) 90 (T + n) (pik a b c e f n)) 89 0 (nI (T + n + 1)) r = I r
    rw [u2_ne h, u2_ne h2, fdC_n h h2]
theorem fdC_90 {I : pI} {T : Nat} {a b c e f : Int32} : ∀ {n : Nat} (q : Nat), fdC I T a b c e f n 90 q = if T ≤ q ∧ q < T + n then pik a b c e f (q - T) else I 90 q
  | 0, q => by
    rw [if_neg (by omega)]
    rfl
  | n + 1, q => by
    show upd2 (upd2 (fdC I T a b c e f n) 90 (T + n) (pik a b c e f n)) 89 0 (nI (T + n + 1)) 90 q = _
    rw [u2_ne (by decide)]
    by_cases h : q = T + n
    · rw [h, u2_s, if_pos (by omega), show T + n - T = n by omega]
    · rw [u2_nk (by omega), fdC_90 (n := n) q]
      by_cases h2 : T ≤ q ∧ q < T + n
      · rw [if_pos h2, if_pos (by omega)]
      · rw [if_neg h2, if_neg (by omega)]
theorem fdI_n {I : pI} {T : Nat} {a b c e f : Int32} {r : Nat} (h : r ≠ 102) (h2 : r ≠ 106) : ∀ {n : Nat}, fdI I T a b c e f n r = I r
  | 0 => rfl
  | n + 1 => by
    show upd2 (upd2 (fdI I T a b c e f n) 106 (T + n) (pik a b c e f n)) 102 6 (nI (T + n + 1)) r = I r
    rw [u2_ne h, u2_ne h2, fdI_n h h2]
theorem fdI_k {I : pI} {T : Nat} {a b c e f : Int32} {j : Nat} (h : j ≠ 6) : ∀ {n : Nat}, fdI I T a b c e f n 102 j = I 102 j
  | 0 => rfl
  | n + 1 => by
    show upd2 (upd2 (fdI I T a b c e f n) 106 (T + n) (pik a b c e f n)) 102 6 (nI (T + n + 1)) 102 j = I 102 j
    rw [u2_nk (by omega), u2_ne (by decide), fdI_k h]
theorem fdI_106 {I : pI} {T : Nat} {a b c e f : Int32} : ∀ {n : Nat} (q : Nat), fdI I T a b c e f n 106 q = if T ≤ q ∧ q < T + n then pik a b c e f (q - T) else I 106 q
  | 0, q => by
    rw [if_neg (by omega)]
    rfl
  | n + 1, q => by
    show upd2 (upd2 (fdI I T a b c e f n) 106 (T + n) (pik a b c e f n)) 102 6 (nI (T + n + 1)) 106 q = _
    rw [u2_ne (by decide)]
    by_cases h : q = T + n
    · rw [h, u2_s, if_pos (by omega), show T + n - T = n by omega]
    · rw [u2_nk (by omega), fdI_106 (n := n) q]
      by_cases h2 : T ≤ q ∧ q < T + n
      · rw [if_pos h2, if_pos (by omega)]
      · rw [if_neg h2, if_neg (by omega)]
theorem pik_b {n a b c e f : Int32} (h : fdB n a b c e f = true) (k : Nat) : ∃ v, v ≤ 255 ∧ pik a b c e f k = nI v := by
  unfold fdB at h
  simp only [Bool.and_eq_true] at h
  obtain ⟨⟨⟨⟨⟨-, ha⟩, hb⟩, hc⟩, he⟩, hf⟩ := h
  have g : ∀ {x : Int32}, inL x 0 255 = true → ∃ v, v ≤ 255 ∧ x = nI v := fun hx => by
    obtain ⟨e1, -, e2⟩ := inL_t hx
    exact ⟨_, e2, e1⟩
  unfold pik
  split
  · exact g ha
  · split
    · exact g hb
    · split
      · exact g hc
      · split
        · exact g he
        · exact g hf
theorem raF_c {I J : pI} {T : Nat} {s : rS} (h : J 106 = I 106) (h2 : J 107 = I 107) (h3 : J 108 = I 108) : raF J T s = raF I T s := by
  unfold raF
  rw [rdM_c h h2 h3]
theorem raR_c {I J : pI} {T : Nat} (h : J 106 = I 106) (h2 : J 107 = I 107) (h3 : J 108 = I 108) : ∀ {r : Nat} {s : rS}, raR J T r s = raR I T r s
  | 0, _ => rfl
  | r + 1, s => by
    unfold raR
    rw [raF_c h h2 h3, raR_c h h2 h3]
theorem rAll_c {I J : pI} {T : Nat} (h : J 106 = I 106) (h2 : J 107 = I 107) (h3 : J 108 = I 108) (h4 : J 109 = I 109) (h5 : J 102 = I 102) : rAll J T = rAll I T := by
  unfold rAll rIn
  rw [raF_c h h2 h3, raR_c h h2 h3, h4, h5]
section
variable {X : pX} {n : Nat} {I : pI} {x y w pp a b c e f r s z i j v : Int32}
theorem w_film (hW : Wd n I) : Duo X 103 219 [.int x, .int y, .int v] n I := by
  obtain ⟨f, k, m, T, hr, al, hT⟩ := hW.1
  obtain ⟨⟨hf, hf1, hf4⟩, ⟨hk, hk1, hk4⟩, hm, hm4⟩ := al.1.1
  intro Q h
  refine l_film hr al (fun c I' hF s0 s1 s2 => h _ I' (fun Q2 h2 => ?_)) (fun c => h _ I (fun Q2 h2 => ?_))
  · have c' := c
    rw [Bool.and_eq_true, Bool.and_eq_true] at c'
    obtain ⟨-, -, x2⟩ := inL_t c'.1.1
    obtain ⟨ev, v1, v2⟩ := inL_t c'.2
    have hFa : ∀ a, (a = 0 ∨ 44 < a) ∧ (a < 94 ∨ 101 < a) → I' a = I a := fun a ha => hF a ha.1 (by omega) (by omega)
    have h0 : I' 102 4 = nI 0 := by rw [hFa 102 (by omega)]; exact hW.2.2.2.2.1
    have e3 : I' 103 = I 103 := hFa 103 (by omega)
    have key := c_film (X := X) (d := 6) (I := I') (Q := Q2) (N := I 103) (x := x) (y := y) (n := v) hm hm4 hk hk1 hk4 h0 (by omega) (fun J hJ => ?_)
    · rw [← e3, row_id] at key
      exact key
    · rw [if_pos c]
      refine h2 _ ?_
      have g : ∀ a, a ≠ 110 → a ≠ 111 → a ≠ 112 → a ≠ 105 → J a = I' a := fun a a0 a1 a2 a3 => by
        rw [hJ.1 a a3]
        unfold filI
        rw [if_pos c]
        unfold fiI
        rw [row_n a2, shN_o a0 a1 a2]
      have g0 : ∀ q, J 110 q = if q = tN x then nI 0 else I 110 q := fun q => by
        rw [hJ.1 110 (by decide)]
        unfold filI
        rw [if_pos c]
        unfold fiI shN zrI
        rw [row_n (by decide), row_n (by decide), u2_ne (by decide), ← hFa 110 (by omega)]
        by_cases e : q = tN x
        · subst e; rw [u2_s, if_pos rfl]
        · rw [u2_nk (by omega), if_neg e]
      have g1 : ∀ q, J 111 q = if q = tN x then v else I 111 q := fun q => by
        have n1 : ¬ nI 0 = -1 := by decide
        rw [hJ.1 111 (by decide)]
        unfold filI
        rw [if_pos c]
        unfold fiI shN zrI
        rw [row_n (by decide), row_n (by decide), if_neg n1, ← ev, ← hFa 111 (by omega)]
        by_cases e : q = tN x
        · subst e; rw [u2_s, if_pos rfl]
        · rw [u2_nk (by omega), u2_ne (by decide), if_neg e]
      have g2 : ∀ q, J 112 q = if 40 * tN x ≤ q ∧ q < 40 * tN x + tN v then cf (tsS (I 103) m k (q - 40 * tN x + 1)).1 (tN y) 3 else if 40 * tN x ≤ q ∧ q < 40 * tN x + 40 then nI 0 else I 112 q := fun q => by
        rw [hJ.1 112 (by decide)]
        unfold filI
        rw [if_pos c]
        unfold fiI
        rw [row_s, fiS_2]
        congr 1
        unfold shN zrI
        rw [row_s, u2_ne (by decide), u2_ne (by decide), hFa 112 (by omega)]
      refine wd_sh hW (fun a h1 h3 h4 h5 h6 h7 => ?_) (fun s hs => ?_)
      · by_cases e : a = 103
        · subst e; rw [row_s]
        · rw [row_n e, g a h5 h6 h7 h4]; exact hFa a (by omega)
      · obtain ⟨z', y1, y2, y3, y4, y5, y6⟩ := hW.2.2.2.1 s hs
        unfold ShOk
        rw [row_n (show 94 + 2 * s ≠ 103 by omega), row_n (show 95 + 2 * s ≠ 103 by omega), row_n (show (110 : Nat) ≠ 103 by decide), row_n (show (111 : Nat) ≠ 103 by decide), row_n (show (112 : Nat) ≠ 103 by decide), g (94 + 2 * s) (by omega) (by omega) (by omega) (by omega), g (95 + 2 * s) (by omega) (by omega) (by omega) (by omega), g0, g1]
        by_cases e : s = tN x
        · subst e
          rw [if_pos rfl, if_pos rfl, s0, s1]
          refine ⟨tN v, by omega, rfl, ev, ev, Or.inr (Or.inl rfl), fun j hj => ?_⟩
          rw [s2 j hj, g2]
          by_cases ej : j < tN v
          · rw [if_pos ej, if_pos (by omega), show 40 * tN x + j - 40 * tN x + 1 = j + 1 by omega]
            exact RelB.refl
          · rw [if_neg ej, if_neg (by omega), if_pos (by omega)]
            exact RelB.refl
        · rw [if_neg e, if_neg e, hF _ (by omega) (by omega) (by omega), hF _ (by omega) (by omega) (by omega)]
          refine ⟨z', y1, y2, y3, y4, y5, fun j hj => ?_⟩
          rw [g2, if_neg (by omega), if_neg (by omega)]
          exact y6 j hj
  · have key := c_film (X := X) (d := 6) (I := I) (Q := Q2) (N := I 103) (x := x) (y := y) (n := v) hm hm4 hk hk1 hk4 hW.2.2.2.2.1 (by omega) (fun J hJ => ?_)
    · rw [row_id] at key
      exact key
    · rw [if_neg c]
      unfold filI at hJ
      rw [if_neg c] at hJ
      refine h2 _ (wd_fr hW (fun a h1 h3 => ?_))
      by_cases e : a = 103
      · subst e; rw [row_s]
      · rw [row_n e, hJ.1 a h3]
theorem w_feed (hW : Wd n I) : Duo X 99 204 [.int x, .int a, .int b, .int c, .int e, .int f] n I := by
  obtain ⟨L, l1, l2, l3, l4⟩ := hW.2.2.1
  intro Q h
  rw [l_feed l2 l1]
  refine h _ _ (fun Q2 h2 => ?_)
  by_cases go : fdB x a b c e f = true ∧ ¬ 60 < L + tN x
  · obtain ⟨c1, c2⟩ := go
    have e1 : fedC I L x a b c e f = fdC I L a b c e f (tN x) := by unfold fedC; rw [if_pos c1, if_neg c2]
    rw [e1]
    have g1 : ∀ r, r ≠ 89 → r ≠ 90 → fdC I L a b c e f (tN x) r = I r := fun r a1 a2 => fdC_n a1 a2
    have g2 := fun q => fdC_90 (I := I) (T := L) (a := a) (b := b) (c := c) (e := e) (f := f) (n := tN x) q
    have g3 := fdC_0 (a := a) (b := b) (c := c) (e := e) (f := f) l2 (n := tN x)
    generalize fdC I L a b c e f (tN x) = I1 at *
    have j6 : I1 102 6 = nI L := by rw [g1 102 (by decide) (by decide)]; exact l3
    have key := (c_feed (X := X) (d := 12) (I := I1) (Q := Q2) (N := I 103) (n := x) (a := a) (b := b) (c := c) (e := e) (f := f) j6 l1).mpr
    rw [← g1 103 (by decide) (by decide), row_id] at key
    refine key (h2 _ ?_)
    rw [g1 103 (by decide) (by decide)]
    have e2 : fedI I1 L x a b c e f = fdI I1 L a b c e f (tN x) := by unfold fedI; rw [if_pos c1, if_neg c2]
    rw [e2]
    have k1 : ∀ r, r ≠ 102 → r ≠ 106 → fdI I1 L a b c e f (tN x) r = I1 r := fun r a1 a2 => fdI_n a1 a2
    have k2 := fun q => fdI_106 (I := I1) (T := L) (a := a) (b := b) (c := c) (e := e) (f := f) (n := tN x) q
    have k3 := fdI_6 (a := a) (b := b) (c := c) (e := e) (f := f) j6 (n := tN x)
    have k4 : ∀ j, j ≠ 6 → fdI I1 L a b c e f (tN x) 102 j = I1 102 j := fun j hj => fdI_k hj
    generalize fdI I1 L a b c e f (tN x) = J at *
    have gJ : ∀ r, r ≠ 102 → r ≠ 106 → r ≠ 89 → r ≠ 90 → J r = I r := fun r a1 a2 a3 a4 => by rw [k1 r a1 a2, g1 r a3 a4]
    have gK : ∀ j, j ≠ 6 → J 102 j = I 102 j := fun j hj => by rw [k4 j hj, g1 102 (by decide) (by decide)]
    obtain ⟨hH, hi, -, hs, hz, hw1, hw2⟩ := hW
    unfold Wd
    rw [row_s]
    refine ⟨hH.fr (fun a h1 h3 => by rw [row_n (by omega)]; exact gJ a (by omega) (by omega) (by omega) (by omega)) (by omega), hi.fr (fun a ha => by rw [row_n (by omega)]; exact gJ a (by omega) (by omega) (by omega) (by omega)) ?_ (by omega), ⟨L + tN x, by omega, ?_, ?_, fun q hq => ?_⟩, fun s hs4 => (hs s hs4).fr hs4 (fun a ha => by rw [row_n (by omega)]; exact gJ a (by omega) (by omega) (by omega) (by omega)) ?_ ?_ (fun j _ => ?_), ?_, hw1.fr ?_, hw2.fr ?_⟩
    · rw [row_n (by decide), gK 2 (by omega)]
    · rw [row_n (by decide), k1 89 (by decide) (by decide)]; exact g3
    · rw [row_n (by decide)]; exact k3
    · rw [row_n (by decide), row_n (by decide), k1 90 (by decide) (by decide), g2, k2, g1 106 (by decide) (by decide)]
      by_cases eq : L ≤ q ∧ q < L + tN x
      · rw [if_pos eq, if_pos eq]
        exact ⟨rfl, pik_b c1 _⟩
      · rw [if_neg eq, if_neg eq]
        exact l4 q (by omega)
    · rw [row_n (by decide), gJ 110 (by omega) (by omega) (by omega) (by omega)]
    · rw [row_n (by decide), gJ 111 (by omega) (by omega) (by omega) (by omega)]
    · rw [row_n (by decide), gJ 112 (by omega) (by omega) (by omega) (by omega)]
    · rw [row_n (by decide), gK 4 (by omega)]; exact hz
    · rw [row_n (by decide), gJ 108 (by omega) (by omega) (by omega) (by omega)]
    · rw [row_n (by decide), gJ 107 (by omega) (by omega) (by omega) (by omega)]
  · have e1 : fedC I L x a b c e f = I := by
      unfold fedC
      split
      · rename_i k1
        split
        · rfl
        · rename_i k2; exact absurd ⟨k1, k2⟩ go
      · rfl
    have e2 : fedI I L x a b c e f = I := by
      unfold fedI
      split
      · rename_i k1
        split
        · rfl
        · rename_i k2; exact absurd ⟨k1, k2⟩ go
      · rfl
    rw [e1]
    have key := (c_feed (X := X) (d := 12) (I := I) (Q := Q2) (N := I 103) (n := x) (a := a) (b := b) (c := c) (e := e) (f := f) l3 l1).mpr
    rw [e2, row_id] at key
    exact key (h2 _ (hW.mono (by omega)))
theorem w_text (hW : Wd n I) : Duo X 100 211 [] n I := by
  obtain ⟨L, l1, l2, l3, l4⟩ := hW.2.2.1
  obtain ⟨f, k, m, T, hr, al, hT⟩ := hW.1
  have al0 := al
  obtain ⟨⟨hB, -⟩, -, hcar⟩ := al0
  obtain ⟨-, i, t, hs, hz, hw1, hw2⟩ := hW
  intro Q h
  refine l_text hr al l2 l1 l4 hw2 hw1 (fun I' m' hr' hF h89 => h _ I' (fun Q2 h2 => ?_))
  have e : ∀ a, (a = 0 ∨ 66 < a) ∧ a ≠ 89 ∧ a ≠ 91 ∧ a ≠ 92 → I' a = I a := fun a ⟨a1, a2, a3, a4⟩ => hF a a1 a2 a3 a4
  have rc : rAll I' L = rAll I L := rAll_c (e 106 (by omega)) (e 107 (by omega)) (e 108 (by omega)) (e 109 (by omega)) (e 102 (by omega))
  have vc : txV I' L (I 103) f k = txV I L (I 103) f k := by unfold txV txOk; rw [rc]
  have nc : txN I' L (I 103) f k = txN I L (I 103) f k := by unfold txN txOk; rw [rc]
  have hw1' : WanEq I' := hw1.fr (e 108 (by omega))
  have key := c_text (X := X) (d := 1) (I := I') (Q := Q2) (N := I 103) (T := L) (f := f) (k := k) (m := m) (t := 0) (by rw [e 102 (by omega)]; exact l3) l1 hw1'.ok hB (hcar.ok hB.2.1.2.2) (by rw [e 102 (by omega)]; exact hz) (by omega) (fun J hJ => ?_)
  · rw [← e 103 (by omega), row_id] at key
    exact key
  · rw [vc, nc]
    refine h2 _ ?_
    have alT : ∃ T', T' ≤ T + 2970 ∧ AllOk (txN I L (I 103) f k) f k m' T' := by
      have hcm := rAll_cm (I := I) l1
      have hm' := hr'.m446
      have hm4' := hr'.m40
      unfold txN at hm' ⊢
      by_cases ok : txOk I L = true
      · rw [if_pos ok] at hm' ⊢
        obtain ⟨T', t1, t2⟩ := tx_all (C := (rAll I L).2.1) al (n := (rAll I L).2.2.1)
        rw [mOf_n hm' hm4'] at t2
        exact ⟨T', by omega, t2⟩
      · rw [if_neg ok] at hm' ⊢
        have em : m' = m := by
          have := hB.2.2.1
          rw [hm', i_eq (by omega) (by have := hB.2.2.2; omega)] at this
          exact this
        rw [em]
        exact ⟨T, by omega, al⟩
    obtain ⟨T', t1, t2⟩ := alT
    have g : ∀ a, a ≠ 102 → a ≠ 109 → a ≠ 105 → J a = I' a := fun a a1 a2 a3 => by
      rw [hJ.1 a a3]
      unfold txI stS
      rw [u2_ne a1, stC_106 a1 a2]
    have g6 : J 102 6 = nI 0 := by
      rw [hJ.1 102 (by decide)]
      unfold txI
      exact u2_s
    have g2 : J 102 2 = I 102 2 := by
      rw [hJ.1 102 (by decide), ← e 102 (by omega)]
      rfl
    have g4 : J 102 4 = I 102 4 := by
      rw [hJ.1 102 (by decide), ← e 102 (by omega)]
      rfl
    have gI : ∀ a, (a = 0 ∨ 66 < a) ∧ a ≠ 89 ∧ a ≠ 91 ∧ a ≠ 92 ∧ a ≠ 102 ∧ a ≠ 109 ∧ a ≠ 105 ∧ a ≠ 103 → (row J 103 (txN I L (I 103) f k)) a = I a := fun a ha => by
      rw [row_n (by omega), g a (by omega) (by omega) (by omega)]
      exact e a (by omega)
    unfold Wd
    rw [row_s]
    refine ⟨⟨f, k, m', T', hr'.ext (by rw [row_n (by decide), g 45 (by omega) (by omega) (by omega)]) (fun a b1 b2 => by rw [row_n (by omega), g a (by omega) (by omega) (by omega)]), t2, by omega⟩, i.fr (fun a ha => gI a (by omega)) (by rw [row_n (by decide)]; exact g2) (by omega), ⟨0, by omega, ?_, ?_, fun j hj => absurd hj (by omega)⟩, fun s hs4 => (hs s hs4).fr hs4 (fun a ha => gI a (by omega)) (by rw [gI 110 (by omega)]) (by rw [gI 111 (by omega)]) (fun j _ => by rw [gI 112 (by omega)]), ?_, hw1.fr (gI 108 (by omega)), hw2.fr (gI 107 (by omega))⟩
    · rw [row_n (by decide), g 89 (by omega) (by omega) (by omega)]; exact h89
    · rw [row_n (by decide)]; exact g6
    · rw [row_n (by decide), g4]; exact hz
end
