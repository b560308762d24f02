/-! the model: clauses keep the bounds -/
theorem Bnd.of {N N' : Nat → Int32} {f k m : Nat} (h : Bnd N f k m) (h4 : N' 444 = N 444) (h5 : N' 445 = N 445) (h6 : N' 446 = N 446) : Bnd N' f k m :=
  ⟨⟨by rw [h4]; exact h.1.1, h.1.2⟩, ⟨by rw [h5]; exact h.2.1.1, h.2.1.2⟩, by rw [h6]; exact h.2.2.1, h.2.2.2⟩
theorem doM_ok {N : Nat → Int32} {f k m : Nat} {w a b c : Int32} (h : Bnd N f k m) (hc : CarOk N m) : ∃ m', Bnd (doM N f m k w a b c).2 f k m' ∧ CarOk (doM N f m k w a b c).2 m' := by
  have hh := h
  obtain ⟨⟨hf, hf1, hf4⟩, ⟨hk, hk1, hk4⟩, hm, hm4⟩ := hh
  unfold doM
  by_cases w0 : w = nI 0
  · rw [if_pos w0]; exact cl_car h hc
  · rw [if_neg w0]
    by_cases w1 : w = nI 1
    · rw [if_pos w1]
      dsimp only
      split
      · obtain ⟨t1, t2⟩ := tsS_ok (N := N) (n := tN a) hm4 hk4
        exact ⟨m, h.of (t1 _ (by unfold fixP; omega)) (t1 _ (by unfold fixP; omega)) (t1 _ (by unfold fixP; omega)), (keep_tsS hm4 hk4).ok hm4 hc⟩
      · exact ⟨m, h, hc⟩
    · rw [if_neg w1]
      by_cases w2 : w = nI 2
      · rw [if_pos w2]
        dsimp only
        unfold givN
        split
        · rename_i g1
          rw [Bool.and_eq_true] at g1
          obtain ⟨_, gx⟩ := inR_t g1.1
          obtain ⟨_, gy⟩ := inR_t g1.2
          split
          · exact ⟨m, h.of (anewN_o (by omega) (by omega) (by omega) (by omega)) (anewN_o (by omega) (by omega) (by omega) (by omega)) (anewN_o (by omega) (by omega) (by omega) (by omega)), hc.anew hm4 gx (by omega)⟩
          · exact ⟨m, h, hc⟩
        · exact ⟨m, h, hc⟩
      · rw [if_neg w2]
        by_cases w3 : w = nI 3
        · rw [if_pos w3]
          dsimp only
          unfold wayN
          split
          · exact ⟨m, h.of (up_n (by omega)) (up_n (by omega)) (up_n (by omega)), (keep_u (by omega)).ok hm4 hc⟩
          · exact ⟨m, h, hc⟩
        · rw [if_neg w3]
          by_cases w4 : w = nI 4
          · rw [if_pos w4]
            dsimp only
            obtain ⟨r1, r2, _⟩ := rgS_ok hm4 hk1 hk4 hc (Nat.le_refl m)
            exact ⟨m, h.of (r2 _ (by omega) (by omega)) (r2 _ (by omega) (by omega)) (r2 _ (by omega) (by omega)), r1⟩
          · rw [if_neg w4]
            dsimp only
            obtain ⟨p1, _, _⟩ := pkS_ok (N := N) (m := m) (f := f) hk4
            refine ⟨m, h.of (p1 _ (by omega)) (p1 _ (by omega)) (p1 _ (by omega)), fun g hg => ?_⟩
            obtain ⟨c0, h1, h2⟩ := hc g hg
            refine ⟨c0, h1, ?_⟩
            rw [← h2]
            exact p1 _ (by omega)
theorem raF_cm {I : pI} {T : Nat} {s : rS} (h : s.2.2.2.1 ≤ T) (h2 : 2 * s.2.2.1 ≤ s.2.2.2.1) (hT : T ≤ 60) : (raF I T s).2.2.1 ≤ 30 := by
  have f := (raF_ok (I := I) (T := T) (s := s) h h2).2
  unfold raF
  dsimp only
  by_cases c : (rdM I T s.2.2.1 s.2.1 s.2.2.2.1).1 = true
  · rw [if_pos c]
    have hw : inL (nxT I T s.2.2.2.1) 0 5 = true := by
      unfold rdM rcM at c
      by_cases e : inL (nxT I T s.2.2.2.1) 0 5 = true
      · exact e
      · rw [if_neg e] at c
        cases c
    have := f hw
    omega
  · rw [if_neg c]
    omega
theorem raR_cm {I : pI} {T : Nat} (hT : T ≤ 60) : ∀ {r : Nat} {s : rS}, raOk T s → s.2.2.1 ≤ 30 → (raR I T r s).2.2.1 ≤ 30
  | 0, _, _, h2 => h2
  | r + 1, s, h, h2 => by
    unfold raR
    by_cases c : (s.1 && decide (s.2.2.2.2.2 = nI 200)) = true
    · rw [if_pos c]
      rw [Bool.and_eq_true, decide_eq_true_eq] at c
      have h3 := h.2 c.1 c.2
      exact raR_cm hT (raF_ok h.1 h3).1 (raF_cm h.1 h3 hT)
    · rw [if_neg c]
      exact h2
theorem rAll_cm {I : pI} {T : Nat} (hT : T ≤ 60) : (rAll I T).2.2.1 ≤ 30 := by
  unfold rAll
  have h1 : (rIn I).2.2.2.1 ≤ T := Nat.zero_le _
  have h2 : 2 * (rIn I).2.2.1 ≤ (rIn I).2.2.2.1 := Nat.le_refl _
  exact raR_cm hT (raF_ok h1 h2).1 (raF_cm h1 h2 hT)
