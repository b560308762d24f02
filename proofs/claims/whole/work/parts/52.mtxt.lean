/-! the model: text -/
def txF (C : Nat → Int32) (f k i : Nat) (s : (Nat → Int32) × Nat) : (Nat → Int32) × Nat :=
  let r := doM s.1 f (mOf s.1) k (C (4 * i)) (C (4 * i + 1)) (C (4 * i + 2)) (C (4 * i + 3))
  (r.2, s.2 + if nI 0 ≤ r.1 then 1 else 0)
def txS (C : Nat → Int32) (N : Nat → Int32) (f k : Nat) : Nat → (Nat → Int32) × Nat := itr (txF C f k) (N, 0)
theorem txS_ok {C N : Nat → Int32} {f k m : Nat} (h : Bnd N f k m) (hc : CarOk N m) : ∀ {n : Nat}, ∃ m', Bnd (txS C N f k n).1 f k m' ∧ CarOk (txS C N f k n).1 m'
  | 0 => ⟨m, h, hc⟩
  | n + 1 => by
    obtain ⟨m', h1, h2⟩ := txS_ok (C := C) h hc (n := n)
    have e := mOf_n h1.2.2.1 h1.2.2.2
    have h3 := doM_ok (w := C (4 * n)) (a := C (4 * n + 1)) (b := C (4 * n + 2)) (c := C (4 * n + 3)) h1 h2
    rw [← e] at h3
    exact h3
def txI (I : pI) (T : Nat) : pI := upd2 (stS I (rAll I T)) 102 6 (nI 0)
def txOk (I : pI) (T : Nat) : Bool := (rAll I T).1 && decide ((rAll I T).2.2.2.2.2 = nI 300)
def txV (I : pI) (T : Nat) (N : Nat → Int32) (f k : Nat) : Int32 := if txOk I T = true then nI (txS (rAll I T).2.1 N f k (rAll I T).2.2.1).2 else (-100) - (rAll I T).2.2.2.2.1
def txN (I : pI) (T : Nat) (N : Nat → Int32) (f k : Nat) : Nat → Int32 := if txOk I T = true then (txS (rAll I T).2.1 N f k (rAll I T).2.2.1).1 else N
section
variable {X : pX} {d : Nat} {I : pI} {Q : Option Value → pG → pI → Prop} {N : Nat → Int32}
theorem c_text {T f k m t : Nat} (hT : I 102 6 = nI T) (hT2 : T ≤ 60) (hW : WanOk I) (hB : Bnd N f k m) (hok : CarOk N m) (hI : I 102 4 = nI t) (ht : t < 4)
    (h : ∀ J, Sm t (txI I T) J → Q (some (.int (txV I T N f k))) G0 (row J 103 (txN I T N f k))) : Call X (d + 14) 211 [.ref 102] G0 (row I 103 N) Q := by
  have h0 := h _ Sm.refl
  have hcm := rAll_cm (I := I) hT2
  have e9 : txI I T 109 = (rAll I T).2.1 := by
    unfold txI
    funext j
    unfold upd2
    rw [if_neg (by omega)]
    unfold stS
    rw [stC_109]
  have e4 : txI I T 102 4 = nI t := by
    rw [← hI]
    rfl
  have e13 : txI I T 102 13 = nI (rAll I T).2.2.1 := rfl
  have e10 : txI I T 102 10 = (rAll I T).2.2.2.2.1 := rfl
  have rd := fun (Q' : Option Value → pG → pI → Prop) => c_readsAll (X := X) (d := d + 9) (I := I) (Q := Q') (N := N) hT hT2 hW
  have eI : upd2 (stS I (rAll I T)) 102 6 (nI 0) = txI I T := rfl
  have eO : ((rAll I T).1 && decide ((rAll I T).2.2.2.2.2 = nI 300)) = txOk I T := rfl
  simp (disch := first | exact ok_i | exact ok_r | exact ok_n | exact cat_i | exact cat_r | exact t103 | exact t106 | exact t108 | exact t109 | exact t110 | exact t111 | exact t112 | exact ro_0 | exact ro_1 | omega | assumption | (refine i103 ?_; omega) | (refine i106 ?_; omega) | (refine i108 ?_; omega) | (refine i109 ?_; omega) | (refine i110 ?_; omega) | (refine i111 ?_; omega) | (refine i112 ?_; omega) | (simp only [List.map_cons, List.map_nil, List.sum_cons, List.sum_nil, cat_i, cat_r, cat_l, Nat.reduceAdd, Nat.reduceLeDiff]; done) | decide) only [e211, s211_0, s211_1, s211_4, s211_5, s211_6, s211_7, s211_10, s211_11, tl_s, tl_n, nI_add, pk_mul, i_cl, row_s, u2_row, i_le, i_lt, i_eq, if_true, if_false, Nat.le_refl, Nat.reduceEqDiff, Nat.reduceLeDiff, rd, u2_n, eI, eO, b2i_0]
  unfold txV txN at h h0
  generalize txI I T = I2 at *
  generalize rAll I T = s at *
  cases h1 : txOk I T
  · simp only [h1, Bool.false_eq_true, if_false] at h0
    simp (disch := first | exact ok_i | exact ok_r | exact ok_n | exact cat_i | exact cat_r | exact t103 | exact t106 | exact t108 | exact t109 | exact t110 | exact t111 | exact t112 | exact ro_0 | exact ro_1 | omega | assumption | (refine i103 ?_; omega) | (refine i106 ?_; omega) | (refine i108 ?_; omega) | (refine i109 ?_; omega) | (refine i110 ?_; omega) | (refine i111 ?_; omega) | (refine i112 ?_; omega) | (simp only [List.map_cons, List.map_nil, List.sum_cons, List.sum_nil, cat_i, cat_r, cat_l, Nat.reduceAdd, Nat.reduceLeDiff]; done) | decide) only [s211_14, s211_16, s211_17, s211_20, s211_21, tl_s, tl_n, nI_add, pk_mul, i_cl, row_s, u2_row, i_le, i_lt, i_eq, if_true, if_false, Nat.le_refl, Nat.reduceEqDiff, Nat.reduceLeDiff, row_n, e10]
    exact h0
  · simp only [h1, if_true] at h
    simp (disch := first | exact ok_i | exact ok_r | exact ok_n | exact cat_i | exact cat_r | exact t103 | exact t106 | exact t108 | exact t109 | exact t110 | exact t111 | exact t112 | exact ro_0 | exact ro_1 | omega | assumption | (refine i103 ?_; omega) | (refine i106 ?_; omega) | (refine i108 ?_; omega) | (refine i109 ?_; omega) | (refine i110 ?_; omega) | (refine i111 ?_; omega) | (refine i112 ?_; omega) | (simp only [List.map_cons, List.map_nil, List.sum_cons, List.sum_nil, cat_i, cat_r, cat_l, Nat.reduceAdd, Nat.reduceLeDiff]; done) | decide) only [s211_22, s211_23, s211_24, s211_25, tl_s, tl_n, nI_add, pk_mul, i_cl, row_s, u2_row, i_le, i_lt, i_eq, if_true, if_false, Nat.le_refl, Nat.reduceEqDiff, Nat.reduceLeDiff, Bool.true_eq_false]
    have key : ∀ r, r ≤ s.2.2.1 → ∀ J, Sm t I2 J → At X (d + 13) 211 26 [some (.ref 102), some (.int (b2i true)), some (.int (nI (txS s.2.1 N f k (s.2.2.1 - r)).2)), some (.int (nI (s.2.2.1 - r)))] [] G0 (row J 103 (txS s.2.1 N f k (s.2.2.1 - r)).1) Q := by
      intro r
      induction r with
      | zero =>
        intro _ J hJ
        have hh := h J hJ
        have j13 : J 102 13 = nI s.2.2.1 := by rw [hJ.1 102 (by decide), e13]
        rw [s211_26]
        simp (disch := first | exact ok_i | exact ok_r | exact ok_n | exact cat_i | exact cat_r | exact t103 | exact t106 | exact t108 | exact t109 | exact t110 | exact t111 | exact t112 | exact ro_0 | exact ro_1 | omega | assumption | (refine i103 ?_; omega) | (refine i106 ?_; omega) | (refine i108 ?_; omega) | (refine i109 ?_; omega) | (refine i110 ?_; omega) | (refine i111 ?_; omega) | (refine i112 ?_; omega) | (simp only [List.map_cons, List.map_nil, List.sum_cons, List.sum_nil, cat_i, cat_r, cat_l, Nat.reduceAdd, Nat.reduceLeDiff]; done) | decide) only [s211_27, s211_28, s211_31, s211_56, s211_57, tl_s, tl_n, nI_add, pk_mul, i_cl, row_s, u2_row, i_le, i_lt, i_eq, if_true, if_false, Nat.le_refl, Nat.reduceEqDiff, Nat.reduceLeDiff, row_n, j13, Nat.sub_zero]
        exact hh
      | succ r ih =>
        intro hr J hJ
        have n1 : ¬ s.2.2.1 ≤ s.2.2.1 - (r + 1) := by omega
        have e1 : s.2.2.1 - (r + 1) + 1 = s.2.2.1 - r := by omega
        have j13 : J 102 13 = nI s.2.2.1 := by rw [hJ.1 102 (by decide), e13]
        have j4 : J 102 4 = nI t := by rw [hJ.1 102 (by decide), e4]
        have j9 : J 109 = s.2.1 := by rw [hJ.1 109 (by decide), e9]
        obtain ⟨m', b1, b2⟩ := txS_ok (C := s.2.1) hB hok (n := s.2.2.1 - (r + 1))
        have em := mOf_n b1.2.2.1 b1.2.2.2
        have e2 : txS s.2.1 N f k (s.2.2.1 - r) = txF s.2.1 f k (s.2.2.1 - (r + 1)) (txS s.2.1 N f k (s.2.2.1 - (r + 1))) := by rw [← e1]; rfl
        have ih' := ih (by omega)
        rw [e2] at ih'
        unfold txF at ih'
        dsimp only at ih'
        rw [em] at ih'
        generalize txS s.2.1 N f k (s.2.2.1 - (r + 1)) = u at *
        rw [s211_26]
        simp (disch := first | exact ok_i | exact ok_r | exact ok_n | exact cat_i | exact cat_r | exact t103 | exact t106 | exact t108 | exact t109 | exact t110 | exact t111 | exact t112 | exact ro_0 | exact ro_1 | omega | assumption | (refine i103 ?_; omega) | (refine i106 ?_; omega) | (refine i108 ?_; omega) | (refine i109 ?_; omega) | (refine i110 ?_; omega) | (refine i111 ?_; omega) | (refine i112 ?_; omega) | (simp only [List.map_cons, List.map_nil, List.sum_cons, List.sum_nil, cat_i, cat_r, cat_l, Nat.reduceAdd, Nat.reduceLeDiff]; done) | decide) only [s211_27, s211_28, s211_31, s211_34, s211_35, s211_36, tl_s, tl_n, nI_add, pk_mul, i_cl, row_s, u2_row, i_le, i_lt, i_eq, if_true, if_false, Nat.le_refl, Nat.reduceEqDiff, Nat.reduceLeDiff, row_n, j13, n1]
        rw [s211_37 (by simp only [List.map_cons, List.map_nil, List.sum_cons, List.sum_nil, cat_i, cat_r, cat_l, Nat.reduceAdd, Nat.reduceLeDiff])]
        refine c_does b1 b2 j4 ht (by omega) (fun J2 hJ2 => ?_)
        rw [j9]
        have ih2 := ih' J2 (hJ.trans hJ2)
        generalize doM u.1 f m' k (s.2.1 (4 * (s.2.2.1 - (r + 1)))) (s.2.1 (4 * (s.2.2.1 - (r + 1)) + 1)) (s.2.1 (4 * (s.2.2.1 - (r + 1)) + 2)) (s.2.1 (4 * (s.2.2.1 - (r + 1)) + 3)) = o at *
        rw [tl_s, s211_40]
        by_cases c4 : nI 0 ≤ o.1
        · have c4' : ¬ o.1 < nI 0 := Int32.not_lt.mpr c4
          rw [if_pos c4] at ih2
          simp (disch := first | exact ok_i | exact ok_r | exact ok_n | exact cat_i | exact cat_r | exact t103 | exact t106 | exact t108 | exact t109 | exact t110 | exact t111 | exact t112 | exact ro_0 | exact ro_1 | omega | assumption | (refine i103 ?_; omega) | (refine i106 ?_; omega) | (refine i108 ?_; omega) | (refine i109 ?_; omega) | (refine i110 ?_; omega) | (refine i111 ?_; omega) | (refine i112 ?_; omega) | (simp only [List.map_cons, List.map_nil, List.sum_cons, List.sum_nil, cat_i, cat_r, cat_l, Nat.reduceAdd, Nat.reduceLeDiff]; done) | decide) only [c4', s211_43, s211_44, s211_47, s211_48, s211_49, s211_50, s211_53, tl_s, tl_n, nI_add, pk_mul, i_cl, row_s, u2_row, i_le, i_lt, i_eq, if_true, if_false, Nat.le_refl, Nat.reduceEqDiff, Nat.reduceLeDiff, e1]
          exact ih2
        · have c4' : o.1 < nI 0 := Int32.not_le.mp c4
          rw [if_neg c4] at ih2
          simp (disch := first | exact ok_i | exact ok_r | exact ok_n | exact cat_i | exact cat_r | exact t103 | exact t106 | exact t108 | exact t109 | exact t110 | exact t111 | exact t112 | exact ro_0 | exact ro_1 | omega | assumption | (refine i103 ?_; omega) | (refine i106 ?_; omega) | (refine i108 ?_; omega) | (refine i109 ?_; omega) | (refine i110 ?_; omega) | (refine i111 ?_; omega) | (refine i112 ?_; omega) | (simp only [List.map_cons, List.map_nil, List.sum_cons, List.sum_nil, cat_i, cat_r, cat_l, Nat.reduceAdd, Nat.reduceLeDiff]; done) | decide) only [c4', s211_47, s211_48, s211_49, s211_50, s211_53, tl_s, tl_n, nI_add, pk_mul, i_cl, row_s, u2_row, i_le, i_lt, i_eq, if_true, if_false, Nat.le_refl, Nat.reduceEqDiff, Nat.reduceLeDiff, e1]
          exact ih2
    have k0 := key s.2.2.1 (Nat.le_refl _) I2 Sm.refl
    rw [Nat.sub_self] at k0
    exact k0
end
