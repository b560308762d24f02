/-! the model: telling, filming, loading -/
/-- the first number that is unlike, r are left of z -/
def unR (it : Nat → Int32) (m k c z : Nat) : Nat → (Nat → Int32) → Option Nat
  | 0, _ => none
  | r + 1, N => if cf (psS N m k).1 c 3 = it (z - (r + 1)) then unR it m k c z r (psS N m k).1 else some (z - (r + 1))
def unM (I : pI) (N : Nat → Int32) (m k c s z : Nat) : Option Nat := unR (fun i => I 112 (40 * s + i)) m k c z z N
theorem unR_lt {it : Nat → Int32} {m k c z a : Nat} : ∀ {r : Nat} {N : Nat → Int32}, r ≤ z → unR it m k c z r N = some a → a < z
  | 0, _, _, h => by cases h
  | r + 1, N, hr, h => by
    unfold unR at h
    by_cases c1 : cf (psS N m k).1 c 3 = it (z - (r + 1))
    · rw [if_pos c1] at h
      exact unR_lt (by omega) h
    · rw [if_neg c1] at h
      injection h with h
      omega
def lbF (I : pI) (N : Nat → Int32) (m k c s z j : Nat) (v : Nat) (b : Int32) : Int32 := b ||| (if (unM I (upd N (8 * c + j) (nI v)) m k c s z).isNone = true then shl (nI 1) (nI v) else nI 0)
def lbM (I : pI) (N : Nat → Int32) (m k c s z j : Nat) : Nat → Int32 := itr (lbF I N m k c s z j) (nI 0)
def telV (I : pI) (N : Nat → Int32) (m k z : Nat) (x y w : Int32) : Int32 := if (inL x 0 3 && inR y k && inL w 0 2) = true then (if I 110 (tN x) = -1 then -11 else if 30 < z then -2 else if w = nI 0 then o2i (unM I N m k (tN y) (tN x) z) else if w = nI 1 then lbM I N m k (tN y) (tN x) z 0 6 else lbM I N m k (tN y) (tN x) z 1 10) else -2
section
variable {X : pX} {d : Nat} {I : pI} {Q : Option Value → pG → pI → Prop} {N : Nat → Int32} {G : pG}
theorem c_unLoop {m k c s z : Nat} (hm4 : m ≤ 40) (hk4 : k ≤ 4) (hc : c < 4) (hs : s < 4) (hz : I 111 s = nI z) (hz4 : z ≤ 40) (N0 : Nat → Int32) : ∀ r, r ≤ z → ∀ N : Nat → Int32, N 446 = nI m → N 445 = nI k → (∀ j, 452 ≤ j → N j = N0 j) →
    (∀ N' l, (∀ j, 452 ≤ j → N' j = N0 j) → At X (d + 8) 216 64 [some (.ref 102), some (.int (nI s)), some (.int (nI c)), some (.int (o2i (unR (fun i => I 112 (40 * s + i)) m k c z r N))), l] [] G0 (row I 103 N') Q) →
    At X (d + 8) 216 9 [some (.ref 102), some (.int (nI s)), some (.int (nI c)), some (.int (-1)), some (.int (nI (z - r)))] [] G0 (row I 103 N) Q := by
  intro r
  induction r with
  | zero =>
    intro _ N hm hk hN h
    have hh := h N (some (.int (nI z))) hN
    unfold unR o2i at hh
    rw [s216_9]
    simp (disch := first | exact ok_i | exact ok_r | exact ok_n | exact cat_i | exact cat_r | exact t103 | exact t110 | exact t111 | exact t112 | exact ro_0 | exact ro_1 | omega | assumption | (refine i103 ?_; omega) | (refine i110 ?_; omega) | (refine i111 ?_; omega) | (refine i112 ?_; omega) | (simp only [List.map_cons, List.map_nil, List.sum_cons, List.sum_nil, cat_i, cat_r, cat_l, Nat.reduceAdd, Nat.reduceLeDiff]; done) | decide) only [s216_11, s216_12, s216_15, s216_16, s216_17, tl_s, tl_n, nI_add, pk_mul, i_cl, row_s, u2_row, i_le, i_lt, i_eq, if_true, if_false, Nat.le_refl, Nat.reduceEqDiff, Nat.reduceLeDiff, row_n, hz, Nat.sub_zero]
    exact hh
  | succ r ih =>
    intro hr N hm hk hN h
    have n1 : ¬ z ≤ z - (r + 1) := by omega
    have e1 : z - (r + 1) + 1 = z - r := by omega
    have hm2 : (psS N m k).1 446 = nI m := by rw [psS_o hm4 (by unfold fixP; omega) hk4, hm]
    have hk2 : (psS N m k).1 445 = nI k := by rw [psS_o hm4 (by unfold fixP; omega) hk4, hk]
    have hN2 : ∀ j, 452 ≤ j → (psS N m k).1 j = N0 j := fun j hj => by rw [psS_o hm4 (by unfold fixP; omega) hk4, hN j hj]
    have ih' := ih (by omega) (psS N m k).1 hm2 hk2 hN2
    unfold unR at h
    rw [s216_9]
    simp (disch := first | exact ok_i | exact ok_r | exact ok_n | exact cat_i | exact cat_r | exact t103 | exact t110 | exact t111 | exact t112 | exact ro_0 | exact ro_1 | omega | assumption | (refine i103 ?_; omega) | (refine i110 ?_; omega) | (refine i111 ?_; omega) | (refine i112 ?_; omega) | (simp only [List.map_cons, List.map_nil, List.sum_cons, List.sum_nil, cat_i, cat_r, cat_l, Nat.reduceAdd, Nat.reduceLeDiff]; done) | decide) only [s216_11, s216_12, s216_15, s216_16, s216_17, s216_20, s216_21, s216_22, s216_25, s216_26, s216_29, s216_30, s216_31, s216_32, s216_33, s216_36, s216_37, s216_40, s216_42, s216_43, s216_44, s216_46, s216_47, s216_48, tl_s, tl_n, nI_add, pk_mul, i_cl, row_s, u2_row, i_le, i_lt, i_eq, if_true, if_false, Nat.le_refl, Nat.reduceEqDiff, Nat.reduceLeDiff, row_n, hz, n1, c_passes hm hm4 hk hk4, c_of]
    by_cases h1 : cf (psS N m k).1 c 3 = I 112 (40 * s + (z - (r + 1)))
    · simp only [h1, if_true] at h
      simp (disch := first | exact ok_i | exact ok_r | exact ok_n | exact cat_i | exact cat_r | exact t103 | exact t110 | exact t111 | exact t112 | exact ro_0 | exact ro_1 | omega | assumption | (refine i103 ?_; omega) | (refine i110 ?_; omega) | (refine i111 ?_; omega) | (refine i112 ?_; omega) | (simp only [List.map_cons, List.map_nil, List.sum_cons, List.sum_nil, cat_i, cat_r, cat_l, Nat.reduceAdd, Nat.reduceLeDiff]; done) | decide) only [h1, s216_51, s216_52, s216_55, s216_57, s216_58, s216_61, tl_s, tl_n, nI_add, pk_mul, i_cl, row_s, u2_row, i_le, i_lt, i_eq, if_true, if_false, Nat.le_refl, Nat.reduceEqDiff, Nat.reduceLeDiff, e1]
      exact ih' h
    · simp only [h1, if_false] at h
      have hh := h (psS N m k).1 (some (.int (nI (z - r)))) hN2
      have n2 := nI_m1 (a := z - (r + 1)) (by omega)
      unfold o2i at hh
      simp (disch := first | exact ok_i | exact ok_r | exact ok_n | exact cat_i | exact cat_r | exact t103 | exact t110 | exact t111 | exact t112 | exact ro_0 | exact ro_1 | omega | assumption | (refine i103 ?_; omega) | (refine i110 ?_; omega) | (refine i111 ?_; omega) | (refine i112 ?_; omega) | (simp only [List.map_cons, List.map_nil, List.sum_cons, List.sum_nil, cat_i, cat_r, cat_l, Nat.reduceAdd, Nat.reduceLeDiff]; done) | decide) only [h1, s216_55, s216_57, s216_58, s216_61, tl_s, tl_n, nI_add, pk_mul, i_cl, row_s, u2_row, i_le, i_lt, i_eq, if_true, if_false, Nat.le_refl, Nat.reduceEqDiff, Nat.reduceLeDiff, e1]
      rw [s216_9]
      by_cases h2 : z ≤ z - r
      · simp (disch := first | exact ok_i | exact ok_r | exact ok_n | exact cat_i | exact cat_r | exact t103 | exact t110 | exact t111 | exact t112 | exact ro_0 | exact ro_1 | omega | assumption | (refine i103 ?_; omega) | (refine i110 ?_; omega) | (refine i111 ?_; omega) | (refine i112 ?_; omega) | (simp only [List.map_cons, List.map_nil, List.sum_cons, List.sum_nil, cat_i, cat_r, cat_l, Nat.reduceAdd, Nat.reduceLeDiff]; done) | decide) only [s216_11, s216_12, s216_15, s216_16, s216_17, tl_s, tl_n, nI_add, pk_mul, i_cl, row_s, u2_row, i_le, i_lt, i_eq, if_true, if_false, Nat.le_refl, Nat.reduceEqDiff, Nat.reduceLeDiff, row_n, hz, h2]
        exact hh
      · simp (disch := first | exact ok_i | exact ok_r | exact ok_n | exact cat_i | exact cat_r | exact t103 | exact t110 | exact t111 | exact t112 | exact ro_0 | exact ro_1 | omega | assumption | (refine i103 ?_; omega) | (refine i110 ?_; omega) | (refine i111 ?_; omega) | (refine i112 ?_; omega) | (simp only [List.map_cons, List.map_nil, List.sum_cons, List.sum_nil, cat_i, cat_r, cat_l, Nat.reduceAdd, Nat.reduceLeDiff]; done) | decide) only [s216_11, s216_12, s216_15, s216_16, s216_17, s216_20, s216_21, s216_22, tl_s, tl_n, nI_add, pk_mul, i_cl, row_s, u2_row, i_le, i_lt, i_eq, if_true, if_false, Nat.le_refl, Nat.reduceEqDiff, Nat.reduceLeDiff, row_n, hz, h2, n2]
        exact hh
theorem c_unlike {m k c s z t : Nat} (hm : N 446 = nI m) (hm4 : m ≤ 40) (hk : N 445 = nI k) (hk4 : k ≤ 4) (hc : c < 4) (hs : s < 4) (hz : I 111 s = nI z) (hz4 : z ≤ 40) (hI : I 102 4 = nI t) (ht : t < 4)
    (h : ∀ J, Sm t I J → Q (some (.int (o2i (unM I N m k c s z)))) G0 (row J 103 N)) : Call X (d + 9) 216 [.ref 102, .int (nI s), .int (nI c)] G0 (row I 103 N) Q := by
  simp (disch := first | exact ok_i | exact ok_r | exact ok_n | exact cat_i | exact cat_r | exact t103 | exact t110 | exact t111 | exact t112 | exact ro_0 | exact ro_1 | omega | assumption | (refine i103 ?_; omega) | (refine i110 ?_; omega) | (refine i111 ?_; omega) | (refine i112 ?_; omega) | (simp only [List.map_cons, List.map_nil, List.sum_cons, List.sum_nil, cat_i, cat_r, cat_l, Nat.reduceAdd, Nat.reduceLeDiff]; done) | decide) only [e216, s216_0, s216_1, s216_2, s216_3, s216_6, s216_7, tl_s, tl_n, nI_add, pk_mul, i_cl, row_s, u2_row, i_le, i_lt, i_eq, if_true, if_false, Nat.le_refl, Nat.reduceEqDiff, Nat.reduceLeDiff, c_thinks hI ht]
  have hz2 : thk I t N 111 s = nI z := by rw [thk_n (by decide) (by omega), hz]
  have hit : (fun i => thk I t N 112 (40 * s + i)) = (fun i => I 112 (40 * s + i)) := by
    funext i
    rw [thk_n (by decide) (by omega)]
  have key := c_unLoop (X := X) (d := d) (I := thk I t N) (Q := Q) hm4 hk4 hc hs hz2 hz4 N z (Nat.le_refl _) N hm hk (fun _ _ => rfl)
  rw [Nat.sub_self, hit] at key
  refine key (fun N' l hN' => ?_)
  have hb := back_N (N := N) (N' := N') (J := thk I t N) (I := I) (t := t) Sm.refl hN'
  have hh := h _ (thk_Sm (N := N) hI)
  unfold unM at hh
  simp (disch := first | exact ok_i | exact ok_r | exact ok_n | exact cat_i | exact cat_r | exact t103 | exact t110 | exact t111 | exact t112 | exact ro_0 | exact ro_1 | omega | assumption | (refine i103 ?_; omega) | (refine i110 ?_; omega) | (refine i111 ?_; omega) | (refine i112 ?_; omega) | (simp only [List.map_cons, List.map_nil, List.sum_cons, List.sum_nil, cat_i, cat_r, cat_l, Nat.reduceAdd, Nat.reduceLeDiff]; done) | decide) only [s216_64, s216_65, s216_68, s216_69, tl_s, tl_n, nI_add, pk_mul, i_cl, row_s, u2_row, i_le, i_lt, i_eq, if_true, if_false, Nat.le_refl, Nat.reduceEqDiff, Nat.reduceLeDiff, c_laysBack thk_102 ht, hb]
  exact hh
theorem unM_c {I J : pI} {t m k c s z : Nat} (h : Sm t I J) : unM J N m k c s z = unM I N m k c s z := by
  unfold unM
  rw [h.1 112 (by decide)]
theorem c_lbStep {m k c s z t j v most : Nat} {b w : Int32} (hm : N 446 = nI m) (hm4 : m ≤ 40) (hk : N 445 = nI k) (hk4 : k ≤ 4) (hc : c < 4) (hs : s < 4) (hz : I 111 s = nI z) (hz4 : z ≤ 40) (hI : I 102 4 = nI t) (ht : t < 4) (hj : j < 8) (hv : v ≤ most) (hmost : most ≤ 9) (u : Int32)
    (h : ∀ J, Sm t I J → At X (d + 9) 217 14 [some (.ref 102), some (.int (nI s)), some (.int (nI c)), some (.int (nI j)), some (.int (nI most)), some (.int w), some (.int (lbF I N m k c s z j v b)), some (.int (nI (v + 1)))] [] G0 (row J 103 (upd N (8 * c + j) (nI v))) Q) :
    At X (d + 9) 217 14 [some (.ref 102), some (.int (nI s)), some (.int (nI c)), some (.int (nI j)), some (.int (nI most)), some (.int w), some (.int b), some (.int (nI v))] [] G0 (row I 103 (upd N (8 * c + j) u)) Q := by
  have n1 : ¬ most < v := by omega
  have e1 : upd (upd N (8 * c + j) u) (8 * c + j) (nI v) = upd N (8 * c + j) (nI v) := by
    funext a
    unfold upd
    by_cases h1 : a = 8 * c + j <;> simp only [h1, if_true, if_false]
  have hm2 : upd N (8 * c + j) (nI v) 446 = nI m := by rw [up_n (by omega), hm]
  have hk2 : upd N (8 * c + j) (nI v) 445 = nI k := by rw [up_n (by omega), hk]
  rw [s217_14]
  simp (disch := first | exact ok_i | exact ok_r | exact ok_n | exact cat_i | exact cat_r | exact t103 | exact t110 | exact t111 | exact t112 | exact ro_0 | exact ro_1 | omega | assumption | (refine i103 ?_; omega) | (refine i110 ?_; omega) | (refine i111 ?_; omega) | (refine i112 ?_; omega) | (simp only [List.map_cons, List.map_nil, List.sum_cons, List.sum_nil, cat_i, cat_r, cat_l, Nat.reduceAdd, Nat.reduceLeDiff]; done) | decide) only [s217_16, s217_18, s217_21, s217_22, s217_23, s217_24, s217_26, s217_29, s217_31, s217_32, s217_33, tl_s, tl_n, nI_add, pk_mul, i_cl, row_s, u2_row, i_le, i_lt, i_eq, if_true, if_false, Nat.le_refl, Nat.reduceEqDiff, Nat.reduceLeDiff, n1, c_sets, e1]
  rw [s217_34 (by simp only [List.map_cons, List.map_nil, List.sum_cons, List.sum_nil, cat_i, cat_r, cat_l, Nat.reduceAdd, Nat.reduceLeDiff])]
  refine c_unlike hm2 hm4 hk2 hk4 hc hs hz hz4 hI ht (fun J hJ => ?_)
  have hh := h J hJ
  unfold lbF at hh
  cases h2 : unM I (upd N (8 * c + j) (nI v)) m k c s z with
  | none =>
    rw [h2] at hh
    simp (disch := first | exact ok_i | exact ok_r | exact ok_n | exact cat_i | exact cat_r | exact t103 | exact t110 | exact t111 | exact t112 | exact ro_0 | exact ro_1 | omega | assumption | (refine i103 ?_; omega) | (refine i110 ?_; omega) | (refine i111 ?_; omega) | (refine i112 ?_; omega) | (simp only [List.map_cons, List.map_nil, List.sum_cons, List.sum_nil, cat_i, cat_r, cat_l, Nat.reduceAdd, Nat.reduceLeDiff]; done) | decide) only [o2i, s217_37, s217_38, s217_41, s217_42, s217_44, s217_45, s217_48, s217_49, s217_50, s217_52, s217_55, tl_s, tl_n, nI_add, pk_mul, i_cl, row_s, u2_row, i_le, i_lt, i_eq, if_true, if_false, Nat.le_refl, Nat.reduceEqDiff, Nat.reduceLeDiff]
    exact hh
  | some a =>
    have ha : a < z := unR_lt (Nat.le_refl z) h2
    have n2 := nI_m1 (a := a) (by omega)
    rw [h2] at hh
    simp (disch := first | exact ok_i | exact ok_r | exact ok_n | exact cat_i | exact cat_r | exact t103 | exact t110 | exact t111 | exact t112 | exact ro_0 | exact ro_1 | omega | assumption | (refine i103 ?_; omega) | (refine i110 ?_; omega) | (refine i111 ?_; omega) | (refine i112 ?_; omega) | (simp only [List.map_cons, List.map_nil, List.sum_cons, List.sum_nil, cat_i, cat_r, cat_l, Nat.reduceAdd, Nat.reduceLeDiff]; done) | decide) only [o2i, n2, s217_37, s217_38, s217_48, s217_49, s217_50, s217_52, s217_55, tl_s, tl_n, nI_add, pk_mul, i_cl, row_s, u2_row, i_le, i_lt, i_eq, if_true, if_false, Nat.le_refl, Nat.reduceEqDiff, Nat.reduceLeDiff]
    exact hh
theorem c_likeBy {m k c s z t j most : Nat} (hm : N 446 = nI m) (hm4 : m ≤ 40) (hk : N 445 = nI k) (hk4 : k ≤ 4) (hc : c < 4) (hs : s < 4) (hz : I 111 s = nI z) (hz4 : z ≤ 40) (hI : I 102 4 = nI t) (ht : t < 4) (hj : j < 8) (hmost : most ≤ 9)
    (h : ∀ J, Sm t I J → Q (some (.int (lbM I N m k c s z j (most + 1)))) G0 (row J 103 N)) : Call X (d + 10) 217 [.ref 102, .int (nI s), .int (nI c), .int (nI j), .int (nI most)] G0 (row I 103 N) Q := by
  simp (disch := first | exact ok_i | exact ok_r | exact ok_n | exact cat_i | exact cat_r | exact t103 | exact t110 | exact t111 | exact t112 | exact ro_0 | exact ro_1 | omega | assumption | (refine i103 ?_; omega) | (refine i110 ?_; omega) | (refine i111 ?_; omega) | (refine i112 ?_; omega) | (simp only [List.map_cons, List.map_nil, List.sum_cons, List.sum_nil, cat_i, cat_r, cat_l, Nat.reduceAdd, Nat.reduceLeDiff]; done) | decide) only [e217, s217_0, s217_1, s217_2, s217_3, s217_6, s217_8, s217_9, s217_11, s217_12, tl_s, tl_n, nI_add, pk_mul, i_cl, row_s, u2_row, i_le, i_lt, i_eq, if_true, if_false, Nat.le_refl, Nat.reduceEqDiff, Nat.reduceLeDiff, c_of]
  have key : ∀ r, r ≤ most + 1 → ∀ J u, Sm t I J → At X (d + 9) 217 14 [some (.ref 102), some (.int (nI s)), some (.int (nI c)), some (.int (nI j)), some (.int (nI most)), some (.int (cf N c j)), some (.int (lbM I N m k c s z j (most + 1 - r))), some (.int (nI (most + 1 - r)))] [] G0 (row J 103 (upd N (8 * c + j) u)) Q := by
    intro r
    induction r with
    | zero =>
      intro _ J u hJ
      have n1 : most < most + 1 := by omega
      have hh := h J hJ
      have e1 : upd (upd N (8 * c + j) u) (8 * c + j) (cf N c j) = N := by
        funext a
        unfold upd
        by_cases h1 : a = 8 * c + j
        · simp only [h1, if_true, cf]
        · simp only [h1, if_false]
      rw [s217_14]
      simp (disch := first | exact ok_i | exact ok_r | exact ok_n | exact cat_i | exact cat_r | exact t103 | exact t110 | exact t111 | exact t112 | exact ro_0 | exact ro_1 | omega | assumption | (refine i103 ?_; omega) | (refine i110 ?_; omega) | (refine i111 ?_; omega) | (refine i112 ?_; omega) | (simp only [List.map_cons, List.map_nil, List.sum_cons, List.sum_nil, cat_i, cat_r, cat_l, Nat.reduceAdd, Nat.reduceLeDiff]; done) | decide) only [s217_16, s217_18, s217_58, s217_59, s217_60, s217_61, s217_63, s217_66, s217_68, tl_s, tl_n, nI_add, pk_mul, i_cl, row_s, u2_row, i_le, i_lt, i_eq, if_true, if_false, Nat.le_refl, Nat.reduceEqDiff, Nat.reduceLeDiff, n1, Nat.sub_zero, c_sets, e1]
      exact hh
    | succ r ih =>
      intro hr J u hJ
      have e1 : most + 1 - r = most + 1 - (r + 1) + 1 := by omega
      have hJz : J 111 s = nI z := by rw [hJ.1 111 (by decide), hz]
      have hJ4 : J 102 4 = nI t := by rw [hJ.1 102 (by decide), hI]
      refine c_lbStep hm hm4 hk hk4 hc hs hJz hz4 hJ4 ht hj (by omega) hmost u (fun J2 hJ2 => ?_)
      have ih' := ih (by omega) J2 (nI (most + 1 - (r + 1))) (hJ.trans hJ2)
      have e2 : lbM I N m k c s z j (most + 1 - r) = lbF J N m k c s z j (most + 1 - (r + 1)) (lbM I N m k c s z j (most + 1 - (r + 1))) := by
        rw [e1]
        show lbF I N m k c s z j (most + 1 - (r + 1)) (lbM I N m k c s z j (most + 1 - (r + 1))) = _
        unfold lbF
        rw [unM_c hJ]
      rw [e2, e1] at ih'
      exact ih'
  have k0 := key (most + 1) (Nat.le_refl _) I (cf N c j) Sm.refl
  have e0 : upd N (8 * c + j) (cf N c j) = N := by
    funext a
    unfold upd
    by_cases h1 : a = 8 * c + j
    · simp only [h1, if_true, cf]
    · simp only [h1, if_false]
  rw [Nat.sub_self, e0] at k0
  exact k0
theorem c_tells {m k z t : Nat} {x y w : Int32} (hm : N 446 = nI m) (hm4 : m ≤ 40) (hk : N 445 = nI k) (hk1 : 1 ≤ k) (hk4 : k ≤ 4) (hz : inL x 0 3 = true → I 111 (tN x) = nI z) (hz4 : z ≤ 40) (hI : I 102 4 = nI t) (ht : t < 4)
    (h : ∀ J, Sm t I J → Q (some (.int (telV I N m k z x y w))) G0 (row J 103 N)) : Call X (d + 11) 218 [.ref 102, .int x, .int y, .int w] G0 (row I 103 N) Q := by
  have h0 := h I Sm.refl
  unfold telV at h h0
  simp (disch := first | exact ok_i | exact ok_r | exact ok_n | exact cat_i | exact cat_r | exact t103 | exact t110 | exact t111 | exact t112 | exact ro_0 | exact ro_1 | omega | assumption | (refine i103 ?_; omega) | (refine i110 ?_; omega) | (refine i111 ?_; omega) | (refine i112 ?_; omega) | (simp only [List.map_cons, List.map_nil, List.sum_cons, List.sum_nil, cat_i, cat_r, cat_l, Nat.reduceAdd, Nat.reduceLeDiff]; done) | decide) only [e218, s218_0, s218_1, s218_4, tl_s, tl_n, nI_add, pk_mul, i_cl, row_s, u2_row, i_le, i_lt, i_eq, if_true, if_false, Nat.le_refl, Nat.reduceEqDiff, Nat.reduceLeDiff, c_isSheet, b2i_0]
  cases h1 : inL x 0 3
  · simp only [h1, Bool.false_and, Bool.false_eq_true, if_false] at h0
    simp (disch := first | exact ok_i | exact ok_r | exact ok_n | exact cat_i | exact cat_r | exact t103 | exact t110 | exact t111 | exact t112 | exact ro_0 | exact ro_1 | omega | assumption | (refine i103 ?_; omega) | (refine i110 ?_; omega) | (refine i111 ?_; omega) | (refine i112 ?_; omega) | (simp only [List.map_cons, List.map_nil, List.sum_cons, List.sum_nil, cat_i, cat_r, cat_l, Nat.reduceAdd, Nat.reduceLeDiff]; done) | decide) only [s218_27, s218_29, tl_s, tl_n, nI_add, pk_mul, i_cl, row_s, u2_row, i_le, i_lt, i_eq, if_true, if_false, Nat.le_refl, Nat.reduceEqDiff, Nat.reduceLeDiff]
    exact h0
  · simp only [h1, Bool.true_and] at h h0
    simp (disch := first | exact ok_i | exact ok_r | exact ok_n | exact cat_i | exact cat_r | exact t103 | exact t110 | exact t111 | exact t112 | exact ro_0 | exact ro_1 | omega | assumption | (refine i103 ?_; omega) | (refine i110 ?_; omega) | (refine i111 ?_; omega) | (refine i112 ?_; omega) | (simp only [List.map_cons, List.map_nil, List.sum_cons, List.sum_nil, cat_i, cat_r, cat_l, Nat.reduceAdd, Nat.reduceLeDiff]; done) | decide) only [s218_7, s218_8, s218_9, s218_12, tl_s, tl_n, nI_add, pk_mul, i_cl, row_s, u2_row, i_le, i_lt, i_eq, if_true, if_false, Nat.le_refl, Nat.reduceEqDiff, Nat.reduceLeDiff, c_car hk hk1 hk4, b2i_0, Bool.true_eq_false]
    cases h2 : inR y k
    · simp only [h2, Bool.false_and, Bool.false_eq_true, if_false] at h0
      simp (disch := first | exact ok_i | exact ok_r | exact ok_n | exact cat_i | exact cat_r | exact t103 | exact t110 | exact t111 | exact t112 | exact ro_0 | exact ro_1 | omega | assumption | (refine i103 ?_; omega) | (refine i110 ?_; omega) | (refine i111 ?_; omega) | (refine i112 ?_; omega) | (simp only [List.map_cons, List.map_nil, List.sum_cons, List.sum_nil, cat_i, cat_r, cat_l, Nat.reduceAdd, Nat.reduceLeDiff]; done) | decide) only [s218_27, s218_29, tl_s, tl_n, nI_add, pk_mul, i_cl, row_s, u2_row, i_le, i_lt, i_eq, if_true, if_false, Nat.le_refl, Nat.reduceEqDiff, Nat.reduceLeDiff]
      exact h0
    · simp only [h2, Bool.true_and] at h h0
      simp (disch := first | exact ok_i | exact ok_r | exact ok_n | exact cat_i | exact cat_r | exact t103 | exact t110 | exact t111 | exact t112 | exact ro_0 | exact ro_1 | omega | assumption | (refine i103 ?_; omega) | (refine i110 ?_; omega) | (refine i111 ?_; omega) | (refine i112 ?_; omega) | (simp only [List.map_cons, List.map_nil, List.sum_cons, List.sum_nil, cat_i, cat_r, cat_l, Nat.reduceAdd, Nat.reduceLeDiff]; done) | decide) only [s218_15, s218_16, s218_17, s218_18, s218_21, s218_24, tl_s, tl_n, nI_add, pk_mul, i_cl, row_s, u2_row, i_le, i_lt, i_eq, if_true, if_false, Nat.le_refl, Nat.reduceEqDiff, Nat.reduceLeDiff, c_inL, b2i_0, Bool.true_eq_false]
      cases h3 : inL w 0 2
      · simp only [h3, Bool.false_eq_true, if_false] at h0
        simp (disch := first | exact ok_i | exact ok_r | exact ok_n | exact cat_i | exact cat_r | exact t103 | exact t110 | exact t111 | exact t112 | exact ro_0 | exact ro_1 | omega | assumption | (refine i103 ?_; omega) | (refine i110 ?_; omega) | (refine i111 ?_; omega) | (refine i112 ?_; omega) | (simp only [List.map_cons, List.map_nil, List.sum_cons, List.sum_nil, cat_i, cat_r, cat_l, Nat.reduceAdd, Nat.reduceLeDiff]; done) | decide) only [s218_27, s218_29, tl_s, tl_n, nI_add, pk_mul, i_cl, row_s, u2_row, i_le, i_lt, i_eq, if_true, if_false, Nat.le_refl, Nat.reduceEqDiff, Nat.reduceLeDiff]
        exact h0
      · simp only [h3, if_true] at h h0
        obtain ⟨hx, hx1, hx2⟩ := inL_t h1
        obtain ⟨hy, hy1⟩ := inR_t h2
        have hz' := hz h1
        generalize tN x = s at *
        generalize tN y = c at *
        subst hx
        subst hy
        simp (disch := first | exact ok_i | exact ok_r | exact ok_n | exact cat_i | exact cat_r | exact t103 | exact t110 | exact t111 | exact t112 | exact ro_0 | exact ro_1 | omega | assumption | (refine i103 ?_; omega) | (refine i110 ?_; omega) | (refine i111 ?_; omega) | (refine i112 ?_; omega) | (simp only [List.map_cons, List.map_nil, List.sum_cons, List.sum_nil, cat_i, cat_r, cat_l, Nat.reduceAdd, Nat.reduceLeDiff]; done) | decide) only [s218_30, s218_31, s218_34, s218_35, s218_36, s218_37, tl_s, tl_n, nI_add, pk_mul, i_cl, row_s, u2_row, i_le, i_lt, i_eq, if_true, if_false, Nat.le_refl, Nat.reduceEqDiff, Nat.reduceLeDiff, row_n, Bool.true_eq_false]
        by_cases h4 : I 110 s = -1
        · simp only [h4, if_true] at h0
          simp (disch := first | exact ok_i | exact ok_r | exact ok_n | exact cat_i | exact cat_r | exact t103 | exact t110 | exact t111 | exact t112 | exact ro_0 | exact ro_1 | omega | assumption | (refine i103 ?_; omega) | (refine i110 ?_; omega) | (refine i111 ?_; omega) | (refine i112 ?_; omega) | (simp only [List.map_cons, List.map_nil, List.sum_cons, List.sum_nil, cat_i, cat_r, cat_l, Nat.reduceAdd, Nat.reduceLeDiff]; done) | decide) only [h4, s218_40, s218_42, tl_s, tl_n, nI_add, pk_mul, i_cl, row_s, u2_row, i_le, i_lt, i_eq, if_true, if_false, Nat.le_refl, Nat.reduceEqDiff, Nat.reduceLeDiff]
          exact h0
        · simp only [h4, if_false] at h h0
          simp (disch := first | exact ok_i | exact ok_r | exact ok_n | exact cat_i | exact cat_r | exact t103 | exact t110 | exact t111 | exact t112 | exact ro_0 | exact ro_1 | omega | assumption | (refine i103 ?_; omega) | (refine i110 ?_; omega) | (refine i111 ?_; omega) | (refine i112 ?_; omega) | (simp only [List.map_cons, List.map_nil, List.sum_cons, List.sum_nil, cat_i, cat_r, cat_l, Nat.reduceAdd, Nat.reduceLeDiff]; done) | decide) only [h4, s218_43, s218_44, s218_47, s218_48, s218_49, s218_51, tl_s, tl_n, nI_add, pk_mul, i_cl, row_s, u2_row, i_le, i_lt, i_eq, if_true, if_false, Nat.le_refl, Nat.reduceEqDiff, Nat.reduceLeDiff, row_n, hz']
          by_cases h5 : 30 < z
          · have h5' : ¬ z ≤ 30 := by omega
            simp only [h5, if_true] at h0
            simp (disch := first | exact ok_i | exact ok_r | exact ok_n | exact cat_i | exact cat_r | exact t103 | exact t110 | exact t111 | exact t112 | exact ro_0 | exact ro_1 | omega | assumption | (refine i103 ?_; omega) | (refine i110 ?_; omega) | (refine i111 ?_; omega) | (refine i112 ?_; omega) | (simp only [List.map_cons, List.map_nil, List.sum_cons, List.sum_nil, cat_i, cat_r, cat_l, Nat.reduceAdd, Nat.reduceLeDiff]; done) | decide) only [h5', s218_54, s218_56, tl_s, tl_n, nI_add, pk_mul, i_cl, row_s, u2_row, i_le, i_lt, i_eq, if_true, if_false, Nat.le_refl, Nat.reduceEqDiff, Nat.reduceLeDiff]
            exact h0
          · have h5' : z ≤ 30 := by omega
            simp only [h5, if_false] at h
            simp (disch := first | exact ok_i | exact ok_r | exact ok_n | exact cat_i | exact cat_r | exact t103 | exact t110 | exact t111 | exact t112 | exact ro_0 | exact ro_1 | omega | assumption | (refine i103 ?_; omega) | (refine i110 ?_; omega) | (refine i111 ?_; omega) | (refine i112 ?_; omega) | (simp only [List.map_cons, List.map_nil, List.sum_cons, List.sum_nil, cat_i, cat_r, cat_l, Nat.reduceAdd, Nat.reduceLeDiff]; done) | decide) only [h5', s218_57, s218_58, tl_s, tl_n, nI_add, pk_mul, i_cl, row_s, u2_row, i_le, i_lt, i_eq, if_true, if_false, Nat.le_refl, Nat.reduceEqDiff, Nat.reduceLeDiff]
            by_cases h6 : w = nI 0
            · simp only [h6, if_true] at h
              simp (disch := first | exact ok_i | exact ok_r | exact ok_n | exact cat_i | exact cat_r | exact t103 | exact t110 | exact t111 | exact t112 | exact ro_0 | exact ro_1 | omega | assumption | (refine i103 ?_; omega) | (refine i110 ?_; omega) | (refine i111 ?_; omega) | (refine i112 ?_; omega) | (simp only [List.map_cons, List.map_nil, List.sum_cons, List.sum_nil, cat_i, cat_r, cat_l, Nat.reduceAdd, Nat.reduceLeDiff]; done) | decide) only [h6, s218_61, s218_62, s218_63, tl_s, tl_n, nI_add, pk_mul, i_cl, row_s, u2_row, i_le, i_lt, i_eq, if_true, if_false, Nat.le_refl, Nat.reduceEqDiff, Nat.reduceLeDiff]
              rw [s218_64 (by simp only [List.map_cons, List.map_nil, List.sum_cons, List.sum_nil, cat_i, cat_r, cat_l, Nat.reduceAdd, Nat.reduceLeDiff])]
              refine c_unlike hm hm4 hk hk4 (by omega) (by omega) hz' hz4 hI ht (fun J hJ => ?_)
              simp (disch := first | exact ok_i | exact ok_r | exact ok_n | exact cat_i | exact cat_r | exact t103 | exact t110 | exact t111 | exact t112 | exact ro_0 | exact ro_1 | omega | assumption | (refine i103 ?_; omega) | (refine i110 ?_; omega) | (refine i111 ?_; omega) | (refine i112 ?_; omega) | (simp only [List.map_cons, List.map_nil, List.sum_cons, List.sum_nil, cat_i, cat_r, cat_l, Nat.reduceAdd, Nat.reduceLeDiff]; done) | decide) only [s218_67, s218_95, tl_s, tl_n, nI_add, pk_mul, i_cl, row_s, u2_row, i_le, i_lt, i_eq, if_true, if_false, Nat.le_refl, Nat.reduceEqDiff, Nat.reduceLeDiff]
              exact h J hJ
            · simp only [h6, if_false] at h
              simp (disch := first | exact ok_i | exact ok_r | exact ok_n | exact cat_i | exact cat_r | exact t103 | exact t110 | exact t111 | exact t112 | exact ro_0 | exact ro_1 | omega | assumption | (refine i103 ?_; omega) | (refine i110 ?_; omega) | (refine i111 ?_; omega) | (refine i112 ?_; omega) | (simp only [List.map_cons, List.map_nil, List.sum_cons, List.sum_nil, cat_i, cat_r, cat_l, Nat.reduceAdd, Nat.reduceLeDiff]; done) | decide) only [h6, s218_70, s218_71, s218_72, tl_s, tl_n, nI_add, pk_mul, i_cl, row_s, u2_row, i_le, i_lt, i_eq, if_true, if_false, Nat.le_refl, Nat.reduceEqDiff, Nat.reduceLeDiff]
              by_cases h7 : w = nI 1
              · simp only [h7, if_true] at h
                simp (disch := first | exact ok_i | exact ok_r | exact ok_n | exact cat_i | exact cat_r | exact t103 | exact t110 | exact t111 | exact t112 | exact ro_0 | exact ro_1 | omega | assumption | (refine i103 ?_; omega) | (refine i110 ?_; omega) | (refine i111 ?_; omega) | (refine i112 ?_; omega) | (simp only [List.map_cons, List.map_nil, List.sum_cons, List.sum_nil, cat_i, cat_r, cat_l, Nat.reduceAdd, Nat.reduceLeDiff]; done) | decide) only [h7, s218_75, s218_76, s218_77, s218_78, s218_79, tl_s, tl_n, nI_add, pk_mul, i_cl, row_s, u2_row, i_le, i_lt, i_eq, if_true, if_false, Nat.le_refl, Nat.reduceEqDiff, Nat.reduceLeDiff]
                rw [s218_80 (by simp only [List.map_cons, List.map_nil, List.sum_cons, List.sum_nil, cat_i, cat_r, cat_l, Nat.reduceAdd, Nat.reduceLeDiff])]
                refine c_likeBy hm hm4 hk hk4 (by omega) (by omega) hz' hz4 hI ht (by omega) (by omega) (fun J hJ => ?_)
                simp (disch := first | exact ok_i | exact ok_r | exact ok_n | exact cat_i | exact cat_r | exact t103 | exact t110 | exact t111 | exact t112 | exact ro_0 | exact ro_1 | omega | assumption | (refine i103 ?_; omega) | (refine i110 ?_; omega) | (refine i111 ?_; omega) | (refine i112 ?_; omega) | (simp only [List.map_cons, List.map_nil, List.sum_cons, List.sum_nil, cat_i, cat_r, cat_l, Nat.reduceAdd, Nat.reduceLeDiff]; done) | decide) only [s218_83, s218_95, tl_s, tl_n, nI_add, pk_mul, i_cl, row_s, u2_row, i_le, i_lt, i_eq, if_true, if_false, Nat.le_refl, Nat.reduceEqDiff, Nat.reduceLeDiff]
                exact h J hJ
              · simp only [h7, if_false] at h
                simp (disch := first | exact ok_i | exact ok_r | exact ok_n | exact cat_i | exact cat_r | exact t103 | exact t110 | exact t111 | exact t112 | exact ro_0 | exact ro_1 | omega | assumption | (refine i103 ?_; omega) | (refine i110 ?_; omega) | (refine i111 ?_; omega) | (refine i112 ?_; omega) | (simp only [List.map_cons, List.map_nil, List.sum_cons, List.sum_nil, cat_i, cat_r, cat_l, Nat.reduceAdd, Nat.reduceLeDiff]; done) | decide) only [h7, s218_86, s218_87, s218_88, s218_89, s218_90, tl_s, tl_n, nI_add, pk_mul, i_cl, row_s, u2_row, i_le, i_lt, i_eq, if_true, if_false, Nat.le_refl, Nat.reduceEqDiff, Nat.reduceLeDiff]
                rw [s218_92 (by simp only [List.map_cons, List.map_nil, List.sum_cons, List.sum_nil, cat_i, cat_r, cat_l, Nat.reduceAdd, Nat.reduceLeDiff])]
                refine c_likeBy hm hm4 hk hk4 (by omega) (by omega) hz' hz4 hI ht (by omega) (by omega) (fun J hJ => ?_)
                simp (disch := first | exact ok_i | exact ok_r | exact ok_n | exact cat_i | exact cat_r | exact t103 | exact t110 | exact t111 | exact t112 | exact ro_0 | exact ro_1 | omega | assumption | (refine i103 ?_; omega) | (refine i110 ?_; omega) | (refine i111 ?_; omega) | (refine i112 ?_; omega) | (simp only [List.map_cons, List.map_nil, List.sum_cons, List.sum_nil, cat_i, cat_r, cat_l, Nat.reduceAdd, Nat.reduceLeDiff]; done) | decide) only [s218_95, tl_s, tl_n, nI_add, pk_mul, i_cl, row_s, u2_row, i_le, i_lt, i_eq, if_true, if_false, Nat.le_refl, Nat.reduceEqDiff, Nat.reduceLeDiff]
                exact h J hJ
end
