/-! the model: the end, in thought -/
theorem nI_m1 {a : Nat} (h : a < 2147483648) : (nI a = -1) = False := by
  apply propext
  refine ⟨fun e => ?_, False.elim⟩
  have e2 := congrArg Int32.toInt e
  rw [i_toInt h] at e2
  have e3 : (-1 : Int32).toInt = -1 := by decide
  omega
def onR (N : Nat → Int32) (m : Nat) : Nat → Option Nat
  | 0 => none
  | r + 1 => if gf N (m - (r + 1)) 4 = nI 0 then some (m - (r + 1)) else onR N m r
theorem onR_lt {N : Nat → Int32} {m a : Nat} : ∀ {r : Nat}, r ≤ m → onR N m r = some a → a < m ∧ gf N a 4 = nI 0
  | 0, _, h => by cases h
  | r + 1, hr, h => by
    unfold onR at h
    by_cases c : gf N (m - (r + 1)) 4 = nI 0
    · rw [if_pos c] at h
      injection h with h
      subst h
      exact ⟨by omega, c⟩
    · rw [if_neg c] at h
      exact onR_lt (by omega) h
def lgF (N : Nat → Int32) (g : Nat) (s : Option Nat × Int32) : Option Nat × Int32 := if ¬ gf N g 4 = nI 0 ∧ s.2 < gf N g 6 then (some g, gf N g 6) else s
def lgS (N : Nat → Int32) : Nat → Option Nat × Int32 := itr (lgF N) (none, -1)
theorem lgS_lt {N : Nat → Int32} {a : Nat} : ∀ {n : Nat}, (lgS N n).1 = some a → a < n
  | 0, h => by cases h
  | n + 1, h => by
    have ih := lgS_lt (N := N) (a := a) (n := n)
    have h' : (lgF N n (lgS N n)).1 = some a := h
    unfold lgF at h'
    by_cases c : ¬ gf N n 4 = nI 0 ∧ (lgS N n).2 < gf N n 6
    · rw [if_pos c] at h'
      injection h' with h'
      omega
    · rw [if_neg c] at h'
      have := ih h'
      omega
def lwM (N : Nat → Int32) (m : Nat) : Int32 := match (lgS N m).1 with
  | none => -1
  | some g => gf N g 6
def oldV (N : Nat → Int32) (m : Nat) (x : Int32) : Int32 :=
  if x = nI 0 then o2i (onR N m m) else if x = nI 1 then (match onR N m m with | none => -1 | some g => N 447 - gf N g 5) else if x = nI 2 then o2i (lgS N m).1 else if x = nI 3 then lwM N m else if x = nI 4 then N 450 else -2
def dnR (m k : Nat) : Nat → (Nat → Int32) → (Nat → Int32) × Nat
  | 0, N => (N, 0)
  | r + 1, N => if 0 < manyM N (nI 0) m + manyM N (nI 1) m then ((dnR m k r (psS N m k).1).1, (dnR m k r (psS N m k).1).2 + 1) else (N, 0)
theorem dnR_le {m k : Nat} : ∀ {r : Nat} {N : Nat → Int32}, (dnR m k r N).2 ≤ r
  | 0, _ => Nat.le_refl _
  | r + 1, N => by
    have h := dnR_le (m := m) (k := k) (r := r) (N := (psS N m k).1)
    unfold dnR
    split
    · dsimp only; omega
    · exact Nat.zero_le _
theorem dnR_o {m k a : Nat} (hm4 : m ≤ 40) (hk4 : k ≤ 4) (h : fixP a) : ∀ {r : Nat} {N : Nat → Int32}, (dnR m k r N).1 a = N a
  | 0, _ => rfl
  | r + 1, N => by
    unfold dnR
    split
    · dsimp only
      rw [dnR_o hm4 hk4 h, psS_o hm4 h hk4]
    · rfl
def dnV (N : Nat → Int32) (m k : Nat) (x : Int32) : Int32 :=
  if x = nI 0 then (if 0 < manyM (dnR m k 2500 N).1 (nI 0) m + manyM (dnR m k 2500 N).1 (nI 1) m then -1 else nI (dnR m k 2500 N).2)
  else if x = nI 1 then lwM (dnR m k 2500 N).1 m else (dnR m k 2500 N).1 450
section
variable {X : pX} {d : Nat} {I : pI} {Q : Option Value → pG → pI → Prop} {N : Nat → Int32} {G : pG}
theorem c_oldestNow {m : Nat} (hm : N 446 = nI m) (hm4 : m ≤ 40) : Call X (d + 3) 191 [.ref 102] G0 (row I 103 N) Q ↔ Q (some (.int (o2i (onR N m m)))) G0 (row I 103 N) := by
  simp (disch := first | exact ok_i | exact ok_r | exact ok_n | exact cat_i | exact cat_r | exact t103 | exact ro_0 | exact ro_1 | omega | assumption | (refine i103 ?_; omega) | (simp only [List.map_cons, List.map_nil, List.sum_cons, List.sum_nil, cat_i, cat_r, cat_l, Nat.reduceAdd, Nat.reduceLeDiff]; done) | decide) only [e191, s191_0, s191_1, tl_s, tl_n, nI_add, pk_mul, i_cl, row_s, u2_row, i_le, i_lt, i_eq, if_true, if_false, Nat.le_refl, Nat.reduceEqDiff, Nat.reduceLeDiff]
  have key : ∀ r, r ≤ m → (At X (d + 2) 191 2 [some (.ref 102), some (.int (nI (m - r)))] [] G0 (row I 103 N) Q ↔ Q (some (.int (o2i (onR N m r)))) G0 (row I 103 N)) := by
    intro r
    induction r with
    | zero =>
      intro _
      simp (disch := first | exact ok_i | exact ok_r | exact ok_n | exact cat_i | exact cat_r | exact t103 | exact ro_0 | exact ro_1 | omega | assumption | (refine i103 ?_; omega) | (simp only [List.map_cons, List.map_nil, List.sum_cons, List.sum_nil, cat_i, cat_r, cat_l, Nat.reduceAdd, Nat.reduceLeDiff]; done) | decide) only [s191_2, s191_3, s191_4, s191_7, s191_10, s191_11, s191_30, s191_31, tl_s, tl_n, nI_add, pk_mul, i_cl, row_s, u2_row, i_le, i_lt, i_eq, if_true, if_false, Nat.le_refl, Nat.reduceEqDiff, Nat.reduceLeDiff, hm, Nat.sub_zero, onR, o2i]
    | succ r ih =>
      intro hr
      have n1 : ¬ m ≤ m - (r + 1) := by omega
      have e1 : m - (r + 1) + 1 = m - r := by omega
      have ih' := ih (by omega)
      rw [s191_2]
      simp (disch := first | exact ok_i | exact ok_r | exact ok_n | exact cat_i | exact cat_r | exact t103 | exact ro_0 | exact ro_1 | omega | assumption | (refine i103 ?_; omega) | (simp only [List.map_cons, List.map_nil, List.sum_cons, List.sum_nil, cat_i, cat_r, cat_l, Nat.reduceAdd, Nat.reduceLeDiff]; done) | decide) only [s191_3, s191_4, s191_7, s191_10, s191_11, s191_14, s191_15, s191_16, s191_19, tl_s, tl_n, nI_add, pk_mul, i_cl, row_s, u2_row, i_le, i_lt, i_eq, if_true, if_false, Nat.le_refl, Nat.reduceEqDiff, Nat.reduceLeDiff, hm, n1, c_pass, b2i_0]
      unfold onR
      by_cases h1 : gf N (m - (r + 1)) 4 = nI 0
      · simp (disch := first | exact ok_i | exact ok_r | exact ok_n | exact cat_i | exact cat_r | exact t103 | exact ro_0 | exact ro_1 | omega | assumption | (refine i103 ?_; omega) | (simp only [List.map_cons, List.map_nil, List.sum_cons, List.sum_nil, cat_i, cat_r, cat_l, Nat.reduceAdd, Nat.reduceLeDiff]; done) | decide) only [h1, decide_true, Bool.true_eq_false, s191_22, s191_23, tl_s, tl_n, nI_add, pk_mul, i_cl, row_s, u2_row, i_le, i_lt, i_eq, if_true, if_false, Nat.le_refl, Nat.reduceEqDiff, Nat.reduceLeDiff, o2i]
      · simp (disch := first | exact ok_i | exact ok_r | exact ok_n | exact cat_i | exact cat_r | exact t103 | exact ro_0 | exact ro_1 | omega | assumption | (refine i103 ?_; omega) | (simp only [List.map_cons, List.map_nil, List.sum_cons, List.sum_nil, cat_i, cat_r, cat_l, Nat.reduceAdd, Nat.reduceLeDiff]; done) | decide) only [h1, decide_false, s191_24, s191_27, tl_s, tl_n, nI_add, pk_mul, i_cl, row_s, u2_row, i_le, i_lt, i_eq, if_true, if_false, Nat.le_refl, Nat.reduceEqDiff, Nat.reduceLeDiff, e1, ih']
  have k0 := key m (Nat.le_refl _)
  rw [Nat.sub_self] at k0
  exact k0
theorem c_longest {m : Nat} (hm : N 446 = nI m) (hm4 : m ≤ 40) : Call X (d + 3) 192 [.ref 102] G0 (row I 103 N) Q ↔ Q (some (.int (o2i (lgS N m).1))) G0 (row I 103 N) := by
  simp (disch := first | exact ok_i | exact ok_r | exact ok_n | exact cat_i | exact cat_r | exact t103 | exact ro_0 | exact ro_1 | omega | assumption | (refine i103 ?_; omega) | (simp only [List.map_cons, List.map_nil, List.sum_cons, List.sum_nil, cat_i, cat_r, cat_l, Nat.reduceAdd, Nat.reduceLeDiff]; done) | decide) only [e192, s192_0, s192_1, s192_2, s192_3, s192_4, s192_5, tl_s, tl_n, nI_add, pk_mul, i_cl, row_s, u2_row, i_le, i_lt, i_eq, if_true, if_false, Nat.le_refl, Nat.reduceEqDiff, Nat.reduceLeDiff]
  refine loop_up (P := fun g => At X (d + 2) 192 6 [some (.ref 102), some (.int (o2i (lgS N g).1)), some (.int (lgS N g).2), some (.int (nI g))] [] G0 (row I 103 N) Q) (n := m) ?_ ?_ 0 (Nat.zero_le _)
  · simp (disch := first | exact ok_i | exact ok_r | exact ok_n | exact cat_i | exact cat_r | exact t103 | exact ro_0 | exact ro_1 | omega | assumption | (refine i103 ?_; omega) | (simp only [List.map_cons, List.map_nil, List.sum_cons, List.sum_nil, cat_i, cat_r, cat_l, Nat.reduceAdd, Nat.reduceLeDiff]; done) | decide) only [s192_6, s192_7, s192_8, s192_11, s192_14, s192_15, s192_53, s192_54, tl_s, tl_n, nI_add, pk_mul, i_cl, row_s, u2_row, i_le, i_lt, i_eq, if_true, if_false, Nat.le_refl, Nat.reduceEqDiff, Nat.reduceLeDiff, hm]
  · intro g hg
    have n1 : ¬ m ≤ g := by omega
    have e1 : lgS N (g + 1) = lgF N g (lgS N g) := rfl
    rw [s192_6, e1]
    simp (disch := first | exact ok_i | exact ok_r | exact ok_n | exact cat_i | exact cat_r | exact t103 | exact ro_0 | exact ro_1 | omega | assumption | (refine i103 ?_; omega) | (simp only [List.map_cons, List.map_nil, List.sum_cons, List.sum_nil, cat_i, cat_r, cat_l, Nat.reduceAdd, Nat.reduceLeDiff]; done) | decide) only [s192_7, s192_8, s192_11, s192_14, s192_15, s192_18, s192_19, s192_20, s192_23, tl_s, tl_n, nI_add, pk_mul, i_cl, row_s, u2_row, i_le, i_lt, i_eq, if_true, if_false, Nat.le_refl, Nat.reduceEqDiff, Nat.reduceLeDiff, hm, n1, c_pass, b2i_0, lgF]
    by_cases h1 : gf N g 4 = nI 0
    · simp (disch := first | exact ok_i | exact ok_r | exact ok_n | exact cat_i | exact cat_r | exact t103 | exact ro_0 | exact ro_1 | omega | assumption | (refine i103 ?_; omega) | (simp only [List.map_cons, List.map_nil, List.sum_cons, List.sum_nil, cat_i, cat_r, cat_l, Nat.reduceAdd, Nat.reduceLeDiff]; done) | decide) only [h1, decide_true, Bool.true_eq_false, not_true, false_and, s192_47, s192_50, tl_s, tl_n, nI_add, pk_mul, i_cl, row_s, u2_row, i_le, i_lt, i_eq, if_true, if_false, Nat.le_refl, Nat.reduceEqDiff, Nat.reduceLeDiff]
    · simp (disch := first | exact ok_i | exact ok_r | exact ok_n | exact cat_i | exact cat_r | exact t103 | exact ro_0 | exact ro_1 | omega | assumption | (refine i103 ?_; omega) | (simp only [List.map_cons, List.map_nil, List.sum_cons, List.sum_nil, cat_i, cat_r, cat_l, Nat.reduceAdd, Nat.reduceLeDiff]; done) | decide) only [h1, decide_false, not_false_eq_true, true_and, s192_26, s192_27, s192_28, s192_30, s192_33, s192_34, tl_s, tl_n, nI_add, pk_mul, i_cl, row_s, u2_row, i_le, i_lt, i_eq, if_true, if_false, Nat.le_refl, Nat.reduceEqDiff, Nat.reduceLeDiff, c_ofGroup]
      by_cases h2 : (lgS N g).2 < gf N g 6
      · have h2' : ¬ gf N g 6 ≤ (lgS N g).2 := Int32.not_le.mpr h2
        simp (disch := first | exact ok_i | exact ok_r | exact ok_n | exact cat_i | exact cat_r | exact t103 | exact ro_0 | exact ro_1 | omega | assumption | (refine i103 ?_; omega) | (simp only [List.map_cons, List.map_nil, List.sum_cons, List.sum_nil, cat_i, cat_r, cat_l, Nat.reduceAdd, Nat.reduceLeDiff]; done) | decide) only [h2, h2', s192_37, s192_38, s192_39, s192_40, s192_41, s192_43, s192_46, s192_47, s192_50, tl_s, tl_n, nI_add, pk_mul, i_cl, row_s, u2_row, i_le, i_lt, i_eq, if_true, if_false, Nat.le_refl, Nat.reduceEqDiff, Nat.reduceLeDiff, c_ofGroup, o2i]
      · have h2' : gf N g 6 ≤ (lgS N g).2 := Int32.not_lt.mp h2
        simp (disch := first | exact ok_i | exact ok_r | exact ok_n | exact cat_i | exact cat_r | exact t103 | exact ro_0 | exact ro_1 | omega | assumption | (refine i103 ?_; omega) | (simp only [List.map_cons, List.map_nil, List.sum_cons, List.sum_nil, cat_i, cat_r, cat_l, Nat.reduceAdd, Nat.reduceLeDiff]; done) | decide) only [h2, h2', s192_47, s192_50, tl_s, tl_n, nI_add, pk_mul, i_cl, row_s, u2_row, i_le, i_lt, i_eq, if_true, if_false, Nat.le_refl, Nat.reduceEqDiff, Nat.reduceLeDiff]
theorem c_longestWaited {m : Nat} (hm : N 446 = nI m) (hm4 : m ≤ 40) : Call X (d + 4) 193 [.ref 102] G0 (row I 103 N) Q ↔ Q (some (.int (lwM N m))) G0 (row I 103 N) := by
  simp (disch := first | exact ok_i | exact ok_r | exact ok_n | exact cat_i | exact cat_r | exact t103 | exact ro_0 | exact ro_1 | omega | assumption | (refine i103 ?_; omega) | (simp only [List.map_cons, List.map_nil, List.sum_cons, List.sum_nil, cat_i, cat_r, cat_l, Nat.reduceAdd, Nat.reduceLeDiff]; done) | decide) only [e193, s193_0, s193_1, s193_4, s193_5, s193_6, s193_7, tl_s, tl_n, nI_add, pk_mul, i_cl, row_s, u2_row, i_le, i_lt, i_eq, if_true, if_false, Nat.le_refl, Nat.reduceEqDiff, Nat.reduceLeDiff, c_longest hm hm4]
  unfold lwM
  cases h : (lgS N m).1 with
  | none => simp (disch := first | exact ok_i | exact ok_r | exact ok_n | exact cat_i | exact cat_r | exact t103 | exact ro_0 | exact ro_1 | omega | assumption | (refine i103 ?_; omega) | (simp only [List.map_cons, List.map_nil, List.sum_cons, List.sum_nil, cat_i, cat_r, cat_l, Nat.reduceAdd, Nat.reduceLeDiff]; done) | decide) only [o2i, s193_10, s193_11, s193_14, s193_15, s193_16, s193_18, s193_21, tl_s, tl_n, nI_add, pk_mul, i_cl, row_s, u2_row, i_le, i_lt, i_eq, if_true, if_false, Nat.le_refl, Nat.reduceEqDiff, Nat.reduceLeDiff]
  | some g =>
    have hg := lgS_lt h
    have n1 := nI_m1 (a := g) (by omega)
    simp (disch := first | exact ok_i | exact ok_r | exact ok_n | exact cat_i | exact cat_r | exact t103 | exact ro_0 | exact ro_1 | omega | assumption | (refine i103 ?_; omega) | (simp only [List.map_cons, List.map_nil, List.sum_cons, List.sum_nil, cat_i, cat_r, cat_l, Nat.reduceAdd, Nat.reduceLeDiff]; done) | decide) only [o2i, n1, s193_14, s193_15, s193_16, s193_18, s193_21, tl_s, tl_n, nI_add, pk_mul, i_cl, row_s, u2_row, i_le, i_lt, i_eq, if_true, if_false, Nat.le_refl, Nat.reduceEqDiff, Nat.reduceLeDiff, c_ofGroup]
theorem c_oldest {m : Nat} {x : Int32} (hm : N 446 = nI m) (hm4 : m ≤ 40) : Call X (d + 5) 194 [.ref 102, .int x] G0 (row I 103 N) Q ↔ Q (some (.int (oldV N m x))) G0 (row I 103 N) := by
  unfold oldV
  simp (disch := first | exact ok_i | exact ok_r | exact ok_n | exact cat_i | exact cat_r | exact t103 | exact ro_0 | exact ro_1 | omega | assumption | (refine i103 ?_; omega) | (simp only [List.map_cons, List.map_nil, List.sum_cons, List.sum_nil, cat_i, cat_r, cat_l, Nat.reduceAdd, Nat.reduceLeDiff]; done) | decide) only [e194, s194_0, s194_1, tl_s, tl_n, nI_add, pk_mul, i_cl, row_s, u2_row, i_le, i_lt, i_eq, if_true, if_false, Nat.le_refl, Nat.reduceEqDiff, Nat.reduceLeDiff]
  by_cases h0 : x = nI 0
  · simp (disch := first | exact ok_i | exact ok_r | exact ok_n | exact cat_i | exact cat_r | exact t103 | exact ro_0 | exact ro_1 | omega | assumption | (refine i103 ?_; omega) | (simp only [List.map_cons, List.map_nil, List.sum_cons, List.sum_nil, cat_i, cat_r, cat_l, Nat.reduceAdd, Nat.reduceLeDiff]; done) | decide) only [h0, s194_36, s194_37, s194_40, tl_s, tl_n, nI_add, pk_mul, i_cl, row_s, u2_row, i_le, i_lt, i_eq, if_true, if_false, Nat.le_refl, Nat.reduceEqDiff, Nat.reduceLeDiff, c_oldestNow hm hm4]
  · by_cases h1 : x = nI 1
    · simp (disch := first | exact ok_i | exact ok_r | exact ok_n | exact cat_i | exact cat_r | exact t103 | exact ro_0 | exact ro_1 | omega | assumption | (refine i103 ?_; omega) | (simp only [List.map_cons, List.map_nil, List.sum_cons, List.sum_nil, cat_i, cat_r, cat_l, Nat.reduceAdd, Nat.reduceLeDiff]; done) | decide) only [h0, h1, s194_41, s194_42, s194_45, s194_46, tl_s, tl_n, nI_add, pk_mul, i_cl, row_s, u2_row, i_le, i_lt, i_eq, if_true, if_false, Nat.le_refl, Nat.reduceEqDiff, Nat.reduceLeDiff, c_oldestNow hm hm4, n10]
      cases h : onR N m m with
      | none => simp (disch := first | exact ok_i | exact ok_r | exact ok_n | exact cat_i | exact cat_r | exact t103 | exact ro_0 | exact ro_1 | omega | assumption | (refine i103 ?_; omega) | (simp only [List.map_cons, List.map_nil, List.sum_cons, List.sum_nil, cat_i, cat_r, cat_l, Nat.reduceAdd, Nat.reduceLeDiff]; done) | decide) only [o2i, s194_49, s194_50, s194_63, tl_s, tl_n, nI_add, pk_mul, i_cl, row_s, u2_row, i_le, i_lt, i_eq, if_true, if_false, Nat.le_refl, Nat.reduceEqDiff, Nat.reduceLeDiff]
      | some g =>
        obtain ⟨hg, hw⟩ := onR_lt (Nat.le_refl m) h
        have n1 := nI_m1 (a := g) (by omega)
        have hin : inR (nI g) m = true := by
          unfold inR
          rw [i_toInt (by omega), decide_eq_true_eq]
          omega
        have ht : tN (nI g) = g := by
          unfold tN
          rw [i_toInt (by omega)]
          omega
        have hl : inL (nI 6) 0 7 = true := by decide
        simp (disch := first | exact ok_i | exact ok_r | exact ok_n | exact cat_i | exact cat_r | exact t103 | exact ro_0 | exact ro_1 | omega | assumption | (refine i103 ?_; omega) | (simp only [List.map_cons, List.map_nil, List.sum_cons, List.sum_nil, cat_i, cat_r, cat_l, Nat.reduceAdd, Nat.reduceLeDiff]; done) | decide) only [o2i, n1, s194_53, s194_54, s194_55, s194_58, s194_60, s194_63, tl_s, tl_n, nI_add, pk_mul, i_cl, row_s, u2_row, i_le, i_lt, i_eq, if_true, if_false, Nat.le_refl, Nat.reduceEqDiff, Nat.reduceLeDiff, c_oldestNow hm hm4, h, c_mgroup hm hm4, grpV, hin, hl, ht, hw, Bool.and_self, and_self]
    · by_cases h2 : x = nI 2
      · simp (disch := first | exact ok_i | exact ok_r | exact ok_n | exact cat_i | exact cat_r | exact t103 | exact ro_0 | exact ro_1 | omega | assumption | (refine i103 ?_; omega) | (simp only [List.map_cons, List.map_nil, List.sum_cons, List.sum_nil, cat_i, cat_r, cat_l, Nat.reduceAdd, Nat.reduceLeDiff]; done) | decide) only [h0, h1, h2, s194_64, s194_65, s194_68, tl_s, tl_n, nI_add, pk_mul, i_cl, row_s, u2_row, i_le, i_lt, i_eq, if_true, if_false, Nat.le_refl, Nat.reduceEqDiff, Nat.reduceLeDiff, c_longest hm hm4]
      · by_cases h3 : x = nI 3
        · simp (disch := first | exact ok_i | exact ok_r | exact ok_n | exact cat_i | exact cat_r | exact t103 | exact ro_0 | exact ro_1 | omega | assumption | (refine i103 ?_; omega) | (simp only [List.map_cons, List.map_nil, List.sum_cons, List.sum_nil, cat_i, cat_r, cat_l, Nat.reduceAdd, Nat.reduceLeDiff]; done) | decide) only [h0, h1, h2, h3, s194_69, s194_70, s194_73, tl_s, tl_n, nI_add, pk_mul, i_cl, row_s, u2_row, i_le, i_lt, i_eq, if_true, if_false, Nat.le_refl, Nat.reduceEqDiff, Nat.reduceLeDiff, c_longestWaited hm hm4]
        · by_cases h4 : x = nI 4
          · simp (disch := first | exact ok_i | exact ok_r | exact ok_n | exact cat_i | exact cat_r | exact t103 | exact ro_0 | exact ro_1 | omega | assumption | (refine i103 ?_; omega) | (simp only [List.map_cons, List.map_nil, List.sum_cons, List.sum_nil, cat_i, cat_r, cat_l, Nat.reduceAdd, Nat.reduceLeDiff]; done) | decide) only [h0, h1, h2, h3, h4, s194_74, s194_75, s194_78, s194_81, s194_82, tl_s, tl_n, nI_add, pk_mul, i_cl, row_s, u2_row, i_le, i_lt, i_eq, if_true, if_false, Nat.le_refl, Nat.reduceEqDiff, Nat.reduceLeDiff]
          · simp (disch := first | exact ok_i | exact ok_r | exact ok_n | exact cat_i | exact cat_r | exact t103 | exact ro_0 | exact ro_1 | omega | assumption | (refine i103 ?_; omega) | (simp only [List.map_cons, List.map_nil, List.sum_cons, List.sum_nil, cat_i, cat_r, cat_l, Nat.reduceAdd, Nat.reduceLeDiff]; done) | decide) only [h0, h1, h2, h3, h4, s194_83, s194_85, tl_s, tl_n, nI_add, pk_mul, i_cl, row_s, u2_row, i_le, i_lt, i_eq, if_true, if_false, Nat.le_refl, Nat.reduceEqDiff, Nat.reduceLeDiff]
theorem c_dnLoop {m k : Nat} {x : Int32} (hm4 : m ≤ 40) (hk4 : k ≤ 4) : ∀ r, r ≤ 2500 → ∀ N : Nat → Int32, N 446 = nI m → N 445 = nI k →
    (At X (d + 8) 196 2 [some (.ref 102), some (.int x), some (.int (nI (2500 - r)))] [] G0 (row I 103 N) Q ↔ At X (d + 8) 196 34 [some (.ref 102), some (.int x), some (.int (nI (2500 - r + (dnR m k r N).2)))] [] G0 (row I 103 (dnR m k r N).1) Q) := by
  intro r
  induction r with
  | zero =>
    intro _ N hm hk
    rw [s196_2]
    simp (disch := first | exact ok_i | exact ok_r | exact ok_n | exact cat_i | exact cat_r | exact t103 | exact ro_0 | exact ro_1 | omega | assumption | (refine i103 ?_; omega) | (simp only [List.map_cons, List.map_nil, List.sum_cons, List.sum_nil, cat_i, cat_r, cat_l, Nat.reduceAdd, Nat.reduceLeDiff]; done) | decide) only [s196_3, s196_6, tl_s, tl_n, nI_add, pk_mul, i_cl, row_s, u2_row, i_le, i_lt, i_eq, if_true, if_false, Nat.le_refl, Nat.reduceEqDiff, Nat.reduceLeDiff, Nat.sub_zero, dnR, Nat.add_zero]
  | succ r ih =>
    intro hr N hm hk
    have n1 : ¬ 2500 ≤ 2500 - (r + 1) := by omega
    have l1 : manyM N (nI 0) m ≤ m := manyM_le
    have l2 : manyM N (nI 1) m ≤ m := manyM_le
    have e1 : 2500 - (r + 1) + 1 = 2500 - r := by omega
    rw [s196_2]
    simp (disch := first | exact ok_i | exact ok_r | exact ok_n | exact cat_i | exact cat_r | exact t103 | exact ro_0 | exact ro_1 | omega | assumption | (refine i103 ?_; omega) | (simp only [List.map_cons, List.map_nil, List.sum_cons, List.sum_nil, cat_i, cat_r, cat_l, Nat.reduceAdd, Nat.reduceLeDiff]; done) | decide) only [s196_3, s196_6, s196_9, s196_10, s196_11, s196_14, s196_15, s196_16, s196_19, s196_20, tl_s, tl_n, nI_add, pk_mul, i_cl, row_s, u2_row, i_le, i_lt, i_eq, if_true, if_false, Nat.le_refl, Nat.reduceEqDiff, Nat.reduceLeDiff, n1, c_many hm hm4]
    unfold dnR
    by_cases h1 : 0 < manyM N (nI 0) m + manyM N (nI 1) m
    · have h1' : ¬ manyM N (nI 0) m + manyM N (nI 1) m ≤ 0 := by omega
      have ih' := ih (by omega) (psS N m k).1 (by rw [psS_o hm4 (by unfold fixP; omega) hk4, hm]) (by rw [psS_o hm4 (by unfold fixP; omega) hk4, hk])
      have e2 : 2500 - (r + 1) + ((dnR m k r (psS N m k).1).2 + 1) = 2500 - r + (dnR m k r (psS N m k).1).2 := by omega
      simp (disch := first | exact ok_i | exact ok_r | exact ok_n | exact cat_i | exact cat_r | exact t103 | exact ro_0 | exact ro_1 | omega | assumption | (refine i103 ?_; omega) | (simp only [List.map_cons, List.map_nil, List.sum_cons, List.sum_nil, cat_i, cat_r, cat_l, Nat.reduceAdd, Nat.reduceLeDiff]; done) | decide) only [h1, h1', s196_23, s196_24, s196_27, s196_28, s196_31, tl_s, tl_n, nI_add, pk_mul, i_cl, row_s, u2_row, i_le, i_lt, i_eq, if_true, if_false, Nat.le_refl, Nat.reduceEqDiff, Nat.reduceLeDiff, c_passes hm hm4 hk hk4, e1, ih', e2]
    · have h1' : manyM N (nI 0) m + manyM N (nI 1) m ≤ 0 := by omega
      simp (disch := first | exact ok_i | exact ok_r | exact ok_n | exact cat_i | exact cat_r | exact t103 | exact ro_0 | exact ro_1 | omega | assumption | (refine i103 ?_; omega) | (simp only [List.map_cons, List.map_nil, List.sum_cons, List.sum_nil, cat_i, cat_r, cat_l, Nat.reduceAdd, Nat.reduceLeDiff]; done) | decide) only [h1, h1', tl_s, tl_n, nI_add, pk_mul, i_cl, row_s, u2_row, i_le, i_lt, i_eq, if_true, if_false, Nat.le_refl, Nat.reduceEqDiff, Nat.reduceLeDiff, Nat.add_zero]
theorem c_doneNow {m k : Nat} {x : Int32} (hm : N 446 = nI m) (hm4 : m ≤ 40) (hk : N 445 = nI k) (hk4 : k ≤ 4) : Call X (d + 9) 196 [.ref 102, .int x] G0 (row I 103 N) Q ↔ Q (some (.int (dnV N m k x))) G0 (row I 103 (dnR m k 2500 N).1) := by
  simp (disch := first | exact ok_i | exact ok_r | exact ok_n | exact cat_i | exact cat_r | exact t103 | exact ro_0 | exact ro_1 | omega | assumption | (refine i103 ?_; omega) | (simp only [List.map_cons, List.map_nil, List.sum_cons, List.sum_nil, cat_i, cat_r, cat_l, Nat.reduceAdd, Nat.reduceLeDiff]; done) | decide) only [e196, s196_0, s196_1, tl_s, tl_n, nI_add, pk_mul, i_cl, row_s, u2_row, i_le, i_lt, i_eq, if_true, if_false, Nat.le_refl, Nat.reduceEqDiff, Nat.reduceLeDiff]
  have key := c_dnLoop (X := X) (d := d) (I := I) (Q := Q) (x := x) hm4 hk4 2500 (Nat.le_refl _) N hm hk
  rw [Nat.sub_self] at key
  rw [key, Nat.zero_add]
  have hm2 : (dnR m k 2500 N).1 446 = nI m := by rw [dnR_o hm4 hk4 (by unfold fixP; omega), hm]
  have hl : (dnR m k 2500 N).2 ≤ 2500 := dnR_le
  unfold dnV
  generalize dnR m k 2500 N = s at *
  have l1 : manyM s.1 (nI 0) m ≤ m := manyM_le
  have l2 : manyM s.1 (nI 1) m ≤ m := manyM_le
  by_cases h0 : x = nI 0
  · simp (disch := first | exact ok_i | exact ok_r | exact ok_n | exact cat_i | exact cat_r | exact t103 | exact ro_0 | exact ro_1 | omega | assumption | (refine i103 ?_; omega) | (simp only [List.map_cons, List.map_nil, List.sum_cons, List.sum_nil, cat_i, cat_r, cat_l, Nat.reduceAdd, Nat.reduceLeDiff]; done) | decide) only [h0, s196_34, s196_35, s196_38, s196_39, s196_40, s196_43, s196_44, s196_45, s196_48, s196_49, tl_s, tl_n, nI_add, pk_mul, i_cl, row_s, u2_row, i_le, i_lt, i_eq, if_true, if_false, Nat.le_refl, Nat.reduceEqDiff, Nat.reduceLeDiff, c_many hm2 hm4]
    by_cases h1 : 0 < manyM s.1 (nI 0) m + manyM s.1 (nI 1) m
    · have h1' : ¬ manyM s.1 (nI 0) m + manyM s.1 (nI 1) m ≤ 0 := by omega
      simp (disch := first | exact ok_i | exact ok_r | exact ok_n | exact cat_i | exact cat_r | exact t103 | exact ro_0 | exact ro_1 | omega | assumption | (refine i103 ?_; omega) | (simp only [List.map_cons, List.map_nil, List.sum_cons, List.sum_nil, cat_i, cat_r, cat_l, Nat.reduceAdd, Nat.reduceLeDiff]; done) | decide) only [h1, h1', s196_52, s196_53, s196_56, s196_57, tl_s, tl_n, nI_add, pk_mul, i_cl, row_s, u2_row, i_le, i_lt, i_eq, if_true, if_false, Nat.le_refl, Nat.reduceEqDiff, Nat.reduceLeDiff]
    · have h1' : manyM s.1 (nI 0) m + manyM s.1 (nI 1) m ≤ 0 := by omega
      simp (disch := first | exact ok_i | exact ok_r | exact ok_n | exact cat_i | exact cat_r | exact t103 | exact ro_0 | exact ro_1 | omega | assumption | (refine i103 ?_; omega) | (simp only [List.map_cons, List.map_nil, List.sum_cons, List.sum_nil, cat_i, cat_r, cat_l, Nat.reduceAdd, Nat.reduceLeDiff]; done) | decide) only [h1, h1', s196_56, s196_57, tl_s, tl_n, nI_add, pk_mul, i_cl, row_s, u2_row, i_le, i_lt, i_eq, if_true, if_false, Nat.le_refl, Nat.reduceEqDiff, Nat.reduceLeDiff]
  · by_cases h1 : x = nI 1
    · simp (disch := first | exact ok_i | exact ok_r | exact ok_n | exact cat_i | exact cat_r | exact t103 | exact ro_0 | exact ro_1 | omega | assumption | (refine i103 ?_; omega) | (simp only [List.map_cons, List.map_nil, List.sum_cons, List.sum_nil, cat_i, cat_r, cat_l, Nat.reduceAdd, Nat.reduceLeDiff]; done) | decide) only [h0, h1, n10, s196_34, s196_35, s196_58, s196_59, s196_60, s196_63, s196_64, s196_67, s196_70, s196_71, s196_74, s196_77, s196_78, tl_s, tl_n, nI_add, pk_mul, i_cl, row_s, u2_row, i_le, i_lt, i_eq, if_true, if_false, Nat.le_refl, Nat.reduceEqDiff, Nat.reduceLeDiff, c_longestWaited hm2 hm4]
    · simp (disch := first | exact ok_i | exact ok_r | exact ok_n | exact cat_i | exact cat_r | exact t103 | exact ro_0 | exact ro_1 | omega | assumption | (refine i103 ?_; omega) | (simp only [List.map_cons, List.map_nil, List.sum_cons, List.sum_nil, cat_i, cat_r, cat_l, Nat.reduceAdd, Nat.reduceLeDiff]; done) | decide) only [h0, h1, s196_34, s196_35, s196_58, s196_59, s196_60, s196_63, s196_64, s196_67, s196_70, s196_71, s196_74, s196_77, s196_78, tl_s, tl_n, nI_add, pk_mul, i_cl, row_s, u2_row, i_le, i_lt, i_eq, if_true, if_false, Nat.le_refl, Nat.reduceEqDiff, Nat.reduceLeDiff]
end
