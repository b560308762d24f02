/-! the class: what is written into a hall -/
theorem HJ.ext {p : Nat} {I I' : pI} {N N' : Nat → Int32} (h : HJ p I N) (h1 : ∀ a, p + 16 ≤ a → a ≤ p + 20 → I' a = I a) (h2 : ∀ j, 364 ≤ j → j < 444 → N' j = N j) (h3 : N' 451 = N 451) : HJ p I' N' := by
  obtain ⟨e, q, h9, h10, h11, h12, h13, h14⟩ := h
  refine ⟨e, q, h9, h10, by rw [h3]; exact h11, by rw [h1 _ (by omega) (by omega)]; exact h12, by rw [h1 _ (by omega) (by omega)]; exact h13, fun i j hi hj => ?_⟩
  rw [h1 _ (by omega) (by omega), h2 _ (by omega) (by omega)]
  exact h14 i j hi hj
section
variable {o p m : Nat} {I : pI} {N : Nat → Int32} {L : List Nat} {v : Int32}
theorem om_ne {k j : Nat} (hk : k < 6) (hj : j < 6) (h : k ≠ j) : om k ≠ om j := by
  unfold om
  (rcases (by omega : k = 0 ∨ k = 1 ∨ k = 2 ∨ k = 3 ∨ k = 4 ∨ k = 5) with rfl | rfl | rfl | rfl | rfl | rfl) <;> (rcases (by omega : j = 0 ∨ j = 1 ∨ j = 2 ∨ j = 3 ∨ j = 4 ∨ j = 5) with rfl | rfl | rfl | rfl | rfl | rfl) <;> first | exact absurd rfl h | decide
theorem om_ge {k : Nat} (hk : k < 6) : 444 ≤ om k ∧ om k < 451 ∧ om k ≠ 446 := by
  (rcases (by omega : k = 0 ∨ k = 1 ∨ k = 2 ∨ k = 3 ∨ k = 4 ∨ k = 5) with rfl | rfl | rfl | rfl | rfl | rfl) <;> decide
theorem jm_lt {k : Nat} (hk : k < 8) : jm k < 8 := by
  unfold jm
  split
  · omega
  · split <;> omega
theorem jm_ne {k j : Nat} (h : k ≠ j) : jm k ≠ jm j := by
  unfold jm
  repeat' split
  all_goals omega
theorem HR.upo (h : HR o p I N m L) {k : Nat} (hk : k < 6) : HR o p (upd2 I o k v) (upd N (om k) v) m L := by
  obtain ⟨ho, hm, h3, h4, h5, h6, h7, h8, h9⟩ := h
  have np := ho.np
  have og := om_ge hk
  refine ⟨ho, ⟨by rw [up_n (by omega)]; exact hm.1, hm.2⟩, fun j hj => ?_, fun c j hc hj => ?_, ?_, fun i hi => ?_, fun g j hg hj => ?_, fun a ha => ?_, h9.ext (fun a h1 h2 => u2_ne (by omega)) (fun j h1 h2 => up_n (by omega)) (up_n (by omega))⟩
  · by_cases e : j = k
    · subst e
      rw [u2_s, up_s]
    · rw [u2_nk (by omega), up_n (om_ne hj hk e)]
      exact h3 j hj
  · have := jm_lt hj
    rw [u2_nk (by omega)]
    unfold cf
    rw [up_n (by omega)]
    exact h4 c j hc hj
  · rw [u2_nk (by omega), u2_nk (by omega)]; exact h5
  · rw [u2_nk (by omega)]; exact h6 i hi
  · have := hm.2
    rw [u2_nk (by omega)]
    unfold gf
    rw [up_n (by omega)]
    exact h7 g j hg hj
  · rw [u2_nk (by omega), up_n (by omega)]; exact h8 a ha
theorem HR.upc (h : HR o p I N m L) {c k : Nat} (hc : c < 4) (hk : k < 8) : HR o p (upd2 I (p + 1 + c) k v) (upd N (8 * c + jm k) v) m L := by
  obtain ⟨ho, hm, h3, h4, h5, h6, h7, h8, h9⟩ := h
  have np := ho.np
  have jl := jm_lt hk
  refine ⟨ho, ⟨by rw [up_n (by omega)]; exact hm.1, hm.2⟩, fun j hj => ?_, fun c2 j hc2 hj => ?_, ?_, fun i hi => ?_, fun g j hg hj => ?_, fun a ha => ?_, h9.ext (fun a h1 h2 => u2_ne (by omega)) (fun j h1 h2 => up_n (by omega)) (up_n (by omega))⟩
  · have := om_ge hj
    rw [u2_nk (by omega), up_n (by omega)]
    exact h3 j hj
  · have := jm_lt hj
    unfold cf
    by_cases e : c2 = c ∧ j = k
    · obtain ⟨rfl, rfl⟩ := e
      rw [u2_s, up_s]
    · rw [u2_nk (by omega), up_n (fun e2 => ?_)]
      · exact h4 c2 j hc2 hj
      · have e3 : c2 = c := by omega
        exact jm_ne (fun e4 => e ⟨e3, e4⟩) (by omega)
  · rw [u2_nk (by omega), u2_nk (by omega)]; exact h5
  · rw [u2_nk (by omega)]; exact h6 i hi
  · rw [u2_nk (by omega)]
    unfold gf
    rw [up_n (by omega)]
    exact h7 g j hg hj
  · rw [u2_nk (by omega), up_n (by omega)]; exact h8 a ha
theorem HR.upg (h : HR o p I N m L) {g k : Nat} (hg : g < m) (hk : k < 8) : HR o p (upd2 I (p + 6 + k) g v) (upd N (32 + 8 * g + k) v) m L := by
  obtain ⟨ho, hm, h3, h4, h5, h6, h7, h8, h9⟩ := h
  have np := ho.np
  have hm40 := hm.2
  refine ⟨ho, ⟨by rw [up_n (by omega)]; exact hm.1, hm.2⟩, fun j hj => ?_, fun c j hc hj => ?_, ?_, fun i hi => ?_, fun g2 j hg2 hj => ?_, fun a ha => ?_, h9.ext (fun a h1 h2 => u2_ne (by omega)) (fun j h1 h2 => up_n (by omega)) (up_n (by omega))⟩
  · have := om_ge hj
    rw [u2_nk (by omega), up_n (by omega)]
    exact h3 j hj
  · have := jm_lt hj
    rw [u2_nk (by omega)]
    unfold cf
    rw [up_n (by omega)]
    exact h4 c j hc hj
  · rw [u2_nk (by omega), u2_nk (by omega)]; exact h5
  · rw [u2_nk (by omega)]; exact h6 i hi
  · unfold gf
    by_cases e : g2 = g ∧ j = k
    · obtain ⟨rfl, rfl⟩ := e
      rw [u2_s, up_s]
    · rw [u2_nk (by omega), up_n (by omega)]
      exact h7 g2 j hg2 hj
  · rw [u2_nk (by omega), up_n (by omega)]; exact h8 a ha
theorem HR.updm (h : HR o p I N m L) {a : Nat} (ha : a < 12) : HR o p (upd2 I (p + 15) a v) (upd N (352 + a) v) m L := by
  obtain ⟨ho, hm, h3, h4, h5, h6, h7, h8, h9⟩ := h
  have np := ho.np
  have hm40 := hm.2
  refine ⟨ho, ⟨by rw [up_n (by omega)]; exact hm.1, hm.2⟩, fun j hj => ?_, fun c j hc hj => ?_, ?_, fun i hi => ?_, fun g2 j hg2 hj => ?_, fun b hb => ?_, h9.ext (fun a h1 h2 => u2_ne (by omega)) (fun j h1 h2 => up_n (by omega)) (up_n (by omega))⟩
  · have := om_ge hj
    rw [u2_nk (by omega), up_n (by omega)]
    exact h3 j hj
  · have := jm_lt hj
    rw [u2_nk (by omega)]
    unfold cf
    rw [up_n (by omega)]
    exact h4 c j hc hj
  · rw [u2_nk (by omega), u2_nk (by omega)]; exact h5
  · rw [u2_nk (by omega)]; exact h6 i hi
  · rw [u2_nk (by omega)]
    unfold gf
    rw [up_n (by omega)]
    exact h7 g2 j hg2 hj
  · by_cases e : b = a
    · subst e
      rw [u2_s, up_s]
    · rw [u2_nk (by omega), up_n (by omega)]; exact h8 b hb
/-- another row of those that live -/
theorem HR.upl (h : HR o p I N m L) {w : Nat → Int32} {L' : List Nat} (hl : L'.length ≤ 12) (hw : ∀ i, i < L'.length → w i = nI (L'.getD i 0) ∧ L'.getD i 0 < m) : HR o p (upd2 (row I (p + 14) w) (p + 5) 9 (nI L'.length)) N m L' := by
  obtain ⟨ho, hm, h3, h4, h5, h6, h7, h8, h9⟩ := h
  have np := ho.np
  have hm40 := hm.2
  refine ⟨ho, hm, fun j hj => ?_, fun c j hc hj => ?_, ⟨?_, ?_, hl⟩, fun i hi => ?_, fun g2 j hg2 hj => ?_, fun b hb => ?_, h9.ext (fun a h1 h2 => by rw [u2_ne (by omega), row_n (by omega)]) (fun j h1 h2 => rfl) rfl⟩
  · rw [u2_nk (by omega), row_n (by omega)]; exact h3 j hj
  · rw [u2_nk (by omega), row_n (by omega)]; exact h4 c j hc hj
  · rw [u2_nk (by omega), row_n (by omega)]; exact h5.1
  · rw [u2_s]
  · rw [u2_nk (by omega), row_s]; exact hw i hi
  · rw [u2_nk (by omega), row_n (by omega)]; exact h7 g2 j hg2 hj
  · rw [u2_nk (by omega), row_n (by omega)]; exact h8 b hb
theorem hap_ev {N : Nat → Int32} {w : Int32} {g i j : Nat} (hi : i < 19) (hj : j < 4) : hapM N w g (364 + 4 * (i + 1) + j) = N (364 + 4 * i + j) := by
  unfold hapM
  rw [up_n (by omega), up_n (by omega), up_n (by omega), up_n (by omega), up_n (by omega)]
  unfold shE
  rw [if_pos (by omega), show 364 + 4 * (i + 1) + j - 4 = 364 + 4 * i + j by omega]
end
section
variable {X : pX} {d : Nat} {I : pI} {Q : Option Value → pG → pI → Prop} {o p : Nat} {N : Nat → Int32} {m : Nat} {L : List Nat}
theorem h_note {w cv tv : Int32} {g : Nat} (hr : HR o p I N m L) (hcv : gf N g 3 = cv) (htv : N 447 = tv)
    (h : ∀ I', HR o p I' (hapM N w g) m L → Fr o p I I' → Q none G0 I') : Call X (d + 1) 55 [.ref (p + 16), .int w, .int (nI g), .int cv, .int tv] G0 I Q := by
  have ho := hr.ho
  have l12 := hr.l12
  have m40 := hr.m40
  have np := ho.np
  obtain ⟨e, q, h9, h10, h11, h12, h13, h14⟩ := hr.hj
  have d1 : p + 17 ≠ p + 16 := by omega
  have d2 : p + 18 ≠ p + 16 := by omega
  have d3 : p + 19 ≠ p + 16 := by omega
  have d4 : p + 20 ≠ p + 16 := by omega
  have k1 : ∀ I2 : pI, (∀ a, a ≠ p + 17 → a ≠ p + 18 → a ≠ p + 19 → a ≠ p + 20 → a ≠ p + 16 → I2 a = I a) →
      I2 (p + 16) 4 = nI (if e < 20 then e + 1 else e) → I2 (p + 16) 5 = nI (if q + 1 < 20 then q + 1 else 0) →
      (∀ j k, j < 4 → k < 20 → I2 (p + 17 + j) k = if k = q then (if j = 0 then w else if j = 1 then nI g else if j = 2 then cv else tv) else I (p + 17 + j) k) → Q none G0 I2 := by
    intro I2 f1 f2 f3 f4
    refine h I2 ?_ (fun a h1 h2 => f1 a (by omega) (by omega) (by omega) (by omega) (by omega))
    obtain ⟨-, hm, g3, g4, g5, g6, g7, g8, -⟩ := hr
    refine ⟨ho, ⟨by rw [hap_o (by omega)]; exact hm.1, hm.2⟩, fun k hk => ?_, fun c k hc hk => ?_, ?_, fun i hi => ?_, fun g2 j hg2 hj => ?_, fun a ha => ?_, (if e < 20 then e + 1 else e), (if q + 1 < 20 then q + 1 else 0), by split <;> omega, by split <;> omega, ?_, f2, f3, fun i j hi hj => ?_⟩
    · have := om_ge hk
      rw [f1 _ (by omega) (by omega) (by omega) (by omega) (by omega), hap_o (by omega)]; exact g3 k hk
    · have := jm_lt hk
      rw [f1 _ (by omega) (by omega) (by omega) (by omega) (by omega)]
      unfold cf
      rw [hap_o (by omega)]; exact g4 c k hc hk
    · rw [f1 _ (by omega) (by omega) (by omega) (by omega) (by omega)]; exact g5
    · rw [f1 _ (by omega) (by omega) (by omega) (by omega) (by omega)]; exact g6 i hi
    · rw [f1 _ (by omega) (by omega) (by omega) (by omega) (by omega)]
      unfold gf
      rw [hap_o (by omega)]; exact g7 g2 j hg2 hj
    · rw [f1 _ (by omega) (by omega) (by omega) (by omega) (by omega), hap_o (by omega)]; exact g8 a ha
    · show upd _ 451 _ 451 = _
      rw [up_s, h11, nI_add]
      unfold mmin
      simp (disch := omega) only [i_lt]
      by_cases c1 : e < 20
      · by_cases c2 : e + 1 < 20
        · rw [if_pos c2, if_pos c1]
        · rw [if_neg c2, if_pos c1, show e + 1 = 20 by omega]
      · rw [if_neg (by omega), if_neg c1, show e = 20 by omega]
    · by_cases ei : i = 0
      · subst ei
        have eq1 : ((if q + 1 < 20 then q + 1 else 0) + 19 - 0) % 20 = q := by split <;> omega
        rw [eq1, f4 j q hj h10, if_pos rfl]
        rcases (by omega : j = 0 ∨ j = 1 ∨ j = 2 ∨ j = 3) with rfl | rfl | rfl | rfl
        · unfold hapM; rw [up_n (by omega), up_n (by omega), up_n (by omega), up_n (by omega), up_s]; rfl
        · unfold hapM; rw [up_n (by omega), up_n (by omega), up_n (by omega), up_s]; rfl
        · unfold hapM; rw [up_n (by omega), up_n (by omega), up_s, hcv]; rfl
        · unfold hapM; rw [up_n (by omega), up_s, htv]; rfl
      · have hi2 : i < 20 := by split at hi <;> omega
        obtain ⟨i', rfl⟩ : ∃ i', i = i' + 1 := ⟨i - 1, by omega⟩
        have hi3 : i' < e := by split at hi <;> omega
        have eq1 : ((if q + 1 < 20 then q + 1 else 0) + 19 - (i' + 1)) % 20 = (q + 19 - i') % 20 := by split <;> omega
        have eq2 : (q + 19 - i') % 20 ≠ q := by omega
        rw [eq1, f4 j _ hj (by omega), if_neg eq2, hap_ev (by omega) hj]
        exact h14 i' j hi3 hj
  simp (disch := first | exact ok_i | exact ok_r | exact ok_n | exact cat_i | exact cat_r | exact ho.tag | exact ho.tg | exact ho.tj | exact ho.tp | exact ho.tC (by omega) (by omega) | exact ho.tA (by omega) (by omega) | exact ho.tJ (by omega) (by omega) | exact ro_0 | exact ro_1 | omega | assumption | exact ho.nC (by omega) | exact ho.nL (by omega) | exact ho.nD (by omega) | exact ho.nJ (by omega) (by omega) (by omega) | exact ho.nA (by omega) (by omega) (by omega) | (simp only [List.map_cons, List.map_nil, List.sum_cons, List.sum_nil, cat_i, cat_r, cat_l, Nat.reduceAdd, Nat.reduceLeDiff]; done) | decide) only [e55, s55_0, s55_1, s55_4, s55_5, s55_8, s55_9, s55_10, s55_11, s55_14, s55_15, s55_18, s55_19, s55_20, s55_21, s55_24, s55_25, s55_28, s55_29, s55_30, s55_31, s55_34, s55_35, s55_38, s55_40, tl_s, tl_n, nI_add, pk_mul, i_cl, row_s, u2_row, i_le, i_lt, i_eq, if_true, if_false, Nat.le_refl, Nat.reduceEqDiff, Nat.reduceLeDiff, ho.r6, ho.r7, ho.r8, ho.r9, ho.rc, ho.g0, ho.g1, ho.g2, ho.g3, ho.g4, ho.g5, ho.g6, ho.g7, ho.g8, ho.j0, ho.j1, ho.j2, ho.j3, u2_ne, h13]
  have r16 : ∀ {A B C D : Int32}, (upd2 (upd2 (upd2 (upd2 I (p + 17) q A) (p + 18) q B) (p + 19) q C) (p + 20) q D) (p + 16) = I (p + 16) := fun {A B C D} => by rw [u2_ne (by omega), u2_ne (by omega), u2_ne (by omega), u2_ne (by omega)]
  have key : ∀ (n1 n2 : Int32), n1 = nI (if q + 1 < 20 then q + 1 else 0) → n2 = nI (if e < 20 then e + 1 else e) → Q none G0 (upd2 (upd2 (upd2 (upd2 (upd2 (upd2 I (p + 17) q w) (p + 18) q (nI g)) (p + 19) q cv) (p + 20) q tv) (p + 16) 5 n1) (p + 16) 4 n2) := by
    intro n1 n2 e1 e2
    refine k1 _ (fun a a1 a2 a3 a4 a5 => ?_) ?_ ?_ (fun j k hj hk => ?_)
    · rw [u2_ne (by omega), u2_ne (by omega), u2_ne (by omega), u2_ne (by omega), u2_ne (by omega), u2_ne (by omega)]
    · rw [u2_s, e2]
    · rw [u2_nk (by omega), u2_s, e1]
    · rcases (by omega : j = 0 ∨ j = 1 ∨ j = 2 ∨ j = 3) with rfl | rfl | rfl | rfl
      · rw [u2_nk (by omega), u2_nk (by omega), u2_nk (by omega), u2_nk (by omega), u2_nk (by omega)]
        by_cases c : k = q
        · subst c; rw [if_pos rfl]; exact u2_s
        · rw [u2_nk (by omega), if_neg c]
      · rw [u2_nk (by omega), u2_nk (by omega), u2_nk (by omega), u2_nk (by omega)]
        by_cases c : k = q
        · subst c; rw [if_pos rfl]; exact u2_s
        · rw [u2_nk (by omega), u2_nk (by omega), if_neg c]
      · rw [u2_nk (by omega), u2_nk (by omega), u2_nk (by omega)]
        by_cases c : k = q
        · subst c; rw [if_pos rfl]; exact u2_s
        · rw [u2_nk (by omega), u2_nk (by omega), u2_nk (by omega), if_neg c]
      · rw [u2_nk (by omega), u2_nk (by omega)]
        by_cases c : k = q
        · subst c; rw [if_pos rfl]; exact u2_s
        · rw [u2_nk (by omega), u2_nk (by omega), u2_nk (by omega), u2_nk (by omega), if_neg c]
  have fin : ∀ n1 : Int32, n1 = nI (if q + 1 < 20 then q + 1 else 0) → At X d 55 66 [some (.ref (p + 16)), some (.int w), some (.int (nI g)), some (.int cv), some (.int tv)] [] G0 (upd2 (upd2 (upd2 (upd2 (upd2 I (p + 17) q w) (p + 18) q (nI g)) (p + 19) q cv) (p + 20) q tv) (p + 16) 5 n1) Q := by
    intro n1 e1
    simp (disch := first | exact ok_i | exact ok_r | exact ok_n | exact cat_i | exact cat_r | exact ho.tag | exact ho.tg | exact ho.tj | exact ho.tp | exact ho.tC (by omega) (by omega) | exact ho.tA (by omega) (by omega) | exact ho.tJ (by omega) (by omega) | exact ro_0 | exact ro_1 | omega | assumption | exact ho.nC (by omega) | exact ho.nL (by omega) | exact ho.nD (by omega) | exact ho.nJ (by omega) (by omega) (by omega) | exact ho.nA (by omega) (by omega) (by omega) | (simp only [List.map_cons, List.map_nil, List.sum_cons, List.sum_nil, cat_i, cat_r, cat_l, Nat.reduceAdd, Nat.reduceLeDiff]; done) | decide) only [s55_66, s55_67, s55_70, s55_72, tl_s, tl_n, nI_add, pk_mul, i_cl, row_s, u2_row, i_le, i_lt, i_eq, if_true, if_false, Nat.le_refl, Nat.reduceEqDiff, Nat.reduceLeDiff, u2_ne, u2_nk, h12]
    by_cases c1 : 20 ≤ e
    · simp (disch := first | exact ok_i | exact ok_r | exact ok_n | exact cat_i | exact cat_r | exact ho.tag | exact ho.tg | exact ho.tj | exact ho.tp | exact ho.tC (by omega) (by omega) | exact ho.tA (by omega) (by omega) | exact ho.tJ (by omega) (by omega) | exact ro_0 | exact ro_1 | omega | assumption | exact ho.nC (by omega) | exact ho.nL (by omega) | exact ho.nD (by omega) | exact ho.nJ (by omega) (by omega) (by omega) | exact ho.nA (by omega) (by omega) (by omega) | (simp only [List.map_cons, List.map_nil, List.sum_cons, List.sum_nil, cat_i, cat_r, cat_l, Nat.reduceAdd, Nat.reduceLeDiff]; done) | decide) only [c1, s55_85, tl_s, tl_n, nI_add, pk_mul, i_cl, row_s, u2_row, i_le, i_lt, i_eq, if_true, if_false, Nat.le_refl, Nat.reduceEqDiff, Nat.reduceLeDiff]
      have := key n1 (nI e) e1 (by rw [if_neg (by omega)])
      have e3 : upd2 (upd2 (upd2 (upd2 (upd2 (upd2 I (p + 17) q w) (p + 18) q (nI g)) (p + 19) q cv) (p + 20) q tv) (p + 16) 5 n1) (p + 16) 4 (nI e) = upd2 (upd2 (upd2 (upd2 (upd2 I (p + 17) q w) (p + 18) q (nI g)) (p + 19) q cv) (p + 20) q tv) (p + 16) 5 n1 := by
        funext a j
        by_cases ea : a = p + 16 ∧ j = 4
        · obtain ⟨rfl, rfl⟩ := ea
          rw [u2_s, u2_nk (by omega), u2_nk (by omega), u2_nk (by omega), u2_nk (by omega), u2_nk (by omega), h12]
        · rw [u2_nk (by omega)]
      rw [e3] at this
      exact this
    · simp (disch := first | exact ok_i | exact ok_r | exact ok_n | exact cat_i | exact cat_r | exact ho.tag | exact ho.tg | exact ho.tj | exact ho.tp | exact ho.tC (by omega) (by omega) | exact ho.tA (by omega) (by omega) | exact ho.tJ (by omega) (by omega) | exact ro_0 | exact ro_1 | omega | assumption | exact ho.nC (by omega) | exact ho.nL (by omega) | exact ho.nD (by omega) | exact ho.nJ (by omega) (by omega) (by omega) | exact ho.nA (by omega) (by omega) (by omega) | (simp only [List.map_cons, List.map_nil, List.sum_cons, List.sum_nil, cat_i, cat_r, cat_l, Nat.reduceAdd, Nat.reduceLeDiff]; done) | decide) only [c1, s55_75, s55_76, s55_77, s55_80, s55_81, s55_82, s55_85, tl_s, tl_n, nI_add, pk_mul, i_cl, row_s, u2_row, i_le, i_lt, i_eq, if_true, if_false, Nat.le_refl, Nat.reduceEqDiff, Nat.reduceLeDiff, u2_ne, u2_nk, h12]
      exact key n1 _ e1 (by rw [if_pos (by omega)])
  by_cases c2 : 20 ≤ q + 1
  · simp (disch := first | exact ok_i | exact ok_r | exact ok_n | exact cat_i | exact cat_r | exact ho.tag | exact ho.tg | exact ho.tj | exact ho.tp | exact ho.tC (by omega) (by omega) | exact ho.tA (by omega) (by omega) | exact ho.tJ (by omega) (by omega) | exact ro_0 | exact ro_1 | omega | assumption | exact ho.nC (by omega) | exact ho.nL (by omega) | exact ho.nD (by omega) | exact ho.nJ (by omega) (by omega) (by omega) | exact ho.nA (by omega) (by omega) (by omega) | (simp only [List.map_cons, List.map_nil, List.sum_cons, List.sum_nil, cat_i, cat_r, cat_l, Nat.reduceAdd, Nat.reduceLeDiff]; done) | decide) only [c2, s55_41, s55_42, s55_43, s55_46, s55_47, s55_48, s55_50, s55_62, s55_63, tl_s, tl_n, nI_add, pk_mul, i_cl, row_s, u2_row, i_le, i_lt, i_eq, if_true, if_false, Nat.le_refl, Nat.reduceEqDiff, Nat.reduceLeDiff, u2_ne, h13]
    exact fin _ (by rw [if_neg (by omega)])
  · simp (disch := first | exact ok_i | exact ok_r | exact ok_n | exact cat_i | exact cat_r | exact ho.tag | exact ho.tg | exact ho.tj | exact ho.tp | exact ho.tC (by omega) (by omega) | exact ho.tA (by omega) (by omega) | exact ho.tJ (by omega) (by omega) | exact ro_0 | exact ro_1 | omega | assumption | exact ho.nC (by omega) | exact ho.nL (by omega) | exact ho.nD (by omega) | exact ho.nJ (by omega) (by omega) (by omega) | exact ho.nA (by omega) (by omega) (by omega) | (simp only [List.map_cons, List.map_nil, List.sum_cons, List.sum_nil, cat_i, cat_r, cat_l, Nat.reduceAdd, Nat.reduceLeDiff]; done) | decide) only [c2, s55_41, s55_42, s55_43, s55_46, s55_47, s55_48, s55_50, s55_53, s55_54, s55_57, s55_58, s55_59, s55_62, s55_63, tl_s, tl_n, nI_add, pk_mul, i_cl, row_s, u2_row, i_le, i_lt, i_eq, if_true, if_false, Nat.le_refl, Nat.reduceEqDiff, Nat.reduceLeDiff, u2_ne, h13]
    exact fin _ (by rw [if_pos (by omega)])
end
