/-! two rows alike for one car -/
theorem itr_0 {α : Type} {f : Nat → α → α} {a : α} : itr f a 0 = a := rfl
def EqC (c m : Nat) (A B : Nat → Int32) : Prop :=
  (∀ j, j < 8 → cf A c j = cf B c j) ∧ (∀ g, g < m → (gf A g 3 = nI c ↔ gf B g 3 = nI c)) ∧ (∀ g j, g < m → j < 5 → gf A g 3 = nI c → gf A g j = gf B g j) ∧ A 444 = B 444
theorem EqC.refl {c m : Nat} {A : Nat → Int32} : EqC c m A A := ⟨fun _ _ => rfl, fun _ _ => Iff.rfl, fun _ _ _ _ _ => rfl, rfl⟩
theorem EqC.trans {c m : Nat} {A B C : Nat → Int32} (h : EqC c m A B) (h2 : EqC c m B C) : EqC c m A C :=
  ⟨fun j hj => (h.1 j hj).trans (h2.1 j hj), fun g hg => (h.2.1 g hg).trans (h2.2.1 g hg), fun g j hg hj e => (h.2.2.1 g j hg hj e).trans (h2.2.2.1 g j hg hj ((h.2.1 g hg).mp e)), h.2.2.2.trans h2.2.2.2⟩
theorem Only.eqc {c c2 m : Nat} {A B : Nat → Int32} (h : Only c2 m A B) (hc : c < 4) (hc2 : c2 < 4) (hn : c ≠ c2) : EqC c m A B := by
  refine ⟨fun j hj => (h.1 c j hc hj (Or.inl hn)).symm, fun g hg => by rw [h.2.1 g 3 hg (by omega) (Or.inl (by omega))], fun g j hg hj e => (h.2.1 g j hg (by omega) (Or.inr (fun e2 => ?_))).symm, (h.2.2.2 444 (by omega) (by omega) (by omega)).symm⟩
  rw [e, i_eq (by omega) (by omega)] at e2
  exact hn e2
section
variable {c m : Nat} {A B : Nat → Int32}
theorem EqC.upc (h : EqC c m A B) {j : Nat} {v v2 : Int32} (hv : v = v2) (hc : c < 4) (hj : j < 8) : EqC c m (upd A (8 * c + j) v) (upd B (8 * c + j) v2) := by
  subst hv
  refine ⟨fun k hk => ?_, fun g hg => by rw [gf_u (by omega), gf_u (by omega)]; exact h.2.1 g hg, fun g k hg hk e => ?_, by rw [up_n (by omega), up_n (by omega)]; exact h.2.2.2⟩
  · by_cases e : k = j
    · subst e; rw [cf_s, cf_s]
    · rw [cf_u (by omega), cf_u (by omega)]; exact h.1 k hk
  · rw [gf_u (by omega)] at e
    rw [gf_u (by omega), gf_u (by omega)]
    exact h.2.2.1 g k hg hk e
theorem EqC.upg (h : EqC c m A B) {g j : Nat} {v v2 : Int32} (hv : j = 4 → v = v2) (hc : c < 4) (hg : g < m) (hm : m ≤ 40) (hj : j = 4 ∨ j = 6) : EqC c m (upd A (32 + 8 * g + j) v) (upd B (32 + 8 * g + j) v2) := by
  refine ⟨fun k hk => by rw [cf_u (by omega), cf_u (by omega)]; exact h.1 k hk, fun k hk => by rw [gf_u (by omega), gf_u (by omega)]; exact h.2.1 k hk, fun k i hk hi e => ?_, by rw [up_n (by omega), up_n (by omega)]; exact h.2.2.2⟩
  rw [gf_u (by omega)] at e
  by_cases e2 : k = g ∧ i = j
  · obtain ⟨rfl, rfl⟩ := e2
    have : gf (upd A (32 + 8 * k + i) v) k i = v := up_s
    rw [this]
    have : gf (upd B (32 + 8 * k + i) v2) k i = v2 := up_s
    rw [this]
    exact hv (by omega)
  · rw [gf_u (by omega), gf_u (by omega)]
    exact h.2.2.1 k i hk hi e
theorem EqC.hap (h : EqC c m A B) {w w2 : Int32} {g g2 : Nat} (hc : c < 4) (hm : m ≤ 40) : EqC c m (hapM A w g) (hapM B w2 g2) := by
  refine ⟨fun k hk => by rw [cf_hap (by omega), cf_hap (by omega)]; exact h.1 k hk, fun k hk => by rw [gf_hap (by omega), gf_hap (by omega)]; exact h.2.1 k hk, fun k i hk hi e => ?_, by rw [hap_o (by omega), hap_o (by omega)]; exact h.2.2.2⟩
  rw [gf_hap (by omega)] at e
  rw [gf_hap (by omega), gf_hap (by omega)]
  exact h.2.2.1 k i hk hi e
theorem EqC.up450 (h : EqC c m A B) {v v2 : Int32} (hc : c < 4) (hm : m ≤ 40) : EqC c m (upd A 450 v) (upd B 450 v2) := by
  refine ⟨fun k hk => by rw [cf_u (by omega), cf_u (by omega)]; exact h.1 k hk, fun k hk => by rw [gf_u (by omega), gf_u (by omega)]; exact h.2.1 k hk, fun k i hk hi e => ?_, by rw [up_n (by omega), up_n (by omega)]; exact h.2.2.2⟩
  rw [gf_u (by omega)] at e
  rw [gf_u (by omega), gf_u (by omega)]
  exact h.2.2.1 k i hk hi e
theorem EqC.load (h : EqC c m A B) : ∀ {n : Nat}, n ≤ m → loadM A c n = loadM B c n
  | 0, _ => rfl
  | n + 1, hn => by
    show loadM A c n + (if gf A n 3 = nI c ∧ gf A n 4 = nI 1 then gf A n 2 else nI 0) = loadM B c n + (if gf B n 3 = nI c ∧ gf B n 4 = nI 1 then gf B n 2 else nI 0)
    rw [h.load (n := n) (by omega)]
    by_cases e : gf A n 3 = nI c
    · rw [← h.2.2.1 n 4 (by omega) (by omega) e, ← h.2.2.1 n 2 (by omega) (by omega) e, ← h.2.2.1 n 3 (by omega) (by omega) e]
    · rw [if_neg (fun x => e x.1), if_neg (fun x => e ((h.2.1 n (by omega)).mpr x.1))]
theorem EqC.stops (h : EqC c m A B) : stopsM A c m = stopsM B c m := by
  have key : ∀ n, n ≤ m → ∀ a, itr (stF A c) a n = itr (stF B c) a n := by
    intro n
    induction n with
    | zero => exact fun _ _ => rfl
    | succ n ih =>
      intro hn a
      rw [itr_s, itr_s, ih (by omega)]
      unfold stF
      by_cases e : gf A n 3 = nI c
      · rw [← h.2.2.1 n 4 (by omega) (by omega) e, ← h.2.2.1 n 0 (by omega) (by omega) e, ← h.2.2.1 n 1 (by omega) (by omega) e, ← h.2.2.1 n 3 (by omega) (by omega) e]
      · have e2 : ¬ gf B n 3 = nI c := fun x => e ((h.2.1 n (by omega)).mpr x)
        rw [if_neg (fun x => e x.1), if_neg (fun x => e x.1), if_neg (fun x => e2 x.1), if_neg (fun x => e2 x.1)]
  unfold stopsM
  rw [h.1 7 (by omega), key m (Nat.le_refl m)]
theorem EqC.here (h : EqC c m A B) {g : Nat} (hg : g < m) : hereB A g c = hereB B g c := by
  unfold hereB
  by_cases e : gf A g 3 = nI c
  · have e2 := (h.2.1 g hg).mp e
    rw [← h.2.2.1 g 4 hg (by omega) e, ← h.2.2.1 g 0 hg (by omega) e, ← h.1 3 (by omega), e, e2]
  · have e2 : ¬ gf B g 3 = nI c := fun x => e ((h.2.1 g hg).mpr x)
    rw [decide_eq_false e, decide_eq_false e2, Bool.false_and, Bool.false_and, Bool.false_and, Bool.false_and]
theorem EqC.way (h : EqC c m A B) {g : Nat} (hg : g < m) (e : gf A g 3 = nI c) : wayM A g = wayM B g := by
  unfold wayM
  rw [h.2.2.1 g 0 hg (by omega) e, h.2.2.1 g 1 hg (by omega) e]
theorem EqC.hw (h : EqC c m A B) {g : Nat} {w : Int32} (hg : g < m) : (hereB A g c && decide (wayM A g = w)) = (hereB B g c && decide (wayM B g = w)) := by
  rw [← h.here hg]
  cases e : hereB A g c
  · rw [Bool.false_and, Bool.false_and]
  · rw [h.way hg (here_t e).1]
theorem EqC.hf (h : EqC c m A B) {g : Nat} {x : Int32} (hg : g < m) : (if hereB A g c = true then wayM A g else x) = (if hereB B g c = true then wayM B g else x) := by
  rw [← h.here hg]
  by_cases e : hereB A g c = true
  · rw [if_pos e, if_pos e, h.way hg (here_t e).1]
  · rw [if_neg e, if_neg e]
theorem EqC.good (h : EqC c m A B) {w : Int32} : goodB A c w m = goodB B c w m := by
  have key : ∀ n, n ≤ m → ∀ a, itr (fun g b => b || (hereB A g c && decide (wayM A g = w))) a n = itr (fun g b => b || (hereB B g c && decide (wayM B g = w))) a n := by
    intro n
    induction n with
    | zero =>
      intro _ a
      rw [itr_0, itr_0]
    | succ n ih =>
      intro hn a
      have e1 := ih (Nat.le_of_succ_le hn) a
      have e2 := h.hw (w := w) (show n < m from hn)
      rw [itr_s, itr_s, e1]
      show (_ || (hereB A n c && decide (wayM A n = w))) = (_ || (hereB B n c && decide (wayM B n = w)))
      rw [e2]
  unfold goodB
  rw [h.stops, h.1 3 (by omega)]
  exact key m (Nat.le_refl m) _
theorem fhR_s {N : Nat → Int32} {c m k : Nat} {e : Int32} : fhR N c m e (k + 1) = if hereB N (m - (k + 1)) c = true then wayM N (m - (k + 1)) else fhR N c m e k := rfl
theorem EqC.fh (h : EqC c m A B) {e : Int32} : ∀ {k : Nat}, k ≤ m → fhR A c m e k = fhR B c m e k := by
  intro k
  induction k with
  | zero => exact fun _ => rfl
  | succ k ih =>
    intro hk
    rw [fhR_s, fhR_s, ih (by omega), h.hf (by omega)]
theorem EqC.look (h : EqC c m A B) : lookM A c m = lookM B c m := by
  unfold lookM
  rw [h.1 4 (by omega), h.1 3 (by omega), h.stops, h.2.2.2, h.good, h.good, h.fh (Nat.le_refl m)]
theorem eqc_mv1 (h : EqC c m A B) (hc : c < 4) : EqC c m (mv1 A c) (mv1 B c) := by
  unfold mv1
  rw [h.1 5 (by omega)]
  split
  · exact h
  · exact h.upc rfl hc (by omega)
theorem eqc_mv2 (h : EqC c m A B) (hc : c < 4) : EqC c m (mv2 A c) (mv2 B c) := by
  unfold mv2
  rw [h.1 6 (by omega)]
  split
  · exact (h.upc (by rw [h.1 3 (by omega), h.1 4 (by omega)]) hc (by omega)).upc rfl hc (by omega)
  · exact h
theorem eqc_mv3 (h : EqC c m A B) (hc : c < 4) : EqC c m (mv3 A c) (mv3 B c) := by
  unfold mv3
  rw [h.1 7 (by omega), h.1 3 (by omega)]
  split
  · exact h.upc rfl hc (by omega)
  · exact h
theorem eqc_mv4 (h : EqC c m A B) (hc : c < 4) : EqC c m (mv4 A c m) (mv4 B c m) := by
  unfold mv4
  rw [h.load (Nat.le_refl m), h.look]
  split
  · exact h.upc rfl hc (by omega)
  · exact h
theorem EqC.lvb (h : EqC c m A B) {g : Nat} (hg : g < m) : lvB A c g = lvB B c g := by
  unfold lvB
  by_cases e : gf A g 3 = nI c
  · have e2 := (h.2.1 g hg).mp e
    rw [← h.2.2.1 g 4 hg (by omega) e, ← h.2.2.1 g 1 hg (by omega) e, ← h.1 3 (by omega), e, e2]
  · have e2 : ¬ gf B g 3 = nI c := fun x => e ((h.2.1 g hg).mpr x)
    rw [decide_eq_false e, decide_eq_false e2, Bool.false_and, Bool.false_and, Bool.false_and, Bool.false_and]
theorem eqc_lv (h : EqC c m A B) (hc : c < 4) (hm : m ≤ 40) : ∀ {n : Nat}, n ≤ m → EqC c m (lvN A c n) (lvN B c n) ∧ lvC A c n = lvC B c n
  | 0, _ => ⟨h, rfl⟩
  | n + 1, hn => by
    obtain ⟨h1, h2⟩ := eqc_lv h hc hm (n := n) (by omega)
    show EqC c m (lvF c n (lvN A c n)) (lvF c n (lvN B c n)) ∧ lvC A c n + (if lvB (lvN A c n) c n = true then 1 else 0) = lvC B c n + (if lvB (lvN B c n) c n = true then 1 else 0)
    unfold lvF
    rw [h2, ← h1.lvb (by omega)]
    refine ⟨?_, rfl⟩
    by_cases e : lvB (lvN A c n) c n = true
    · rw [if_pos e, if_pos e]
      exact (h1.upg (fun _ => rfl) hc (by omega) hm (Or.inl rfl)).hap hc hm
    · rw [if_neg e, if_neg e]
      exact h1
theorem eqc_bdF {s t : (Nat → Int32) × Nat × Bool} {g : Nat} (h : EqC c m s.1 t.1 ∧ s.2 = t.2) (hc : c < 4) (hm : m ≤ 40) (hg : g < m) : EqC c m (bdF c m g s).1 (bdF c m g t).1 ∧ (bdF c m g s).2 = (bdF c m g t).2 := by
  obtain ⟨A, x⟩ := s
  obtain ⟨B, y⟩ := t
  obtain ⟨h1, rfl⟩ := h
  dsimp only at h1
  have e1 : (hereB B g c && decide (wayM B g = cf B c 4)) = (hereB A g c && decide (wayM A g = cf A c 4)) := by
    rw [← h1.here hg, ← h1.1 4 (by omega)]
    cases e : hereB A g c
    · rw [Bool.false_and, Bool.false_and]
    · rw [h1.way hg (here_t e).1]
  unfold bdF
  dsimp only
  rw [e1]
  by_cases e : (hereB A g c && decide (wayM A g = cf A c 4)) = true
  · rw [if_pos e, if_pos e]
    rw [Bool.and_eq_true] at e
    have e3 := (here_t e.1).1
    rw [← h1.load (Nat.le_refl m), ← h1.2.2.1 g 2 hg (by omega) e3, ← h1.1 2 (by omega)]
    split
    · exact ⟨h1, rfl⟩
    · exact ⟨(((h1.upg (fun _ => rfl) hc hg hm (Or.inl rfl)).upg (fun e => absurd e (by omega)) hc hg hm (Or.inr rfl)).hap hc hm).up450 hc hm, rfl⟩
  · rw [if_neg e, if_neg e]
    exact ⟨h1, rfl⟩
theorem eqc_bd (h : EqC c m A B) (hc : c < 4) (hm : m ≤ 40) : ∀ {n : Nat}, n ≤ m → EqC c m (bdS A c m n).1 (bdS B c m n).1 ∧ (bdS A c m n).2 = (bdS B c m n).2
  | 0, _ => ⟨h, rfl⟩
  | n + 1, hn => eqc_bdF (eqc_bd h hc hm (n := n) (by omega)) hc hm (by omega)
theorem eqc_mv5 (h : EqC c m A B) (hc : c < 4) (hm : m ≤ 40) {j : Nat} : EqC c m (mv5 A c m j) (mv5 B c m j) := by
  unfold mv5
  rw [h.1 0 (by omega), h.1 1 (by omega), h.1 4 (by omega), h.1 3 (by omega), h.load (Nat.le_refl m), h.stops]
  split
  · exact h.upc rfl hc (by omega)
  · split
    · have h1 : EqC c m (upd A (8 * c + 6) (nI 1)) (upd B (8 * c + 6) (nI 1)) := h.upc rfl hc (by omega)
      exact h1.upc (by rw [h1.1 0 (by omega), h1.1 1 (by omega), h1.load (Nat.le_refl m)]) hc (by omega)
    · exact h.upc rfl hc (by omega)
theorem eqc_act (h : EqC c m A B) (hc : c < 4) (hm : m ≤ 40) : EqC c m (actN A c m) (actN B c m) := by
  unfold actN
  dsimp only
  have h1 := eqc_mv3 (eqc_mv2 h hc) hc
  obtain ⟨h2, e2⟩ := eqc_lv h1 hc hm (Nat.le_refl m)
  have h3 := eqc_mv4 h2 hc
  obtain ⟨h4, e4⟩ := eqc_bd h3 hc hm (Nat.le_refl m)
  rw [e2, e4]
  exact eqc_mv5 h4 hc hm
theorem eqc_mvN (h : EqC c m A B) (hc : c < 4) (hm : m ≤ 40) : EqC c m (mvN A c m) (mvN B c m) := by
  have h1 := eqc_mv1 h hc
  unfold mvN
  rw [h1.1 5 (by omega)]
  split
  · exact eqc_act h1 hc hm
  · exact h1
/-- one car's tick does for it what a tick of all does -/
theorem eqc_ps (h : EqC c m A B) (hm : m ≤ 40) {k : Nat} (hk : k ≤ 4) (hc : c < k) : EqC c m (mvN A c m) (psS B m k).1 := by
  have key : ∀ n, n ≤ k → EqC c m (if c < n then mvN A c m else A) (psS B m n).1 := by
    intro n
    induction n with
    | zero =>
      intro _
      rw [if_neg (Nat.not_lt_zero c)]
      refine h.trans ⟨fun j hj => ?_, fun g hg => ?_, fun g j hg hj _ => ?_, ?_⟩
      · show _ = cf (upd B 447 (B 447 + nI 1)) c j
        rw [cf_u (by omega)]
      · show _ ↔ gf (upd B 447 (B 447 + nI 1)) g 3 = nI c
        rw [gf_u (by omega)]
      · show _ = gf (upd B 447 (B 447 + nI 1)) g j
        rw [gf_u (by omega)]
      · show B 444 = (upd B 447 (B 447 + nI 1)) 444
        rw [up_n (by omega)]
    | succ n ih =>
      intro hn
      have ih := ih (by omega)
      show EqC c m (if c < n + 1 then mvN A c m else A) (mvN (psS B m n).1 n m)
      by_cases e : n = c
      · subst e
        rw [if_neg (Nat.lt_irrefl n)] at ih
        rw [if_pos (Nat.lt_succ_self n)]
        exact eqc_mvN ih (by omega) hm
      · have e2 : (c < n + 1) = (c < n) := propext ⟨fun x => by omega, fun x => by omega⟩
        simp only [e2]
        exact ih.trans ((only_mvN (by omega) hm).eqc (by omega) (by omega) (fun x => e x.symm))
  have := key k (Nat.le_refl k)
  rwa [if_pos hc] at this
end
