/-! THE PURE MACHINE IS SOUND, 2: the words, the world, what is done with cells. -/
def WT : List Cond := lw_tbl.filter goodWord
theorem wt_of {i : Nat} {w : Cond} (h : lw_tbl[i]? = some w) (g : goodWord w = true) : w ∈ WT := List.mem_filter.mpr ⟨List.mem_of_getElem? h, g⟩
def ptx1 (c : Nat) : u_T := ptx.getD c TX0
def pty1 (c : Nat) : Nat → FieldType := pty.getD c tyX0
def ckF (own : Nat) (e : Nat × Nat × Nat × Nat) : Bool := decide (e.2.1 < 8) && decide (lw_tbl[e.2.2.2]? = some (.fieldLink (cn own) e.1 (ptx1 e.2.1 e.2.2.1).1 (ptx1 e.2.1 e.2.2.1).2.1 (ptx1 e.2.1 e.2.2.1).2.2.1)) && decide ((ptx1 e.2.1 e.2.2.1).1 = cn e.2.1)
theorem ckF_all : (List.range 15).all (fun own => (ftabs.getD own []).all (ckF own)) = true := by decide +kernel
theorem getD_lt {α : Type} {l : List (List α)} {i : Nat} {e : α} (h : e ∈ l.getD i []) : i < l.length := by
  by_cases hi : i < l.length
  · exact hi
  · rw [List.getD_eq_getElem?_getD, List.getElem?_eq_none (by omega)] at h
    cases h
theorem tab_all {α : Type} {l : List (List α)} {ck : Nat → α → Bool} {n i : Nat} {e : α} (hn : l.length = n) (h : (List.range n).all (fun own => (l.getD own []).all (ck own)) = true) (he : e ∈ l.getD i []) : ck i e = true :=
  List.all_eq_true.mp (List.all_eq_true.mp h i (List.mem_range.mpr (by rw [← hn]; exact getD_lt he))) e he
theorem ftab_ok {own idx c k : Nat} (h : ftab own idx = some (c, k)) : c < 8 ∧ Cond.fieldLink (cn own) idx (ptx1 c k).1 (ptx1 c k).2.1 (ptx1 c k).2.2.1 ∈ WT ∧ (ptx1 c k).1 = cn c := by
  unfold ftab at h
  cases hf : (ftabs.getD own []).find? (fun e => e.1 == idx) with
  | none => rw [hf] at h; cases h
  | some e =>
    rw [hf] at h
    cases h
    have h1 := tab_all (ck := ckF) (n := 15) rfl ckF_all (List.mem_of_find?_eq_some hf)
    have h2 : e.1 = idx := by simpa using List.find?_some hf
    simp only [ckF, Bool.and_eq_true, decide_eq_true_eq] at h1
    obtain ⟨⟨a, b⟩, d⟩ := h1
    rw [h2] at b
    exact ⟨a, wt_of b rfl, d⟩
def ckL (own : Nat) (e : Nat × Int32 × Nat) : Bool := decide (lw_tbl[e.2.2]? = some (.constant (cn own) e.1 e.2.1))
theorem ckL_all : (List.range 15).all (fun own => (ltabs.getD own []).all (ckL own)) = true := by decide +kernel
theorem ltab_ok {own idx : Nat} {v : Int32} (h : ltab own idx = some v) : Cond.constant (cn own) idx v ∈ WT := by
  unfold ltab at h
  cases hf : (ltabs.getD own []).find? (fun e => e.1 == idx) with
  | none => rw [hf] at h; cases h
  | some e =>
    rw [hf] at h
    cases h
    have h1 := tab_all (ck := ckL) (n := 15) rfl ckL_all (List.mem_of_find?_eq_some hf)
    have h2 : e.1 = idx := by simpa using List.find?_some hf
    simp only [ckL, decide_eq_true_eq] at h1
    rw [h2] at h1
    exact wt_of h1 rfl
def ckL2 (own : Nat) (e : Nat × Int64 × Nat) : Bool := decide (lw_tbl[e.2.2]? = some (.constantLong (cn own) e.1 e.2.1))
theorem ckL2_all : (List.range 15).all (fun own => (l2tabs.getD own []).all (ckL2 own)) = true := by decide +kernel
theorem l2tab_ok {own idx : Nat} {v : Int64} (h : l2tab own idx = some v) : Cond.constantLong (cn own) idx v ∈ WT := by
  unfold l2tab at h
  cases hf : (l2tabs.getD own []).find? (fun e => e.1 == idx) with
  | none => rw [hf] at h; cases h
  | some e =>
    rw [hf] at h
    cases h
    have h1 := tab_all (ck := ckL2) (n := 15) rfl ckL2_all (List.mem_of_find?_eq_some hf)
    have h2 : e.1 = idx := by simpa using List.find?_some hf
    simp only [ckL2, decide_eq_true_eq] at h1
    rw [h2] at h1
    exact wt_of h1 rfl
def ckN (own : Nat) (e : Nat × Nat × Nat) : Bool := decide (e.2.1 < 8) && decide (lw_tbl[e.2.2]? = some (.classLink (cn own) e.1 (cn e.2.1)))
theorem ckN_all : (List.range 15).all (fun own => (ntabs.getD own []).all (ckN own)) = true := by decide +kernel
theorem ntab_ok {own idx c : Nat} (h : ntab own idx = some c) : c < 8 ∧ Cond.classLink (cn own) idx (cn c) ∈ WT := by
  unfold ntab at h
  cases hf : (ntabs.getD own []).find? (fun e => e.1 == idx) with
  | none => rw [hf] at h; cases h
  | some e =>
    rw [hf] at h
    cases h
    have h1 := tab_all (ck := ckN) (n := 15) rfl ckN_all (List.mem_of_find?_eq_some hf)
    have h2 : e.1 = idx := by simpa using List.find?_some hf
    simp only [ckN, Bool.and_eq_true, decide_eq_true_eq] at h1
    rw [h2] at h1
    exact ⟨h1.1, wt_of h1.2 rfl⟩
def ckQ (own : Nat) (e : Nat × Nat × Nat) : Bool := (decide (e.2.1 = 22) && decide (lw_tbl[e.2.2]? = some (.classLink (cn own) e.1 (cn 0)))) || (decide (e.2.1 = 23) && decide (lw_tbl[e.2.2]? = some (.classLink (cn own) e.1 (cn 4))))
theorem ckQ_all : (List.range 15).all (fun own => (atabs.getD own []).all (ckQ own)) = true := by decide +kernel
theorem atab_ok {own idx t : Nat} (h : atab own idx = some t) : (t = 22 ∧ Cond.classLink (cn own) idx (cn 0) ∈ WT) ∨ (t = 23 ∧ Cond.classLink (cn own) idx (cn 4) ∈ WT) := by
  unfold atab at h
  cases hf : (atabs.getD own []).find? (fun e => e.1 == idx) with
  | none => rw [hf] at h; cases h
  | some e =>
    rw [hf] at h
    cases h
    have h1 := tab_all (ck := ckQ) (n := 15) rfl ckQ_all (List.mem_of_find?_eq_some hf)
    have h2 : e.1 = idx := by simpa using List.find?_some hf
    simp only [ckQ, Bool.or_eq_true, Bool.and_eq_true, decide_eq_true_eq] at h1
    rw [h2] at h1
    rcases h1 with ⟨a, b⟩ | ⟨a, b⟩
    · exact Or.inl ⟨a, wt_of b rfl⟩
    · exact Or.inr ⟨a, wt_of b rfl⟩
/-- the classes' own words -/
def ckC (c : Nat) : Bool := (List.range (fcount c)).all (fun k => decide (lw_tbl[((wlay.getD c []).getD k 0)]? = some (u_lay (cn c) (ptx1 c) k)) && goodWord (u_lay (cn c) (ptx1 c) k) && decide ((ptx1 c k).2.2.2 = ffin c k) && decide (parseFieldDescriptor (ptx1 c k).2.2.1 = some (pty1 c k)) &&
    decide ((fkind c k = 0 ∧ pty1 c k = .int) ∨ (fkind c k = 1 ∧ pty1 c k = .boolean) ∨ (fkind c k = 2 ∧ (pty1 c k).isReference = true))) &&
  decide (lw_tbl[(winst.getD c (0, 0)).1]? = some (.instantiable (cn c) (fcount c))) && decide (lw_tbl[(winst.getD c (0, 0)).2]? = some (.initialized (cn c))) && decide (pcl[c]?.map (fun q => (q.1, q.2.2)) = some (cn c, fcount c)) &&
  (List.range (fcount c)).all (fun a => (List.range (fcount c)).all (fun b => decide (a = b) || decide ((ptx1 c a).2.1 ≠ (ptx1 c b).2.1)))
theorem ckC_all : (List.range 8).all ckC = true := by decide +kernel
theorem pcl_at {c : Nat} (h : c < 8) : pcl[c]? = some (cn c, ptx1 c, fcount c) := by
  rcases (by omega : c = 0 ∨ c = 1 ∨ c = 2 ∨ c = 3 ∨ c = 4 ∨ c = 5 ∨ c = 6 ∨ c = 7) with rfl | rfl | rfl | rfl | rfl | rfl | rfl | rfl <;> rfl
theorem cls_ok {c : Nat} (h : c < 8) : (∀ w ∈ u_ws (cn c) (ptx1 c) (fcount c), w ∈ WT) ∧ (∀ k, k < fcount c → (ptx1 c k).2.2.2 = ffin c k) ∧ (∀ k, k < fcount c → parseFieldDescriptor (ptx1 c k).2.2.1 = some (pty1 c k)) ∧
    (∀ k, k < fcount c → (fkind c k = 0 ∧ pty1 c k = .int) ∨ (fkind c k = 1 ∧ pty1 c k = .boolean) ∨ (fkind c k = 2 ∧ (pty1 c k).isReference = true)) ∧ Cond.instantiable (cn c) (fcount c) ∈ WT ∧ Cond.initialized (cn c) ∈ WT ∧
    (∀ a, a < fcount c → ∀ b, b < fcount c → a ≠ b → (ptx1 c a).2.1 ≠ (ptx1 c b).2.1) := by
  have h1 := List.all_eq_true.mp ckC_all c (List.mem_range.mpr h)
  unfold ckC at h1
  rw [Bool.and_eq_true, Bool.and_eq_true, Bool.and_eq_true, Bool.and_eq_true] at h1
  obtain ⟨⟨⟨⟨h1, h2⟩, h3⟩, -⟩, h4⟩ := h1
  have hk : ∀ k, k < fcount c → _ := fun k hk => List.all_eq_true.mp h1 k (List.mem_range.mpr hk)
  simp only [Bool.and_eq_true, decide_eq_true_eq] at hk h2 h3
  refine ⟨fun w hw => ?_, fun k h => (hk k h).1.1.2, fun k h => (hk k h).1.2, fun k h => (hk k h).2, wt_of h2 rfl, wt_of h3 rfl, fun a ha b hb hab => ?_⟩
  · obtain ⟨k, hk1, rfl⟩ := List.mem_map.mp hw
    have := hk k (List.mem_range.mp hk1)
    exact wt_of this.1.1.1.1 this.1.1.1.2
  · have := List.all_eq_true.mp (List.all_eq_true.mp h4 a (List.mem_range.mpr ha)) b (List.mem_range.mpr hb)
    simp only [Bool.or_eq_true, decide_eq_true_eq] at this
    rcases this with h | h
    · exact absurd h hab
    · exact h
/-! the world -/
abbrev pEn : Type := va_G × (ClassId × ClassId × ClassId × ClassId)
def rfo (B : pAd) (v : Value) : Option Nat := match v with
  | .ref r => some (B.1 + r)
  | _ => none
def WFv (v : Value) : Prop := v = .null ∨ ∃ r, v = .ref r ∧ r < 1000
def WF (G : pG) : Prop := G.length ≤ 1000 ∧ ∀ e ∈ G, ∀ v ∈ e.2.2, WFv v
theorem rfo_emv {B : pAd} {v : Value} (h : WFv v) : va_rf (rfo B v) = emv B v := by
  rcases h with rfl | ⟨r, rfl, hr⟩
  · rfl
  · simp only [rfo, va_rf, emv]; rw [if_pos hr]
def fldV (B : pAd) (e : Nat × Nat × List Value) (f : Nat → Int32) (k : Nat) : Value := if fkind e.1 k = 2 then emv B (e.2.2.getD k .null) else .int (f k)
def ent (E : pEn) (B : pAd) (e : Nat × Nat × List Value) (f : Nat → Int32) : va_E :=
  if e.1 = 20 then .inl (E.2.1, e.2.1, .inl f)
  else if e.1 = 21 then .inl (E.2.2.1, e.2.1, .inl f)
  else if e.1 = 22 then .inl (E.2.2.2.1, e.2.1, .inr (.inr (.inr (.inr (fun j => rfo B (e.2.2.getD j .null))))))
  else if e.1 = 23 then .inl (E.2.2.2.2, e.2.1, .inr (.inr (.inr (.inr (fun j => rfo B (e.2.2.getD j .null))))))
  else .inr (e.1, (List.range (fcount e.1)).map (fldV B e f))
def gd (G : pG) (k : Nat) : Nat × Nat × List Value := G.getD k (99, 0, [])
def wsO (E : pEn) (B : pAd) (G : pG) (I : pI) : va_W := (List.range G.length).map fun k => (B.1 + k, ent E B (gd G k) (I k))
theorem gd_at {G : pG} {r : Nat} {e : Nat × Nat × List Value} (h : G[r]? = some e) : gd G r = e := by
  unfold gd
  rw [List.getD_eq_getElem?_getD, h]
  rfl
theorem ws_get {E : pEn} {B : pAd} {G : pG} {I : pI} {r : Nat} (h : r < G.length) : (wsO E B G I)[r]? = some (B.1 + r, ent E B (gd G r) (I r)) := by
  unfold wsO
  rw [List.getElem?_map, List.getElem?_range h]
  rfl
theorem ws_at {E : pEn} {B : pAd} {G : pG} {I : pI} {r : Nat} {e : Nat × Nat × List Value} (h : G[r]? = some e) : (wsO E B G I)[r]? = some (B.1 + r, ent E B e (I r)) := by
  rw [ws_get (List.getElem?_eq_some_iff.mp h).1, gd_at h]
theorem ws_len {E : pEn} {B : pAd} {G : pG} {I : pI} : (wsO E B G I).length = G.length := by simp [wsO]
theorem ws_set {E : pEn} {B : pAd} {G G' : pG} {I I' : pI} {r : Nat} {x : va_E} (hG : G'.length = G.length) (hx : x = ent E B (gd G' r) (I' r)) (hne : ∀ k, k ≠ r → gd G' k = gd G k ∧ I' k = I k) : (wsO E B G I).set r (B.1 + r, x) = wsO E B G' I' := by
  apply List.ext_getElem?
  intro k
  by_cases hk : k < G.length
  · rw [ws_get (by rw [hG]; exact hk)]
    by_cases hkr : k = r
    · subst hkr
      rw [List.getElem?_set_self (by rw [ws_len]; exact hk), hx]
    · rw [List.getElem?_set_ne (Ne.symm hkr), ws_get hk, (hne k hkr).1, (hne k hkr).2]
  · rw [List.getElem?_eq_none (by rw [List.length_set, ws_len]; omega), List.getElem?_eq_none (by rw [ws_len]; omega)]
theorem ws_push {E : pEn} {B : pAd} {G : pG} {I : pI} {e : Nat × Nat × List Value} {x : va_E} (hx : x = ent E B e (fun _ => 0)) : wsO E B G I ++ [(B.1 + G.length, x)] = wsO E B (G ++ [e]) (zero2 I G.length) := by
  apply List.ext_getElem?
  intro k
  by_cases hk : k < G.length
  · rw [List.getElem?_append_left (by rw [ws_len]; exact hk), ws_get hk, ws_get (by simp; omega)]
    have e1 : gd (G ++ [e]) k = gd G k := by unfold gd; rw [List.getD_eq_getElem?_getD, List.getD_eq_getElem?_getD, List.getElem?_append_left hk]
    have e2 : zero2 I G.length k = I k := by funext j; simp [zero2, Nat.ne_of_lt hk]
    rw [e1, e2]
  · by_cases hk2 : k = G.length
    · subst hk2
      rw [List.getElem?_append_right (by rw [ws_len]; exact Nat.le_refl _), ws_len, Nat.sub_self, ws_get (by simp)]
      have e1 : gd (G ++ [e]) G.length = e := gd_at (by simp)
      have e2 : zero2 I G.length G.length = fun _ => 0 := by funext j; simp [zero2]
      rw [e1, e2, hx]
      rfl
    · rw [List.getElem?_eq_none (by simp [ws_len]; omega), List.getElem?_eq_none (by rw [ws_len]; simp; omega)]
theorem ws_D {E : pEn} {B : pAd} {G : pG} {I : pI} : va_D (fun q => B.1 ≤ q) (wsO E B G I) := by
  have key : ∀ (k : Nat) (q : Nat × va_E), (wsO E B G I)[k]? = some q → q.1 = B.1 + k := by
    intro k q h
    have hk : k < G.length := by
      have := (List.getElem?_eq_some_iff.mp h).1
      rw [ws_len] at this; exact this
    rw [ws_get hk] at h
    cases h
    rfl
  refine ⟨fun i j x y hi hj hxy => ?_, fun k q h => ?_⟩
  · rw [key i x hi, key j y hj] at hxy; omega
  · rw [key k q h]; exact Nat.le_add_right _ _
theorem tagW_some {G : pG} {r c : Nat} (h : tagW G r = c) (hc : c ≠ 99) : ∃ e, G[r]? = some e ∧ e.1 = c := by
  unfold tagW at h
  cases hg : G[r]? with
  | none => rw [hg] at h; exact absurd h.symm hc
  | some e => rw [hg] at h; exact ⟨e, rfl, h⟩
theorem lenW_at {G : pG} {r : Nat} {e : Nat × Nat × List Value} (h : G[r]? = some e) : lenW G r = e.2.1 := by unfold lenW; rw [h]
theorem refW_at {G : pG} {r k : Nat} {e : Nat × Nat × List Value} (h : G[r]? = some e) : refW G r k = e.2.2.getD k .null := by unfold refW; rw [h]
theorem inb_in {i : Int32} {n : Nat} (h : inb i n = true) : vp_in i n := by
  unfold inb at h
  simp only [Bool.and_eq_true, decide_eq_true_eq] at h
  rintro (a | a)
  · exact absurd h.1 (Int32.not_le.mpr a)
  · omega
theorem WF_lt {G : pG} (hw : WF G) {r : Nat} {e : Nat × Nat × List Value} (h : G[r]? = some e) : r < 1000 := Nat.lt_of_lt_of_le (List.getElem?_eq_some_iff.mp h).1 hw.1
theorem WF_getD {G : pG} (hw : WF G) {r : Nat} {e : Nat × Nat × List Value} (h : G[r]? = some e) (k : Nat) : WFv (e.2.2.getD k .null) := by
  rw [List.getD_eq_getElem?_getD]
  cases hk : e.2.2[k]? with
  | none => exact Or.inl rfl
  | some v => exact hw.2 e (List.mem_of_getElem? h) v (List.mem_of_getElem? hk)
theorem emv_w {B : pAd} {r : Nat} (h : r < 1000) : emv B (.ref r) = .ref (B.1 + r) := by simp only [emv]; rw [if_pos h]
theorem setRef_at {G : pG} {r k : Nat} {v : Value} {e : Nat × Nat × List Value} (h : G[r]? = some e) : setRef G r k v = G.set r (e.1, e.2.1, e.2.2.set k v) := by unfold setRef; rw [h]
theorem gd_set {G : pG} {r k : Nat} {e : Nat × Nat × List Value} (hr : r < G.length) : gd (G.set r e) k = if k = r then e else gd G k := by
  unfold gd
  rw [List.getD_eq_getElem?_getD, List.getD_eq_getElem?_getD]
  by_cases h : k = r
  · subst h
    rw [if_pos rfl, List.getElem?_set_self hr]; rfl
  · rw [if_neg h, List.getElem?_set_ne (Ne.symm h)]
theorem WF_set {G : pG} (hw : WF G) {r k : Nat} {v : Value} {e : Nat × Nat × List Value} (h : G[r]? = some e) (hv : WFv v) : WF (G.set r (e.1, e.2.1, e.2.2.set k v)) := by
  refine ⟨by rw [List.length_set]; exact hw.1, fun x hx w hww => ?_⟩
  rcases List.mem_or_eq_of_mem_set hx with h1 | h1
  · exact hw.2 x h1 w hww
  · subst h1
    rcases List.mem_or_eq_of_mem_set hww with h2 | h2
    · exact hw.2 e (List.mem_of_getElem? h) w h2
    · rw [h2]; exact hv
theorem WF_push {G : pG} (hw : WF G) (hl : G.length < 1000) {e : Nat × Nat × List Value} (he : ∀ v ∈ e.2.2, WFv v) : WF (G ++ [e]) := by
  refine ⟨by simp; omega, fun x hx => ?_⟩
  rcases List.mem_append.mp hx with h | h
  · exact hw.2 x h
  · rw [List.mem_singleton] at h; subst h; exact he
theorem fldV_map {B : pAd} {e : Nat × Nat × List Value} {f : Nat → Int32} {k : Nat} (hk : k < fcount e.1) : ((List.range (fcount e.1)).map (fldV B e f))[k]? = some (fldV B e f k) := by
  rw [List.getElem?_map, List.getElem?_range hk]; rfl
theorem fldV_set {B : pAd} {e e' : Nat × Nat × List Value} {f f' : Nat → Int32} {k : Nat} {v : Value} (h1 : e'.1 = e.1) (hv : k < fcount e.1 → v = fldV B e' f' k) (hne : ∀ j, j ≠ k → fldV B e' f' j = fldV B e f j) :
    ((List.range (fcount e.1)).map (fldV B e f)).set k v = (List.range (fcount e'.1)).map (fldV B e' f') := by
  rw [h1]
  apply List.ext_getElem?
  intro j
  by_cases hj : j < fcount e.1
  · rw [List.getElem?_map, List.getElem?_range hj]
    by_cases hjk : j = k
    · subst hjk
      rw [List.getElem?_set_self (by simpa using hj), hv hj]
      rfl
    · rw [List.getElem?_set_ne (Ne.symm hjk), List.getElem?_map, List.getElem?_range hj, Option.map_some, Option.map_some, hne j hjk]
  · rw [List.getElem?_eq_none (by simp; omega), List.getElem?_eq_none (by simp; omega)]
theorem ent_obj {E : pEn} {B : pAd} {e : Nat × Nat × List Value} {f : Nat → Int32} (h : e.1 < 8) : ent E B e f = .inr (e.1, (List.range (fcount e.1)).map (fldV B e f)) := by
  unfold ent
  rw [if_neg (by omega), if_neg (by omega), if_neg (by omega), if_neg (by omega)]
