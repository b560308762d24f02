/-! THE PURE MACHINE IS SOUND, 5: calls, new cells, ends. -/
theorem sys_w : lw_tbl[wsys.getD 0 0]? = some (.native arraycopyName) ∧ lw_tbl[wsys.getD 1 0]? = some (.static arraycopyName) ∧ lw_tbl[wsys.getD 2 0]? = some (.initialized "java/lang/System") := ⟨by decide +kernel, by decide +kernel, by decide +kernel⟩
theorem obj_w : lw_tbl[wobj.getD 0 0]? = some (.instanceMethod objectInit) ∧ lw_tbl[wobj.getD 1 0]? = some (.code objectInit ⟨#[0xb1]⟩ 1 none) := ⟨by decide +kernel, by decide +kernel⟩
theorem arr_w : lw_tbl[warr.getD 0 0]? = some (.arrayClass .int) ∧ lw_tbl[warr.getD 1 0]? = some (.arrayClass .char) := ⟨by decide +kernel, by decide +kernel⟩
theorem gi {ws : List Cond} (h : ∀ w ∈ ws, w ∈ WT) : GoodIn WT ws := fun w hw => ⟨h w hw, good_of_word (List.mem_filter.mp (h w hw)).2⟩
def wsM (z : Nat) : List Cond := .code (ynm z) (pmth z).1 (pmth z).2.1 (pmth z).2.2.1 :: WT
def slG (G : pG) : Nat := (G.map fun e => e.2.1).sum
def rmD (d : Nat) (G G' : pG) : Room := { frames := d, cells := G'.length - G.length, slots := slG G' - slG G, locals := 40 * d }
def pPc (E : pEn) (B : pAd) (X : pX) (G : pG) (I : pI) (as : List Value) : Array Value → State → Prop := fun v U => v = (as.map (emv B)).toArray ∧ KF E B X U U.heap ∧ va_P E.1 pcl (wsO E B G I) U.heap ∧ U.heap.size = B.1 + G.length
def pQc (E : pEn) (B : pAd) (v : Option Value) (G' : pG) (I' : pI) : Array Value → State → Outcome → State → Prop := fun _ st oc t => oc = .returned (v.map (emv B)) ∧ va_P E.1 pcl (wsO E B G' I') t.heap ∧ (∀ q : Nat, q < B.1 → t.heap[q]? = st.heap[q]?) ∧ st.heap.size ≤ t.heap.size
def MetD (l : Launch) (E : pEn) (B : pAd) (X : pX) (d z : Nat) (as : List Value) (G : pG) (I : pI) (v : Option Value) (G' : pG) (I' : pI) : Prop :=
  Met l (ynm z) (wsM z) (rmD d G G') (pPc E B X G I as) (pQc E B v G' I') (G'.length - G.length) (slG G' - slG G) (pA B)
theorem pPc_blind {E : pEn} {B : pAd} {X : pX} {G : pG} {I : pI} {as : List Value} : FrameBlind (pPc E B X G I as) := fun a U g mk h => ⟨h.1, KF.same (u := U) (U := U.calling g mk a) rfl h.2.1, h.2.2.1, h.2.2.2⟩
theorem opK_some {own : Nat} {i : Instr} {st : List Value} {G : pG} {y : Nat} {as rest : List Value} (h : opK own i st G = some (y, as, rest)) :
    as.length = (pmth y).2.2.2.2.1 ∧ (rest.map Value.category).sum ≤ 8 ∧ (entL as).length ≤ (pmth y).2.1 ∧ st = as.reverse ++ rest ∧
    ((∃ idx, i = .invokestatic idx ∧ ∃ k, (k = 1 ∨ k = 4) ∧ ctab own idx = some (k, y)) ∨
     ((∃ r as0, as = .ref r :: as0 ∧ (tagW G r = (pmth y).2.2.2.1 ∨ (1004 ≤ r ∧ r < 1010 ∧ (pmth y).2.2.2.1 = 11))) ∧
      ((∃ idx, i = .invokevirtual idx ∧ ctab own idx = some (0, y)) ∨ (∃ idx, i = .invokespecial idx ∧ ∃ k, (k = 2 ∨ k = 3) ∧ ctab own idx = some (k, y))))) := by
  have go : ∀ okk idx inst, goK own okk idx inst st G = some (y, as, rest) → as.length = (pmth y).2.2.2.2.1 ∧ (rest.map Value.category).sum ≤ 8 ∧ (entL as).length ≤ (pmth y).2.1 ∧ st = as.reverse ++ rest ∧ (∃ k, okk k = true ∧ ctab own idx = some (k, y)) ∧ (inst = true → ∃ r as0, as = .ref r :: as0 ∧ (tagW G r = (pmth y).2.2.2.1 ∨ (1004 ≤ r ∧ r < 1010 ∧ (pmth y).2.2.2.1 = 11))) := by
    intro okk idx inst h
    unfold goK at h
    split at h
    · next k z hc =>
      split at h
      · next hcnd =>
        obtain ⟨h1, h2, h3, h4⟩ := hcnd
        split at h
        · split at h
          · next r as1 hr =>
            split at h
            · next ht =>
              cases h
              refine ⟨by rw [← hr, List.length_reverse, List.length_take]; omega, h3, by rw [← hr]; exact h4, by rw [← hr, List.reverse_reverse, List.take_append_drop], ⟨k, h1, hc⟩, fun _ => ⟨r, as1, rfl, ht⟩⟩
            · cases h
          · cases h
        · next hi =>
          cases h
          exact ⟨by rw [List.length_reverse, List.length_take]; omega, h3, h4, by rw [List.reverse_reverse, List.take_append_drop], ⟨k, h1, hc⟩, fun e => absurd e hi⟩
      · cases h
    · cases h
  unfold opK at h
  split at h
  · next idx =>
    obtain ⟨a1, a2, a3, a4, ⟨k, hk, hc⟩, a6⟩ := go _ _ _ h
    refine ⟨a1, a2, a3, a4, Or.inr ⟨a6 rfl, Or.inl ⟨idx, rfl, ?_⟩⟩⟩
    rw [hc, show k = 0 by simpa using hk]
  · next idx =>
    obtain ⟨a1, a2, a3, a4, ⟨k, hk, hc⟩, a6⟩ := go _ _ _ h
    exact ⟨a1, a2, a3, a4, Or.inr ⟨a6 rfl, Or.inr ⟨idx, rfl, k, by simpa using hk, hc⟩⟩⟩
  · next idx =>
    obtain ⟨a1, a2, a3, a4, ⟨k, hk, hc⟩, a6⟩ := go _ _ _ h
    exact ⟨a1, a2, a3, a4, Or.inl ⟨idx, rfl, k, by simpa using hk, hc⟩⟩
  · cases h
theorem own15_all : mtab.all (fun q => decide (q.2.2.2.1 < 15)) = true := by decide +kernel
theorem own15 (y : Nat) : (pmth y).2.2.2.1 < 15 := by
  unfold pmth
  rw [List.getD_eq_getElem?_getD]
  cases h : mtab[y]? with
  | none => exact (by decide : (0 : Nat) < 15)
  | some q =>
    have := List.all_eq_true.mp own15_all q (List.mem_of_getElem? h)
    rw [decide_eq_true_eq] at this
    exact this
section SC
variable {p : Program} {l : Launch} {e : Env} {R : Room} {s : State} {m : MethodId} {args : Array Value} {below : List Frame} {meth : Method} {c : Code} {H : Heap} {locs : List Loc} {cells slots : Nat} {Q : State → Prop}
variable {cc : ByteArray} {pc nL own len : Nat} {L : Array Slot} {st st' : List Value} {B : pAd} {i : Instr} {E : pEn} {X : pX} {G G' : pG} {I I' : pI}
theorem own_lt {r : Nat} {y : Nat} (h8 : ¬ (pmth y).2.2.2.1 < 8) (ht : tagW G r = (pmth y).2.2.2.1) (hP : va_P E.1 pcl (wsO E B G I) H) : False := by
  have h15 := own15 y
  obtain ⟨en, he, he1⟩ := tagW_some ht (by omega)
  have hat := ws_at (E := E) (B := B) (I := I) he
  have h2 := hP r _ hat
  have e1 : ent E B en (I r) = .inr (en.1, (List.range (fcount en.1)).map (fldV B en (I r))) := by
    unfold ent
    rw [if_neg (by omega), if_neg (by omega), if_neg (by omega), if_neg (by omega)]
  rw [e1] at h2
  obtain ⟨q, h3, -⟩ := h2
  have h4 : en.1 < pcl.length := (List.getElem?_eq_some_iff.mp h3).1
  have h5 : pcl.length = 8 := rfl
  omega
theorem run_go {v : Option Value} {st0 : List Value} {rest : List Value} {a : Array Value} {mc ms : Nat} (hr : va_Run p l e R s m args below meth c H locs cells slots mc ms (F0 m pc L st0) (rest.map (emv B)) (pQc E B v G' I' a) (pA B)) (hS : va_S (pA B) s.heap H locs)
    (kk : ∀ (H1 : Heap) (locs1 : List Loc), va_P E.1 pcl (wsO E B G' I') H1 → va_S (pA B) s.heap H1 locs1 → W p l e R s m args below meth c H1 locs1 (cells + mc) (slots + ms) Q (F0 m (pc + 3) L ((v.toList ++ rest).map (emv B)))) : W p l e R s m args below meth c H locs cells slots Q (F0 m pc L st0) := by
  intro T hT X0
  obtain ⟨v1, st₀, t, T', L1, h0, X', hL, e1, e2, ⟨hv, hp, hk, hz⟩, stp⟩ := hr T hT X0
  have hv' : v1 = v.map (emv B) := Outcome.returned.inj hv
  subst hv'
  rw [h0] at hz hk
  obtain ⟨t2, a1, b1⟩ := kk T'.heap (locs ++ L1) (by rw [e1]; exact hp) ⟨Nat.le_trans hS.1 (by rw [e1]; exact hz), fun q h1 h2 => by
      rw [e1, hk q (Nat.not_le.mp h2)]
      exact hS.2.1 q h1 h2, fun q hq => by
      rcases List.mem_append.mp hq with h | h
      · exact hS.2.2 q h
      · exact hL q h⟩ T' rfl X'
  refine ⟨t2, stp t2 ?_, b1⟩
  have e3 : (v.map (emv B)).toList ++ rest.map (emv B) = (v.toList ++ rest).map (emv B) := by cases v <;> rfl
  rw [e3]
  exact a1
theorem okM_code {y k : Nat} (h : okM y k = true) : Cond.code (ynm y) (pmth y).1 (pmth y).2.1 (pmth y).2.2.1 ∈ WT ∧ Cond.initialized (ynm y).cls ∈ WT ∧ plainName (ynm y).cls = true ∧ ((ynm y).cls ≠ "java/lang/invoke/MethodHandle" ∧ (ynm y).cls ≠ "java/lang/invoke/VarHandle") ∧ (pmth y).2.1 ≤ 10 ∧ (ynm y).cls = cn (pmth y).2.2.2.1 := by
  unfold okM at h
  simp only [Bool.and_eq_true, decide_eq_true_eq] at h
  obtain ⟨⟨⟨⟨⟨⟨⟨h1, h2⟩, h3⟩, h4⟩, h5⟩, h6⟩, h7⟩, -⟩ := h
  exact ⟨wt_of (mcu_239 y h1) rfl, wt_of h2 rfl, h3, ⟨h4, h5⟩, h6, h7⟩
theorem okM_static {y k : Nat} (hk : k = 1 ∨ k = 4) (h : okM y k = true) : Cond.static (ynm y) ∈ WT ∧ (parseMethodDescriptor (ynm y).desc).map (fun d => d.parameters.length) = some (pmth y).2.2.2.2.1 := by
  unfold okM at h
  simp only [Bool.and_eq_true, decide_eq_true_eq, if_pos hk] at h
  exact ⟨wt_of h.2.1 rfl, h.2.2⟩
theorem np_pred {o : Option Nat} {n k : Nat} (h : o.map (fun n => n + 1) = some n) (hk : k + 1 = n) : o = some k := by
  cases o with
  | none => cases h
  | some j => simp only [Option.map_some, Option.some.injEq] at h; rw [show j = k by omega]
theorem okM_inst {y k : Nat} (hk : ¬ (k = 1 ∨ k = 4)) (h : okM y k = true) : Cond.instanceMethod (ynm y) ∈ WT ∧ ((parseMethodDescriptor (ynm y).desc).map (fun d => d.parameters.length)).map (fun n => n + 1) = some (pmth y).2.2.2.2.1 ∧ (k = 0 → Cond.selects (ynm y).cls (ynm y) (ynm y) ∈ WT) ∧ (k ≠ 0 → (ynm y).name = "<init>" ∧ (pmth y).2.2.1 = none) := by
  unfold okM at h
  simp only [Bool.and_eq_true, decide_eq_true_eq, if_neg hk] at h
  obtain ⟨-, ⟨h1, h2⟩, h3⟩ := h
  refine ⟨wt_of h1 rfl, h2, fun e0 => ?_, fun e0 => ?_⟩
  · rw [if_pos e0, decide_eq_true_eq] at h3; exact wt_of h3 rfl
  · rw [if_neg e0, Bool.and_eq_true, decide_eq_true_eq, decide_eq_true_eq] at h3; exact h3
theorem ckK_call {own idx k y wi : Nat} (hk : k < 5) (h : ckK own (idx, k, y, wi) = true) : okM y k = true ∧ ((k = 3 ∨ k = 4) → (own, idx, y) ∈ nestL) ∧ (¬ (k = 3 ∨ k = 4) → lw_tbl[wi]? = some (.methodLink (cn own) idx (ynm y))) := by
  unfold ckK at h
  have n1 : ¬ k = 5 := by omega
  have n2 : ¬ k = 6 := by omega
  have n3 : ¬ 7 ≤ k := by omega
  simp only [n1, n2, n3, if_false, Bool.and_eq_true] at h
  refine ⟨h.1, fun e => ?_, fun e => ?_⟩
  · have h2 := h.2; rw [if_pos e, decide_eq_true_eq] at h2; exact h2
  · have h2 := h.2; rw [if_neg e, decide_eq_true_eq] at h2; exact h2
set_option maxHeartbeats 4000000 in
theorem snd_K (hx : p.tables.exec = Jvm.exec) (hb : c.code = cc) (hml : c.maxLocals = nL) (hown : s.vm.findClass (cn own) = some m.cls) (hts : ∀ w ∈ WT, w.before args s = true) (hk : KF E B X s s.heap) (hS : va_S (pA B) s.heap H locs) (hP : va_P E.1 pcl (wsO E B G I) H) (hsz : H.size = B.1 + G.length) (hw : WF G) (hLs : L.size = nL)
    {d y : Nat} {as rest : List Value} {v : Option Value} (h : opK own i st G = some (y, as, rest)) (hd : decode cc pc = .ok (i, 3)) (hM : MetD l E B X d y as G I v G' I') (hR : d + 1 ≤ R.frames ∧ 40 * (d + 1) ≤ R.locals) (hf : cells + (G'.length - G.length) ≤ R.cells ∧ slots + (slG G' - slG G) ≤ R.slots)
    (kk : ∀ (H1 : Heap) (locs1 : List Loc), va_P E.1 pcl (wsO E B G' I') H1 → va_S (pA B) s.heap H1 locs1 → W p l e R s m args below meth c H1 locs1 (cells + (G'.length - G.length)) (slots + (slG G' - slG G)) Q (F0 m (pc + 3) L ((v.toList ++ rest).map (emv B)))) : W p l e R s m args below meth c H locs cells slots Q (F0 m pc L (st.map (emv B))) := by
  obtain ⟨hlen, hcat, hent, hst, hkind⟩ := opK_some h
  have hB := hk.2.1
  have hW8 : 2 * (F0 m pc L (st.map (emv B))).monitorRoom + ((rest.map (emv B)).map fun v => v.category).sum ≤ 8 := lv_room (by rw [emv_cats hB]; exact hcat)
  have hpre : ∀ U : State, U.heap = H → s.WarmedH U.vm → pPc E B X G I as (as.map (emv B)).toArray U := fun U hU hW => ⟨rfl, by rw [hU]; exact KF.warm hW (hk.kept hS.2.1), by rw [hU]; exact hP, by rw [hU]; exact hsz⟩
  have hml10 : ∀ {k : Nat}, okM y k = true → (rmD d G G').frames + 1 ≤ R.frames ∧ 8 + ((pmth y).2.1 + 11) + (rmD d G G').locals ≤ R.locals := by
    intro k ho
    have := (okM_code ho).2.2.2.2.1
    refine ⟨hR.1, ?_⟩
    show 8 + ((pmth y).2.1 + 11) + 40 * d ≤ R.locals
    omega
  have hwsM : ∀ {k : Nat}, okM y k = true → ∀ w ∈ wsM y, w ∈ WT := by
    intro k ho w hw
    rcases List.mem_cons.mp hw with rfl | hw
    · exact (okM_code ho).1
    · exact hw
  rcases hkind with ⟨idx, rfl, k, hk14, hct⟩ | ⟨⟨r, as0, rfl, hrec⟩, hvi⟩
  · obtain ⟨wi, hck⟩ := ctab_ok hct
    have hck' := ckK_call (by omega) hck
    obtain ⟨ho, hl⟩ := hck'
    obtain ⟨o1, o2, o3, o4, o5, o6⟩ := okM_code ho
    obtain ⟨z1, z2⟩ := okM_static hk14 ho
    have hstk : (F0 m pc L (st.map (emv B))).stack = (as.map (emv B)).reverse ++ rest.map (emv B) := by
      show st.map (emv B) = _
      rw [hst, List.map_append, List.map_reverse]
    rcases hk14 with rfl | rfl
    · have hl := hl.2 (by omega)
      refine run_go (va_runS (As := as.map (emv B)) (n := (pmth y).2.2.2.2.1) ⟨hx, hb, hml, hown, hts⟩ hM (va_cwS _ hts (gi fun w hw => ?_) rfl rfl rfl ⟨o4.1, o4.2, z2⟩ (hml10 ho)) ⟨pPc_blind, hpre⟩ rfl (by rw [List.length_map]; exact hlen) hLs hstk hW8 hd hf) hS kk
      rcases List.mem_append.mp hw with hw | hw
      · simp only [List.mem_cons, List.not_mem_nil, or_false] at hw
        rcases hw with rfl | rfl | rfl
        · exact wt_of hl rfl
        · exact z1
        · exact o2
      · exact hwsM ho w hw
    · have hl := hl.1 (by omega)
      have hn := hk.2.2.2.2.2.2.1 _ hl
      exact run_go (va_runSN (As := as.map (emv B)) (n := (pmth y).2.2.2.2.1) ⟨hx, hb, hml, hown, hts⟩ hM ⟨va_cnB _ hts (gi (hwsM ho)) rfl rfl rfl hn (hts _ o2) ⟨o4.1, o4.2, z2⟩ (hml10 ho), hts _ z1, trivial⟩ ⟨pPc_blind, hpre⟩ rfl (by rw [List.length_map]; exact hlen) hLs hstk hW8 hd hf) hS kk
  · have hcl : ∃ k wi idx, k < 5 ∧ ckK own (idx, k, y, wi) = true ∧ ((k = 0 ∧ i = .invokevirtual idx) ∨ ((k = 2 ∨ k = 3) ∧ i = .invokespecial idx)) := by
      rcases hvi with ⟨idx, h1, h2⟩ | ⟨idx, h1, k, hk23, h2⟩
      · obtain ⟨wi, hck⟩ := ctab_ok h2
        exact ⟨0, wi, idx, by omega, hck, Or.inl ⟨rfl, h1⟩⟩
      · obtain ⟨wi, hck⟩ := ctab_ok h2
        exact ⟨k, wi, idx, by omega, hck, Or.inr ⟨hk23, h1⟩⟩
    obtain ⟨k, wi, idx, hk5, hck, hik⟩ := hcl
    obtain ⟨ho, hl⟩ := ckK_call hk5 hck
    obtain ⟨o1, o2, o3, o4, o5, o6⟩ := okM_code ho
    obtain ⟨z1, z2, z3, z4⟩ := okM_inst (by omega) ho
    have hn1 : (as0.map (emv B)).length + 1 = (pmth y).2.2.2.2.1 := by rw [List.length_map, ← hlen]; rfl
    have hnp := np_pred z2 hn1
    have hrv : ∃ b, emv B (.ref r) = .ref b ∧ ∃ cellB : Cell, H[b]? = some cellB ∧ cellB.vm.isStatics = false ∧ s.vm.findClass (ynm y).cls = some cellB.cls := by
      rcases hrec with ht | ⟨h1, h2, h3⟩
      · by_cases h8 : (pmth y).2.2.2.1 < 8
        · obtain ⟨en, he, he1⟩ := tagW_some ht (by omega)
          have hat := ws_at (E := E) (B := B) (I := I) he
          rw [ent_obj (by omega), he1] at hat
          refine ⟨_, emv_w (WF_lt hw he), ?_⟩
          rw [o6]
          exact va_recv hk.1 hP (pcl_at h8) hat
        · exfalso
          exact own_lt h8 ht hP
      · refine ⟨_, emv_s h1, ?_⟩
        obtain ⟨j, hj⟩ := Nat.exists_eq_add_of_le h1
        rw [o6, h3, cn11]
        have h6 : j < 6 := by rw [hj] at h2; exact Nat.lt_of_add_lt_add_left h2
        have h7 := vk_recv (i := j) hk.2.2.2.2.1 h6 hS
        rw [← hj] at h7
        exact h7
    obtain ⟨b, eb, hcell⟩ := hrv
    have hstk : (F0 m pc L (st.map (emv B))).stack = (as0.map (emv B)).reverse ++ .ref b :: rest.map (emv B) := by
      show st.map (emv B) = _
      rw [hst, List.map_append, List.map_reverse, List.map_cons, eb]
      simp
    rw [List.map_cons, eb] at hpre
    have hpre' : ∀ U : State, U.heap = H → s.WarmedH U.vm → pPc E B X G I (.ref r :: as0) (Value.ref b :: as0.map (emv B)).toArray U := fun U hU hW => by
      obtain ⟨-, q⟩ := hpre U hU hW
      exact ⟨by rw [List.map_cons, eb], q⟩
    rcases hik with ⟨rfl, rfl⟩ | ⟨hk23, rfl⟩
    · refine run_go (va_runV (As := as0.map (emv B)) (n := (as0.map (emv B)).length) ⟨hx, hb, hml, hown, hts⟩ hM (cwV _ hts (gi fun w hw => ?_) rfl rfl rfl ⟨rfl, o4.1, o4.2, hnp⟩ (hml10 ho)) ⟨pPc_blind, hcell, hpre'⟩ rfl rfl hLs hstk hW8 hd hf) hS kk
      unfold wsV at hw
      rcases List.mem_append.mp hw with hw | hw
      · simp only [List.mem_cons, List.not_mem_nil, or_false] at hw
        rcases hw with rfl | rfl | rfl | rfl
        · exact wt_of (hl.2 (by omega)) rfl
        · exact z1
        · exact z3 rfl
        · exact o2
      · exact hwsM ho w hw
    · obtain ⟨zi, zr⟩ := z4 (by omega)
      rcases hk23 with rfl | rfl
      · exact run_go (va_runI (As := as0.map (emv B)) (n := (as0.map (emv B)).length) ⟨hx, hb, hml, hown, hts⟩ hM (cwI _ hts (gi (hwsM ho)) (by rw [wsM, zr]) rfl rfl (hts _ o2) (hts _ (wt_of (hl.2 (by omega)) rfl)) (hts _ z1) zi ⟨o4.1, o4.2, hnp⟩ (hml10 ho)) ⟨pPc_blind, hpre'⟩ rfl rfl hLs hstk hW8 hd hf) hS kk
      · have hn := hk.2.2.2.2.2.2.1 _ (hl.1 (by omega))
        exact run_go (va_runIN (As := as0.map (emv B)) (n := (as0.map (emv B)).length) ⟨hx, hb, hml, hown, hts⟩ hM ⟨va_cnB _ hts (gi (hwsM ho)) (by rw [wsM, zr]) rfl rfl hn (hts _ o2) ⟨o4.1, o4.2, hnp⟩ (hml10 ho), zi, hts _ z1⟩ ⟨pPc_blind, hpre'⟩ rfl rfl hLs hstk hW8 hd hf) hS kk
end SC
