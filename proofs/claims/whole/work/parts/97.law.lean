/-! THE CLAIM OUT OF ONE WALK OF THE LAW'S BODY. Your part is whole_start (and what it stands on); all else here is the same for every law, but numbers. -/
def R_law : String := "LiftSweepsLaw"
def lw_P (b : Addr) (xs : List Int32) (args : Array Value) (s : State) : Prop := args = #[.ref b] ∧ s.IntsAt b xs ∧ xs.length ≤ 3584 ∧ (Jvm.Cond.and given_1 narrow_1).before args s = true
def lw_Q (_ : Array Value) (s : State) (o : Outcome) (t : State) : Prop := o = .returned (some (.int 1)) ∧ Framed s o t [] 600000 7302250
def lw_Z (below : List Frame) (a : Array Value) (s : State) : State → Prop := fun t => ∃ o, t.status = .running ∧ Ended t below o ∧ lw_Q a s o t
/-- the law's own end, with 1 on the stack, nothing written that was there before, its room as the claim has it -/
theorem lw_ret {p : Program} {l : Launch} {e : Env} {s : State} {m : MethodId} {below : List Frame} {meth : Method} {c : Code} {b : Nat} (hx : p.tables.exec = Jvm.exec) (hb : c.code = code) (hr : meth.sig.returnType = ret) (hlocks : meth.locks = false) {pc : Nat} {H : Heap} {ls : Array Slot} (hdg : decode code pc = .ok (.ireturn, 1)) : W p l e room_1 s m #[Value.ref b] below meth c H [] 600000 7302250 (lw_Z below #[Value.ref b] s) (F0 m pc ls [.int 1]) := by
  intro T hT X
  obtain ⟨fs, hret, hrun, hended, hW, hframe⟩ := X.leave (v := some (.int 1)) (hlocks := hlocks) (fun h => by rw [hr] at h; cases h)
  have hmeth' : T.vm.method? m = some meth := X.method'
  refine ⟨T.setFrames fs, ?_, .returned (some (.int 1)), hrun, hended, rfl, ⟨_, rfl⟩, hW, hframe⟩
  jvm_step X.here [X.here.top, hx, hb, hdg, hmeth', hr, ret, narrow_b1]
  (try refine ⟨rfl, ?_⟩); (try refine ⟨rfl, ?_⟩)
  first | (intro acts; rw [hret _ acts rfl rfl rfl]) | rw [hret _ _ rfl rfl rfl]
  exact Steps.refl _
/-- what holds at the law's entry: the machine, the code, the tables' words (any of lw_tbl by 'hts w (by decide +kernel)'), the script of L ints xs at the cell b, what the Statement gives of the start (any of its parts by flat_of_before) -/
def lw_At (p : Program) (s : State) (m : MethodId) (meth : Method) (c : Code) (b L : Nat) (xs : Nat → Int32) : Prop :=
  p.tables.exec = Jvm.exec ∧ c.code = code ∧ meth.sig.returnType = ret ∧ c.maxLocals = 4 ∧ s.vm.findClass R_law = some m.cls ∧ (∀ w ∈ lw_tbl, w.before #[Value.ref b] s = true) ∧ va_X b L xs s s.heap ∧ b < s.heap.size ∧ meth.locks = false ∧ (Jvm.Cond.and given_1 narrow_1).before #[Value.ref b] s = true

/-! what the launch gives -/
theorem hA0 {s : State} : ∀ a : Nat, a < s.heap.size → ¬ (fun q : Nat => s.heap.size ≤ q) a := fun a h => Nat.not_le.mpr h
abbrev tmS (i : Nat) : Term := .string "LiftSweeps$Tape" (75 + 2 * i)
abbrev fl0 : List Cond := flatC (Jvm.Cond.and given_1 narrow_1)
def slen : List Nat := [4, 4, 4, 3, 6, 4]
theorem in_ex : ∀ i, i < 6 → Cond.exactly (tmS i) "java/lang/String" ∈ fl0 := by decide +kernel
theorem in_co : ∀ i, i < 6 → Cond.eq (.field (tmS i) "java/lang/String" "coder" "B") (.int 0) ∈ fl0 := by decide +kernel
theorem in_ar : ∀ i, i < 6 → Cond.arrayOf (.field (tmS i) "java/lang/String" "value" "[B") .byte ∈ fl0 := by decide +kernel
theorem in_le : ∀ i, i < 6 → Cond.eq (.length (.field (tmS i) "java/lang/String" "value" "[B")) (.int (Int32.ofNat (slen.getD i 0))) ∈ fl0 := by decide +kernel
theorem in_el : ∀ i, i < 6 → ∀ j, j < slen.getD i 0 → Cond.eq (.elem (.field (tmS i) "java/lang/String" "value" "[B") (.int (Int32.ofNat j))) (.int ((txts.getD i []).getD j 0)) ∈ fl0 := by decide +kernel
theorem in_ne : ∀ i, i < 6 → ∀ j, j < 6 → i ≠ j → Cond.not (Cond.eq (tmS i) (tmS j)) ∈ fl0 ∨ Cond.not (Cond.eq (tmS j) (tmS i)) ∈ fl0 := by decide +kernel
abbrev tmK : Term := .static "LiftSweeps$Car" "KIND_ABOVE" "[I"
abbrev tmN : Term := .static "LiftSweeps$Tape" "NUMBERS_OF" "[I"
theorem in_K : Cond.arrayOf tmK .int ∈ fl0 ∧ Cond.eq (.length tmK) (.int (Int32.ofNat 6)) ∈ fl0 ∧ (∀ j, j < 6 → Cond.eq (.elem tmK (.int (Int32.ofNat j))) (.int (roI (0, fun _ => 0) 1001 j)) ∈ fl0) := ⟨by decide +kernel, by decide +kernel, by decide +kernel⟩
theorem in_N : Cond.arrayOf tmN .int ∈ fl0 ∧ Cond.eq (.length tmN) (.int (Int32.ofNat 6)) ∈ fl0 ∧ (∀ j, j < 6 → Cond.eq (.elem tmN (.int (Int32.ofNat j))) (.int (roI (0, fun _ => 0) 1002 j)) ∈ fl0) := ⟨by decide +kernel, by decide +kernel, by decide +kernel⟩
theorem in_cs : Cond.eq (.static "java/lang/String" "COMPACT_STRINGS" "Z") (.int 1) ∈ fl0 := by decide +kernel
theorem in_si : Cond.isRef (.static "jdk/internal/util/Preconditions" "SIOOBE_FORMATTER" "Ljava/util/function/BiFunction;") ∈ fl0 := by decide +kernel
theorem w_ls : lw_tbl[414]? = some (.laysStatic "LiftSweeps$Car" "KIND_ABOVE" "[I") ∧ lw_tbl[797]? = some (.laysStatic "LiftSweeps$Tape" "NUMBERS_OF" "[I") ∧ lw_tbl[757]? = some (.laysStatic "java/lang/String" "COMPACT_STRINGS" "Z") ∧ lw_tbl[773]? = some (.laysStatic "jdk/internal/util/Preconditions" "SIOOBE_FORMATTER" "Ljava/util/function/BiFunction;") := ⟨by decide +kernel, by decide +kernel, by decide +kernel, by decide +kernel⟩
theorem w_in : lw_tbl[76]? = some (.initialized "LiftSweeps$Car") ∧ lw_tbl[79]? = some (.initialized "LiftSweeps$Tape") ∧ lw_tbl[85]? = some (.initialized "java/lang/String") ∧ lw_tbl[87]? = some (.initialized "jdk/internal/util/Preconditions") := ⟨by decide +kernel, by decide +kernel, by decide +kernel, by decide +kernel⟩
theorem w_st : ∀ i, i < 6 → lw_tbl[738 + i]? = some (.stringRef (cn 5) (75 + 2 * i) (txs.getD i "")) := by decide +kernel
theorem w_ne : ∀ q ∈ [(106, (2, 21, 0)), (147, (2, 24, 7)), (208, (2, 35, 52)), (294, (6, 26, 62)), (328, (6, 37, 58)), (628, (2, 129, 113))], lw_tbl[q.1]? = some (.methodLinkNest (cn q.2.1) q.2.2.1 (ynm q.2.2.2) (cn 6)) := by decide +kernel
theorem w_ao : lw_tbl[104]? = some (.arrayOver (.object (cn 0))) ∧ lw_tbl[326]? = some (.arrayOver (.object (cn 4))) := ⟨by decide +kernel, by decide +kernel⟩
set_option maxHeartbeats 4000000 in
theorem KF_start {args : Array Value} {s : State} {b L : Nat} {xs : Nat → Int32} (hts : ∀ w ∈ lw_tbl, w.before args s = true) (hgv : (Jvm.Cond.and given_1 narrow_1).before args s = true) (hX : va_X b L xs s s.heap) (hbl : b < s.heap.size) : ∃ (E : pEn) (B : pAd), B.1 = s.heap.size ∧ B.2.1 1000 = b ∧ KF E B (L, xs) s s.heap := by
  have hg := flat_of_before _ hgv
  have wt : ∀ {i : Nat} {w : Cond}, lw_tbl[i]? = some w → w.before args s = true := fun h => hts _ (List.mem_of_getElem? h)
  have hts2 : ∀ w ∈ WT, w.before args s = true := fun w hw => hts w (List.mem_filter.mp hw).1
  -- the classes
  have hcl : ∀ k : Nat, ∃ q : ClassId × (Nat → Nat), k < 8 → u_Kn s (cn k) (ptx1 k) (fcount k) q.1 q.2 := by
    intro k
    by_cases hk : k < 8
    · obtain ⟨q1, -, -, -, q5, -, -⟩ := cls_ok hk
      obtain ⟨cC, iS, h⟩ := u_known (C := cn k) (T := ptx1 k) (N := fcount k) hts2 q1 (hts2 _ q5)
      exact ⟨(cC, iS), fun _ => h⟩
    · exact ⟨(0, fun _ => 0), fun h => absurd h hk⟩
  obtain ⟨fD, hfD⟩ := Classical.axiomOfChoice hcl
  have hint := Cond.arrayClass_spec (wt arr_w.1)
  have hchr := Cond.arrayClass_spec (wt arr_w.2)
  obtain ⟨cI, kI, mI, i1, i2, i3⟩ := hint
  obtain ⟨cC, kC, mC, j1, j2, j3⟩ := hchr
  obtain ⟨mK, cK, kK, k1, -, k2, k3, k4⟩ := Cond.arrayOver_spec (wt w_ao.1)
  obtain ⟨mS, cS, kS, s1, -, s2, s3, s4⟩ := Cond.arrayOver_spec (wt w_ao.2)
  -- the tables
  obtain ⟨tK, hK1, hK2⟩ := va_Tof (f := fun j => .int (roI (L, xs) 1001 j)) (A := fun q : Nat => s.heap.size ≤ q) (by decide) (hg _ in_K.1) (va_eqt (hg _ in_K.2.1)) (fun j hj => va_eqt (hg _ (in_K.2.2 j hj))) hA0
  obtain ⟨tN, hN1, hN2⟩ := va_Tof (f := fun j => .int (roI (L, xs) 1002 j)) (A := fun q : Nat => s.heap.size ≤ q) (by decide) (hg _ in_N.1) (va_eqt (hg _ in_N.2.1)) (fun j hj => va_eqt (hg _ (in_N.2.2 j hj))) hA0
  have hZK := va_Zof (A := fun q : Nat => s.heap.size ≤ q) (wt w_ls.1) (wt w_in.1) hK1 hA0
  have hZN := va_Zof (A := fun q : Nat => s.heap.size ≤ q) (wt w_ls.2.1) (wt w_in.2.1) hN1 hA0
  have hZC := va_Zof (A := fun q : Nat => s.heap.size ≤ q) (wt w_ls.2.2.1) (wt w_in.2.2.1) (va_eqi (hg _ in_cs)) hA0
  have hZS := va_Zqof (A := fun q : Nat => s.heap.size ≤ q) (wt w_ls.2.2.2) (wt w_in.2.2.2) (hg _ in_si) hA0
  -- the texts
  obtain ⟨adK, adV, hSS, hev⟩ := vk_Sof (N := 6) (tm := tmS) (len := slen) (byt := txts) (A := fun q : Nat => s.heap.size ≤ q) (by decide) (fun i hi => hg _ (in_ex i hi)) (fun i hi => hg _ (in_co i hi)) (fun i hi => hg _ (in_ar i hi)) (fun i hi => hg _ (in_le i hi)) (fun i hi j hj => hg _ (in_el i hi j hj)) (fun i j hi hj hij => (in_ne i hi j hj hij).imp (fun h => hg _ h) (fun h => hg _ h)) hA0
  obtain ⟨rv, hrv, hZR⟩ : ∃ rv : Value, (rv = .null ∨ ∃ t, rv = .ref t) ∧ va_Z "jdk/internal/util/Preconditions" "SIOOBE_FORMATTER" "Ljava/util/function/BiFunction;" rv (fun q : Nat => s.heap.size ≤ q) s s.heap := by
    rcases hZS with h | ⟨t, h⟩
    · exact ⟨_, Or.inl rfl, h⟩
    · exact ⟨_, Or.inr ⟨t, rfl⟩, h⟩
  refine ⟨((fun k => (fD k).1, fun k => (fD k).2), (cI, cC, cK, cS)), (s.heap.size, (fun r => if r = 1000 then b else if r = 1001 then tK else if r = 1002 then tN else if r < 1010 then adK (r - 1004) else adV (r - 1010)), rv), rfl, rfl, ?_⟩
  have eK : (fun i => (fun r => if r = 1000 then b else if r = 1001 then tK else if r = 1002 then tN else if r < 1010 then adK (r - 1004) else adV (r - 1010)) (1004 + i)) = fun i => if i < 6 then adK i else adV (1004 + i - 1010) := by
    funext i
    have n1 : ¬ 1004 + i = 1000 := by omega
    have n2 : ¬ 1004 + i = 1001 := by omega
    have n3 : ¬ 1004 + i = 1002 := by omega
    simp only [n1, n2, n3, if_false]
    by_cases h : i < 6
    · rw [if_pos (by omega), if_pos h, Nat.add_sub_cancel_left]
    · rw [if_neg (by omega), if_neg h]
  have eV : (fun i => (fun r => if r = 1000 then b else if r = 1001 then tK else if r = 1002 then tN else if r < 1010 then adK (r - 1004) else adV (r - 1010)) (1010 + i)) = adV := by
    funext i
    have n1 : ¬ 1010 + i = 1000 := by omega
    have n2 : ¬ 1010 + i = 1001 := by omega
    have n3 : ¬ 1010 + i = 1002 := by omega
    have n4 : ¬ 1010 + i < 1010 := by omega
    simp only [n1, n2, n3, n4, if_false, Nat.add_sub_cancel_left]
  refine ⟨⟨fun k q hq => ?_, fun k q hq => ?_⟩, hrv, ⟨?_, hK2, hN2⟩, ⟨hZK, hZN, ?_, ?_⟩, ?_, fun i hi => ?_, fun q hq => ?_, va_AO.of (wt w_ao.1), va_AO.of (wt w_ao.2)⟩
  · have hk : k < 8 := (List.getElem?_eq_some_iff.mp hq).1
    rw [pcl_at hk] at hq
    cases hq
    exact hfD k hk
  · have hk : k < 4 := (List.getElem?_eq_some_iff.mp hq).1
    rcases (by omega : k = 0 ∨ k = 1 ∨ k = 2 ∨ k = 3) with rfl | rfl | rfl | rfl
    · cases hq; exact ⟨fun n z => ⟨fun k h => (by cases h), kI, i2, mI, i3⟩, i1⟩
    · cases hq; exact ⟨fun n z => ⟨fun k h => (by cases h), kC, j2, mC, j3⟩, j1⟩
    · cases hq; exact ⟨fun n z => ⟨fun k h => (by cases h), kK, k2, mK, k3⟩, kK, mK, k2, k3, k1, k4⟩
    · cases hq; exact ⟨fun n z => ⟨fun k h => (by cases h), kS, s2, mS, s3⟩, kS, mS, s2, s3, s1, s4⟩
  · obtain ⟨scr, x1, x2, x3, x4, x5⟩ := hX
    exact ⟨scr, x1, x2, x3, Nat.le_of_eq x4.symm, by show scr.slots.size.toInt32 = Int32.ofNat L; rw [x4], x5, Nat.not_le.mpr hbl⟩
  · rw [cn11]; exact hZC
  · exact hZR
  · show vk_S 6 [4, 4, 4, 3, 6, 4] txts (fun i => (fun r => if r = 1000 then b else if r = 1001 then tK else if r = 1002 then tN else if r < 1010 then adK (r - 1004) else adV (r - 1010)) (1004 + i)) (fun i => (fun r => if r = 1000 then b else if r = 1001 then tK else if r = 1002 then tN else if r < 1010 then adK (r - 1004) else adV (r - 1010)) (1010 + i)) (fun q : Nat => s.heap.size ≤ q) s s.heap
    rw [eK, eV]
    refine ⟨fun i hi => ?_, fun i j hi hj e => ?_⟩
    · have h1 := hSS.1 i hi
      simp only [hi, if_true]
      exact h1
    · simp only [hi, hj, if_true] at e
      exact hSS.2 i j hi hj e
  · have h1 := hev i hi
    have h2 := congrFun eK i
    have h3 := vk_R.of (wt (w_st i hi)) h1
    show vk_R (cn 5) (75 + 2 * i) (txs.getD i "") ((fun r => if r = 1000 then b else if r = 1001 then tK else if r = 1002 then tN else if r < 1010 then adK (r - 1004) else adV (r - 1010)) (1004 + i)) s
    rw [h2, if_pos hi]
    exact h3
  · have key : ∀ i, (i, q) ∈ [(106, (2, 21, 0)), (147, (2, 24, 7)), (208, (2, 35, 52)), (294, (6, 26, 62)), (328, (6, 37, 58)), (628, (2, 129, 113))] → va_Nw (.methodLinkNest (cn q.1) q.2.1 (ynm q.2.2) (cn 6)) s := fun i hi => va_Nw.of rfl (wt (w_ne (i, q) hi))
    have h2 : q ∈ ([(106, (2, 21, 0)), (147, (2, 24, 7)), (208, (2, 35, 52)), (294, (6, 26, 62)), (328, (6, 37, 58)), (628, (2, 129, 113))] : List (Nat × Nat × Nat × Nat)).map Prod.snd := hq
    obtain ⟨⟨i, q'⟩, hi, rfl⟩ := List.mem_map.mp h2
    exact key i hi
def I0 : pI := fun _ _ => 0
/-- what is left: the law over the pure machine -/
def PureLaw : Prop := ∀ X : pX, X.1 ≤ 3584 → At X 15 239 0 [some (.ref 1000), none, none, none] [] [] I0 (fun v G _ => v = some (.int 1) ∧ G.length ≤ 600000 ∧ slG G ≤ 7302250)
set_option maxHeartbeats 4000000 in
theorem start_of (hpure : PureLaw) {p : Program} {e : Env} {s : State} {m : MethodId} {below : List Frame} {meth : Method} {c : Code} (l : Launch) {b L : Nat} {xs : Nat → Int32} (hL : L ≤ 3584) (C0 : lw_At p s m meth c b L xs) : W p l e room_1 s m #[Value.ref b] below meth c s.heap [] 0 0 (lw_Z below #[Value.ref b] s) (entryFrame m ([Value.ref b] : List Value).toArray 4) := by
  obtain ⟨hx, hb, hr, hml, hown, hts, hX, hbl, hlocks, hgv⟩ := C0
  obtain ⟨E, B, hB1, hB2, hk⟩ := KF_start hts hgv hX hbl
  have hts2 : ∀ w ∈ WT, w.before #[Value.ref b] s = true := fun w hw => hts w (List.mem_filter.mp hw).1
  obtain ⟨F, n, ⟨v, Gf, If⟩, hrun, rfl, hc, hs⟩ := hpure (L, xs) hL
  have hB := hk.2.1
  have e1 : ([Value.ref b] : List Value) = [Value.ref 1000].map (emv B) := by
    show [Value.ref b] = [emv B (.ref 1000)]
    rw [show emv B (.ref 1000) = .ref (B.2.1 1000) from rfl, hB2]
  have hent : entryFrame m ([Value.ref b] : List Value).toArray 4 = F0 m 0 ((lg_sl ([Value.ref 1000].map (emv B)) ++ List.replicate (4 - (lg_sl ([Value.ref 1000].map (emv B))).length) Slot.unset).toArray) [] := by
    rw [e1, lg_entry_eq]
  rw [hent]
  have hP : va_P E.1 pcl (wsO E B [] I0) s.heap := fun k q h => by simp [wsO] at h
  refine lup_W (R := room_1) (z := 239) (cc := code) (ml := 4) (ret := some .boolean) (own := 8) (na := 1) (nm := yL_law) (E := E) (B := B) (X := (L, xs)) (d := 15) rfl hx hb hml hown hts2 hk (by rw [hB1]; exact Nat.le_refl _) (fun h => by cases h) ⟨by decide, by decide⟩ (fun y as G I v G' I' a b c d => snd_call l E B 15 y as G I v G' I' a b c d) n 0 _ [] [] I0 _ Gf If hrun ⟨Nat.zero_le _, fun e h => by cases h⟩ _ _ [] 0 0 (entr_rel (as := [.ref 1000]) hB (by decide)) hP va_S.rf (by rw [hB1]; rfl) (by rw [Nat.zero_add]; exact hc) (by rw [Nat.zero_add]; exact hs) ?_
  intro pc1 i len st1 L1 H1 locs1 hd hR g1 g2
  have h2 : i = .ireturn ∧ len = 1 ∧ st1 = [.int 1] := by
    cases i with
    | ireturn =>
      simp only [opR] at hR
      split at hR
      · split at hR
        · next hcc => cases hR; exact ⟨rfl, hcc.1, rfl⟩
        · cases hR
      · cases hR
    | areturn =>
      simp only [opR] at hR
      split at hR
      · split at hR
        · cases hR
        · cases hR
      · cases hR
    | return_ =>
      simp only [opR] at hR
      split at hR
      · split at hR
        · cases hR
        · cases hR
      · cases hR
    | _ => cases hR
  obtain ⟨rfl, rfl, rfl⟩ := h2
  refine va_forget (fun q hq => by have := g2.2.2 q hq; rw [← hB1]; exact this) ?_
  refine W.widen (k := 600000) (n := 7302250) ?_ ?_ ?_
  · rw [Nat.zero_add]; exact hc
  · rw [Nat.zero_add]; exact hs
  · exact lw_ret hx hb hr hlocks hd
