/-! THE PURE MACHINE IS SOUND, 1: values, locals, what needs no cell. -/
/-- the map of places to addresses: the first free address, the addresses of the cells that nobody writes, the one that is only carried -/
abbrev pAd : Type := Nat × (Nat → Nat) × Value
def emv (B : pAd) (v : Value) : Value := match v with
  | .ref r => if r < 1000 then .ref (B.1 + r) else if r = 1003 then B.2.2 else .ref (B.2.1 r)
  | v => v
def rvOk (B : pAd) : Prop := B.2.2 = .null ∨ ∃ t, B.2.2 = .ref t
theorem emv_ref {B : pAd} (h : rvOk B) (r : Nat) : emv B (.ref r) = .null ∨ ∃ a, emv B (.ref r) = .ref a := by
  simp only [emv]
  split
  · exact Or.inr ⟨_, rfl⟩
  · split
    · exact h
    · exact Or.inr ⟨_, rfl⟩
theorem emv_cat {B : pAd} (h : rvOk B) (v : Value) : (emv B v).category = v.category := by
  cases v with
  | ref r =>
    rcases emv_ref h r with e | ⟨a, e⟩ <;> rw [e] <;> rfl
  | _ => rfl
theorem emv_cats {B : pAd} (h : rvOk B) (st : List Value) : ((st.map (emv B)).map Value.category).sum = (st.map Value.category).sum := by
  rw [List.map_map]
  congr 1
  exact List.map_congr_left fun v _ => emv_cat h v
/-- the locals that are known, by their places -/
def lz (B : pAd) (ls : pL) : List (Nat × Value) := (List.range ls.length).filterMap fun i => match ls[i]? with
  | some (some v) => some (i, emv B v)
  | _ => none
theorem lz_mem {B : pAd} {ls : pL} {q : Nat × Value} : q ∈ lz B ls ↔ ∃ v, ls[q.1]? = some (some v) ∧ q.2 = emv B v := by
  unfold lz
  rw [List.mem_filterMap]
  constructor
  · rintro ⟨i, -, h⟩
    split at h
    · next v hv => cases h; exact ⟨v, hv, rfl⟩
    · cases h
  · rintro ⟨v, h1, h2⟩
    refine ⟨q.1, List.mem_range.mpr (List.getElem?_eq_some_iff.mp h1).1, ?_⟩
    rw [h1]
    show some (q.1, emv B v) = some q
    rw [← h2]
def lrel (B : pAd) (L : Array Slot) (nL : Nat) (ls : pL) : Prop := ls.length = nL ∧ lv_has L nL (lz B ls)
theorem lrel_at {B : pAd} {L : Array Slot} {nL : Nat} {ls : pL} (h : lrel B L nL ls) {i : Nat} {v : Value} (hv : ls[i]? = some (some v)) : L[i]? = some (.val (emv B v)) :=
  h.2.2.2 (i, emv B v) (lz_mem.mpr ⟨v, hv, rfl⟩)
theorem lrel_set {B : pAd} (hB : rvOk B) {L L' : Array Slot} {nL : Nat} {ls : pL} {i : Nat} {v : Value} (h : lrel B L nL ls) (hok : okB ls i = true) (hi : i < ls.length)
    (h' : lv_has L' nL ((i, emv B v) :: (lz B ls).filter (fun q => !(q.1 == i) && !(q.1 + 1 == i && q.2.category == 2)))) : lrel B L' nL (ls.set i (some v)) := by
  refine ⟨by rw [List.length_set]; exact h.1, h'.1, h'.2.1, fun q hq => ?_⟩
  obtain ⟨w, h1, h2⟩ := lz_mem.mp hq
  by_cases hqi : q.1 = i
  · rw [hqi, List.getElem?_set_self hi] at h1
    cases h1
    have := h'.2.2 (i, emv B v) List.mem_cons_self
    rw [hqi, h2]; exact this
  · rw [List.getElem?_set_ne (Ne.symm hqi)] at h1
    refine h'.2.2 q (List.mem_cons_of_mem _ (List.mem_filter.mpr ⟨lz_mem.mpr ⟨w, h1, h2⟩, ?_⟩))
    simp only [Bool.and_eq_true, Bool.not_eq_true', beq_eq_false_iff_ne, ne_eq, Bool.and_eq_false_iff]
    refine ⟨hqi, ?_⟩
    by_cases hq1 : q.1 + 1 = i
    · refine Or.inr ?_
      subst hq1
      simp only [okB, h1, okL, beq_iff_eq] at hok
      rw [h2, emv_cat hB]
      omega
    · exact Or.inl hq1
theorem stL_some {ls l : pL} {i : Nat} {v : Value} (h : stL ls i v = some l) : okB ls i = true ∧ i < ls.length ∧ l = ls.set i (some v) := by
  unfold stL at h
  split at h
  · next hc => cases h; exact ⟨hc.1, hc.2, rfl⟩
  · cases h
theorem ldI_some {ls : pL} {i : Nat} {x : Int32} (h : ldI ls i = some x) : ls[i]? = some (some (.int x)) := by
  unfold ldI at h
  split at h
  · next y hy => cases h; exact hy
  · cases h
theorem ldJ_some {ls : pL} {i : Nat} {x : Int64} (h : ldJ ls i = some x) : ls[i]? = some (some (.long x)) := by
  unfold ldJ at h
  split at h
  · next y hy => cases h; exact hy
  · cases h
theorem ldA_some {ls : pL} {i : Nat} {x : Value} (h : ldA ls i = some x) : ls[i]? = some (some x) ∧ (x = .null ∨ ∃ r, x = .ref r) := by
  unfold ldA at h
  split at h
  · next y hy => cases h; exact ⟨hy, Or.inr ⟨_, rfl⟩⟩
  · next hy => cases h; exact ⟨hy, Or.inl rfl⟩
  · cases h
section SA
variable {p : Program} {l : Launch} {e : Env} {R : Room} {s : State} {m : MethodId} {args : Array Value} {below : List Frame} {meth : Method} {c : Code} {H : Heap} {locs : List Loc} {cells slots : Nat} {Q : State → Prop}
variable {cc : ByteArray} {pc nL own len : Nat} {L : Array Slot} {ls ls' : pL} {st st' : List Value} {B : pAd} {i : Instr}
/-- the words for constants and texts -/
def ldOk (own : Nat) (args : Array Value) (s : State) (B : pAd) : Prop :=
  (∀ idx v, ltab own idx = some v → (Cond.constant (cn own) idx v).before args s = true) ∧ (∀ idx v, l2tab own idx = some v → (Cond.constantLong (cn own) idx v).before args s = true) ∧
  (∀ idx k, stxt own idx = some k → ∃ tx, vk_R (cn own) idx tx (B.2.1 (1004 + k)) s)
theorem stxt_lt {own idx k : Nat} (h : stxt own idx = some k) : k < 6 := by
  unfold stxt at h
  split at h <;> first | (cases h; decide) | cases h
set_option maxHeartbeats 4000000 in
theorem snd_A (hx : p.tables.exec = Jvm.exec) (hb : c.code = cc) (hown : s.vm.findClass (cn own) = some m.cls) (hB : rvOk B) (hld : ldOk own args s B) (h : opA own i ls st = some (len, ls', st')) (hd : decode cc pc = .ok (i, len)) (hl : lrel B L nL ls)
    (k : ∀ L', lrel B L' nL ls' → W p l e R s m args below meth c H locs cells slots Q (F0 m (pc + len) L' (st'.map (emv B)))) : W p l e R s m args below meth c H locs cells slots Q (F0 m pc L (st.map (emv B))) := by
  cases i with
  | iconst n => cases h; exact lv_iconst hx hb hd rfl (k L hl)
  | bipush n => cases h; exact lv_bipush hx hb hd rfl (k L hl)
  | sipush n => cases h; exact lv_sipush hx hb hd rfl (k L hl)
  | lconst n => cases h; exact lv_lconst hx hb hd rfl (k L hl)
  | aconst_null => cases h; exact lv_null hx hb hd (k L hl)
  | ldc idx =>
    simp only [opA] at h
    split at h
    · next v hv => cases h; exact lv_ldc hx hb hown (hld.1 _ _ hv) hd (k L hl)
    · split at h
      · next q hq =>
        cases h
        obtain ⟨tx, ht⟩ := hld.2.2 _ _ hq
        have hlt := stxt_lt hq
        have e1 : emv B (.ref (1004 + q)) = .ref (B.2.1 (1004 + q)) := by
          have n1 : ¬ 1004 + q < 1000 := by omega
          have n2 : ¬ 1004 + q = 1003 := by omega
          simp only [emv, n1, n2, if_false]
        have kk := k L hl
        rw [List.map_cons, e1] at kk
        exact va_ldcS hx hb hown ht hd kk
      · cases h
  | ldc_w idx =>
    simp only [opA] at h
    split at h
    · next v hv => cases h; exact lv_ldcw hx hb hown (hld.1 _ _ hv) hd (k L hl)
    · cases h
  | ldc2_w idx =>
    simp only [opA] at h
    split at h
    · next v hv => cases h; exact lv_ldc2 hx hb hown (hld.2.1 _ _ hv) hd (k L hl)
    · cases h
  | iload_n n =>
    simp only [opA] at h
    split at h
    · next v hv => cases h; exact lv_iload_n hx hb hd rfl (lrel_at hl (ldI_some hv)) (k L hl)
    · cases h
  | iload n =>
    simp only [opA] at h
    split at h
    · next v hv => cases h; exact lv_iload hx hb hd (lrel_at hl (ldI_some hv)) (k L hl)
    · cases h
  | lload_n n =>
    simp only [opA] at h
    split at h
    · next v hv => cases h; exact lv_lload_n hx hb hd rfl (lrel_at hl (ldJ_some hv)) (k L hl)
    · cases h
  | lload n =>
    simp only [opA] at h
    split at h
    · next v hv => cases h; exact lv_lload hx hb hd (lrel_at hl (ldJ_some hv)) (k L hl)
    · cases h
  | aload_n n =>
    simp only [opA] at h
    split at h
    · next v hv =>
      cases h
      obtain ⟨h1, h2⟩ := ldA_some hv
      have h3 := lrel_at hl h1
      have kk := k L hl
      rw [List.map_cons] at kk
      have h4 : emv B v = .null ∨ ∃ a, emv B v = .ref a := by
        rcases h2 with rfl | ⟨r, rfl⟩
        · exact Or.inl rfl
        · exact emv_ref hB r
      rcases h4 with e1 | ⟨a, e1⟩
      · rw [e1] at kk h3; exact lv_aload_nN hx hb hd rfl h3 kk
      · rw [e1] at kk h3; exact lv_aload_n hx hb hd rfl h3 kk
    · cases h
  | aload n =>
    simp only [opA] at h
    split at h
    · next v hv =>
      cases h
      obtain ⟨h1, h2⟩ := ldA_some hv
      have h3 := lrel_at hl h1
      have kk := k L hl
      rw [List.map_cons] at kk
      have h4 : emv B v = .null ∨ ∃ a, emv B v = .ref a := by
        rcases h2 with rfl | ⟨r, rfl⟩
        · exact Or.inl rfl
        · exact emv_ref hB r
      rcases h4 with e1 | ⟨a, e1⟩
      · rw [e1] at kk h3; exact lv_aloadN hx hb hd h3 kk
      · rw [e1] at kk h3; exact lv_aload hx hb hd h3 kk
    · cases h
  | istore_n n =>
    simp only [opA] at h
    split at h
    · next x s =>
      split at h
      · next l1 hs =>
        cases h
        obtain ⟨h1, h2, h3⟩ := stL_some hs
        subst h3
        exact lv_istore_n hx hb hd rfl hl.2 (by rw [← hl.1]; exact h2) rfl (fun L' hL' => k L' (lrel_set hB (v := .int x) hl h1 h2 hL'))
      · cases h
    · cases h
  | istore n =>
    simp only [opA] at h
    split at h
    · next x s =>
      split at h
      · next l1 hs =>
        cases h
        obtain ⟨h1, h2, h3⟩ := stL_some hs
        subst h3
        exact lv_istore hx hb hd hl.2 (by rw [← hl.1]; exact h2) rfl (fun L' hL' => k L' (lrel_set hB (v := .int x) hl h1 h2 hL'))
      · cases h
    · cases h
  | astore_n n =>
    simp only [opA] at h
    split at h
    · next x s =>
      split at h
      · next l1 hs =>
        cases h
        obtain ⟨h1, h2, h3⟩ := stL_some hs
        subst h3
        have key : ∀ L', lv_has L' nL ((((n : Nat), emv B (.ref x))) :: (lz B ls).filter (fun q => !(q.1 == (n : Nat)) && !(q.1 + 1 == (n : Nat) && q.2.category == 2))) → _ := fun L' hL' => k L' (lrel_set hB (v := .ref x) hl h1 h2 hL')
        rw [List.map_cons]
        rcases emv_ref hB x with e1 | ⟨a, e1⟩
        · rw [e1] at key ⊢
          exact lv_astore_nN hx hb hd rfl hl.2 (by rw [← hl.1]; exact h2) rfl key
        · rw [e1] at key ⊢
          exact lv_astore_n hx hb hd rfl hl.2 (by rw [← hl.1]; exact h2) rfl key
      · cases h
    · cases h
  | astore n =>
    simp only [opA] at h
    split at h
    · next x s =>
      split at h
      · next l1 hs =>
        cases h
        obtain ⟨h1, h2, h3⟩ := stL_some hs
        subst h3
        have key : ∀ L', lv_has L' nL (((n, emv B (.ref x))) :: (lz B ls).filter (fun q => !(q.1 == n) && !(q.1 + 1 == n && q.2.category == 2))) → _ := fun L' hL' => k L' (lrel_set hB (v := .ref x) hl h1 h2 hL')
        rw [List.map_cons]
        rcases emv_ref hB x with e1 | ⟨a, e1⟩
        · rw [e1] at key ⊢
          exact lv_astoreN hx hb hd hl.2 (by rw [← hl.1]; exact h2) rfl key
        · rw [e1] at key ⊢
          exact lv_astore hx hb hd hl.2 (by rw [← hl.1]; exact h2) rfl key
      · cases h
    · cases h
  | iinc n v =>
    simp only [opA] at h
    split at h
    · next x hx1 =>
      split at h
      · next l1 hs =>
        cases h
        obtain ⟨h1, h2, h3⟩ := stL_some hs
        subst h3
        obtain ⟨q, hq⟩ := List.getElem?_of_mem (lz_mem (B := B) (q := (n, .int x)).mpr ⟨_, ldI_some hx1, rfl⟩)
        exact lv_iinc hx hb hd hl.2 hq rfl (by rw [← hl.1]; exact h2) rfl (fun L' hL' => k L' (lrel_set hB (v := .int (x + Int32.ofInt v)) hl h1 h2 hL'))
      · cases h
    · cases h
  | dup =>
    simp only [opA] at h
    split at h
    · next v s =>
      split at h
      · next hc => cases h; exact lv_dup hx hb hd ((emv_cat hB v).trans hc) (k L hl)
      · cases h
    · cases h
  | pop =>
    simp only [opA] at h
    split at h
    · next v s =>
      split at h
      · next hc => cases h; exact lv_pop hx hb hd ((emv_cat hB v).trans hc) (k L hl)
      · cases h
    · cases h
  | dup2 =>
    simp only [opA] at h
    split at h
    · next v w s =>
      split at h
      · next hc => cases h; exact lv_dup2_11 hx hb hd ((emv_cat hB _).trans hc.1) ((emv_cat hB _).trans hc.2) (k L hl)
      · cases h
    · cases h
  | iadd =>
    simp only [opA] at h
    split at h
    · cases h; exact lv_iadd hx hb hd (k L hl)
    · cases h
  | isub =>
    simp only [opA] at h
    split at h
    · cases h; exact lv_isub hx hb hd (k L hl)
    · cases h
  | imul =>
    simp only [opA] at h
    split at h
    · cases h; exact lv_imul hx hb hd (k L hl)
    · cases h
  | idiv =>
    simp only [opA] at h
    split at h
    · split at h
      · cases h
      · next hc => cases h; exact lv_idiv hx hb hd hc (k L hl)
    · cases h
  | irem =>
    simp only [opA] at h
    split at h
    · split at h
      · cases h
      · next hc => cases h; exact lv_irem hx hb hd hc (k L hl)
    · cases h
  | ineg =>
    simp only [opA] at h
    split at h
    · cases h; exact lv_ineg hx hb hd (k L hl)
    · cases h
  | ishl =>
    simp only [opA] at h
    split at h
    · cases h; exact lv_ishl hx hb hd (k L hl)
    · cases h
  | ishr =>
    simp only [opA] at h
    split at h
    · cases h; exact lv_ishr hx hb hd (k L hl)
    · cases h
  | iushr =>
    simp only [opA] at h
    split at h
    · cases h; exact lv_iushr hx hb hd rfl (k L hl)
    · cases h
  | iand =>
    simp only [opA] at h
    split at h
    · cases h; exact lv_iand hx hb hd (k L hl)
    · cases h
  | ior =>
    simp only [opA] at h
    split at h
    · cases h; exact lv_ior hx hb hd (k L hl)
    · cases h
  | i2l =>
    simp only [opA] at h
    split at h
    · cases h; exact lv_i2l hx hb hd rfl (k L hl)
    · cases h
  | i2b =>
    simp only [opA] at h
    split at h
    · cases h; exact lv_i2b hx hb hd rfl (k L hl)
    · cases h
  | i2c =>
    simp only [opA] at h
    split at h
    · cases h; exact lv_i2c hx hb hd rfl (k L hl)
    · cases h
  | lcmp =>
    simp only [opA] at h
    split at h
    · cases h; exact W.lcmp hx hb hd (k L hl)
    · cases h
  | _ => cases h
theorem tgt_some {pc t : Nat} {off : Int} (h : tgt pc off = some t) : (pc : Int) + off = (t : Int) := by
  unfold tgt at h
  split at h
  · next hc => cases h; omega
  · cases h
theorem swG_off (x d : Int) : ∀ ps : List (Int × Int), Op.lookupswitch.offset ps d x = swG x d ps
  | [] => rfl
  | q :: r => by
    rw [show (q :: r) = ((q.1, q.2) :: r) from rfl, Op.lookupswitch.offset_cons, swG, swG_off x d r]
    by_cases h : q.1 = x
    · rw [if_pos h, if_pos h.symm]
    · rw [if_neg h, if_neg (fun e => h e.symm)]
theorem swF_in (x d : Int) : ∀ (offs : List Int) (lo : Int) (k : Nat) (o : Int), offs[k]? = some o → x = lo + k → swF x d lo offs = o
  | [], _, _, _, h, _ => by simp at h
  | a :: r, lo, 0, o, h, hx => by
    simp only [List.getElem?_cons_zero, Option.some.injEq] at h
    simp only [swF]
    rw [if_pos (by omega), h]
  | a :: r, lo, k + 1, o, h, hx => by
    simp only [List.getElem?_cons_succ] at h
    simp only [swF]
    rw [if_neg (by omega)]
    exact swF_in x d r (lo + 1) k o h (by omega)
theorem swF_out (x d : Int) : ∀ (offs : List Int) (lo : Int), (x < lo ∨ lo + (offs.length : Int) ≤ x) → swF x d lo offs = d
  | [], _, _ => rfl
  | a :: r, lo, h => by
    simp only [List.length_cons] at h
    simp only [swF]
    rw [if_neg (by omega)]
    exact swF_out x d r (lo + 1) (by omega)
set_option maxHeartbeats 4000000 in
theorem snd_B (hx : p.tables.exec = Jvm.exec) (hb : c.code = cc) (hB : rvOk B) {t : Nat} (h : opB i len pc st = some (len, t, st')) (hd : decode cc pc = .ok (i, len))
    (k : W p l e R s m args below meth c H locs cells slots Q (F0 m t L (st'.map (emv B)))) : W p l e R s m args below meth c H locs cells slots Q (F0 m pc L (st.map (emv B))) := by
  cases i with
  | goto off =>
    simp only [opB] at h
    split at h
    · next t1 ht => cases h; exact lv_goto hx hb hd (tgt_some ht) k
    · cases h
  | if_icmp cnd off =>
    simp only [opB] at h
    split at h
    · next t1 ht =>
      split at h
      · next y x s1 =>
        cases cnd with
        | eq => cases h; exact lv_icmp_eq hx hb hd (tgt_some ht) (fun hc => by rw [if_pos hc] at k; exact k) (fun hc => by rw [if_neg hc] at k; exact k)
        | ne => cases h; exact lv_icmp_ne hx hb hd (tgt_some ht) (fun hc => by rw [if_neg hc] at k; exact k) (fun hc => by rw [if_pos hc] at k; exact k)
        | lt => cases h; exact lv_icmp_lt hx hb hd (tgt_some ht) (fun hc => by rw [if_pos hc] at k; exact k) (fun hc => by rw [if_neg hc] at k; exact k)
        | ge => cases h; exact lv_icmp_ge hx hb hd (tgt_some ht) (fun hc => by rw [if_pos hc] at k; exact k) (fun hc => by rw [if_neg hc] at k; exact k)
        | gt => cases h; exact lv_icmp_gt hx hb hd (tgt_some ht) (fun hc => by rw [if_pos hc] at k; exact k) (fun hc => by rw [if_neg hc] at k; exact k)
        | le => cases h; exact lv_icmp_le hx hb hd (tgt_some ht) (fun hc => by rw [if_pos hc] at k; exact k) (fun hc => by rw [if_neg hc] at k; exact k)
      · cases h
    · cases h
  | ifCond cnd off =>
    simp only [opB] at h
    split at h
    · next t1 ht =>
      split at h
      · next x s1 =>
        cases cnd with
        | eq => cases h; exact lv_if_eq hx hb hd (tgt_some ht) (fun hc => by rw [if_pos hc] at k; exact k) (fun hc => by rw [if_neg hc] at k; exact k)
        | ne => cases h; exact lv_if_ne hx hb hd (tgt_some ht) (fun hc => by rw [if_neg hc] at k; exact k) (fun hc => by rw [if_pos hc] at k; exact k)
        | lt => cases h; exact lv_if_lt hx hb hd (tgt_some ht) (fun hc => by rw [if_pos hc] at k; exact k) (fun hc => by rw [if_neg hc] at k; exact k)
        | ge => cases h; exact lv_if_ge hx hb hd (tgt_some ht) (fun hc => by rw [if_pos hc] at k; exact k) (fun hc => by rw [if_neg hc] at k; exact k)
        | gt => cases h; exact lv_if_gt hx hb hd (tgt_some ht) (fun hc => by rw [if_pos hc] at k; exact k) (fun hc => by rw [if_neg hc] at k; exact k)
        | le => cases h; exact lv_if_le hx hb hd (tgt_some ht) (fun hc => by rw [if_pos hc] at k; exact k) (fun hc => by rw [if_neg hc] at k; exact k)
      · cases h
    · cases h
  | ifnonnull off =>
    simp only [opB] at h
    split at h
    · next t1 ht =>
      split at h
      · next r s1 =>
        split at h
        · next hr =>
          cases h
          have e1 : emv B (.ref r) = .ref (B.1 + r) := by simp only [emv]; rw [if_pos hr]
          rw [List.map_cons, e1]
          exact lv_ifnonnull hx hb hd (tgt_some ht) k
        · cases h
      · next s1 => cases h; exact lv_ifnonnullN hx hb hd k
      · cases h
    · cases h
  | tableswitch dd lo hi offs =>
    simp only [opB] at h
    split at h
    · next x s1 =>
      split at h
      · next hsz =>
        split at h
        · next t1 ht =>
          cases h
          by_cases hin : ¬ x.toInt < lo ∧ ¬ hi < x.toInt
          · have hlt : (x.toInt - lo).toNat < offs.size := by omega
            have ho : offs[(x.toInt - lo).toNat]? = some offs[(x.toInt - lo).toNat] := Array.getElem?_eq_getElem hlt
            have he : swF x.toInt dd lo offs.toList = offs[(x.toInt - lo).toNat] := swF_in _ _ _ _ (x.toInt - lo).toNat _ (by rw [Array.getElem?_toList]; exact ho) (by omega)
            rw [he] at ht
            exact lv_tableIn hx hb hd hin.1 hin.2 ho (tgt_some ht) k
          · have hout : x.toInt < lo ∨ hi < x.toInt := by omega
            have he : swF x.toInt dd lo offs.toList = dd := swF_out _ _ _ _ (by rw [Array.length_toList]; omega)
            rw [he] at ht
            exact lv_tableOut hx hb hd hout (tgt_some ht) k
        · cases h
      · cases h
    · cases h
  | lookupswitch dd ps =>
    simp only [opB] at h
    split at h
    · next x s1 =>
      split at h
      · next hsz =>
        split at h
        · next t1 ht => cases h; exact lv_lookup hx hb hd hsz (swG_off _ _ _) (tgt_some ht) k
        · cases h
      · cases h
    · cases h
  | _ => cases h
end SA
