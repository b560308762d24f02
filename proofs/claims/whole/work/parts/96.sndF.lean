/-! THE PURE MACHINE IS SOUND, 7: a whole method. -/
theorem opH_grow {X : pX} {own len : Nat} {i : Instr} {st st' : List Value} {G G' : pG} {I I' : pI} (h : opH X own i st G I = some (len, st', G', I')) : G' = G := by
  unfold opH at h
  repeat' (split at h)
  all_goals first | (cases h; done) | (cases h; rfl)
def Gle (G G' : pG) : Prop := G.length ≤ G'.length ∧ slG G ≤ slG G' ∧ (WF G → WF G')
theorem Gle.rfl' {G : pG} : Gle G G := ⟨Nat.le_refl _, Nat.le_refl _, id⟩
theorem Gle.tr {G G' G2 : pG} (h : Gle G G') (h2 : Gle G' G2) : Gle G G2 := ⟨Nat.le_trans h.1 h2.1, Nat.le_trans h.2.1 h2.2.1, fun w => h2.2.2 (h.2.2 w)⟩
theorem Gle.set {G : pG} {r k c : Nat} {v : Value} (ht : tagW G r = c) (hc : c ≠ 99) (hv : WF G → WFv v) : Gle G (setRef G r k v) := by
  obtain ⟨e, he, -⟩ := tagW_some ht hc
  refine ⟨by rw [setRef_len]; exact Nat.le_refl _, by rw [slG_setRef]; exact Nat.le_refl _, fun w => ?_⟩
  rw [setRef_at he]
  exact WF_set w he (hv w)
theorem Gle.push {G : pG} {e : Nat × Nat × List Value} (hl : G.length < 1000) (he : ∀ v ∈ e.2.2, v = .null) : Gle G (G ++ [e]) :=
  ⟨by simp, by rw [slG_push]; exact Nat.le_add_right _ _, fun w => WF_push w hl (fun v hv => Or.inl (he v hv))⟩
theorem rep_null {n : Nat} : ∀ v ∈ List.replicate n Value.null, v = .null := fun v h => List.eq_of_mem_replicate h
theorem opN_grow {own len : Nat} {isI : Bool} {i : Instr} {st st' : List Value} {G G' : pG} {I I' : pI} (h : opN own isI i st G I = some (len, st', G', I')) : Gle G G' := by
  cases i with
  | putfield idx =>
    simp only [opN] at h
    split at h
    · next ci k hf1 =>
      have h8 := (ftab_ok hf1).1
      split at h
      · split at h
        · next hc => cases h; exact Gle.set hc.1 (by omega) (fun w => Or.inr ⟨_, rfl, Nat.lt_of_lt_of_le hc.2.2.2.2.2.2.1 w.1⟩)
        · cases h
      · split at h
        · next hc => cases h; exact Gle.set hc.1 (by omega) (fun _ => Or.inl rfl)
        · cases h
      · cases h
    · cases h
  | aastore =>
    simp only [opN] at h
    split at h
    · next v j r s1 =>
      split at h
      · next hc =>
        cases h
        rcases hc.1 with ⟨a, b⟩ | ⟨a, b⟩
        · exact Gle.set a (by decide) (fun w => by obtain ⟨ev, hev, -⟩ := tagW_some b (by decide); exact Or.inr ⟨_, rfl, WF_lt w hev⟩)
        · exact Gle.set a (by decide) (fun w => by obtain ⟨ev, hev, -⟩ := tagW_some b (by decide); exact Or.inr ⟨_, rfl, WF_lt w hev⟩)
      · cases h
    · cases h
  | new idx =>
    simp only [opN] at h
    split at h
    · split at h
      · next hl => cases h; exact Gle.push hl rep_null
      · cases h
    · cases h
  | newarray t =>
    simp only [opN] at h
    split at h
    · split at h
      · next hc =>
        split at h
        · cases h; exact Gle.push hc.2.1 (fun v hv => by cases hv)
        · cases h; exact Gle.push hc.2.1 (fun v hv => by cases hv)
        · cases h
      · cases h
    · cases h
  | anewarray idx =>
    simp only [opN] at h
    split at h
    · split at h
      · split at h
        · next hc => cases h; exact Gle.push hc.2.1 rep_null
        · cases h
      · cases h
    · cases h
  | _ => cases h
theorem lup_grow {X : pX} {cal : Nat → List Value → pG → pI → Option pR} (hc : ∀ y as G I v G' I', cal y as G I = some (v, G', I') → Gle G G') (z : Nat) :
    ∀ (n : Nat) (pc : Nat) (ls : pL) (st : List Value) (G : pG) (I : pI) (v : Option Value) (G' : pG) (I' : pI), lup X cal z n pc ls st G I = some (v, G', I') → Gle G G' := by
  intro n
  induction n with
  | zero => intro pc ls st G I v G' I' h; simp [lup] at h
  | succ n ih =>
    intro pc ls st G I v G' I' h
    simp only [lup] at h
    split at h
    · cases h
    · split at h
      · cases h; exact Gle.rfl'
      · split at h
        · split at h
          · exact ih _ _ _ _ _ _ _ _ h
          · cases h
        · split at h
          · split at h
            · exact ih _ _ _ _ _ _ _ _ h
            · cases h
          · split at h
            · next hH =>
              split at h
              · have := opH_grow hH; subst this; exact ih _ _ _ _ _ _ _ _ h
              · cases h
            · split at h
              · split at h
                · split at h
                  · next hcal => exact (hc _ _ _ _ _ _ _ hcal).tr (ih _ _ _ _ _ _ _ _ h)
                  · cases h
                · cases h
              · split at h
                · split at h
                  · exact ih _ _ _ _ _ _ _ _ h
                  · cases h
                · split at h
                  · next hN =>
                    split at h
                    · exact (opN_grow hN).tr (ih _ _ _ _ _ _ _ _ h)
                    · cases h
                  · cases h
theorem rund_grow {X : pX} {F : Nat} : ∀ (d z : Nat) (as : List Value) (G : pG) (I : pI) (v : Option Value) (G' : pG) (I' : pI), rund X F d z as G I = some (v, G', I') → Gle G G' := by
  intro d
  induction d with
  | zero => intro z as G I v G' I' h; simp [rund] at h
  | succ d ih =>
    intro z as G I v G' I' h
    exact lup_grow (fun y as G I v G' I' h => ih y as G I v G' I' h) z F _ _ _ _ _ _ _ _ h
section SF
variable {p : Program} {l : Launch} {e : Env} {R : Room} {s : State} {m : MethodId} {args : Array Value} {below : List Frame} {meth : Method} {c : Code} {Q : State → Prop}
variable {cc : ByteArray} {ml own na : Nat} {ret : Option FieldType} {nm : MethodName} {B : pAd} {E : pEn} {X : pX}
set_option maxHeartbeats 8000000 in
theorem lup_W {d F z : Nat} (hz : pmth z = (cc, ml, ret, own, na, nm)) (hx : p.tables.exec = Jvm.exec) (hb : c.code = cc) (hml : c.maxLocals = ml) (hown : s.vm.findClass (cn own) = some m.cls) (hts : ∀ w ∈ WT, w.before args s = true) (hk : KF E B X s s.heap) (hbase : B.1 ≤ s.heap.size) (hin : (nm.name == "<init>") = true → meth.name = "<init>")
    (hR : d + 1 ≤ R.frames ∧ 40 * (d + 1) ≤ R.locals)
    (IH : ∀ y as G I v G' I', (∃ k, okM y k = true) → (entL as).length ≤ (pmth y).2.1 → WF G → rund X F d y as G I = some (v, G', I') → MetD l E B X d y as G I v G' I') :
    ∀ (n : Nat) (pc : Nat) (ls : pL) (st : List Value) (G : pG) (I : pI) (v : Option Value) (Gf : pG) (If : pI), lup X (rund X F d) z n pc ls st G I = some (v, Gf, If) → WF G →
    ∀ (L : Array Slot) (H : Heap) (locs : List Loc) (cells slots : Nat), lrel B L ml ls → va_P E.1 pcl (wsO E B G I) H → va_S (pA B) s.heap H locs → s.heap.size + cells = B.1 + G.length → cells + (Gf.length - G.length) ≤ R.cells → slots + (slG Gf - slG G) ≤ R.slots →
    (∀ (pc1 : Nat) (i : Instr) (len : Nat) (st1 : List Value) (L1 : Array Slot) (H1 : Heap) (locs1 : List Loc), decode cc pc1 = .ok (i, len) → opR ret i len st1 = some v → va_P E.1 pcl (wsO E B Gf If) H1 → va_S (pA B) s.heap H1 locs1 → W p l e R s m args below meth c H1 locs1 (cells + (Gf.length - G.length)) (slots + (slG Gf - slG G)) Q (F0 m pc1 L1 (st1.map (emv B)))) →
    W p l e R s m args below meth c H locs cells slots Q (F0 m pc L (st.map (emv B))) := by
  have hB := hk.2.1
  have hld : ldOk own args s B := ld_of hts hk
  intro n
  induction n with
  | zero => intro pc ls st G I v Gf If h; simp [lup] at h
  | succ n ih =>
    intro pc ls st G I v Gf If h hw L H locs cells slots hl hP hS hinv hcl hsl hend
    have hgr : Gle G Gf := lup_grow (fun y as G I v G' I' h => rund_grow d y as G I v G' I' h) z _ _ _ _ _ _ _ _ _ h
    simp only [lup, hz] at h
    split at h
    · cases h
    · next i len hd =>
      have hLs : L.size = ml := hl.2.1
      split at h
      · next w hr =>
        cases h
        rw [Nat.sub_self, Nat.sub_self] at hend
        exact hend pc i len st L H locs hd hr hP hS
      · split at h
        · next l1 ls1 st1 hA =>
          split at h
          · next hlen =>
            subst hlen
            exact snd_A hx hb hown hB hld hA hd hl (fun L' hl' => ih _ _ _ _ _ _ _ _ h hw L' H locs cells slots hl' hP hS hinv hcl hsl hend)
          · cases h
        · split at h
          · next l1 t st1 hBr =>
            split at h
            · next hlen =>
              subst hlen
              exact snd_B hx hb hB hBr hd (ih _ _ _ _ _ _ _ _ h hw L H locs cells slots hl hP hS hinv hcl hsl hend)
            · cases h
          · split at h
            · next l1 st1 G1 I1 hH =>
              split at h
              · next hlen =>
                subst hlen
                exact snd_H hx hb hown hts hk hS hP hw hH hd (fun H1 locs1 g1 g2 hG => by
                  subst hG
                  exact ih _ _ _ _ _ _ _ _ h hw L H1 locs1 cells slots hl g1 g2 hinv hcl hsl hend)
              · cases h
            · split at h
              · next y as rest hK =>
                split at h
                · next hlen =>
                  subst hlen
                  split at h
                  · next v1 G1 I1 hcal =>
                    have g01 : Gle G G1 := rund_grow d y as G I v1 G1 I1 hcal
                    have g1f : Gle G1 Gf := lup_grow (fun y as G I v G' I' h => rund_grow d y as G I v G' I' h) z _ _ _ _ _ _ _ _ _ h
                    obtain ⟨b1, b2, b3⟩ := g01
                    obtain ⟨b4, b5, b6⟩ := g1f
                    have e1 : cells + (G1.length - G.length) + (Gf.length - G1.length) = cells + (Gf.length - G.length) := by omega
                    have e2 : slots + (slG G1 - slG G) + (slG Gf - slG G1) = slots + (slG Gf - slG G) := by omega
                    have e3 : s.heap.size + (cells + (G1.length - G.length)) = B.1 + G1.length := by omega
                    have e4 : cells + (G1.length - G.length) ≤ R.cells := by omega
                    have e5 : slots + (slG G1 - slG G) ≤ R.slots := by omega

                    obtain ⟨hlen1, hcat1, hent1, hst1, hkind1⟩ := opK_some hK
                    have hoky : ∃ k, okM y k = true := by
                      rcases hkind1 with ⟨idx, -, k, hk14, hct⟩ | ⟨-, ⟨idx, -, hct⟩ | ⟨idx, -, k, hk23, hct⟩⟩
                      · obtain ⟨wi, hck⟩ := ctab_ok hct
                        exact ⟨k, (ckK_call (by omega) hck).1⟩
                      · obtain ⟨wi, hck⟩ := ctab_ok hct
                        exact ⟨0, (ckK_call (by omega) hck).1⟩
                      · obtain ⟨wi, hck⟩ := ctab_ok hct
                        exact ⟨k, (ckK_call (by omega) hck).1⟩
                    refine W.size (fun hz1 => ?_)
                    have hsz : H.size = B.1 + G.length := by
                      by_cases h0 : G.length = 0
                      · have := hS.1; omega
                      · have h2 := (hP (G.length - 1) _ (ws_get (by omega))).lt
                        have h3 : B.1 + (G.length - 1) < H.size := h2
                        omega
                    refine snd_K hx hb hml hown hts hk hS hP hsz hw hLs hK hd (IH y as G I v1 G1 I1 hoky hent1 hw hcal) hR ⟨e4, e5⟩ (fun H1 locs1 g1 g2 => ?_)
                    exact ih _ _ _ _ _ _ _ _ h (b3 hw) L H1 locs1 (cells + (G1.length - G.length)) (slots + (slG G1 - slG G)) hl g1 g2 e3 (by rw [e1]; exact hcl) (by rw [e2]; exact hsl) (by rw [e1, e2]; exact hend)
                  · cases h
                · cases h
              · split at h
                · next st1 I1 hC =>
                  split at h
                  · next hlen =>
                    subst hlen
                    exact snd_C hx hb hml hown hts hk hS hP hw hLs hC hd ⟨by omega, by omega⟩ ⟨by omega, by omega⟩ (fun H1 locs1 g1 g2 => ih _ _ _ _ _ _ _ _ h hw L H1 locs1 cells slots hl g1 g2 hinv hcl hsl hend)
                  · cases h
                · split at h
                  · next l1 st1 G1 I1 hN =>
                    split at h
                    · next hlen =>
                      subst hlen
                      have g01 := opN_grow hN
                      have g1f : Gle G1 Gf := lup_grow (fun y as G I v G' I' h => rund_grow d y as G I v G' I' h) z _ _ _ _ _ _ _ _ _ h
                      obtain ⟨b1, b2, b3⟩ := g01
                      obtain ⟨b4, b5, b6⟩ := g1f
                      have e1 : cells + (G1.length - G.length) + (Gf.length - G1.length) = cells + (Gf.length - G.length) := by omega
                      have e2 : slots + (slG G1 - slG G) + (slG Gf - slG G1) = slots + (slG Gf - slG G) := by omega
                      refine snd_N hx hb hown hts hk hS hP hw hbase hinv hin hN hd ⟨by omega, by omega⟩ (fun H1 locs1 g1 g2 => ?_)
                      exact ih _ _ _ _ _ _ _ _ h (b3 hw) L H1 locs1 (cells + (G1.length - G.length)) (slots + (slG G1 - slG G)) hl g1 g2 (by omega) (by rw [e1]; exact hcl) (by rw [e2]; exact hsl) (by rw [e1, e2]; exact hend)
                    · cases h
                  · cases h
end SF
theorem entL_len {B : pAd} (hB : rvOk B) : ∀ as : List Value, (lg_sl (as.map (emv B))).length = (entL as).length
  | [] => rfl
  | v :: as => by
    have ih := entL_len hB as
    unfold lg_sl at ih ⊢
    rw [List.map_cons, List.flatMap_cons, List.length_append, ih, emv_cat hB]
    by_cases h : v.category = 2
    · simp only [entL, h, if_true, List.length_cons, List.length_nil]; omega
    · simp only [entL, h, if_false, List.length_cons, List.length_nil]; omega
theorem entL_args {B : pAd} (hB : rvOk B) : ∀ (as : List Value) (off i : Nat) (v : Value), (entL as)[i]? = some (some v) → (off + i, emv B v) ∈ lv_args off (as.map (emv B))
  | [], _, _, _, h => by simp [entL] at h
  | a :: as, off, i, v, h => by
    by_cases hc : a.category = 2
    · simp only [entL, hc, if_true] at h
      rw [List.map_cons, lv_args, emv_cat hB, if_pos hc]
      cases i with
      | zero =>
        simp only [List.getElem?_cons_zero, Option.some.injEq] at h
        subst h
        exact List.mem_cons_self
      | succ i =>
        cases i with
        | zero => simp at h
        | succ i =>
          simp only [List.getElem?_cons_succ] at h
          have := entL_args hB as (off + 2) i v h
          rw [show off + (i + 1 + 1) = off + 2 + i by omega]
          exact List.mem_cons_of_mem _ this
    · simp only [entL, hc, if_false] at h
      rw [List.map_cons, lv_args, emv_cat hB, if_neg hc]
      cases i with
      | zero =>
        simp only [List.getElem?_cons_zero, Option.some.injEq] at h
        subst h
        exact List.mem_cons_self
      | succ i =>
        simp only [List.getElem?_cons_succ] at h
        have := entL_args hB as (off + 1) i v h
        rw [show off + (i + 1) = off + 1 + i by omega]
        exact List.mem_cons_of_mem _ this
theorem entr_rel {B : pAd} (hB : rvOk B) {as : List Value} {n : Nat} (h : (entL as).length ≤ n) : lrel B ((lg_sl (as.map (emv B)) ++ List.replicate (n - (lg_sl (as.map (emv B))).length) Slot.unset).toArray) n (entL as ++ List.replicate (n - (entL as).length) none) := by
  have h1 := lv_entry (as.map (emv B)) (n := n) (by rw [entL_len hB]; exact h)
  refine ⟨by rw [List.length_append, List.length_replicate]; omega, h1.1, h1.2.1, fun q hq => ?_⟩
  obtain ⟨v, hv, he⟩ := lz_mem.mp hq
  have hlt : q.1 < (entL as).length := by
    rcases Nat.lt_or_ge q.1 (entL as).length with h2 | h2
    · exact h2
    · rw [List.getElem?_append_right h2, List.getElem?_replicate] at hv
      split at hv <;> cases hv
  rw [List.getElem?_append_left hlt] at hv
  have := entL_args hB as 0 q.1 v hv
  rw [Nat.zero_add] at this
  rw [he]
  exact h1.2.2 (q.1, emv B v) this
set_option maxHeartbeats 4000000 in
/-- a call of the pure machine that comes to an end is a contract of the method -/
theorem snd_call {X : pX} {F : Nat} (l : Launch) (E : pEn) (B : pAd) : ∀ (d y : Nat) (as : List Value) (G : pG) (I : pI) (v : Option Value) (G' : pG) (I' : pI), (∃ k, okM y k = true) → (entL as).length ≤ (pmth y).2.1 → WF G → rund X F d y as G I = some (v, G', I') → MetD l E B X d y as G I v G' I' := by
  intro d
  induction d with
  | zero => intro y as G I v G' I' _ _ _ h; simp [rund] at h
  | succ d IH =>
    intro y as G I v G' I' hok hent hw h
    obtain ⟨k, hok⟩ := hok
    obtain ⟨o1, o2, o3, o4, o5, o6⟩ := okM_code hok
    have h' : lup X (rund X F d) y F 0 (entr y as) [] G I = some (v, G', I') := h
    refine Met.ofW (cc := (pmth y).1) (maxL := (pmth y).2.1) (ret := (pmth y).2.2.1) o3 rfl ?_
    intro p e s m args below meth c s₁ B' hml hv
    obtain ⟨rfl, hk, hP, hsz⟩ := hv
    have hx := B'.exec
    have hb := B'.bytes
    have hr := B'.returns
    have hts0 := atoms_spec (ws := wsM y) B'.pre
    have hts : ∀ w ∈ WT, w.before (as.map (emv B)).toArray s = true := fun w hw => hts0 w (List.mem_cons_of_mem _ hw)
    have hown : s.vm.findClass (cn (pmth y).2.2.2.1) = some m.cls := by rw [← o6]; exact findClass_of_methodNamed B'.named
    have hlocks := B'.notSynchronized
    have hin : ((ynm y).name == "<init>") = true → meth.name = "<init>" := fun h => by
      rw [(name_of_methodNamed B'.named B'.method).1]
      simpa using h
    have hB := hk.2.1
    rw [lg_entry_eq]
    have hS : va_S (pA B) s.heap s.heap [] := va_S.rf
    have hbase : B.1 ≤ s.heap.size := by rw [hsz]; exact Nat.le_add_right _ _
    refine lup_W (z := y) (cc := (pmth y).1) (ml := (pmth y).2.1) (ret := (pmth y).2.2.1) (own := (pmth y).2.2.2.1) (na := (pmth y).2.2.2.2.1) (nm := ynm y) (E := E) (B := B) (X := X) rfl hx hb hml hown hts hk hbase hin ⟨Nat.le_refl _, Nat.le_refl _⟩ (fun y as G I v G' I' a b c d => IH y as G I v G' I' a b c d) F 0 (entr y as) [] G I v G' I' h' hw _ _ [] 0 0 (entr_rel hB hent) hP hS (by omega) (by rw [Nat.zero_add]; exact Nat.le_refl _) (by rw [Nat.zero_add]; exact Nat.le_refl _) ?_
    intro pc1 i len st1 L1 H1 locs1 hd hR g1 g2
    rw [Nat.zero_add, Nat.zero_add]
    exact snd_R hx hb hr hlocks hB hR hd (fun t ht hW => ⟨rfl, by rw [ht]; exact g1, fun q hq => by
      rw [ht]
      exact g2.2.1 q (Nat.lt_of_lt_of_le hq hbase) (Nat.not_le.mpr hq), by rw [ht]; exact g2.1⟩) g2.2.2
