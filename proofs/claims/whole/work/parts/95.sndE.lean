/-! THE PURE MACHINE IS SOUND, 6: arraycopy and Math, new cells, ends, a whole method. -/
theorem setRef_len {G : pG} {r k : Nat} {v : Value} : (setRef G r k v).length = G.length := by
  unfold setRef
  split
  · rw [List.length_set]
  · rfl
theorem slG_push {G : pG} {e : Nat × Nat × List Value} : slG (G ++ [e]) = slG G + e.2.1 := by simp [slG]
theorem map_set_id {α β : Type} (f : α → β) : ∀ (l : List α) (r : Nat) (e e' : α), l[r]? = some e → f e' = f e → (l.set r e').map f = l.map f
  | [], _, _, _, h, _ => by simp at h
  | a :: l, 0, e, e', h, hf => by
    simp only [List.getElem?_cons_zero, Option.some.injEq] at h
    simp [List.set, hf, h]
  | a :: l, r + 1, e, e', h, hf => by
    simp only [List.getElem?_cons_succ] at h
    simp [List.set, map_set_id f l r e e' h hf]
theorem slG_setRef {G : pG} {r k : Nat} {v : Value} : slG (setRef G r k v) = slG G := by
  unfold setRef
  split
  · next e he =>
    unfold slG
    rw [map_set_id (fun e : Nat × Nat × List Value => e.2.1) G r e (e.1, e.2.1, e.2.2.set k v) he rfl]
  · rfl
theorem refL_at {G : pG} {r : Nat} {e : Nat × Nat × List Value} (h : G[r]? = some e) : refL G r = e.2.2.length := by unfold refL; rw [h]
theorem getD_set {l : List Value} {k j : Nat} {v d : Value} (hk : k < l.length) : (l.set k v).getD j d = if j = k then v else l.getD j d := by
  rw [List.getD_eq_getElem?_getD, List.getD_eq_getElem?_getD]
  by_cases h : j = k
  · subst h; rw [if_pos rfl, List.getElem?_set_self hk]; rfl
  · rw [if_neg h, List.getElem?_set_ne (Ne.symm h)]
theorem getD_null {n j : Nat} : (List.replicate n Value.null).getD j .null = .null := by
  rw [List.getD_eq_getElem?_getD, List.getElem?_replicate]
  split <;> rfl
theorem def_ref {t : FieldType} (h : t.isReference = true) : defaultValue t = .null ∧ (∀ a, narrow t (.ref a) = .ref a ∧ fits t (.ref a) = true) ∧ narrow t .null = .null ∧ fits t .null = true := by
  cases t <;> first | (cases h; done) | exact ⟨rfl, fun a => ⟨rfl, rfl⟩, rfl, rfl⟩
section SE
variable {p : Program} {l : Launch} {e : Env} {R : Room} {s : State} {m : MethodId} {args : Array Value} {below : List Frame} {meth : Method} {c : Code} {H : Heap} {locs : List Loc} {cells slots : Nat} {Q : State → Prop}
variable {cc : ByteArray} {pc nL own len : Nat} {L : Array Slot} {st st' : List Value} {B : pAd} {i : Instr} {E : pEn} {X : pX} {G G' : pG} {I I' : pI}
theorem math_w : ((lw_tbl[(wmath.getD 0 (0, 0, 0)).1]? = some (.static Lib.Math.abs.name) ∧ lw_tbl[(wmath.getD 1 (0, 0, 0)).1]? = some (.static Lib.Math.min.name)) ∧ lw_tbl[(wmath.getD 2 (0, 0, 0)).1]? = some (.static Lib.Math.max.name)) ∧ lw_tbl[(wmath.getD 0 (0, 0, 0)).2.2]? = some (.initialized "java/lang/Math") := ⟨⟨⟨by decide +kernel, by decide +kernel⟩, by decide +kernel⟩, by decide +kernel⟩
set_option maxRecDepth 100000 in
theorem math_c0 : lw_tbl[(wmath.getD 0 (0, 0, 0)).2.1]? = some (.code Lib.Math.abs.name Lib.Math.abs.code 1 (some .int)) := by decide +kernel
set_option maxRecDepth 100000 in
theorem math_c1 : lw_tbl[(wmath.getD 1 (0, 0, 0)).2.1]? = some (.code Lib.Math.min.name Lib.Math.min.code 2 (some .int)) := by decide +kernel
set_option maxRecDepth 100000 in
theorem math_c2 : lw_tbl[(wmath.getD 2 (0, 0, 0)).2.1]? = some (.code Lib.Math.max.name Lib.Math.max.code 2 (some .int)) := by decide +kernel
theorem ckK_math {own idx k y wi : Nat} (hk : k = 7 ∨ k = 8 ∨ k = 9) (h : ckK own (idx, k, y, wi) = true) : lw_tbl[wi]? = some (.methodLink (cn own) idx (mnm k)) := by
  unfold ckK at h
  have n1 : ¬ k = 5 := by omega
  have n2 : ¬ k = 6 := by omega
  have n3 : 7 ≤ k := by omega
  simp only [n1, n2, n3, if_false, if_true, Bool.and_eq_true, decide_eq_true_eq] at h
  exact h.2
set_option maxHeartbeats 4000000 in
theorem snd_C (hx : p.tables.exec = Jvm.exec) (hb : c.code = cc) (hml : c.maxLocals = nL) (hown : s.vm.findClass (cn own) = some m.cls) (hts : ∀ w ∈ WT, w.before args s = true) (hk : KF E B X s s.heap) (hS : va_S (pA B) s.heap H locs) (hP : va_P E.1 pcl (wsO E B G I) H) (hw : WF G) (hLs : L.size = nL)
    (h : opC own i st G I = some (st', I')) (hd : decode cc pc = .ok (i, 3)) (hR : 1 ≤ R.frames ∧ 40 ≤ R.locals) (hf : cells ≤ R.cells ∧ slots ≤ R.slots)
    (kk : ∀ (H1 : Heap) (locs1 : List Loc), va_P E.1 pcl (wsO E B G I') H1 → va_S (pA B) s.heap H1 locs1 → W p l e R s m args below meth c H1 locs1 cells slots Q (F0 m (pc + 3) L (st'.map (emv B)))) : W p l e R s m args below meth c H locs cells slots Q (F0 m pc L (st.map (emv B))) := by
  have hB := hk.2.1
  have hcat : ∀ {s1 : List Value}, (s1.map Value.category).sum ≤ 8 → ((s1.map (emv B)).map fun v => v.category).sum ≤ 8 := fun h => by rw [emv_cats hB]; exact h
  cases i with
  | invokestatic idx =>
    simp only [opC] at h
    split at h
    · next y0 hct =>
      obtain ⟨wi, hck⟩ := ctab_ok hct
      unfold ckK at hck
      rw [if_pos rfl, decide_eq_true_eq] at hck
      split at h
      · next n dp d sp a s1 =>
        split at h
        · next hc =>
          cases h
          obtain ⟨c1, c2, c3, c4, c5, c6, c7, c8⟩ := hc
          obtain ⟨e0, he0, he01⟩ := tagW_some c1 (by decide)
          obtain ⟨e1, he1, he11⟩ := tagW_some c2 (by decide)
          have hat0 := ws_at (E := E) (B := B) (I := I) he0
          have hat1 := ws_at (E := E) (B := B) (I := I) he1
          rw [ent, if_pos he01] at hat0
          rw [ent, if_pos he11] at hat1
          rw [lenW_at he0] at c6
          rw [lenW_at he1] at c7
          have hc8 := hcat c8
          rw [List.map_cons, List.map_cons, List.map_cons, List.map_cons, List.map_cons, emv_w (WF_lt hw he0), emv_w (WF_lt hw he1)]
          refine va_copyi hx hb (by rw [hml, hLs]) hown (hts _ (wt_of hck rfl)) (hts _ (wt_of sys_w.1 rfl)) (hts _ (wt_of sys_w.2.1 rfl)) (hts _ (wt_of sys_w.2.2 rfl)) hk.1 hP ws_D hS a d 0 0 hat0 hat1 rfl rfl rfl (Int32.not_lt.mpr c3) (Int32.not_lt.mpr c4) (Int32.not_lt.mpr c5) c6 c7 (fun _ _ => rfl) hR.1 ?_ hd (fun H1 locs1 g1 _ g3 => kk H1 locs1 ?_ g3)
          · have : nativeFrameWords "java/lang/System" "arraycopy" 5 ≤ 7 := by decide
            omega
          · rw [ws_set (G' := G) (I' := cpy2 I a sp.toNatClampNeg d dp.toNatClampNeg n.toNatClampNeg) rfl ?_ (fun k hkd => ⟨rfl, ?_⟩)] at g1
            · exact g1
            · rw [gd_at he1, ent, if_pos he11]
              refine congrArg (fun f => Sum.inl (E.2.1, e1.2.1, Sum.inl f)) ?_
              funext j
              simp only [va_cpy, cpy2, true_and]
            · funext j; simp [cpy2, hkd]
        · cases h
      · cases h
    · next y0 hct =>
      obtain ⟨wi, hck⟩ := ctab_ok hct
      have hl := ckK_math (by omega) hck
      split at h
      · split at h
        · next hc =>
          cases h
          exact va_mabs hx hb (by rw [hml, hLs]) hown (hts _ (wt_of hl rfl)) (hts _ (wt_of math_w.1.1.1 rfl)) (hts _ (wt_of math_w.2 rfl)) (hts _ (wt_of math_c0 rfl)) hR.1 (by have := hcat hc; omega) hf.1 hf.2 hd (kk H locs hP hS)
        · cases h
      · cases h
    · next y0 hct =>
      obtain ⟨wi, hck⟩ := ctab_ok hct
      have hl := ckK_math (by omega) hck
      split at h
      · split at h
        · next hc =>
          cases h
          exact va_mmin hx hb (by rw [hml, hLs]) hown (hts _ (wt_of hl rfl)) (hts _ (wt_of math_w.1.1.2 rfl)) (hts _ (wt_of math_w.2 rfl)) (hts _ (wt_of math_c1 rfl)) hR.1 (by have := hcat hc; omega) hf.1 hf.2 hd (kk H locs hP hS)
        · cases h
      · cases h
    · next y0 hct =>
      obtain ⟨wi, hck⟩ := ctab_ok hct
      have hl := ckK_math (by omega) hck
      split at h
      · split at h
        · next hc =>
          cases h
          exact va_mmax hx hb (by rw [hml, hLs]) hown (hts _ (wt_of hl rfl)) (hts _ (wt_of math_w.1.2 rfl)) (hts _ (wt_of math_w.2 rfl)) (hts _ (wt_of math_c2 rfl)) hR.1 (by have := hcat hc; omega) hf.1 hf.2 hd (kk H locs hP hS)
        · cases h
      · cases h
    · cases h
  | invokespecial idx =>
    simp only [opC] at h
    split at h
    · next y0 hct =>
      obtain ⟨wi, hck⟩ := ctab_ok hct
      unfold ckK at hck
      rw [if_neg (show ¬ (6 : Nat) = 5 by decide), if_pos rfl, decide_eq_true_eq] at hck
      split at h
      · next r s1 =>
        split at h
        · next hc =>
          cases h
          rw [List.map_cons, emv_w hc.1]
          refine W.objInit hx hb hown (hts _ (wt_of hck rfl)) (hts _ (wt_of obj_w.1 rfl)) (hts _ (wt_of obj_w.2 rfl)) rfl (by rw [hml]; exact hLs) rfl hd hR.1 ?_ (W.eq rfl (kk H locs hP hS))
          show 2 * 0 + _ + 12 ≤ _
          have := hcat hc.2
          omega
        · cases h
      · cases h
    · cases h
  | _ => cases h
theorem ent_20 {en : Nat × Nat × List Value} {f : Nat → Int32} (h : en.1 = 20) : ent E B en f = .inl (E.2.1, en.2.1, .inl f) := by
  unfold ent; rw [if_pos h]
theorem ent_21 {en : Nat × Nat × List Value} {f : Nat → Int32} (h : en.1 = 21) : ent E B en f = .inl (E.2.2.1, en.2.1, .inl f) := by
  unfold ent; rw [if_neg (by omega), if_pos h]
theorem ent_22 {en : Nat × Nat × List Value} {f : Nat → Int32} (h : en.1 = 22) : ent E B en f = .inl (E.2.2.2.1, en.2.1, .inr (.inr (.inr (.inr (fun j => rfo B (en.2.2.getD j .null)))))) := by
  unfold ent; rw [if_neg (by omega), if_neg (by omega), if_pos h]
theorem ent_23 {en : Nat × Nat × List Value} {f : Nat → Int32} (h : en.1 = 23) : ent E B en f = .inl (E.2.2.2.2, en.2.1, .inr (.inr (.inr (.inr (fun j => rfo B (en.2.2.getD j .null)))))) := by
  unfold ent; rw [if_neg (by omega), if_neg (by omega), if_neg (by omega), if_pos h]
/-- where a new cell comes to lie -/
theorem new_q {x : va_E} {q : Nat} {H1 : Heap} (hP : va_P E.1 pcl (wsO E B G I ++ [(q, x)]) H1) (hD : va_D (pA B) (wsO E B G I ++ [(q, x)])) (hz : H1.size ≤ B.1 + G.length + 1) : q = B.1 + G.length := by
  have hat : (wsO E B G I ++ [(q, x)])[G.length]? = some (q, x) := by
    rw [List.getElem?_append_right (by rw [ws_len]; exact Nat.le_refl _), ws_len, Nat.sub_self]; rfl
  have h1 : q < H1.size := (hP _ _ hat).lt
  have h2 : B.1 ≤ q := hD.2 _ _ hat
  rcases Nat.lt_or_ge q (B.1 + G.length) with hlt | hge
  · exfalso
    obtain ⟨j, hj⟩ := Nat.exists_eq_add_of_le h2
    have hjl : j < G.length := by omega
    have h3 : (wsO E B G I ++ [(q, x)])[j]? = some (B.1 + j, ent E B (gd G j) (I j)) := by
      rw [List.getElem?_append_left (by rw [ws_len]; exact hjl), ws_get hjl]
    have := hD.1 j G.length _ _ h3 hat hj.symm
    omega
  · omega
set_option maxHeartbeats 8000000 in
theorem snd_N (hx : p.tables.exec = Jvm.exec) (hb : c.code = cc) (hown : s.vm.findClass (cn own) = some m.cls) (hts : ∀ w ∈ WT, w.before args s = true) (hk : KF E B X s s.heap) (hS : va_S (pA B) s.heap H locs) (hP : va_P E.1 pcl (wsO E B G I) H) (hw : WF G) (hbase : B.1 ≤ s.heap.size) (hinv : s.heap.size + cells = B.1 + G.length)
    {isI : Bool} (hin : isI = true → meth.name = "<init>") (h : opN own isI i st G I = some (len, st', G', I')) (hd : decode cc pc = .ok (i, len)) (hf : cells + (G'.length - G.length) ≤ R.cells ∧ slots + (slG G' - slG G) ≤ R.slots)
    (kk : ∀ (H1 : Heap) (locs1 : List Loc), va_P E.1 pcl (wsO E B G' I') H1 → va_S (pA B) s.heap H1 locs1 → W p l e R s m args below meth c H1 locs1 (cells + (G'.length - G.length)) (slots + (slG G' - slG G)) Q (F0 m (pc + len) L (st'.map (emv B)))) : W p l e R s m args below meth c H locs cells slots Q (F0 m pc L (st.map (emv B))) := by
  have hK := hk.1
  have hA : ∀ q : Nat, s.heap.size ≤ q → pA B q := fun q h => Nat.le_trans hbase h
  cases i with
  | putfield idx =>
    simp only [opN] at h
    split at h
    · next ci k hf1 =>
      have key : ∀ (v : Value) (r : Nat) (s1 : List Value), (v = .null ∨ ∃ w, v = .ref w ∧ w < 1000) → tagW G r = ci → k < fcount ci → ffin ci k = true → fkind ci k = 2 → isI = true → ci = own → k < refL G r → (∀ (H1 : Heap) (locs1 : List Loc), va_P E.1 pcl (wsO E B (setRef G r k v) I) H1 → va_S (pA B) s.heap H1 locs1 → W p l e R s m args below meth c H1 locs1 (cells + ((setRef G r k v).length - G.length)) (slots + (slG (setRef G r k v) - slG G)) Q (F0 m (pc + 3) L (s1.map (emv B)))) → decode cc pc = .ok (.putfield idx, 3) → W p l e R s m args below meth c H locs cells slots Q (F0 m pc L ((v :: .ref r :: s1).map (emv B))) := by
        intro v r s1 hv ht hkc hfin hkd hi hco hrl k3 hd3
        obtain ⟨h8, hlink, hnm⟩ := ftab_ok hf1
        obtain ⟨en, he, he1⟩ := tagW_some ht (by omega)
        obtain ⟨q1, q2, q3, q4, q5, q6, q7⟩ := cls_ok h8
        have hat := ws_at (E := E) (B := B) (I := I) he
        rw [ent_obj (by omega), he1] at hat
        rw [setRef_len, slG_setRef, Nat.sub_self, Nat.sub_self, Nat.add_zero, Nat.add_zero] at k3
        rw [setRef_at he] at k3
        rw [refL_at he] at hrl
        have hty : (pty1 ci k).isReference = true := by
          rcases q4 k hkc with ⟨z1, z2⟩ | ⟨z1, z2⟩ | ⟨z1, z2⟩
          · omega
          · omega
          · exact z2
        obtain ⟨d1, d2, d3, d4⟩ := def_ref hty
        have hev : narrow (pty1 ci k) (emv B v) = emv B v ∧ fits (pty1 ci k) (emv B v) = true := by
          rcases hv with rfl | ⟨w, rfl, hw1⟩
          · exact ⟨d3, d4⟩
          · rw [emv_w hw1]; exact d2 _
        rw [List.map_cons, List.map_cons, emv_w (WF_lt hw he)]
        refine va_putF hx hb hts q1 (pty1 ci) q3 q7 hown hK hP ws_D hS r hat (pcl_at h8) k hkc (by rw [hnm] at hlink; exact hts _ hlink) (fun y hy => by rw [hnm] at hy; exact hy) (by rw [q2 k hkc]; exact hfin) (hin hi) (by rw [hnm, hco]) (ty := pty1 ci k) (v := emv B v) (q3 k hkc) hev.1 hev.2 (by simpa using hkc) hd3 (fun H1 locs1 g1 _ g3 => k3 H1 locs1 ?_ g3)
        have hr := (List.getElem?_eq_some_iff.mp he).1
        rw [ws_set (G' := G.set r (en.1, en.2.1, en.2.2.set k v)) (I' := I) (by rw [List.length_set]) ?_ (fun j hj => ⟨by rw [gd_set hr, if_neg hj], rfl⟩)] at g1
        · exact g1
        · rw [gd_set hr, if_pos rfl, ent_obj (by show en.1 < 8; omega), ← he1]
          refine congrArg (fun z => Sum.inr (en.1, z)) ?_
          refine fldV_set (e' := (en.1, en.2.1, en.2.2.set k v)) rfl (fun _ => ?_) (fun j hj => ?_)
          · simp only [fldV, he1, hkd, if_true]
            rw [getD_set hrl, if_pos rfl]
          · simp only [fldV]
            rw [getD_set hrl, if_neg hj]
      split at h
      · next v r s1 =>
        split at h
        · next hc =>
          cases h
          obtain ⟨c1, c2, c3, c4, c5, c6, c7, c8⟩ := hc
          exact key _ r _ (Or.inr ⟨v, rfl, Nat.lt_of_lt_of_le c7 hw.1⟩) c1 c2 c3 c4 c5 c6 c8 kk hd
        · cases h
      · next r s1 =>
        split at h
        · next hc =>
          cases h
          obtain ⟨c1, c2, c3, c4, c5, c6, c8⟩ := hc
          exact key _ r _ (Or.inl rfl) c1 c2 c3 c4 c5 c6 c8 kk hd
        · cases h
      · cases h
    · cases h
  | aastore =>
    simp only [opN] at h
    split at h
    · next v j r s1 =>
      split at h
      · next hc =>
        cases h
        obtain ⟨hc1, hi, hrl⟩ := hc
        rw [setRef_len, slG_setRef, Nat.sub_self, Nat.sub_self, Nat.add_zero, Nat.add_zero] at kk
        have go : ∀ (t : Nat) (ct t0 : Nat) (cA : ClassId), tagW G r = t → tagW G v = ct → ct < 8 → (t = 22 ∧ cA = E.2.2.2.1 ∨ t = 23 ∧ cA = E.2.2.2.2) → (tys4 E)[t0]? = some (cA, .object (cn ct)) → W p l e R s m args below meth c H locs cells slots Q (F0 m pc L ((.ref v :: .int j :: .ref r :: st').map (emv B))) := by
          intro t ct t0 cA ht hv h8 htt hty
          obtain ⟨en, he, he1⟩ := tagW_some ht (by omega)
          obtain ⟨ev, hev, hev1⟩ := tagW_some hv (by omega)
          have hr := (List.getElem?_eq_some_iff.mp he).1
          rw [setRef_at he] at kk
          rw [refL_at he] at hrl
          rw [lenW_at he] at hi
          have hat := ws_at (E := E) (B := B) (I := I) he
          have hent : ∀ (rs : List Value) (f : Nat → Int32), ent E B (en.1, en.2.1, rs) f = .inl (cA, en.2.1, .inr (.inr (.inr (.inr (fun j => rfo B (rs.getD j .null)))))) := by
            intro rs f
            rcases htt with ⟨z1, z2⟩ | ⟨z1, z2⟩
            · unfold ent; rw [if_neg (by show ¬ en.1 = 20; omega), if_neg (by show ¬ en.1 = 21; omega), if_pos (by show en.1 = 22; omega), z2]
            · unfold ent; rw [if_neg (by show ¬ en.1 = 20; omega), if_neg (by show ¬ en.1 = 21; omega), if_neg (by show ¬ en.1 = 22; omega), if_pos (by show en.1 = 23; omega), z2]
          rw [show en = (en.1, en.2.1, en.2.2) from rfl, hent] at hat
          have hatv := ws_at (E := E) (B := B) (I := I) hev
          rw [ent_obj (by omega), hev1] at hatv
          rw [List.map_cons, List.map_cons, List.map_cons, emv_w (WF_lt hw he), emv_w (WF_lt hw hev)]
          refine va_astq hx hb hK hP ws_D hS r t0 v ct hat hty hatv (pcl_at h8) (inb_in hi) hd (fun H1 locs1 g1 _ g3 => kk H1 locs1 ?_ g3)
          rw [ws_set (G' := G.set r (en.1, en.2.1, en.2.2.set j.toNatClampNeg (.ref v))) (I' := I) (by rw [List.length_set]) ?_ (fun k hkr => ⟨by rw [gd_set hr, if_neg hkr], rfl⟩)] at g1
          · exact g1
          · rw [gd_set hr, if_pos rfl, hent]
            refine congrArg (fun f => Sum.inl (cA, en.2.1, Sum.inr (Sum.inr (Sum.inr (Sum.inr f))))) ?_
            funext k
            simp only [va_up]
            rw [getD_set hrl]
            by_cases hkj : k = j.toNatClampNeg
            · rw [if_pos hkj, if_pos hkj]; rfl
            · rw [if_neg hkj, if_neg hkj]
        rcases hc1 with ⟨z1, z2⟩ | ⟨z1, z2⟩
        · exact go 22 0 2 E.2.2.2.1 z1 z2 (by omega) (Or.inl ⟨rfl, rfl⟩) rfl
        · exact go 23 4 3 E.2.2.2.2 z1 z2 (by omega) (Or.inr ⟨rfl, rfl⟩) rfl
      · cases h
    · cases h
  | new idx =>
    simp only [opN] at h
    split at h
    · next ci hn =>
      split at h
      · next hl1 =>
        cases h
        obtain ⟨h8, hlink⟩ := ntab_ok hn
        obtain ⟨q1, q2, q3, q4, q5, q6, q7⟩ := cls_ok h8
        have el : (G ++ [(ci, fcount ci, List.replicate (fcount ci) Value.null)]).length - G.length = 1 := by simp
        have es : slG (G ++ [(ci, fcount ci, List.replicate (fcount ci) Value.null)]) - slG G = fcount ci := by rw [slG_push]; exact Nat.add_sub_cancel_left _ _
        rw [el, es] at kk hf
        refine va_new hx hb hts q1 (pty1 ci) q3 hown (hts _ hlink) (hts _ q5) (hts _ q6) hK hP ws_D hS hA (pcl_at h8) (fs := (List.range (fcount ci)).map (fldV B (ci, fcount ci, List.replicate (fcount ci) Value.null) (fun _ => 0))) (fun j hj => ?_) hf.1 hf.2 hd (fun q H1 g1 g2 g3 => W.size (fun hz => ?_))
        · rw [vp_V, List.getD_eq_getElem?_getD, fldV_map hj]
          simp only [fldV, Option.getD_some, getD_null]
          rcases q4 j hj with ⟨z1, z2⟩ | ⟨z1, z2⟩ | ⟨z1, z2⟩
          · rw [z1, z2]; rfl
          · rw [z1, z2]; rfl
          · rw [z1, (def_ref z2).1]; rfl
        · have hq := new_q g1 g2 (by omega)
          subst hq
          rw [ws_push (e := (ci, fcount ci, List.replicate (fcount ci) Value.null)) (by rw [ent_obj (by exact h8)])] at g1
          have k4 := kk H1 locs g1 g3
          rw [List.map_cons, emv_w hl1] at k4
          exact k4
      · cases h
    · cases h
  | newarray t =>
    simp only [opN] at h
    split at h
    · next n s1 =>
      split at h
      · next hc =>
        obtain ⟨c1, c2, c3⟩ := hc
        have hRA : ∀ cA cB ty, (∀ C, ty ≠ .object C) → va_RA s cA ty → va_RA s cB ty → cA = cB := by
          intro cA cB ty hty h1 h2
          cases ty <;> first | exact absurd rfl (hty _) | exact Option.some.inj (h1.symm.trans h2)
        split at h
        · cases h
          have el : (G ++ [((20 : Nat), n.toNatClampNeg, ([] : List Value))]).length - G.length = 1 := by simp
          have es : slG (G ++ [((20 : Nat), n.toNatClampNeg, ([] : List Value))]) - slG G = n.toNatClampNeg := by rw [slG_push]; exact Nat.add_sub_cancel_left _ _
          rw [el, es] at kk hf
          refine va_newa (atype := .int) (a0 := (n.toNatClampNeg, .inl (fun _ => 0))) hx hb (hts _ (wt_of arr_w.1 rfl)) rfl hK hP ws_D hS hA (fun _ => rfl) (Int32.not_lt.mpr c1) rfl (by show n.toNatClampNeg * 4 ≤ _; omega) hf.1 hf.2 hd (fun q cA H1 g0 g1 g2 g3 => W.size (fun hz => ?_))
          have hcA := hRA cA E.2.1 .int (fun C h => by cases h) (g0.2 4 (cA, .int) rfl).2 (hK.2 0 (E.2.1, .int) rfl).2
          subst hcA
          have hq := new_q g1 g2 (by omega)
          subst hq
          rw [ws_push (e := (20, n.toNatClampNeg, [])) (ent_20 rfl).symm] at g1
          have k4 := kk H1 locs g1 g3
          rw [List.map_cons, emv_w c2] at k4
          exact k4
        · cases h
          have el : (G ++ [((21 : Nat), n.toNatClampNeg, ([] : List Value))]).length - G.length = 1 := by simp
          have es : slG (G ++ [((21 : Nat), n.toNatClampNeg, ([] : List Value))]) - slG G = n.toNatClampNeg := by rw [slG_push]; exact Nat.add_sub_cancel_left _ _
          rw [el, es] at kk hf
          refine va_newa (atype := .char) (a0 := (n.toNatClampNeg, .inl (fun _ => 0))) hx hb (hts _ (wt_of arr_w.2 rfl)) rfl hK hP ws_D hS hA (fun _ => rfl) (Int32.not_lt.mpr c1) rfl (by show n.toNatClampNeg * 2 ≤ _; omega) hf.1 hf.2 hd (fun q cA H1 g0 g1 g2 g3 => W.size (fun hz => ?_))
          have hcA := hRA cA E.2.2.1 .char (fun C h => by cases h) (g0.2 4 (cA, .char) rfl).2 (hK.2 1 (E.2.2.1, .char) rfl).2
          subst hcA
          have hq := new_q g1 g2 (by omega)
          subst hq
          rw [ws_push (e := (21, n.toNatClampNeg, [])) (ent_21 rfl).symm] at g1
          have k4 := kk H1 locs g1 g3
          rw [List.map_cons, emv_w c2] at k4
          exact k4
        · cases h
      · cases h
    · cases h
  | anewarray idx =>
    simp only [opN] at h
    split at h
    · next t ht =>
      split at h
      · next n s1 =>
        split at h
        · next hc =>
          cases h
          obtain ⟨c1, c2, c3⟩ := hc
          have el : (G ++ [(t, n.toNatClampNeg, List.replicate n.toNatClampNeg Value.null)]).length - G.length = 1 := by simp
          have es : slG (G ++ [(t, n.toNatClampNeg, List.replicate n.toNatClampNeg Value.null)]) - slG G = n.toNatClampNeg := by rw [slG_push]; exact Nat.add_sub_cancel_left _ _
          rw [el, es] at kk hf
          have hRA : ∀ cA cB C, va_RA s cA (.object C) → va_RA s cB (.object C) → cA = cB := by
            rintro cA cB C ⟨_, _, _, _, _, h1⟩ ⟨_, _, _, _, _, h2⟩
            exact Option.some.inj (h1.symm.trans h2)
          have hrf : (fun _ : Nat => (none : Option Nat)) = fun j => rfo B ((List.replicate n.toNatClampNeg Value.null).getD j .null) := by
            funext j
            rw [getD_null]; rfl
          rcases atab_ok ht with ⟨rfl, hl⟩ | ⟨rfl, hl⟩
          · refine va_newq hx hb hown (hts _ hl) hk.2.2.2.2.2.2.2.1 hK hP ws_D hS hA (Int32.not_lt.mpr c1) rfl (by omega) hf.1 hf.2 hd (fun q cA H1 g0 g1 g2 g3 => W.size (fun hz => ?_))
            have hcA := hRA cA E.2.2.2.1 (cn 0) (g0.2 4 (cA, .object (cn 0)) rfl).2 (hK.2 2 (E.2.2.2.1, .object (cn 0)) rfl).2
            subst hcA
            have hq := new_q g1 g2 (by omega)
            subst hq
            rw [ws_push (e := (22, n.toNatClampNeg, List.replicate n.toNatClampNeg Value.null)) (by rw [ent_22 rfl, hrf])] at g1
            have k4 := kk H1 locs g1 g3
            rw [List.map_cons, emv_w c2] at k4
            exact k4
          · refine va_newq hx hb hown (hts _ hl) hk.2.2.2.2.2.2.2.2 hK hP ws_D hS hA (Int32.not_lt.mpr c1) rfl (by omega) hf.1 hf.2 hd (fun q cA H1 g0 g1 g2 g3 => W.size (fun hz => ?_))
            have hcA := hRA cA E.2.2.2.2 (cn 4) (g0.2 4 (cA, .object (cn 4)) rfl).2 (hK.2 3 (E.2.2.2.2, .object (cn 4)) rfl).2
            subst hcA
            have hq := new_q g1 g2 (by omega)
            subst hq
            rw [ws_push (e := (23, n.toNatClampNeg, List.replicate n.toNatClampNeg Value.null)) (by rw [ent_23 rfl, hrf])] at g1
            have k4 := kk H1 locs g1 g3
            rw [List.map_cons, emv_w c2] at k4
            exact k4
        · cases h
      · cases h
    · cases h
  | _ => cases h
theorem retOk_nar {ret : Option FieldType} {v : Int32} (h : retOk ret v = true) : ∃ ty, ret = some ty ∧ narrow ty (.int v) = .int v := by
  unfold retOk at h
  split at h
  · exact ⟨_, rfl, rfl⟩
  · refine ⟨_, rfl, ?_⟩
    simp only [Bool.or_eq_true, beq_iff_eq] at h
    rcases h with rfl | rfl <;> rfl
  · refine ⟨_, rfl, ?_⟩
    simp only [beq_iff_eq] at h
    rw [h]; rfl
  · refine ⟨_, rfl, ?_⟩
    simp only [Bool.and_eq_true, decide_eq_true_eq] at h
    obtain ⟨j, hj, rfl⟩ := nI_of (Int32.not_lt.mpr h.1)
    have h2 : j < 65536 := by
      have := (nI_ltI hj (by decide)).mp (show nI j < nI 65536 from h.2)
      exact this
    exact (pk_charN h2).1
  · cases h
theorem snd_R {ret : Option FieldType} {v : Option Value} {free : Addr → Prop} {Qc : Array Value → State → Outcome → State → Prop} (hx : p.tables.exec = Jvm.exec) (hb : c.code = cc) (hr : meth.sig.returnType = ret) (hlocks : meth.locks = false) (hB : rvOk B) (h : opR ret i len st = some v) (hd : decode cc pc = .ok (i, len))
    (hq : ∀ t : State, t.heap = H → s.WarmedH t.vm → Qc args s (.returned (v.map (emv B))) t) (hf : ∀ q ∈ locs, free q.base) : W p l e R s m args below meth c H locs cells slots (MQ below Qc args s cells slots free) (F0 m pc L (st.map (emv B))) := by
  cases i with
  | ireturn =>
    simp only [opR] at h
    split at h
    · next x =>
      split at h
      · next hc =>
        cases h
        obtain ⟨rfl, h2⟩ := hc
        obtain ⟨ty, e1, e2⟩ := retOk_nar h2
        exact W.zret hx hb (hr.trans e1) e2 hq hf hd hlocks
      · cases h
    · cases h
  | areturn =>
    simp only [opR] at h
    split at h
    · next x =>
      split at h
      · next hc =>
        cases h
        obtain ⟨rfl, h2⟩ := hc
        exact W.aret hx hb (hr.trans h2) (Or.inl ⟨_, rfl⟩) (emv_ref hB x) hq hf hd hlocks
      · cases h
    · cases h
  | return_ =>
    simp only [opR] at h
    split at h
    · split at h
      · next hc =>
        cases h
        obtain ⟨rfl, h2⟩ := hc
        exact W.vret hx hb (hr.trans h2) hq hf hd hlocks
      · cases h
    · cases h
  | _ => cases h
end SE
