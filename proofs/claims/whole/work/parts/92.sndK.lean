/-! THE PURE MACHINE IS SOUND, 3: what is known of the launch and of the cells that nobody writes; the instructions on cells. -/
abbrev pA (B : pAd) : Nat → Prop := fun q => B.1 ≤ q
def txs : List String := ["call", "tick", "give", "way", "regive", "park"]
def tys4 (E : pEn) : List (ClassId × FieldType) := [(E.2.1, .int), (E.2.2.1, .char), (E.2.2.2.1, .object (cn 0)), (E.2.2.2.2, .object (cn 4))]
/-- calls of nest mates: of, number, method -/
def nestL : List (Nat × Nat × Nat) := [(2, 21, 0), (2, 24, 7), (2, 35, 52), (6, 26, 62), (6, 37, 58), (2, 129, 113)]
def ynm (z : Nat) : MethodName := (pmth z).2.2.2.2.2
def KF (E : pEn) (B : pAd) (X : pX) (s : State) (H : Heap) : Prop :=
  va_K E.1 pcl (tys4 E) s ∧ rvOk B ∧
  (va_T .int (B.2.1 1000) X.1 (fun j => .int (roI X 1000 j)) (pA B) s H ∧ va_T .int (B.2.1 1001) 6 (fun j => .int (roI X 1001 j)) (pA B) s H ∧ va_T .int (B.2.1 1002) 6 (fun j => .int (roI X 1002 j)) (pA B) s H) ∧
  (va_Z (cn 0) "KIND_ABOVE" "[I" (.ref (B.2.1 1001)) (pA B) s H ∧ va_Z (cn 5) "NUMBERS_OF" "[I" (.ref (B.2.1 1002)) (pA B) s H ∧ va_Z (cn 11) "COMPACT_STRINGS" "Z" (.int 1) (pA B) s H ∧ va_Z (cn 14) "SIOOBE_FORMATTER" "Ljava/util/function/BiFunction;" B.2.2 (pA B) s H) ∧
  vk_S 6 [4, 4, 4, 3, 6, 4] txts (fun i => B.2.1 (1004 + i)) (fun i => B.2.1 (1010 + i)) (pA B) s H ∧
  (∀ i, i < 6 → vk_R (cn 5) (75 + 2 * i) (txs.getD i "") (B.2.1 (1004 + i)) s) ∧
  (∀ q ∈ nestL, va_Nw (.methodLinkNest (cn q.1) q.2.1 (ynm q.2.2) (cn 6)) s) ∧ va_AO (cn 0) s ∧ va_AO (cn 4) s
theorem KF.kept {E : pEn} {B : pAd} {X : pX} {s : State} {H H1 : Heap} (h : KF E B X s H) (hq : ∀ a : Nat, a < H.size → ¬ pA B a → H1[a]? = H[a]?) : KF E B X s H1 := by
  obtain ⟨h1, h2, ⟨a1, a2, a3⟩, ⟨b1, b2, b3, b4⟩, h5, h6⟩ := h
  exact ⟨h1, h2, ⟨a1.kept hq, a2.kept hq, a3.kept hq⟩, ⟨b1.kept hq, b2.kept hq, b3.kept hq, b4.kept hq⟩, h5.kept hq, h6⟩
theorem KF.warm {E : pEn} {B : pAd} {X : pX} {s U : State} {H : Heap} (hW : s.WarmedH U.vm) (h : KF E B X s H) : KF E B X U H := by
  obtain ⟨h1, h2, ⟨a1, a2, a3⟩, ⟨b1, b2, b3, b4⟩, h5, h6, h7, h8, h9⟩ := h
  have hv := hW.alike
  exact ⟨va_K.moved hv h1, h2, ⟨va_T.moved hv a1, va_T.moved hv a2, va_T.moved hv a3⟩, ⟨va_Z.moved hv b1, va_Z.moved hv b2, va_Z.moved hv b3, va_Z.moved hv b4⟩, vk_S.moved hv h5, fun i hi => (h6 i hi).warm hW, fun q hq => va_Nw.warmM hW (h7 q hq), va_AO.moved hv h8, va_AO.moved hv h9⟩
theorem KF.same {E : pEn} {B : pAd} {X : pX} {u U : State} {H : Heap} (hv : u.vm = U.vm) (h : KF E B X u H) : KF E B X U H := by
  obtain ⟨h1, h2, ⟨a1, a2, a3⟩, ⟨b1, b2, b3, b4⟩, h5, h6, h7, h8, h9⟩ := h
  have ha : u.vm.Alike U.vm := by rw [← hv]; exact Vm.Alike.refl _
  exact ⟨va_K.moved ha h1, h2, ⟨va_T.moved ha a1, va_T.moved ha a2, va_T.moved ha a3⟩, ⟨va_Z.moved ha b1, va_Z.moved ha b2, va_Z.moved ha b3, va_Z.moved ha b4⟩, vk_S.moved ha h5, fun i hi => vk_R.same hv.symm (h6 i hi), fun q hq => va_Nw.same rfl hv (h7 q hq), va_AO.moved ha h8, va_AO.moved ha h9⟩
def stW : List (Nat × Nat × Nat × String × String × String) := [(0, 37, 413, "LiftSweeps$Car", "KIND_ABOVE", "[I"), (5, 48, 796, "LiftSweeps$Tape", "NUMBERS_OF", "[I"), (11, 38, 756, "java/lang/String", "COMPACT_STRINGS", "Z"), (11, 1053, 772, "jdk/internal/util/Preconditions", "SIOOBE_FORMATTER", "Ljava/util/function/BiFunction;")]
theorem st_w : stW.all (fun q => decide (lw_tbl[q.2.2.1]? = some (.fieldLink (cn q.1) q.2.1 q.2.2.2.1 q.2.2.2.2.1 q.2.2.2.2.2))) = true := by decide +kernel
theorem st_w9 : lw_tbl[1389]? = some (.fieldLink (cn 11) 9 (cn 11) "value" "[B") := by decide +kernel
theorem st_w15 : lw_tbl[1390]? = some (.fieldLink (cn 11) 15 (cn 11) "coder" "B") := by decide +kernel
theorem cn11 : cn 11 = "java/lang/String" := by decide +kernel
theorem stxt_own {own idx k : Nat} (h : stxt own idx = some k) : own = 5 ∧ idx = 75 + 2 * k := by
  unfold stxt at h
  split at h <;> first | (cases h; exact ⟨rfl, rfl⟩) | cases h
section SH
variable {p : Program} {l : Launch} {e : Env} {R : Room} {s : State} {m : MethodId} {args : Array Value} {below : List Frame} {meth : Method} {c : Code} {H : Heap} {locs : List Loc} {cells slots : Nat} {Q : State → Prop}
variable {cc : ByteArray} {pc nL own len : Nat} {L : Array Slot} {st st' : List Value} {B : pAd} {i : Instr} {E : pEn} {X : pX} {G G' : pG} {I I' : pI}
theorem W.size (h : H.size ≤ s.heap.size + cells → W p l e R s m args below meth c H locs cells slots Q (F0 m pc L st)) : W p l e R s m args below meth c H locs cells slots Q (F0 m pc L st) := by
  intro T hT X
  have h1 : (T.setVm s.vm).heap.size ≤ s.heap.size + cells := X.same.2.2.1
  exact h (by rw [← hT]; exact h1) T hT X
theorem ld_of (hts : ∀ w ∈ WT, w.before args s = true) (hk : KF E B X s H) : ldOk own args s B := by
  refine ⟨fun idx v h => hts _ (ltab_ok h), fun idx v h => hts _ (l2tab_ok h), fun idx k h => ?_⟩
  obtain ⟨rfl, rfl⟩ := stxt_own h
  exact ⟨_, hk.2.2.2.2.2.1 k (stxt_lt h)⟩
theorem vk_at (hk : KF E B X s s.heap) {r : Nat} (h1 : 1004 ≤ r) (h2 : r < 1010) : va_OF "java/lang/String" "coder" "B" (.int 0) (B.2.1 r) (pA B) s s.heap ∧ va_OF "java/lang/String" "value" "[B" (.ref (B.2.1 (r + 6))) (B.2.1 r) (pA B) s s.heap := by
  obtain ⟨j, rfl⟩ : ∃ j, r = 1004 + j := ⟨r - 1004, by omega⟩
  have h3 := hk.2.2.2.2.1.1 j (by omega)
  have e1 : 1004 + j + 6 = 1010 + j := by omega
  rw [e1]
  exact ⟨h3.2.1, h3.2.2.1⟩
theorem emv_s {r : Nat} (h1 : 1004 ≤ r) : emv B (.ref r) = .ref (B.2.1 r) := by
  have n1 : ¬ r < 1000 := by omega
  have n2 : ¬ r = 1003 := by omega
  simp only [emv, n1, n2, if_false]
theorem T_ints (hk : KF E B X s s.heap) {r : Nat} (h : (roT X r).1 = 20) : emv B (.ref r) = .ref (B.2.1 r) ∧ va_T .int (B.2.1 r) (roT X r).2 (fun j => .int (roI X r j)) (pA B) s s.heap := by
  obtain ⟨a1, a2, a3⟩ := hk.2.2.1
  unfold roT at h ⊢
  split at h <;> first | (cases h; done) | exact ⟨rfl, a1⟩ | exact ⟨rfl, a2⟩ | exact ⟨rfl, a3⟩
theorem T_bytes (hk : KF E B X s s.heap) {r : Nat} (h : (roT X r).1 = 24) : emv B (.ref r) = .ref (B.2.1 r) ∧ va_T .byte (B.2.1 r) (roT X r).2 (fun j => .int (roI X r j)) (pA B) s s.heap := by
  have h3 := hk.2.2.2.2.1.1
  unfold roT at h ⊢
  split at h <;> first | (cases h; done) | exact ⟨rfl, (h3 0 (by decide)).2.2.2⟩ | exact ⟨rfl, (h3 1 (by decide)).2.2.2⟩ | exact ⟨rfl, (h3 2 (by decide)).2.2.2⟩ | exact ⟨rfl, (h3 3 (by decide)).2.2.2⟩ | exact ⟨rfl, (h3 4 (by decide)).2.2.2⟩ | exact ⟨rfl, (h3 5 (by decide)).2.2.2⟩
theorem upd2_row (r k : Nat) (v : Int32) : upd2 I r k v r = upd (I r) k v := by funext j; simp [upd2, upd]
theorem upd2_ne {r a k : Nat} {v : Int32} (h : a ≠ r) : upd2 I r k v a = I a := by funext j; simp [upd2, h]
set_option maxHeartbeats 8000000 in
theorem snd_H (hx : p.tables.exec = Jvm.exec) (hb : c.code = cc) (hown : s.vm.findClass (cn own) = some m.cls) (hts : ∀ w ∈ WT, w.before args s = true) (hk : KF E B X s s.heap) (hS : va_S (pA B) s.heap H locs) (hP : va_P E.1 pcl (wsO E B G I) H) (hw : WF G)
    (h : opH X own i st G I = some (len, st', G', I')) (hd : decode cc pc = .ok (i, len))
    (kk : ∀ (H1 : Heap) (locs1 : List Loc), va_P E.1 pcl (wsO E B G' I') H1 → va_S (pA B) s.heap H1 locs1 → G' = G → W p l e R s m args below meth c H1 locs1 cells slots Q (F0 m (pc + len) L (st'.map (emv B)))) : W p l e R s m args below meth c H locs cells slots Q (F0 m pc L (st.map (emv B))) := by
  have hK := hk.1
  cases i with
  | getfield idx =>
    simp only [opH] at h
    split at h
    · next ci k hf =>
      split at h
      · next r s1 =>
        split at h
        · next hc =>
          cases h
          obtain ⟨h8, hlink, hnm⟩ := ftab_ok hf
          obtain ⟨en, he, he1⟩ := tagW_some hc.1 (by omega)
          obtain ⟨q1, q2, q3, q4, q5, q6, q7⟩ := cls_ok h8
          have hat := ws_at (E := E) (B := B) (I := I) he
          rw [ent_obj (by omega), he1] at hat
          rw [List.map_cons, emv_w (WF_lt hw he)]
          refine va_get hx hb hts q1 hown hK hP r hat (pcl_at h8) k hc.2 (by rw [hnm] at hlink; exact hts _ hlink) (fun x hxx => by rw [hnm] at hxx; exact hxx) (v := emv B (fval G I r ci k)) ?_ hd (kk H locs hP hS rfl)
          rw [← he1, fldV_map (by rw [he1]; exact hc.2)]
          congr 1
          simp only [fldV, fval, he1, refW_at he]
          split <;> rfl
        · cases h
      · cases h
    · split at h
      · next r s1 =>
        split at h
        · next hc =>
          cases h
          obtain ⟨rfl, rfl, h1, h2⟩ := hc
          rw [List.map_cons, emv_s h1]
          have kk' := kk H locs hP hS rfl
          rw [List.map_cons, emv_s (Nat.le_trans h1 (Nat.le_add_right _ _))] at kk'
          exact vk_getf hx hb (vk_at hk h1 h2).2 hS hown (hts _ (wt_of st_w9 rfl)) (fun x hxx => by rw [cn11]; exact hxx) hd kk'
        · split at h
          · next hc =>
            cases h
            obtain ⟨rfl, rfl, h1, h2⟩ := hc
            rw [List.map_cons, emv_s h1]
            exact vk_getf hx hb (vk_at hk h1 h2).1 hS hown (hts _ (wt_of st_w15 rfl)) (fun x hxx => by rw [cn11]; exact hxx) hd (kk H locs hP hS rfl)
          · cases h
      · cases h
  | putfield idx =>
    simp only [opH] at h
    split at h
    · next ci k hf =>
      split at h
      · next v r s1 =>
        split at h
        · next hc =>
          obtain ⟨h8, hlink, hnm⟩ := ftab_ok hf
          obtain ⟨en, he, he1⟩ := tagW_some hc.1 (by omega)
          obtain ⟨q1, q2, q3, q4, q5, q6, q7⟩ := cls_ok h8
          have hat := ws_at (E := E) (B := B) (I := I) he
          rw [ent_obj (by omega), he1] at hat
          split at h
          · next x =>
            have key : ∀ ty, pty1 ci k = ty → fkind ci k ≠ 2 → narrow ty (.int x) = .int x → fits ty (.int x) = true → (∀ (H1 : Heap) (locs1 : List Loc), va_P E.1 pcl (wsO E B G (upd2 I r k x)) H1 → va_S (pA B) s.heap H1 locs1 → W p l e R s m args below meth c H1 locs1 cells slots Q (F0 m (pc + 3) L (s1.map (emv B)))) → decode cc pc = .ok (.putfield idx, 3) → W p l e R s m args below meth c H locs cells slots Q (F0 m pc L ((.int x :: .ref r :: s1).map (emv B))) := by
              intro ty hty hf2 hn hfit k3 hd3
              rw [List.map_cons, List.map_cons, emv_w (WF_lt hw he)]
              refine va_put hx hb hts q1 (pty1 ci) q3 q7 hown hK hP ws_D hS r hat (pcl_at h8) k hc.2.1 (by rw [hnm] at hlink; exact hts _ hlink) (fun y hy => by rw [hnm] at hy; exact hy) (by rw [q2 k hc.2.1]; exact hc.2.2) (ty := ty) (v := .int x) (by rw [← hty]; exact q3 k hc.2.1) hn hfit (by simpa using hc.2.1) hd3 (fun H1 locs1 g1 _ g3 => k3 H1 locs1 ?_ g3)
              rw [ws_set (G' := G) (I' := upd2 I r k x) rfl ?_ (fun j hj => ⟨rfl, upd2_ne hj⟩)] at g1
              · exact g1
              · rw [gd_at he, ent_obj (by omega), ← he1]
                refine congrArg (fun z => Sum.inr (en.1, z)) ?_
                refine fldV_set (e' := en) rfl (fun hkf => ?_) (fun j hj => ?_)
                · simp only [fldV, he1, hf2, if_false, upd2, and_self, if_true]
                · simp only [fldV, he1]
                  split
                  · rfl
                  · simp [upd2, hj]
            split at h
            · next hk0 =>
              cases h
              rcases q4 k hc.2.1 with ⟨z1, z2⟩ | ⟨z1, z2⟩ | ⟨z1, z2⟩
              · exact key .int z2 (by omega) rfl rfl (fun H1 locs1 a1 a2 => kk H1 locs1 a1 a2 rfl) hd
              · omega
              · omega
            · split at h
              · next hk1 =>
                cases h
                rcases q4 k hc.2.1 with ⟨z1, z2⟩ | ⟨z1, z2⟩ | ⟨z1, z2⟩
                · omega
                · refine key .boolean z2 (by omega) ?_ ?_ (fun H1 locs1 a1 a2 => kk H1 locs1 a1 a2 rfl) hd
                  · rcases hk1.2 with rfl | rfl <;> rfl
                  · rcases hk1.2 with rfl | rfl <;> rfl
                · omega
              · cases h
          · cases h
        · cases h
      · cases h
    · cases h
  | getstatic idx =>
    simp only [opH] at h
    split at h
    · next v hv =>
      cases h
      obtain ⟨b1, b2, b3, b4⟩ := hk.2.2.2.1
      have hst := fun q hq => List.all_eq_true.mp st_w q hq
      have kk' := kk H locs hP hS rfl
      unfold stab at hv
      split at hv
      · cases hv
        have hq := hst (0, 37, 413, "LiftSweeps$Car", "KIND_ABOVE", "[I") (by decide)
        rw [decide_eq_true_eq] at hq
        exact va_gets hx hb b1 hS hown (hts _ (wt_of hq rfl)) (fun x hxx => hxx) hd kk'
      · cases hv
        have hq := hst (5, 48, 796, "LiftSweeps$Tape", "NUMBERS_OF", "[I") (by decide)
        rw [decide_eq_true_eq] at hq
        exact va_gets hx hb b2 hS hown (hts _ (wt_of hq rfl)) (fun x hxx => hxx) hd kk'
      · cases hv
        have hq := hst (11, 38, 756, "java/lang/String", "COMPACT_STRINGS", "Z") (by decide)
        rw [decide_eq_true_eq] at hq
        exact va_gets hx hb b3 hS hown (hts _ (wt_of hq rfl)) (fun x hxx => hxx) hd kk'
      · cases hv
        have hq := hst (11, 1053, 772, "jdk/internal/util/Preconditions", "SIOOBE_FORMATTER", "Ljava/util/function/BiFunction;") (by decide)
        rw [decide_eq_true_eq] at hq
        exact va_gets hx hb b4 hS hown (hts _ (wt_of hq rfl)) (fun x hxx => hxx) hd kk'
      · cases hv
    · cases h
  | iaload =>
    simp only [opH] at h
    split at h
    · next j r s1 =>
      split at h
      · next ht =>
        split at h
        · next hi =>
          cases h
          obtain ⟨en, he, he1⟩ := tagW_some ht (by decide)
          have hat := ws_at (E := E) (B := B) (I := I) he
          rw [ent, if_pos he1] at hat
          rw [lenW_at he] at hi
          rw [List.map_cons, List.map_cons, emv_w (WF_lt hw he)]
          exact va_iald hx hb hK hP r 0 hat rfl (inb_in hi) hd (kk H locs hP hS rfl)
        · cases h
      · split at h
        · next ht2 =>
          split at h
          · next hi =>
            cases h
            obtain ⟨e1, cell, g1, g2, g3, g4, g5, g6, g7⟩ := T_ints hk ht2
            have hin := inb_in hi
            have hlt : j.toNatClampNeg < (roT X r).2 := Nat.not_le.mp fun q => hin (Or.inr q)
            rw [List.map_cons, List.map_cons, e1]
            refine W.iald (cell := cell) (v := .int (roI X r j.toNatClampNeg)) hx hb (by rw [hS.2.1 _ (Array.getElem?_eq_some_iff.mp g1).1 g7]; exact g1) g2 g3 ?_ (g6 _ hlt) rfl rfl hd (kk H locs hP hS rfl)
            rintro (q | q)
            · exact hin (Or.inl q)
            · omega
          · cases h
        · cases h
    · cases h
  | caload =>
    simp only [opH] at h
    split at h
    · next j r s1 =>
      split at h
      · next hc =>
        cases h
        obtain ⟨en, he, he1⟩ := tagW_some hc.1 (by decide)
        have hat := ws_at (E := E) (B := B) (I := I) he
        rw [ent, if_neg (by omega), if_pos he1] at hat
        have hi := hc.2
        rw [lenW_at he] at hi
        rw [List.map_cons, List.map_cons, emv_w (WF_lt hw he)]
        exact va_cald hx hb hK hP r 1 hat rfl (inb_in hi) hd (kk H locs hP hS rfl)
      · cases h
    · cases h
  | baload =>
    simp only [opH] at h
    split at h
    · next j r s1 =>
      split at h
      · next hc =>
        cases h
        obtain ⟨e1, cell, g1, g2, g3, g4, g5, g6, g7⟩ := T_bytes hk hc.1
        have hin := inb_in hc.2
        have hlt : j.toNatClampNeg < (roT X r).2 := Nat.not_le.mp fun q => hin (Or.inr q)
        rw [List.map_cons, List.map_cons, e1]
        refine W.bald (cell := cell) (v := .int (roI X r j.toNatClampNeg)) hx hb (by rw [hS.2.1 _ (Array.getElem?_eq_some_iff.mp g1).1 g7]; exact g1) g2 g3 ?_ (g6 _ hlt) rfl rfl hd (kk H locs hP hS rfl)
        rintro (q | q)
        · exact hin (Or.inl q)
        · omega
      · cases h
    · cases h
  | iastore =>
    simp only [opH] at h
    split at h
    · next x j r s1 =>
      split at h
      · next hc =>
        cases h
        obtain ⟨en, he, he1⟩ := tagW_some hc.1 (by decide)
        have hat := ws_at (E := E) (B := B) (I := I) he
        rw [ent, if_pos he1] at hat
        have hi := hc.2
        rw [lenW_at he] at hi
        rw [List.map_cons, List.map_cons, List.map_cons, emv_w (WF_lt hw he)]
        refine va_iast hx hb hK hP ws_D hS r 0 hat rfl (inb_in hi) hd (fun H1 locs1 g1 _ g3 => kk H1 locs1 ?_ g3 rfl)
        rw [ws_set (G' := G) (I' := upd2 I r j.toNatClampNeg x) rfl ?_ (fun k hk => ⟨rfl, upd2_ne hk⟩)] at g1
        · exact g1
        · rw [gd_at he, ent, if_pos he1, upd2_row]
      · cases h
    · cases h
  | castore =>
    simp only [opH] at h
    split at h
    · next x j r s1 =>
      split at h
      · next hc =>
        cases h
        obtain ⟨en, he, he1⟩ := tagW_some hc.1 (by decide)
        have hat := ws_at (E := E) (B := B) (I := I) he
        rw [ent, if_neg (by omega), if_pos he1] at hat
        have hi := hc.2
        rw [lenW_at he] at hi
        rw [List.map_cons, List.map_cons, List.map_cons, emv_w (WF_lt hw he)]
        refine va_cast hx hb hK hP ws_D hS r 1 hat rfl (inb_in hi) hd (fun H1 locs1 g1 _ g3 => kk H1 locs1 ?_ g3 rfl)
        rw [ws_set (G' := G) (I' := upd2 I r j.toNatClampNeg (vp_nar .char x)) rfl ?_ (fun k hk => ⟨rfl, upd2_ne hk⟩)] at g1
        · exact g1
        · rw [gd_at he, ent, if_neg (by omega), if_pos he1, upd2_row]
      · cases h
    · cases h
  | aaload =>
    simp only [opH] at h
    split at h
    · next j r s1 =>
      split at h
      · next hc =>
        cases h
        have hi := hc.2
        rcases hc.1 with ht | ht
        · obtain ⟨en, he, he1⟩ := tagW_some ht (by decide)
          have hat := ws_at (E := E) (B := B) (I := I) he
          rw [ent, if_neg (by omega), if_neg (by omega), if_pos he1] at hat
          rw [lenW_at he] at hi
          have kk' := kk H locs hP hS rfl
          rw [List.map_cons, refW_at he, ← rfo_emv (WF_getD hw he _)] at kk'
          rw [List.map_cons, List.map_cons, emv_w (WF_lt hw he)]
          exact va_aldq hx hb hK hP r 2 hat rfl (inb_in hi) hd kk'
        · obtain ⟨en, he, he1⟩ := tagW_some ht (by decide)
          have hat := ws_at (E := E) (B := B) (I := I) he
          rw [ent, if_neg (by omega), if_neg (by omega), if_neg (by omega), if_pos he1] at hat
          rw [lenW_at he] at hi
          have kk' := kk H locs hP hS rfl
          rw [List.map_cons, refW_at he, ← rfo_emv (WF_getD hw he _)] at kk'
          rw [List.map_cons, List.map_cons, emv_w (WF_lt hw he)]
          exact va_aldq hx hb hK hP r 3 hat rfl (inb_in hi) hd kk'
      · cases h
    · cases h
  | arraylength =>
    simp only [opH] at h
    split at h
    · next r s1 =>
      split at h
      · next hc =>
        cases h
        rcases hc with ht | ht
        · obtain ⟨e1, cell, g1, g2, g3, g4, g5, g6, g7⟩ := T_ints hk ht
          rw [List.map_cons, e1]
          exact W.alen hx hb (by rw [hS.2.1 _ (Array.getElem?_eq_some_iff.mp g1).1 g7]; exact g1) g2 g5 rfl rfl hd (kk H locs hP hS rfl)
        · obtain ⟨e1, cell, g1, g2, g3, g4, g5, g6, g7⟩ := T_bytes hk ht
          rw [List.map_cons, e1]
          exact W.alen hx hb (by rw [hS.2.1 _ (Array.getElem?_eq_some_iff.mp g1).1 g7]; exact g1) g2 g5 rfl rfl hd (kk H locs hP hS rfl)
      · cases h
    · cases h
  | _ => cases h
end SH
