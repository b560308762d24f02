/-! the rows of the instructions, each for any method -/
def G0 : pG := [
  (6, 6, [.ref 45, .ref 1, .ref 67, .ref 89, .ref 93, .null]),
  (2, 11, [.null, .null, .null, .null, .null, .null, .ref 24, .ref 29, .ref 39, .ref 40, .ref 2]),
  (2, 11, [.null, .null, .null, .null, .null, .null, .ref 3, .ref 8, .ref 18, .ref 19, .null]),
  (22, 4, [.ref 4, .ref 5, .ref 6, .ref 7]),
  (0, 8, [.null, .null, .null, .null, .null, .null, .null, .null]),
  (0, 8, [.null, .null, .null, .null, .null, .null, .null, .null]),
  (0, 8, [.null, .null, .null, .null, .null, .null, .null, .null]),
  (0, 8, [.null, .null, .null, .null, .null, .null, .null, .null]),
  (1, 11, [.ref 9, .ref 10, .ref 11, .ref 12, .ref 13, .ref 14, .ref 15, .ref 16, .ref 17, .null, .null]),
  (20, 40, []),
  (20, 40, []),
  (20, 40, []),
  (20, 40, []),
  (20, 40, []),
  (20, 40, []),
  (20, 40, []),
  (20, 40, []),
  (20, 12, []),
  (20, 12, []),
  (3, 6, [.ref 20, .ref 21, .ref 22, .ref 23, .null, .null]),
  (20, 20, []),
  (20, 20, []),
  (20, 20, []),
  (20, 20, []),
  (22, 4, [.ref 25, .ref 26, .ref 27, .ref 28]),
  (0, 8, [.null, .null, .null, .null, .null, .null, .null, .null]),
  (0, 8, [.null, .null, .null, .null, .null, .null, .null, .null]),
  (0, 8, [.null, .null, .null, .null, .null, .null, .null, .null]),
  (0, 8, [.null, .null, .null, .null, .null, .null, .null, .null]),
  (1, 11, [.ref 30, .ref 31, .ref 32, .ref 33, .ref 34, .ref 35, .ref 36, .ref 37, .ref 38, .null, .null]),
  (20, 40, []),
  (20, 40, []),
  (20, 40, []),
  (20, 40, []),
  (20, 40, []),
  (20, 40, []),
  (20, 40, []),
  (20, 40, []),
  (20, 12, []),
  (20, 12, []),
  (3, 6, [.ref 41, .ref 42, .ref 43, .ref 44, .null, .null]),
  (20, 20, []),
  (20, 20, []),
  (20, 20, []),
  (20, 20, []),
  (2, 11, [.null, .null, .null, .null, .null, .null, .ref 46, .ref 51, .ref 61, .ref 62, .ref 1]),
  (22, 4, [.ref 47, .ref 48, .ref 49, .ref 50]),
  (0, 8, [.null, .null, .null, .null, .null, .null, .null, .null]),
  (0, 8, [.null, .null, .null, .null, .null, .null, .null, .null]),
  (0, 8, [.null, .null, .null, .null, .null, .null, .null, .null]),
  (0, 8, [.null, .null, .null, .null, .null, .null, .null, .null]),
  (1, 11, [.ref 52, .ref 53, .ref 54, .ref 55, .ref 56, .ref 57, .ref 58, .ref 59, .ref 60, .null, .null]),
  (20, 40, []),
  (20, 40, []),
  (20, 40, []),
  (20, 40, []),
  (20, 40, []),
  (20, 40, []),
  (20, 40, []),
  (20, 40, []),
  (20, 12, []),
  (20, 12, []),
  (3, 6, [.ref 63, .ref 64, .ref 65, .ref 66, .null, .null]),
  (20, 20, []),
  (20, 20, []),
  (20, 20, []),
  (20, 20, []),
  (2, 11, [.null, .null, .null, .null, .null, .null, .ref 68, .ref 73, .ref 83, .ref 84, .null]),
  (22, 4, [.ref 69, .ref 70, .ref 71, .ref 72]),
  (0, 8, [.null, .null, .null, .null, .null, .null, .null, .null]),
  (0, 8, [.null, .null, .null, .null, .null, .null, .null, .null]),
  (0, 8, [.null, .null, .null, .null, .null, .null, .null, .null]),
  (0, 8, [.null, .null, .null, .null, .null, .null, .null, .null]),
  (1, 11, [.ref 74, .ref 75, .ref 76, .ref 77, .ref 78, .ref 79, .ref 80, .ref 81, .ref 82, .null, .null]),
  (20, 40, []),
  (20, 40, []),
  (20, 40, []),
  (20, 40, []),
  (20, 40, []),
  (20, 40, []),
  (20, 40, []),
  (20, 40, []),
  (20, 12, []),
  (20, 12, []),
  (3, 6, [.ref 85, .ref 86, .ref 87, .ref 88, .null, .null]),
  (20, 20, []),
  (20, 20, []),
  (20, 20, []),
  (20, 20, []),
  (5, 8, [.null, .null, .ref 90, .ref 91, .ref 92, .null, .null, .null]),
  (20, 60, []),
  (20, 60, []),
  (20, 180, []),
  (23, 4, [.ref 94, .ref 96, .ref 98, .ref 100]),
  (4, 3, [.null, .null, .ref 95]),
  (20, 40, []),
  (4, 3, [.null, .null, .ref 97]),
  (20, 40, []),
  (4, 3, [.null, .null, .ref 99]),
  (20, 40, []),
  (4, 3, [.null, .null, .ref 101]),
  (20, 40, []),
  (7, 17, [.ref 103, .ref 104, .null, .ref 105, .null, .ref 106, .null, .ref 107, .ref 108, .null, .null, .null, .ref 109, .null, .ref 110, .ref 111, .ref 112]),
  (20, 452, []),
  (20, 452, []),
  (20, 1808, []),
  (20, 60, []),
  (21, 36, []),
  (20, 6, []),
  (20, 120, []),
  (20, 4, []),
  (20, 4, []),
  (20, 160, [])]
def ushr (x y : Int32) : Int32 := (x.toUInt32 >>> (y.toUInt32 &&& Int32.toUInt32 31)).toInt32
def shl (x y : Int32) : Int32 := x <<< (y &&& 31)
def shr (x y : Int32) : Int32 := x >>> (y &&& 31)
def irm (x y : Int32) : Int32 := x - x / y * y
section OPS
variable {X : pX} {d z pc : Nat} {ls : pL} {st : List Value} {G : pG} {I : pI} {Q : Option Value → pG → pI → Prop}
variable {cc : ByteArray} {ml own na len : Nat} {ret : Option FieldType} {nm : MethodName}
theorem At_iconst {n : Int} {v : Int32} (hm : pmth z = (cc, ml, ret, own, na, nm)) (hd : decode cc pc = .ok (.iconst n, 1)) (hv : Int32.ofInt n = v) : At X d z pc ls st G I Q ↔ At X d z (pc + 1) ls (.int v :: st) G I Q :=
  At_A hm hd rfl (by rw [← hv]; rfl)
theorem At_bipush {n : Int} {v : Int32} (hm : pmth z = (cc, ml, ret, own, na, nm)) (hd : decode cc pc = .ok (.bipush n, 2)) (hv : (Int8.ofInt n).toInt32 = v) : At X d z pc ls st G I Q ↔ At X d z (pc + 2) ls (.int v :: st) G I Q :=
  At_A hm hd rfl (by rw [← hv]; rfl)
theorem At_sipush {n : Int} {v : Int32} (hm : pmth z = (cc, ml, ret, own, na, nm)) (hd : decode cc pc = .ok (.sipush n, 3)) (hv : (Int16.ofInt n).toInt32 = v) : At X d z pc ls st G I Q ↔ At X d z (pc + 3) ls (.int v :: st) G I Q :=
  At_A hm hd rfl (by rw [← hv]; rfl)
theorem At_lconst {n : Fin 2} {v : Int64} (hm : pmth z = (cc, ml, ret, own, na, nm)) (hd : decode cc pc = .ok (.lconst n, 1)) (hv : Int64.ofNat (n : Nat) = v) : At X d z pc ls st G I Q ↔ At X d z (pc + 1) ls (.long v :: st) G I Q :=
  At_A hm hd rfl (by rw [← hv]; rfl)
theorem stL_of {i : Nat} {v : Value} (hb : okB ls i = true) (hi : i < ls.length) : stL ls i v = some (ls.set i (some v)) := by simp [stL, hb, hi]
theorem At_istore {i : Nat} {x : Int32} (hm : pmth z = (cc, ml, ret, own, na, nm)) (hd : decode cc pc = .ok (.istore i, 2)) (hb : okB ls i = true) (hi : i < ls.length) : At X d z pc ls (.int x :: st) G I Q ↔ At X d z (pc + 2) (ls.set i (some (.int x))) st G I Q :=
  At_A hm hd rfl (by simp [opA, stL_of hb hi])
theorem At_istore_n {i : Fin 4} {x : Int32} (hm : pmth z = (cc, ml, ret, own, na, nm)) (hd : decode cc pc = .ok (.istore_n i, 1)) (hb : okB ls i = true) (hi : (i : Nat) < ls.length) : At X d z pc ls (.int x :: st) G I Q ↔ At X d z (pc + 1) (ls.set i (some (.int x))) st G I Q :=
  At_A hm hd rfl (by simp [opA, stL_of hb hi])
theorem At_astore {i : Nat} {r : Nat} (hm : pmth z = (cc, ml, ret, own, na, nm)) (hd : decode cc pc = .ok (.astore i, 2)) (hb : okB ls i = true) (hi : i < ls.length) : At X d z pc ls (.ref r :: st) G I Q ↔ At X d z (pc + 2) (ls.set i (some (.ref r))) st G I Q :=
  At_A hm hd rfl (by simp [opA, stL_of hb hi])
theorem At_astore_n {i : Fin 4} {r : Nat} (hm : pmth z = (cc, ml, ret, own, na, nm)) (hd : decode cc pc = .ok (.astore_n i, 1)) (hb : okB ls i = true) (hi : (i : Nat) < ls.length) : At X d z pc ls (.ref r :: st) G I Q ↔ At X d z (pc + 1) (ls.set i (some (.ref r))) st G I Q :=
  At_A hm hd rfl (by simp [opA, stL_of hb hi])
theorem At_iinc {i : Nat} {n : Int} {x v : Int32} (hm : pmth z = (cc, ml, ret, own, na, nm)) (hd : decode cc pc = .ok (.iinc i n, 3)) (hl : ldI ls i = some x) (hb : okB ls i = true) (hi : i < ls.length) (hv : Int32.ofInt n = v) : At X d z pc ls st G I Q ↔ At X d z (pc + 3) (ls.set i (some (.int (x + v)))) st G I Q :=
  At_A hm hd rfl (by rw [← hv]; simp [opA, hl, stL_of hb hi])
theorem At_dup {v : Value} (hm : pmth z = (cc, ml, ret, own, na, nm)) (hd : decode cc pc = .ok (.dup, 1)) (h : v.category = 1) : At X d z pc ls (v :: st) G I Q ↔ At X d z (pc + 1) ls (v :: v :: st) G I Q :=
  At_A hm hd rfl (by simp [opA, h])
theorem At_pop {v : Value} (hm : pmth z = (cc, ml, ret, own, na, nm)) (hd : decode cc pc = .ok (.pop, 1)) (h : v.category = 1) : At X d z pc ls (v :: st) G I Q ↔ At X d z (pc + 1) ls st G I Q :=
  At_A hm hd rfl (by simp [opA, h])
theorem At_dup2 {v w : Value} (hm : pmth z = (cc, ml, ret, own, na, nm)) (hd : decode cc pc = .ok (.dup2, 1)) (h : v.category = 1) (h2 : w.category = 1) : At X d z pc ls (v :: w :: st) G I Q ↔ At X d z (pc + 1) ls (v :: w :: v :: w :: st) G I Q :=
  At_A hm hd rfl (by simp [opA, h, h2])
theorem At_idiv {x y : Int32} (hm : pmth z = (cc, ml, ret, own, na, nm)) (hd : decode cc pc = .ok (.idiv, 1)) (h : y ≠ 0) : At X d z pc ls (.int y :: .int x :: st) G I Q ↔ At X d z (pc + 1) ls (.int (x / y) :: st) G I Q :=
  At_A hm hd rfl (by simp [opA, h])
theorem At_irem {x y : Int32} (hm : pmth z = (cc, ml, ret, own, na, nm)) (hd : decode cc pc = .ok (.irem, 1)) (h : y ≠ 0) : At X d z pc ls (.int y :: .int x :: st) G I Q ↔ At X d z (pc + 1) ls (.int (irm x y) :: st) G I Q :=
  At_A hm hd rfl (by simp [opA, h, irm])
def swP (P : Int → Prop) (x : Int32) (dd : Int) : Int → List Int → Prop
  | _, [] => P dd
  | lo, o :: r => if x = Int32.ofInt lo then P o else swP P x dd (lo + 1) r
def swQ (P : Int → Prop) (x : Int32) (dd : Int) : List (Int × Int) → Prop
  | [] => P dd
  | q :: r => if x = Int32.ofInt q.1 then P q.2 else swQ P x dd r
theorem sw_eq {x : Int32} {k : Int} (h : (Int32.ofInt k).toInt = k) : x.toInt = k ↔ x = Int32.ofInt k := by
  constructor
  · intro e
    rw [← e, Int32.ofInt_toInt]
  · intro e
    rw [e, h]
def swOk : Int → List Int → Bool
  | _, [] => true
  | lo, _ :: r => decide ((Int32.ofInt lo).toInt = lo) && swOk (lo + 1) r
theorem swF_P (P : Int → Prop) (x : Int32) (dd : Int) : ∀ (offs : List Int) (lo : Int), swOk lo offs = true → (P (swF x.toInt dd lo offs) ↔ swP P x dd lo offs)
  | [], lo, _ => Iff.rfl
  | o :: r, lo, h => by
    simp only [swOk, Bool.and_eq_true, decide_eq_true_eq] at h
    simp only [swF, swP, sw_eq h.1]
    by_cases hx : x = Int32.ofInt lo
    · simp only [hx, if_true]
    · simp only [hx, if_false]
      exact swF_P P x dd r (lo + 1) h.2
theorem swG_Q (P : Int → Prop) (x : Int32) (dd : Int) : ∀ (ps : List (Int × Int)), ps.all (fun q => decide ((Int32.ofInt q.1).toInt = q.1)) = true → (P (swG x.toInt dd ps) ↔ swQ P x dd ps)
  | [], _ => Iff.rfl
  | q :: r, h => by
    simp only [List.all_cons, Bool.and_eq_true, decide_eq_true_eq] at h
    simp only [swG, swQ, sw_eq h.1]
    by_cases hx : x = Int32.ofInt q.1
    · simp only [hx, if_true]
    · simp only [hx, if_false]
      exact swG_Q P x dd r h.2
theorem swF_mem (x dd : Int) : ∀ (offs : List Int) (lo : Int), swF x dd lo offs ∈ dd :: offs
  | [], lo => List.mem_cons_self
  | o :: r, lo => by
    simp only [swF]
    split
    · exact List.mem_cons_of_mem _ List.mem_cons_self
    · rcases List.mem_cons.mp (swF_mem x dd r (lo + 1)) with h | h
      · rw [h]; exact List.mem_cons_self
      · exact List.mem_cons_of_mem _ (List.mem_cons_of_mem _ h)
theorem swG_mem (x dd : Int) : ∀ (ps : List (Int × Int)), swG x dd ps ∈ dd :: ps.map Prod.snd
  | [] => List.mem_cons_self
  | q :: r => by
    simp only [swG]
    split
    · exact List.mem_cons_of_mem _ List.mem_cons_self
    · rcases List.mem_cons.mp (swG_mem x dd r) with h | h
      · rw [h]; exact List.mem_cons_self
      · exact List.mem_cons_of_mem _ (List.mem_cons_of_mem _ h)
theorem tgt_all {pc : Nat} {o : Int} {l : List Int} (h : l.all (fun o => decide (0 ≤ (pc : Int) + o)) = true) (ho : o ∈ l) : tgt pc o = some ((pc : Int) + o).toNat := by
  have := List.all_eq_true.mp h o ho
  rw [decide_eq_true_eq] at this
  simp [tgt, this]
theorem At_tsw {dd lo hi : Int} {offs : Array Int} {x : Int32} {R : Prop} (hm : pmth z = (cc, ml, ret, own, na, nm)) (hd : decode cc pc = .ok (.tableswitch dd lo hi offs, len))
    (hc : ((offs.size : Int) = hi - lo + 1 ∧ swOk lo offs.toList = true ∧ (dd :: offs.toList).all (fun o => decide (0 ≤ (pc : Int) + o)) = true)) (hR : swP (fun o => At X d z ((pc : Int) + o).toNat ls st G I Q) x dd lo offs.toList ↔ R) : At X d z pc ls (.int x :: st) G I Q ↔ R := by
  rw [← hR, ← swF_P _ _ _ _ _ hc.2.1]
  exact At_B hm hd rfl rfl (by simp only [opB, hc.1, if_true, tgt_all hc.2.2 (swF_mem _ _ _ _)])
theorem At_lsw {dd : Int} {ps : Array (Int × Int)} {x : Int32} {R : Prop} (hm : pmth z = (cc, ml, ret, own, na, nm)) (hd : decode cc pc = .ok (.lookupswitch dd ps, len))
    (hc : ((ps.toList.zip (ps.toList.drop 1)).all (fun (a, next) => a.1 < next.1) = true ∧ ps.toList.all (fun q => decide ((Int32.ofInt q.1).toInt = q.1)) = true ∧ (dd :: ps.toList.map Prod.snd).all (fun o => decide (0 ≤ (pc : Int) + o)) = true)) (hR : swQ (fun o => At X d z ((pc : Int) + o).toNat ls st G I Q) x dd ps.toList ↔ R) : At X d z pc ls (.int x :: st) G I Q ↔ R := by
  rw [← hR, ← swG_Q _ _ _ _ hc.2.1]
  exact At_B hm hd rfl rfl (by simp only [opB, hc.1, if_true, tgt_all hc.2.2 (swG_mem _ _ _)])
theorem At_str9 {r : Nat} (hm : pmth z = (cc, ml, ret, 11, na, nm)) (hd : decode cc pc = .ok (.getfield 9, 3)) (h : 1004 ≤ r) (h2 : r < 1010) : At X d z pc ls (.ref r :: st) G I Q ↔ At X d z (pc + 3) ls (.ref (r + 6) :: st) G I Q :=
  At_H hm hd rfl rfl rfl (by simp only [opH, show ftab 11 9 = none from rfl]; simp [h, h2])
theorem At_str15 {r : Nat} (hm : pmth z = (cc, ml, ret, 11, na, nm)) (hd : decode cc pc = .ok (.getfield 15, 3)) (h : 1004 ≤ r) (h2 : r < 1010) : At X d z pc ls (.ref r :: st) G I Q ↔ At X d z (pc + 3) ls (.int 0 :: st) G I Q :=
  At_H hm hd rfl rfl rfl (by simp only [opH, show ftab 11 15 = none from rfl]; simp [h, h2])
theorem At_get {idx r c k : Nat} {v : Value} (hm : pmth z = (cc, ml, ret, own, na, nm)) (hd : decode cc pc = .ok (.getfield idx, 3)) (hf : ftab own idx = some (c, k)) (h : tagW G r = c) (hv : fval G I r c k = v) (hk : k < fcount c) : At X d z pc ls (.ref r :: st) G I Q ↔ At X d z (pc + 3) ls (v :: st) G I Q :=
  At_H hm hd rfl rfl rfl (by simp only [opH, hf]; simp [h, hk, hv])
theorem At_put {idx r c k : Nat} {x : Int32} (hm : pmth z = (cc, ml, ret, own, na, nm)) (hd : decode cc pc = .ok (.putfield idx, 3)) (hf : ftab own idx = some (c, k)) (h : tagW G r = c) (hfin : ffin c k = false) (hk0 : fkind c k = 0) (hk : k < fcount c) : At X d z pc ls (.int x :: .ref r :: st) G I Q ↔ At X d z (pc + 3) ls st G (upd2 I r k x) Q :=
  At_H hm hd rfl rfl rfl (by simp only [opH, hf]; simp [h, hk, hfin, hk0])
theorem At_putZ {idx r c k : Nat} {x : Int32} (hm : pmth z = (cc, ml, ret, own, na, nm)) (hd : decode cc pc = .ok (.putfield idx, 3)) (hf : ftab own idx = some (c, k)) (h : tagW G r = c) (hfin : ffin c k = false) (hk0 : fkind c k = 1) (hk : k < fcount c) (hx : x = 0 ∨ x = 1) : At X d z pc ls (.int x :: .ref r :: st) G I Q ↔ At X d z (pc + 3) ls st G (upd2 I r k x) Q :=
  At_H hm hd rfl rfl rfl (by simp only [opH, hf]; simp [h, hk, hfin, hk0, hx])
theorem At_iald {r : Nat} {x : Int32} (hm : pmth z = (cc, ml, ret, own, na, nm)) (hd : decode cc pc = .ok (.iaload, 1)) (h : tagW G r = 20) (h2 : inb x (lenW G r) = true) : At X d z pc ls (.int x :: .ref r :: st) G I Q ↔ At X d z (pc + 1) ls (.int (I r x.toNatClampNeg) :: st) G I Q :=
  At_H hm hd rfl rfl rfl (by simp [opH, h, h2])
theorem At_roald {r : Nat} {x : Int32} (hm : pmth z = (cc, ml, ret, own, na, nm)) (hd : decode cc pc = .ok (.iaload, 1)) (h : tagW G r = 99) (h2 : (roT X r).1 = 20) (h3 : inb x (roT X r).2 = true) : At X d z pc ls (.int x :: .ref r :: st) G I Q ↔ At X d z (pc + 1) ls (.int (roI X r x.toNatClampNeg) :: st) G I Q :=
  At_H hm hd rfl rfl rfl (by simp [opH, h, h2, h3])
theorem At_cald {r : Nat} {x : Int32} (hm : pmth z = (cc, ml, ret, own, na, nm)) (hd : decode cc pc = .ok (.caload, 1)) (h : tagW G r = 21) (h2 : inb x (lenW G r) = true) : At X d z pc ls (.int x :: .ref r :: st) G I Q ↔ At X d z (pc + 1) ls (.int (I r x.toNatClampNeg) :: st) G I Q :=
  At_H hm hd rfl rfl rfl (by simp [opH, h, h2])
theorem At_bald {r : Nat} {x : Int32} (hm : pmth z = (cc, ml, ret, own, na, nm)) (hd : decode cc pc = .ok (.baload, 1)) (h : (roT X r).1 = 24) (h2 : inb x (roT X r).2 = true) : At X d z pc ls (.int x :: .ref r :: st) G I Q ↔ At X d z (pc + 1) ls (.int (roI X r x.toNatClampNeg) :: st) G I Q :=
  At_H hm hd rfl rfl rfl (by simp [opH, h, h2])
theorem At_iast {r : Nat} {x y : Int32} (hm : pmth z = (cc, ml, ret, own, na, nm)) (hd : decode cc pc = .ok (.iastore, 1)) (h : tagW G r = 20) (h2 : inb x (lenW G r) = true) : At X d z pc ls (.int y :: .int x :: .ref r :: st) G I Q ↔ At X d z (pc + 1) ls st G (upd2 I r x.toNatClampNeg y) Q :=
  At_H hm hd rfl rfl rfl (by simp [opH, h, h2])
theorem At_aald {r : Nat} {x : Int32} (hm : pmth z = (cc, ml, ret, own, na, nm)) (hd : decode cc pc = .ok (.aaload, 1)) (h : tagW G r = 22 ∨ tagW G r = 23) (h2 : inb x (lenW G r) = true) : At X d z pc ls (.int x :: .ref r :: st) G I Q ↔ At X d z (pc + 1) ls (refW G r x.toNatClampNeg :: st) G I Q :=
  At_H hm hd rfl rfl rfl (by simp [opH, h, h2])
theorem At_nn {off : Int} {r t : Nat} (hm : pmth z = (cc, ml, ret, own, na, nm)) (hd : decode cc pc = .ok (.ifnonnull off, 3)) (ht : tgt pc off = some t) (h : r < 1000) : At X d z pc ls (.ref r :: st) G I Q ↔ At X d z t ls st G I Q :=
  At_B hm hd rfl rfl (by simp [opB, ht, h])
theorem At_alen {r : Nat} (hm : pmth z = (cc, ml, ret, own, na, nm)) (hd : decode cc pc = .ok (.arraylength, 1)) (h : (roT X r).1 = 20 ∨ (roT X r).1 = 24) : At X d z pc ls (.ref r :: st) G I Q ↔ At X d z (pc + 1) ls (.int (Int32.ofNat (roT X r).2) :: st) G I Q :=
  At_H hm hd rfl rfl rfl (by simp [opH, h])
theorem At_Rz {x : Int32} (hm : pmth z = (cc, ml, ret, own, na, nm)) (hd : decode cc pc = .ok (.ireturn, 1)) (h : retOk ret x = true) : At X d z pc ls [.int x] G I Q ↔ Q (some (.int x)) G I :=
  At_R hm hd (by simp [opR, h])
theorem At_copy {idx y0 r r2 : Nat} {n x y : Int32} (hm : pmth z = (cc, ml, ret, own, na, nm)) (hd : decode cc pc = .ok (.invokestatic idx, 3)) (hc : ctab own idx = some (5, y0)) (h : tagW G r = 20) (h2 : tagW G r2 = 20) (h3 : 0 ≤ x) (h4 : 0 ≤ y) (h5 : 0 ≤ n) (h6 : x.toNatClampNeg + n.toNatClampNeg ≤ lenW G r) (h7 : y.toNatClampNeg + n.toNatClampNeg ≤ lenW G r2) (h8 : (st.map Value.category).sum ≤ 8) :
    At X d z pc ls (.int n :: .int y :: .ref r2 :: .int x :: .ref r :: st) G I Q ↔ At X d z (pc + 3) ls st G (cpy2 I r x.toNatClampNeg r2 y.toNatClampNeg n.toNatClampNeg) Q :=
  At_C hm hd rfl rfl rfl rfl (by simp [opK, goK, hc]) (by simp only [opC, hc]; simp [h, h2, h3, h4, h5, h6, h7, h8])
theorem At_abs {idx y0 : Nat} {x : Int32} (hm : pmth z = (cc, ml, ret, own, na, nm)) (hd : decode cc pc = .ok (.invokestatic idx, 3)) (hc : ctab own idx = some (7, y0)) (h : (st.map Value.category).sum ≤ 8) :
    At X d z pc ls (.int x :: st) G I Q ↔ At X d z (pc + 3) ls (.int (mabs x) :: st) G I Q :=
  At_C hm hd rfl rfl rfl rfl (by simp [opK, goK, hc]) (by simp only [opC, hc]; simp [h])
theorem At_min {idx y0 : Nat} {x y : Int32} (hm : pmth z = (cc, ml, ret, own, na, nm)) (hd : decode cc pc = .ok (.invokestatic idx, 3)) (hc : ctab own idx = some (8, y0)) (h : (st.map Value.category).sum ≤ 8) :
    At X d z pc ls (.int y :: .int x :: st) G I Q ↔ At X d z (pc + 3) ls (.int (mmin x y) :: st) G I Q :=
  At_C hm hd rfl rfl rfl rfl (by simp [opK, goK, hc]) (by simp only [opC, hc]; simp [h])
theorem At_max {idx y0 : Nat} {x y : Int32} (hm : pmth z = (cc, ml, ret, own, na, nm)) (hd : decode cc pc = .ok (.invokestatic idx, 3)) (hc : ctab own idx = some (9, y0)) (h : (st.map Value.category).sum ≤ 8) :
    At X d z pc ls (.int y :: .int x :: st) G I Q ↔ At X d z (pc + 3) ls (.int (mmax x y) :: st) G I Q :=
  At_C hm hd rfl rfl rfl rfl (by simp [opK, goK, hc]) (by simp only [opC, hc]; simp [h])
theorem At_callV {idx y r : Nat} {as : List Value} (hm : pmth z = (cc, ml, ret, own, na, nm)) (hd : decode cc pc = .ok (.invokevirtual idx, 3)) (hc : ctab own idx = some (0, y)) (hn : (pmth y).2.2.2.2.1 = as.length + 1) (he : (entL (.ref r :: as)).length ≤ (pmth y).2.1) (h : (st.map Value.category).sum ≤ 8) (ht : tagW G r = (pmth y).2.2.2.1 ∨ (1004 ≤ r ∧ r < 1010 ∧ (pmth y).2.2.2.1 = 11)) :
    At X d z pc ls (as.reverse ++ .ref r :: st) G I Q ↔ Call X d y (.ref r :: as) G I (fun v G I => At X d z (pc + 3) ls (v.toList ++ st) G I Q) := by
  have e1 : (as.reverse ++ .ref r :: st).take (as.length + 1) = as.reverse ++ [.ref r] := by
    rw [show as.reverse ++ .ref r :: st = (as.reverse ++ [.ref r]) ++ st by simp]
    exact List.take_left' (by simp)
  have e2 : (as.reverse ++ .ref r :: st).drop (as.length + 1) = st := by
    rw [show as.reverse ++ .ref r :: st = (as.reverse ++ [.ref r]) ++ st by simp]
    exact List.drop_left' (by simp)
  refine At_K hm hd rfl rfl rfl rfl ?_
  simp only [opK, goK, hc, hn, e1, e2]
  have he' : (entL (as.reverse ++ [Value.ref r]).reverse).length ≤ (pmth y).2.1 := by simpa using he
  simp only [he']
  simp [h, ht]
theorem At_callS {idx y : Nat} {as : List Value} (hm : pmth z = (cc, ml, ret, own, na, nm)) (hd : decode cc pc = .ok (.invokestatic idx, 3)) {k : Nat} (hc : ctab own idx = some (k, y)) (hk : (k == 1 || k == 4) = true) (hn : (pmth y).2.2.2.2.1 = as.length) (he : (entL as).length ≤ (pmth y).2.1) (h : (st.map Value.category).sum ≤ 8) :
    At X d z pc ls (as.reverse ++ st) G I Q ↔ Call X d y as G I (fun v G I => At X d z (pc + 3) ls (v.toList ++ st) G I Q) := by
  have e1 : (as.reverse ++ st).take as.length = as.reverse := List.take_left' (by simp)
  have e2 : (as.reverse ++ st).drop as.length = st := List.drop_left' (by simp)
  refine At_K hm hd rfl rfl rfl rfl ?_
  simp only [opK, goK, hc, hn, e1, e2]
  have he' : (entL as.reverse.reverse).length ≤ (pmth y).2.1 := by simpa using he
  simp only [he']
  simp [h, hk]
end OPS
