/-! THE PURE MACHINE: the bytecode read over a heap of numbers. A reference is a place: below 1000 a cell of the world, from 1000 on a cell that nobody writes. -/
abbrev pG : Type := List (Nat × Nat × List Value)
abbrev pI : Type := Nat → Nat → Int32
abbrev pX : Type := Nat × (Nat → Int32)
abbrev pL : Type := List (Option Value)
def tagW (G : pG) (r : Nat) : Nat := match G[r]? with
  | some e => e.1
  | none => 99
def lenW (G : pG) (r : Nat) : Nat := match G[r]? with
  | some e => e.2.1
  | none => 0
def refW (G : pG) (r k : Nat) : Value := match G[r]? with
  | some e => e.2.2.getD k .null
  | none => .null
/-- the cells that nobody writes: the script, two tables, a thing that is only carried, six texts and their bytes -/
def roT (X : pX) (r : Nat) : Nat × Nat := match r with
  | 1000 => (20, X.1)
  | 1001 => (20, 6)
  | 1002 => (20, 6)
  | 1003 => (31, 0)
  | 1004 => (30, 0)
  | 1005 => (30, 0)
  | 1006 => (30, 0)
  | 1007 => (30, 0)
  | 1008 => (30, 0)
  | 1009 => (30, 0)
  | 1010 => (24, 4)
  | 1011 => (24, 4)
  | 1012 => (24, 4)
  | 1013 => (24, 3)
  | 1014 => (24, 6)
  | 1015 => (24, 4)
  | _ => (99, 0)
def txts : List (List Int32) := [[99, 97, 108, 108], [116, 105, 99, 107], [103, 105, 118, 101], [119, 97, 121], [114, 101, 103, 105, 118, 101], [112, 97, 114, 107]]
def roI (X : pX) (r i : Nat) : Int32 := match r with
  | 1000 => X.2 i
  | 1001 => ([-1, 0, 0, 1, 2, 0] : List Int32).getD i 0
  | 1002 => ([3, 1, 2, 1, 0, 0] : List Int32).getD i 0
  | 1010 => ([99, 97, 108, 108] : List Int32).getD i 0
  | 1011 => ([116, 105, 99, 107] : List Int32).getD i 0
  | 1012 => ([103, 105, 118, 101] : List Int32).getD i 0
  | 1013 => ([119, 97, 121] : List Int32).getD i 0
  | 1014 => ([114, 101, 103, 105, 118, 101] : List Int32).getD i 0
  | 1015 => ([112, 97, 114, 107] : List Int32).getD i 0
  | _ => 0
def stab (own idx : Nat) : Option Value := match own, idx with
  | 0, 37 => some (.ref 1001)
  | 5, 48 => some (.ref 1002)
  | 11, 38 => some (.int 1)
  | 11, 1053 => some (.ref 1003)
  | _, _ => none
def stxt (own idx : Nat) : Option Nat := match own, idx with
  | 5, 75 => some 0
  | 5, 77 => some 1
  | 5, 79 => some 2
  | 5, 81 => some 3
  | 5, 83 => some 4
  | 5, 85 => some 5
  | _, _ => none
def inb (i : Int32) (n : Nat) : Bool := decide (0 ≤ i) && decide (i.toNatClampNeg < n)
def upd2 (I : pI) (r k : Nat) (v : Int32) : pI := fun a j => if a = r ∧ j = k then v else I a j
def cpy2 (I : pI) (sr sp dr dp n : Nat) : pI := fun a j => if a = dr ∧ dp ≤ j ∧ j < dp + n then I sr (sp + (j - dp)) else I a j
def zero2 (I : pI) (r : Nat) : pI := fun a j => if a = r then 0 else I a j
def setRef (G : pG) (r k : Nat) (v : Value) : pG := match G[r]? with
  | some e => G.set r (e.1, e.2.1, e.2.2.set k v)
  | none => G
def refL (G : pG) (r : Nat) : Nat := match G[r]? with
  | some e => e.2.2.length
  | none => 0
def okL (o : Option Value) : Bool := match o with
  | some v => v.category == 1
  | none => true
def okB (ls : pL) (i : Nat) : Bool := match i with
  | 0 => true
  | j + 1 => match ls[j]? with
    | some o => okL o
    | none => true
def stL (ls : pL) (i : Nat) (v : Value) : Option pL := if okB ls i = true ∧ i < ls.length then some (ls.set i (some v)) else none
def ldI (ls : pL) (i : Nat) : Option Int32 := match ls[i]? with
  | some (some (.int x)) => some x
  | _ => none
def ldJ (ls : pL) (i : Nat) : Option Int64 := match ls[i]? with
  | some (some (.long x)) => some x
  | _ => none
def ldA (ls : pL) (i : Nat) : Option Value := match ls[i]? with
  | some (some (.ref a)) => some (.ref a)
  | some (some .null) => some .null
  | _ => none
/-- what is done with locals and the stack alone: the instruction's length, locals, stack -/
def opA (own : Nat) (i : Instr) (ls : pL) (st : List Value) : Option (Nat × pL × List Value) := match i with
  | .iconst n => some (1, ls, .int (Int32.ofInt n) :: st)
  | .bipush n => some (2, ls, .int (Int8.ofInt n).toInt32 :: st)
  | .sipush n => some (3, ls, .int (Int16.ofInt n).toInt32 :: st)
  | .lconst n => some (1, ls, .long (Int64.ofNat (n : Nat)) :: st)
  | .aconst_null => some (1, ls, .null :: st)
  | .ldc idx => match ltab own idx with
    | some v => some (2, ls, .int v :: st)
    | none => match stxt own idx with
      | some k => some (2, ls, .ref (1004 + k) :: st)
      | none => none
  | .ldc_w idx => match ltab own idx with
    | some v => some (3, ls, .int v :: st)
    | none => none
  | .ldc2_w idx => match l2tab own idx with
    | some v => some (3, ls, .long v :: st)
    | none => none
  | .iload_n k => match ldI ls k with
    | some x => some (1, ls, .int x :: st)
    | none => none
  | .iload k => match ldI ls k with
    | some x => some (2, ls, .int x :: st)
    | none => none
  | .lload_n k => match ldJ ls k with
    | some x => some (1, ls, .long x :: st)
    | none => none
  | .lload k => match ldJ ls k with
    | some x => some (2, ls, .long x :: st)
    | none => none
  | .aload_n k => match ldA ls k with
    | some x => some (1, ls, x :: st)
    | none => none
  | .aload k => match ldA ls k with
    | some x => some (2, ls, x :: st)
    | none => none
  | .istore_n k => match st with
    | .int x :: s => match stL ls k (.int x) with
      | some l => some (1, l, s)
      | none => none
    | _ => none
  | .istore k => match st with
    | .int x :: s => match stL ls k (.int x) with
      | some l => some (2, l, s)
      | none => none
    | _ => none
  | .astore_n k => match st with
    | .ref x :: s => match stL ls k (.ref x) with
      | some l => some (1, l, s)
      | none => none
    | _ => none
  | .astore k => match st with
    | .ref x :: s => match stL ls k (.ref x) with
      | some l => some (2, l, s)
      | none => none
    | _ => none
  | .iinc k n => match ldI ls k with
    | some x => match stL ls k (.int (x + Int32.ofInt n)) with
      | some l => some (3, l, st)
      | none => none
    | none => none
  | .dup => match st with
    | v :: s => if v.category = 1 then some (1, ls, v :: v :: s) else none
    | _ => none
  | .pop => match st with
    | v :: s => if v.category = 1 then some (1, ls, s) else none
    | _ => none
  | .dup2 => match st with
    | v :: w :: s => if v.category = 1 ∧ w.category = 1 then some (1, ls, v :: w :: v :: w :: s) else none
    | _ => none
  | .iadd => match st with
    | .int y :: .int x :: s => some (1, ls, .int (x + y) :: s)
    | _ => none
  | .isub => match st with
    | .int y :: .int x :: s => some (1, ls, .int (x - y) :: s)
    | _ => none
  | .imul => match st with
    | .int y :: .int x :: s => some (1, ls, .int (x * y) :: s)
    | _ => none
  | .idiv => match st with
    | .int y :: .int x :: s => if y = 0 then none else some (1, ls, .int (x / y) :: s)
    | _ => none
  | .irem => match st with
    | .int y :: .int x :: s => if y = 0 then none else some (1, ls, .int (x - x / y * y) :: s)
    | _ => none
  | .ineg => match st with
    | .int x :: s => some (1, ls, .int (-x) :: s)
    | _ => none
  | .ishl => match st with
    | .int y :: .int x :: s => some (1, ls, .int (x <<< (y &&& 31)) :: s)
    | _ => none
  | .ishr => match st with
    | .int y :: .int x :: s => some (1, ls, .int (x >>> (y &&& 31)) :: s)
    | _ => none
  | .iushr => match st with
    | .int y :: .int x :: s => some (1, ls, .int (x.toUInt32 >>> (y.toUInt32 &&& Int32.toUInt32 31)).toInt32 :: s)
    | _ => none
  | .iand => match st with
    | .int y :: .int x :: s => some (1, ls, .int (x &&& y) :: s)
    | _ => none
  | .ior => match st with
    | .int y :: .int x :: s => some (1, ls, .int (x ||| y) :: s)
    | _ => none
  | .i2l => match st with
    | .int x :: s => some (1, ls, .long x.toInt64 :: s)
    | _ => none
  | .i2b => match st with
    | .int x :: s => some (1, ls, .int x.toInt8.toInt32 :: s)
    | _ => none
  | .i2c => match st with
    | .int x :: s => some (1, ls, .int (x.toUInt32 % 65536).toInt32 :: s)
    | _ => none
  | .lcmp => match st with
    | .long y :: .long x :: s => some (1, ls, .int (lg_cmp x y) :: s)
    | _ => none
  | _ => none
def tgt (pc : Nat) (off : Int) : Option Nat := if 0 ≤ (pc : Int) + off then some ((pc : Int) + off).toNat else none
def swF (x : Int) (d : Int) : Int → List Int → Int
  | _, [] => d
  | lo, o :: r => if x = lo then o else swF x d (lo + 1) r
def swG (x : Int) (d : Int) : List (Int × Int) → Int
  | [] => d
  | q :: r => if x = q.1 then q.2 else swG x d r
/-- branches: the length, where to, the stack -/
def opB (i : Instr) (len pc : Nat) (st : List Value) : Option (Nat × Nat × List Value) := match i with
  | .goto off => match tgt pc off with
    | some t => some (3, t, st)
    | none => none
  | .if_icmp c off => match tgt pc off with
    | some t => match st with
      | .int y :: .int x :: s => match c with
        | .eq => some (3, if x = y then t else pc + 3, s)
        | .ne => some (3, if x = y then pc + 3 else t, s)
        | .lt => some (3, if x < y then t else pc + 3, s)
        | .ge => some (3, if y ≤ x then t else pc + 3, s)
        | .gt => some (3, if y < x then t else pc + 3, s)
        | .le => some (3, if x ≤ y then t else pc + 3, s)
      | _ => none
    | none => none
  | .ifCond c off => match tgt pc off with
    | some t => match st with
      | .int x :: s => match c with
        | .eq => some (3, if x = 0 then t else pc + 3, s)
        | .ne => some (3, if x = 0 then pc + 3 else t, s)
        | .lt => some (3, if x < 0 then t else pc + 3, s)
        | .ge => some (3, if 0 ≤ x then t else pc + 3, s)
        | .gt => some (3, if 0 < x then t else pc + 3, s)
        | .le => some (3, if x ≤ 0 then t else pc + 3, s)
      | _ => none
    | none => none
  | .ifnonnull off => match tgt pc off with
    | some t => match st with
      | .ref r :: s => if r < 1000 then some (3, t, s) else none
      | .null :: s => some (3, pc + 3, s)
      | _ => none
    | none => none
  | .tableswitch d lo hi offs => match st with
    | .int x :: s => if (offs.size : Int) = hi - lo + 1 then match tgt pc (swF x.toInt d lo offs.toList) with
      | some t => some (len, t, s)
      | none => none
      else none
    | _ => none
  | .lookupswitch d ps => match st with
    | .int x :: s => if (ps.toList.zip (ps.toList.drop 1)).all (fun (a, next) => a.1 < next.1) = true then match tgt pc (swG x.toInt d ps.toList) with
      | some t => some (len, t, s)
      | none => none
      else none
    | _ => none
  | _ => none
def fval (G : pG) (I : pI) (r c k : Nat) : Value := if fkind c k = 2 then refW G r k else .int (I r k)
/-- cells: the length, the stack, the heap -/
def opH (X : pX) (own : Nat) (i : Instr) (st : List Value) (G : pG) (I : pI) : Option (Nat × List Value × pG × pI) := match i with
  | .getfield idx => match ftab own idx with
    | some (c, k) => match st with
      | .ref r :: s => if tagW G r = c ∧ k < fcount c then some (3, fval G I r c k :: s, G, I) else none
      | _ => none
    | none => match st with
      | .ref r :: s => if own = 11 ∧ idx = 9 ∧ 1004 ≤ r ∧ r < 1010 then some (3, .ref (r + 6) :: s, G, I) else if own = 11 ∧ idx = 15 ∧ 1004 ≤ r ∧ r < 1010 then some (3, .int 0 :: s, G, I) else none
      | _ => none
  | .putfield idx => match ftab own idx with
    | some (c, k) => match st with
      | v :: .ref r :: s => if tagW G r = c ∧ k < fcount c ∧ ffin c k = false then match v with
        | .int x => if fkind c k = 0 then some (3, s, G, upd2 I r k x) else if fkind c k = 1 ∧ (x = 0 ∨ x = 1) then some (3, s, G, upd2 I r k x) else none
        | _ => none
        else none
      | _ => none
    | none => none
  | .getstatic idx => match stab own idx with
    | some v => some (3, v :: st, G, I)
    | none => none
  | .iaload => match st with
    | .int j :: .ref r :: s => if tagW G r = 20 then (if inb j (lenW G r) = true then some (1, .int (I r j.toNatClampNeg) :: s, G, I) else none)
      else if (roT X r).1 = 20 then (if inb j (roT X r).2 = true then some (1, .int (roI X r j.toNatClampNeg) :: s, G, I) else none) else none
    | _ => none
  | .caload => match st with
    | .int j :: .ref r :: s => if tagW G r = 21 ∧ inb j (lenW G r) = true then some (1, .int (I r j.toNatClampNeg) :: s, G, I) else none
    | _ => none
  | .baload => match st with
    | .int j :: .ref r :: s => if (roT X r).1 = 24 ∧ inb j (roT X r).2 = true then some (1, .int (roI X r j.toNatClampNeg) :: s, G, I) else none
    | _ => none
  | .iastore => match st with
    | .int x :: .int j :: .ref r :: s => if tagW G r = 20 ∧ inb j (lenW G r) = true then some (1, s, G, upd2 I r j.toNatClampNeg x) else none
    | _ => none
  | .castore => match st with
    | .int x :: .int j :: .ref r :: s => if tagW G r = 21 ∧ inb j (lenW G r) = true then some (1, s, G, upd2 I r j.toNatClampNeg (vp_nar .char x)) else none
    | _ => none
  | .aaload => match st with
    | .int j :: .ref r :: s => if (tagW G r = 22 ∨ tagW G r = 23) ∧ inb j (lenW G r) = true then some (1, refW G r j.toNatClampNeg :: s, G, I) else none
    | _ => none
  | .arraylength => match st with
    | .ref r :: s => if (roT X r).1 = 20 ∨ (roT X r).1 = 24 then some (1, .int (Int32.ofNat (roT X r).2) :: s, G, I) else none
    | _ => none
  | _ => none
/-- what only constructors do: the length, the stack, the heap -/
def opN (own : Nat) (isInit : Bool) (i : Instr) (st : List Value) (G : pG) (I : pI) : Option (Nat × List Value × pG × pI) := match i with
  | .putfield idx => match ftab own idx with
    | some (c, k) => match st with
      | .ref v :: .ref r :: s => if tagW G r = c ∧ k < fcount c ∧ ffin c k = true ∧ fkind c k = 2 ∧ isInit = true ∧ c = own ∧ v < G.length ∧ k < refL G r then some (3, s, setRef G r k (.ref v), I) else none
      | .null :: .ref r :: s => if tagW G r = c ∧ k < fcount c ∧ ffin c k = true ∧ fkind c k = 2 ∧ isInit = true ∧ c = own ∧ k < refL G r then some (3, s, setRef G r k .null, I) else none
      | _ => none
    | none => none
  | .aastore => match st with
    | .ref v :: .int j :: .ref r :: s => if ((tagW G r = 22 ∧ tagW G v = 0) ∨ (tagW G r = 23 ∧ tagW G v = 4)) ∧ inb j (lenW G r) = true ∧ j.toNatClampNeg < refL G r then some (1, s, setRef G r j.toNatClampNeg (.ref v), I) else none
    | _ => none
  | .new idx => match ntab own idx with
    | some c => if G.length < 1000 then some (3, .ref G.length :: st, G ++ [(c, fcount c, List.replicate (fcount c) .null)], zero2 I G.length) else none
    | none => none
  | .newarray t => match st with
    | .int n :: s => if 0 ≤ n ∧ G.length < 1000 ∧ n.toNatClampNeg ≤ 100000 then match t with
      | .int => some (2, .ref G.length :: s, G ++ [(20, n.toNatClampNeg, [])], zero2 I G.length)
      | .char => some (2, .ref G.length :: s, G ++ [(21, n.toNatClampNeg, [])], zero2 I G.length)
      | _ => none
      else none
    | _ => none
  | .anewarray idx => match atab own idx with
    | some t => match st with
      | .int n :: s => if 0 ≤ n ∧ G.length < 1000 ∧ n.toNatClampNeg ≤ 100000 then some (3, .ref G.length :: s, G ++ [(t, n.toNatClampNeg, List.replicate n.toNatClampNeg .null)], zero2 I G.length) else none
      | _ => none
    | none => none
  | _ => none
def mabs (x : Int32) : Int32 := if 0 ≤ x then x else 0 - x
def mmin (x y : Int32) : Int32 := if y < x then y else x
def mmax (x y : Int32) : Int32 := if x < y then y else x
/-- arraycopy of ints, Math.abs, min, max, and the constructor of Object -/
def opC (own : Nat) (i : Instr) (st : List Value) (G : pG) (I : pI) : Option (List Value × pI) := match i with
  | .invokestatic idx => match ctab own idx with
    | some (5, _) => match st with
      | .int n :: .int dp :: .ref d :: .int sp :: .ref a :: s =>
        if tagW G a = 20 ∧ tagW G d = 20 ∧ 0 ≤ sp ∧ 0 ≤ dp ∧ 0 ≤ n ∧ sp.toNatClampNeg + n.toNatClampNeg ≤ lenW G a ∧ dp.toNatClampNeg + n.toNatClampNeg ≤ lenW G d ∧ (s.map Value.category).sum ≤ 8 then some (s, cpy2 I a sp.toNatClampNeg d dp.toNatClampNeg n.toNatClampNeg) else none
      | _ => none
    | some (7, _) => match st with
      | .int x :: s => if (s.map Value.category).sum ≤ 8 then some (.int (mabs x) :: s, I) else none
      | _ => none
    | some (8, _) => match st with
      | .int y :: .int x :: s => if (s.map Value.category).sum ≤ 8 then some (.int (mmin x y) :: s, I) else none
      | _ => none
    | some (9, _) => match st with
      | .int y :: .int x :: s => if (s.map Value.category).sum ≤ 8 then some (.int (mmax x y) :: s, I) else none
      | _ => none
    | _ => none
  | .invokespecial idx => match ctab own idx with
    | some (6, _) => match st with
      | .ref r :: s => if r < 1000 ∧ (s.map Value.category).sum ≤ 8 then some (s, I) else none
      | _ => none
    | _ => none
  | _ => none
def pmth (z : Nat) : pM := mtab.getD z (ByteArray.empty, 0, none, 0, 0, yL_law)
def entL : List Value → pL
  | [] => []
  | v :: vs => if v.category = 2 then some v :: none :: entL vs else some v :: entL vs
/-- the locals with which a method begins -/
def entr (z : Nat) (as : List Value) : pL := entL as ++ List.replicate ((pmth z).2.1 - (entL as).length) none
def goK (own : Nat) (okk : Nat → Bool) (idx : Nat) (inst : Bool) (st : List Value) (G : pG) : Option (Nat × List Value × List Value) := match ctab own idx with
  | some (k, z) =>
    if okk k = true ∧ (pmth z).2.2.2.2.1 ≤ st.length ∧ ((st.drop (pmth z).2.2.2.2.1).map Value.category).sum ≤ 8 ∧ (entL (st.take (pmth z).2.2.2.2.1).reverse).length ≤ (pmth z).2.1 then
      (if inst = true then (match (st.take (pmth z).2.2.2.2.1).reverse with
        | .ref r :: as => if tagW G r = (pmth z).2.2.2.1 ∨ (1004 ≤ r ∧ r < 1010 ∧ (pmth z).2.2.2.1 = 11) then some (z, .ref r :: as, st.drop (pmth z).2.2.2.2.1) else none
        | _ => none) else some (z, (st.take (pmth z).2.2.2.2.1).reverse, st.drop (pmth z).2.2.2.2.1))
    else none
  | none => none
/-- a call: the method, its arguments, what stays on the stack -/
def opK (own : Nat) (i : Instr) (st : List Value) (G : pG) : Option (Nat × List Value × List Value) := match i with
  | .invokevirtual idx => goK own (fun k => k == 0) idx true st G
  | .invokespecial idx => goK own (fun k => k == 2 || k == 3) idx true st G
  | .invokestatic idx => goK own (fun k => k == 1 || k == 4) idx false st G
  | _ => none
def retOk (ret : Option FieldType) (v : Int32) : Bool := match ret with
  | some .int => true
  | some .boolean => v == 0 || v == 1
  | some .byte => v == 0
  | some .char => decide (0 ≤ v) && decide (v < 65536)
  | _ => false
/-- a method's end -/
def opR (ret : Option FieldType) (i : Instr) (len : Nat) (st : List Value) : Option (Option Value) := match i with
  | .ireturn => match st with
    | [.int v] => if len = 1 ∧ retOk ret v = true then some (some (.int v)) else none
    | _ => none
  | .areturn => match st with
    | [.ref a] => if len = 1 ∧ ret = some (.object "java/lang/String") then some (some (.ref a)) else none
    | _ => none
  | .return_ => match st with
    | [] => if len = 1 ∧ ret = none then some none else none
    | _ => none
  | _ => none
abbrev pR : Type := Option Value × pG × pI
/-- the steps of one method, z, by at most so many instructions; cal: what calls do -/
def lup (X : pX) (cal : Nat → List Value → pG → pI → Option pR) (z : Nat) : Nat → Nat → pL → List Value → pG → pI → Option pR
  | 0, _, _, _, _, _ => none
  | n + 1, pc, ls, st, G, I => match decode (pmth z).1 pc with
    | .error _ => none
    | .ok (i, len) => match opR (pmth z).2.2.1 i len st with
      | some v => some (v, G, I)
      | none => match opA (pmth z).2.2.2.1 i ls st with
        | some (l, ls', st') => if l = len then lup X cal z n (pc + l) ls' st' G I else none
        | none => match opB i len pc st with
          | some (l, t, st') => if l = len then lup X cal z n t ls st' G I else none
          | none => match opH X (pmth z).2.2.2.1 i st G I with
            | some (l, st', G', I') => if l = len then lup X cal z n (pc + l) ls st' G' I' else none
            | none => match opK (pmth z).2.2.2.1 i st G with
              | some (y, as, rest) => if len = 3 then (match cal y as G I with
                | some (v, G', I') => lup X cal z n (pc + 3) ls (v.toList ++ rest) G' I'
                | none => none) else none
              | none => match opC (pmth z).2.2.2.1 i st G I with
                | some (st', I') => if len = 3 then lup X cal z n (pc + 3) ls st' G I' else none
                | none => match opN (pmth z).2.2.2.1 ((pmth z).2.2.2.2.2.name == "<init>") i st G I with
                  | some (l, st', G', I') => if l = len then lup X cal z n (pc + l) ls st' G' I' else none
                  | none => none
/-- a call of method z, to the depth d, each method by at most F instructions -/
def rund (X : pX) (F : Nat) : Nat → Nat → List Value → pG → pI → Option pR
  | 0 => fun _ _ _ _ => none
  | d + 1 => fun z as G I => lup X (rund X F d) z F 0 (entr z as) [] G I
