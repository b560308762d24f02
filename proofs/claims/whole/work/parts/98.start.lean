/-! the law's start -/
theorem pure_law : PureLaw := fun X hX => law_pure hX (fun _ => ⟨rfl, by decide +kernel, by decide +kernel⟩)
theorem whole_start (l : Launch) (_hflags : l.flags = flags0) {p : Program} {e : Env} {s : State} {m : MethodId} {below : List Frame} {meth : Method} {c : Code} {b L : Nat} {xs : Nat → Int32} (hL : L ≤ 3584) (C0 : lw_At p s m meth c b L xs) : W p l e room_1 s m #[Value.ref b] below meth c s.heap [] 0 0 (lw_Z below #[Value.ref b] s) (entryFrame m ([Value.ref b] : List Value).toArray 4) := start_of pure_law l hL C0
