/-- the law's loop comes to 1: all that is left -/
theorem z_main {xs : Nat → Int32} {L : Nat} (hL : L ≤ 384) : z_lp (fL_b xs L) 300 ((0 : Int32), z_I0, z_R0) = some 1 := by
  sorry
theorem whole_start {p : Program} {e : Env} {s : State} {m : MethodId} {below : List Frame} {meth : Method} {c : Code} (l : Launch) {b L : Nat} {xs : Nat → Int32} (hL : L ≤ 384) (C0 : lw_At p s m meth c b L xs) : W p l e room_1 s m #[Value.ref b] below meth c s.heap [] 0 0 (lw_Z below #[Value.ref b] s) (entryFrame m ([Value.ref b] : List Value).toArray 4) := whole_start_open l (z_main hL) C0
