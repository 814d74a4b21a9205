section WS
set_option maxRecDepth 100000 in
set_option maxHeartbeats 40000000 in
theorem law_one {L : Nat} {xs : Nat → Int32} (hL : L ≤ 384) : mL_law L xs (fun _ => none) (fun r _ => r = 1) := by
  have st := lp_a (L := L) (xs := xs) hL (sx_b xs) 64 0 (fun _ => none) v0 N0 T0 u0 M01 rfl Rel0
  have st : mL_law_L18 L xs (fun r _ => r = 1) 65 (some 8) (some 69) 0 (kh (rh (fun _ => none) u0 M01) v0 N0 T0) := st
  have i : itl (fun F6 => mL_law_L18 L xs (fun r _ => r = 1) 65 (some 8) (some 69) 0 F6) 69 (kh (rh (fun _ => none) u0 M00) v0 N0 T0) := by
    rw [kr_c]
    refine itl_r ?_
    rw [← kr_c]
    exact st
  exact new_all (P := fun n1 n4 o F => itl (fun F6 => mL_law_L18 L xs (fun r _ => r = 1) 65 (some n1) (some n4) 0 F6) o F) i
theorem whole_start {p : Program} {e : Env} {s : State} {m : MethodId} {below : List Frame} {meth : Method} {c : Code} (l : Launch) {b L : Nat} {xs : Nat → Int32} (hL : L ≤ 384) (C0 : lw_At p s m meth c b L xs) : W p l e room_1 s m #[Value.ref b] below meth c s.heap [] 0 0 (lw_Z below #[Value.ref b] s) (entryFrame m ([Value.ref b] : List Value).toArray 4) := whole_open l hL C0 (law_one hL)
end WS
