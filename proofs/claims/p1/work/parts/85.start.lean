-- one call on a fresh object
theorem whole_start {p : Program} {e : Env} {s : State} {m : MethodId} {below : List Frame} {meth : Method} {c : Code} (l : Launch) {b L : Nat} {xs : Nat → Int32} (hL : L ≤ 4) (C0 : lw_At p s m meth c b L xs) : W p l e room_1 s m #[Value.ref b] below meth c s.heap [] 0 0 (lw_Z below #[Value.ref b] s) (entryFrame m ([Value.ref b] : List Value).toArray 4) := by
  refine law_begin l C0 (fun D E1 E2 A0 A1 A2 hC => ?_)
  have hL9 : L ≤ 2048 := by omega
  refine law_head hC hL9 (by decide) (fun ht => ?_) (law_end hC)
  refine law_sw (gen := fun _ => 0) (gc := 0) hC hL9 ht (rel_new ⟨by decide, rfl, rfl, fun k hk => absurd hk (Nat.not_lt_zero k)⟩ rfl rfl) (fun _ _ _ _ _ _ _ _ _ _ _ h9 => absurd h9 (by decide)) (fun gen gc a g i a' i' _ => ?_)
  refine law_inc hC (law_head hC hL9 (by decide) (fun h9 => by omega) (law_end hC))
