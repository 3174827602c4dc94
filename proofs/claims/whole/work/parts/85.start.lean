-- every call, one after the other
theorem whole_start {p : Program} {e : Env} {s : State} {m : MethodId} {below : List Frame} {meth : Method} {c : Code} (l : Launch) {b L : Nat} {xs : Nat → Int32} (hL : L ≤ 2048) (C0 : lw_At p s m meth c b L xs) : W p l e room_1 s m #[Value.ref b] below meth c s.heap [] 0 0 (lw_Z below #[Value.ref b] s) (entryFrame m ([Value.ref b] : List Value).toArray 4) := by
  refine law_begin l C0 (fun D E1 E2 A0 A1 A2 hC => ?_)
  have loop : ∀ (n t : Nat) (gen : Nat → Nat) (gc : Nat) (a : sA) (g : sG) (i a' i' : sA), relO gen gc a g i a' i' → L ≤ t + n → t < 3000 → LW p l e s m below meth c b D E1 E2 A0 A1 A2 136 13600 18 [] t (cW a g i) (mW a' i') := by
    intro n
    induction n with
    | zero =>
      intro t gen gc a g i a' i' hR hn ht
      exact law_head hC hL ht (fun h9 => by omega) (law_end hC)
    | succ n ih =>
      intro t gen gc a g i a' i' hR hn ht
      refine law_head hC hL ht (fun h9 => ?_) (law_end hC)
      refine law_sw hC hL h9 hR (fun _ _ _ _ _ _ _ _ _ _ hR9 h9 => ⟨rw_same hR9 h9, fun L9 q1 q2 q3 => nr_same hR9 h9 (few_ok hR9 h9) L9 q1 q2 q3⟩) (fun gen gc a g i a' i' hR2 => law_inc hC (ih (t + 4) gen gc a g i a' i' hR2 (by omega) (by omega)))
  exact loop L 0 (fun _ => 0) 0 _ _ _ _ _ (rel_new ⟨by decide, rfl, rfl, fun k hk => absurd hk (Nat.not_lt_zero k)⟩ rfl rfl) (by omega) (by decide)
