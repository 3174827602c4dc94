-- the law: add, clear, build
section LCT
variable {p : Program} {l : Launch} {e : Env} {s : State} {m : MethodId} {below : List Frame} {meth : Method} {c : Code} {b L : Nat} {xs : Nat → Int32} {D : va_G} {E1 E2 : sx_E} {A0 A1 A2 : Nat → Prop} {N0 M0 : Nat}
variable {gen : Nat → Nat} {gc : Nat} {a : sA} {g : sG} {i a' i' : sA} {s9 : Nat → Nat} {n9 k9 : Nat} {kl re : Nat → Nat} {e9 p9 z9 : Nat} {W9 : Nat → Nat → Nat} {pl : Nat → Nat}
theorem rel_new {gen : Nat → Nat} {gc : Nat} {a : sA} {g : sG} {i a' i' : sA} (hG : gnO gen gc a i a' i') (h1 : i 0 2 = -1) (h2 : i' 0 2 = 0) : relO gen gc a g i a' i' := ⟨hG, Or.inl h1, fun _ => 0, 0, 0, fun _ => 0, fun _ => 0, 0, 0, 0, fun _ _ => 0, fun _ => 0, ⟨fun h9 => by rw [h1] at h9; exact absurd h9 (by decide), fun h9 => absurd h2 h9⟩, fun h9 => by rw [h1] at h9; exact absurd h9 (by decide)⟩
theorem gn_add {gen : Nat → Nat} {gc c : Nat} {a i a' i' i1 i2 : sA} (hG : gnO gen gc a i a' i') (hlt : gc < 4) (hc : isP c) (h1 : i1 0 1 = nI (gc + 1)) (h2 : i2 0 0 = nI (gc + 1)) : gnO (va_up gen gc c) (gc + 1) (va_up a 1 (upd (a 1) gc (nI c))) i1 (va_up a' 1 (upd (a' 1) gc (nI c))) i2 := by
  obtain ⟨g1, g2, g3, g4⟩ := hG
  refine ⟨by omega, h1, h2, fun k hk => ?_⟩
  rw [va_up_self, va_up_self]
  by_cases e : k = gc
  · subst e; rw [pk_us, pk_us, va_up_self]; exact ⟨rfl, rfl, hc⟩
  · rw [pk_un e, pk_un e, va_up_ne _ _ e]; exact g4 k (by omega)

set_option maxHeartbeats 4000000 in
set_option maxRecDepth 100000 in
theorem lc_add (hC : LC p s m meth c b L xs D E1 E2 A0 A1 A2 N0 M0) (hL : L ≤ 2048) {t : Nat} (ht : t + 3 < L) (hG : gnO gen gc a i a' i') (hO : i 0 2 = -1 ∨ ccO gen gc a g i) (hR : rdO gen gc a g i a' i' s9 n9 k9 kl re e9 p9 z9 W9 pl) (kk : ∀ (gen : Nat → Nat) (gc : Nat) (a : sA) (g : sG) (i a' i' : sA), relO gen gc a g i a' i' → LW p l e s m below meth c b D E1 E2 A0 A1 A2 N0 M0 566 [] t (cW a g i) (mW a' i')) : LW p l e s m below meth c b D E1 E2 A0 A1 A2 N0 M0 128 [] t (cW a g i) (mW a' i') := by
  refine lw_a1 hC dL_128 ?_
  refine lw_xs hC hL (q := 1) rfl (by omega) dL_129 dL_130 dL_131 dL_132 dL_133 ?_
  refine lw_c1 hC (n := 1) (y := yCc_add) (As := [.inl (xs (t + 1))]) (rest := []) (c_Cc_add l D E1 29 A1 (Nat.le_refl 29) (gc := gc) (x := xs (t + 1)) hG.1 hG.2.1) rfl rfl rfl mCc_add mnCc_add miCc_add (by decide +kernel) (by decide +kernel) ⟨by decide +kernel, by decide +kernel⟩ rfl rfl (Nat.le_of_ble_eq_true rfl) dL_134 (fun r1 w1 hp1 => ?_)
  rcases hp1 with ⟨hy, rfl, i1, rfl, hi0, hi1, hi2⟩ | ⟨hn, rfl, rfl⟩
  · show LW p l e s m below meth c b D E1 E2 A0 A1 A2 N0 M0 137 [.int 1] t _ _
    refine lw_pop hC dL_137 ?_
    show LW p l e s m below meth c b D E1 E2 A0 A1 A2 N0 M0 138 [] t _ _
    refine lw_a2 hC dL_138 ?_
    refine lw_xs hC hL (q := 1) rfl (by omega) dL_139 dL_140 dL_141 dL_142 dL_143 ?_
    refine lw_c2 hC (n := 1) (y := yMo_add) (As := [.inl (xs (t + 1))]) (rest := []) (c_Mo_add l D E2 11 A2 (Nat.le_refl 11) (gc := gc) (x := xs (t + 1)) hG.1 hG.2.2.1) rfl rfl rfl mMo_add mnMo_add miMo_add (by decide +kernel) (by decide +kernel) ⟨by decide +kernel, by decide +kernel⟩ rfl rfl (Nat.le_of_ble_eq_true rfl) dL_144 (fun r2 w2 hp2 => ?_)
    rcases hp2 with ⟨_, rfl, i2, rfl, hj0, hj1, hj2⟩ | ⟨hno, _⟩
    · show LW p l e s m below meth c b D E1 E2 A0 A1 A2 N0 M0 147 [.int 1] t _ _
      refine lw_pop hC dL_147 ?_
      refine lw_go hC (tgt := 566) dL_148 (by decide) ?_
      obtain ⟨c9, hc9, hx9⟩ := hy.2
      rw [hx9]
      exact kk _ _ _ _ _ _ _ (rel_new (gn_add hG hy.1 hc9 hi1 hj1) hi2 hj2)
    · exact absurd hy hno
  · show LW p l e s m below meth c b D E1 E2 A0 A1 A2 N0 M0 137 [.int 0] t _ _
    refine lw_pop hC dL_137 ?_
    show LW p l e s m below meth c b D E1 E2 A0 A1 A2 N0 M0 138 [] t _ _
    refine lw_a2 hC dL_138 ?_
    refine lw_xs hC hL (q := 1) rfl (by omega) dL_139 dL_140 dL_141 dL_142 dL_143 ?_
    refine lw_c2 hC (n := 1) (y := yMo_add) (As := [.inl (xs (t + 1))]) (rest := []) (c_Mo_add l D E2 11 A2 (Nat.le_refl 11) (gc := gc) (x := xs (t + 1)) hG.1 hG.2.2.1) rfl rfl rfl mMo_add mnMo_add miMo_add (by decide +kernel) (by decide +kernel) ⟨by decide +kernel, by decide +kernel⟩ rfl rfl (Nat.le_of_ble_eq_true rfl) dL_144 (fun r2 w2 hp2 => ?_)
    rcases hp2 with ⟨hyes, _⟩ | ⟨_, rfl, rfl⟩
    · exact absurd hyes hn
    · show LW p l e s m below meth c b D E1 E2 A0 A1 A2 N0 M0 147 [.int 0] t _ _
      refine lw_pop hC dL_147 ?_
      refine lw_go hC (tgt := 566) dL_148 (by decide) ?_
      exact kk _ _ _ _ _ _ _ ⟨hG, hO, s9, n9, k9, kl, re, e9, p9, z9, W9, pl, hR⟩
set_option maxHeartbeats 4000000 in
set_option maxRecDepth 100000 in
theorem lc_clear (hC : LC p s m meth c b L xs D E1 E2 A0 A1 A2 N0 M0) (hL : L ≤ 2048) {t : Nat} (ht : t + 3 < L) (hG : gnO gen gc a i a' i') (hO : i 0 2 = -1 ∨ ccO gen gc a g i) (hR : rdO gen gc a g i a' i' s9 n9 k9 kl re e9 p9 z9 W9 pl) (kk : ∀ (gen : Nat → Nat) (gc : Nat) (a : sA) (g : sG) (i a' i' : sA), relO gen gc a g i a' i' → LW p l e s m below meth c b D E1 E2 A0 A1 A2 N0 M0 566 [] t (cW a g i) (mW a' i')) : LW p l e s m below meth c b D E1 E2 A0 A1 A2 N0 M0 151 [] t (cW a g i) (mW a' i') := by
  refine lw_a1 hC dL_151 ?_
  refine lw_c1 hC (n := 0) (y := yCc_clear) (As := []) (rest := []) (c_Cc_clear l D E1 29 A1 (Nat.le_refl 29) ) rfl rfl rfl mCc_clear mnCc_clear miCc_clear (by decide +kernel) (by decide +kernel) ⟨by decide +kernel, by decide +kernel⟩ rfl rfl (Nat.le_of_ble_eq_true rfl) dL_152 (fun r1 w1 hp1 => ?_)
  obtain ⟨rfl, i1, rfl, hi0, hi1, hi2⟩ := hp1
  show LW p l e s m below meth c b D E1 E2 A0 A1 A2 N0 M0 155 [] t _ _
  refine lw_a2 hC dL_155 ?_
  refine lw_c2 hC (n := 0) (y := yMo_clear) (As := []) (rest := []) (c_Mo_clear l D E2 11 A2 (Nat.le_refl 11) ) rfl rfl rfl mMo_clear mnMo_clear miMo_clear (by decide +kernel) (by decide +kernel) ⟨by decide +kernel, by decide +kernel⟩ rfl rfl (Nat.le_of_ble_eq_true rfl) dL_156 (fun r2 w2 hp2 => ?_)
  obtain ⟨rfl, i2, rfl, hj0, hj1, hj2⟩ := hp2
  show LW p l e s m below meth c b D E1 E2 A0 A1 A2 N0 M0 159 [] t _ _
  refine lw_go hC (tgt := 566) dL_159 (by decide) ?_
  exact kk (fun _ => 0) 0 _ _ _ _ _ (rel_new ⟨by decide, hi1, hj1, fun k hk => absurd hk (Nat.not_lt_zero k)⟩ hi2 hj2)
set_option maxHeartbeats 4000000 in
set_option maxRecDepth 100000 in
theorem lc_build (hC : LC p s m meth c b L xs D E1 E2 A0 A1 A2 N0 M0) (hL : L ≤ 2048) {t : Nat} (ht : t + 3 < L) (hG : gnO gen gc a i a' i') (hO : i 0 2 = -1 ∨ ccO gen gc a g i) (hR : rdO gen gc a g i a' i' s9 n9 k9 kl re e9 p9 z9 W9 pl) (kk : ∀ (gen : Nat → Nat) (gc : Nat) (a : sA) (g : sG) (i a' i' : sA), relO gen gc a g i a' i' → LW p l e s m below meth c b D E1 E2 A0 A1 A2 N0 M0 566 [] t (cW a g i) (mW a' i')) : LW p l e s m below meth c b D E1 E2 A0 A1 A2 N0 M0 162 [] t (cW a g i) (mW a' i') := by
  refine lw_a1 hC dL_162 ?_
  refine lw_c1 hC (n := 0) (y := yCc_build) (As := []) (rest := []) (c_Cc_build l D E1 29 A1 (Nat.le_refl 29) (gen := gen) (gc := gc) hG.1 hG.2.1 (fun k hk => (hG.2.2.2 k hk).1) (fun k hk => (hG.2.2.2 k hk).2.2) hO) rfl rfl rfl mCc_build mnCc_build miCc_build (by decide +kernel) (by decide +kernel) ⟨by decide +kernel, by decide +kernel⟩ rfl rfl (Nat.le_of_ble_eq_true rfl) dL_163 (fun r1 w1 hp1 => ?_)
  obtain ⟨a1, g1, i1, rfl, ha1, hi01, rfl, hO1⟩ := hp1
  have hO2 := hO1
  rcases hO1 with ⟨hb0, s9, n9, k9, kl, re, e9, p9, z9, W9, pl, hT, hcc⟩ | ⟨hb0, hM⟩ | ⟨hb0, s8, n8, hS, hM⟩
  · rw [hb0]
    show LW p l e s m below meth c b D E1 E2 A0 A1 A2 N0 M0 166 [.int (0)] t _ _
    refine lw_pop hC dL_166 ?_
    show LW p l e s m below meth c b D E1 E2 A0 A1 A2 N0 M0 167 [] t _ _
    refine lw_a2 hC dL_167 ?_
    refine lw_c2 hC (n := 0) (y := yMo_build) (As := []) (rest := []) (c_Mo_build0 l D E2 11 A2 (Nat.le_refl 11) (gen := gen) (gc := gc) hG.1 hG.2.2.1 (fun k hk => (hG.2.2.2 k hk).2.1) (fun k hk => (hG.2.2.2 k hk).2.2) (s := s9) (n := n9) (k := k9) (kl := kl) (re := re) (e := e9) (p := p9) (z := z9) (W := W9) hT hcc.2.2.2.2.2.2.2.2.2.1 hcc.2.2.2.2.2.2.2.2.2.2.1) rfl rfl rfl mMo_build mnMo_build miMo_build (by decide +kernel) (by decide +kernel) ⟨by decide +kernel, by decide +kernel⟩ rfl rfl (Nat.le_of_ble_eq_true rfl) dL_168 (fun r2 w2 hp2 => ?_)
    obtain ⟨a2, i2, rfl, hb1, hj0, hj2, rfl, hmm⟩ := hp2
    show LW p l e s m below meth c b D E1 E2 A0 A1 A2 N0 M0 171 [.int 0] t _ _
    refine lw_pop hC dL_171 ?_
    refine lw_go hC (tgt := 566) dL_172 (by decide) ?_
    exact kk gen gc _ _ _ _ _ ⟨⟨hG.1, by rw [hi01]; exact hG.2.1, by rw [hj0]; exact hG.2.2.1, fun k hk => ⟨by rw [ha1]; exact (hG.2.2.2 k hk).1, by rw [hb1]; exact (hG.2.2.2 k hk).2.1, (hG.2.2.2 k hk).2.2⟩⟩, Or.inr hO2, s9, n9, k9, kl, re, e9, p9, z9, W9, pl, ⟨fun _ h8 => by rw [hj2] at h8; exact absurd h8 (by decide), fun _ => hb0⟩, fun _ => ⟨hT, hcc, hmm⟩⟩
  · rw [hb0]
    show LW p l e s m below meth c b D E1 E2 A0 A1 A2 N0 M0 166 [.int (1)] t _ _
    refine lw_pop hC dL_166 ?_
    show LW p l e s m below meth c b D E1 E2 A0 A1 A2 N0 M0 167 [] t _ _
    refine lw_a2 hC dL_167 ?_
    refine lw_c2 hC (n := 0) (y := yMo_build) (As := []) (rest := []) (c_Mo_build1 l D E2 11 A2 (Nat.le_refl 11) (gen := gen) (gc := gc) hG.1 hG.2.2.1 (fun k hk => (hG.2.2.2 k hk).2.1) (fun k hk => (hG.2.2.2 k hk).2.2) hM) rfl rfl rfl mMo_build mnMo_build miMo_build (by decide +kernel) (by decide +kernel) ⟨by decide +kernel, by decide +kernel⟩ rfl rfl (Nat.le_of_ble_eq_true rfl) dL_168 (fun r2 w2 hp2 => ?_)
    obtain ⟨a2, i2, rfl, hb1, hj0, hj2, rfl⟩ := hp2
    show LW p l e s m below meth c b D E1 E2 A0 A1 A2 N0 M0 171 [.int 1] t _ _
    refine lw_pop hC dL_171 ?_
    refine lw_go hC (tgt := 566) dL_172 (by decide) ?_
    exact kk gen gc _ _ _ _ _ ⟨⟨hG.1, by rw [hi01]; exact hG.2.1, by rw [hj0]; exact hG.2.2.1, fun k hk => ⟨by rw [ha1]; exact (hG.2.2.2 k hk).1, by rw [hb1]; exact (hG.2.2.2 k hk).2.1, (hG.2.2.2 k hk).2.2⟩⟩, Or.inr hO2, fun _ => 0, 0, 0, fun _ => 0, fun _ => 0, 0, 0, 0, fun _ _ => 0, fun _ => 0, ⟨fun h8 => by rw [hb0] at h8; exact absurd h8 (by decide), fun h8 => absurd hj2 h8⟩, fun h8 => by rw [hb0] at h8; exact absurd h8 (by decide)⟩
  · rw [hb0]
    show LW p l e s m below meth c b D E1 E2 A0 A1 A2 N0 M0 166 [.int (2)] t _ _
    refine lw_pop hC dL_166 ?_
    show LW p l e s m below meth c b D E1 E2 A0 A1 A2 N0 M0 167 [] t _ _
    refine lw_a2 hC dL_167 ?_
    refine lw_c2 hC (n := 0) (y := yMo_build) (As := []) (rest := []) (c_Mo_build2 l D E2 11 A2 (Nat.le_refl 11) (gen := gen) (gc := gc) hG.1 hG.2.2.1 (fun k hk => (hG.2.2.2 k hk).2.1) (fun k hk => (hG.2.2.2 k hk).2.2) hS hM) rfl rfl rfl mMo_build mnMo_build miMo_build (by decide +kernel) (by decide +kernel) ⟨by decide +kernel, by decide +kernel⟩ rfl rfl (Nat.le_of_ble_eq_true rfl) dL_168 (fun r2 w2 hp2 => ?_)
    obtain ⟨a2, i2, rfl, hb1, hj0, hj2, rfl⟩ := hp2
    show LW p l e s m below meth c b D E1 E2 A0 A1 A2 N0 M0 171 [.int 2] t _ _
    refine lw_pop hC dL_171 ?_
    refine lw_go hC (tgt := 566) dL_172 (by decide) ?_
    exact kk gen gc _ _ _ _ _ ⟨⟨hG.1, by rw [hi01]; exact hG.2.1, by rw [hj0]; exact hG.2.2.1, fun k hk => ⟨by rw [ha1]; exact (hG.2.2.2 k hk).1, by rw [hb1]; exact (hG.2.2.2 k hk).2.1, (hG.2.2.2 k hk).2.2⟩⟩, Or.inr hO2, fun _ => 0, 0, 0, fun _ => 0, fun _ => 0, 0, 0, 0, fun _ _ => 0, fun _ => 0, ⟨fun h8 => by rw [hb0] at h8; exact absurd h8 (by decide), fun h8 => absurd hj2 h8⟩, fun h8 => by rw [hb0] at h8; exact absurd h8 (by decide)⟩
end LCT
