-- the law: its cases
section LCS
variable {p : Program} {l : Launch} {e : Env} {s : State} {m : MethodId} {below : List Frame} {meth : Method} {c : Code} {b L : Nat} {xs : Nat → Int32} {D : va_G} {E1 E2 : sx_E} {A0 A1 A2 : Nat → Prop} {N0 M0 : Nat}
variable {gen : Nat → Nat} {gc : Nat} {a : sA} {g : sG} {i a' i' : sA} {s9 : Nat → Nat} {n9 k9 : Nat} {kl re : Nat → Nat} {e9 p9 z9 : Nat} {W9 : Nat → Nat → Nat} {pl : Nat → Nat}
set_option maxHeartbeats 4000000 in
set_option maxRecDepth 100000 in
theorem lc_order (hC : LC p s m meth c b L xs D E1 E2 A0 A1 A2 N0 M0) (hL : L ≤ 2048) {t : Nat} (ht : t + 3 < L) (hG : gnO gen gc a i a' i') (hO : i 0 2 = -1 ∨ ccO gen gc a g i) (hR : rdO gen gc a g i a' i' s9 n9 k9 kl re e9 p9 z9 W9 pl)  (kk : ∀ (gen : Nat → Nat) (gc : Nat) (a : sA) (g : sG) (i a' i' : sA), relO gen gc a g i a' i' → LW p l e s m below meth c b D E1 E2 A0 A1 A2 N0 M0 566 [] t (cW a g i) (mW a' i')) : LW p l e s m below meth c b D E1 E2 A0 A1 A2 N0 M0 175 [] t (cW a g i) (mW a' i') := by
  refine lw_a1 hC dL_175 ?_
  refine lw_c1 hC (n := 0) (y := yCc_order) (As := []) (rest := []) (c_Cc_order l D E1 29 A1 (Nat.le_refl 29) ) rfl rfl rfl mCc_order mnCc_order miCc_order (by decide +kernel) (by decide +kernel) ⟨by decide +kernel, by decide +kernel⟩ rfl rfl (Nat.le_of_ble_eq_true rfl) dL_176 (fun r1 w1 hp1 => ?_)
  obtain ⟨hp1, rfl⟩ := hp1
  obtain ⟨v1, rfl⟩ : ∃ v, r1 = some (.inl v) := (ri_int hp1)
  show LW p l e s m below meth c b D E1 E2 A0 A1 A2 N0 M0 179 [.int v1] t _ _
  refine lw_pop hC dL_179 ?_
  show LW p l e s m below meth c b D E1 E2 A0 A1 A2 N0 M0 180 [] t _ _
  refine lw_a2 hC dL_180 ?_
  refine lw_c2 hC (n := 0) (y := yMo_order) (As := []) (rest := []) (c_Mo_order l D E2 11 A2 (Nat.le_refl 11) ) rfl rfl rfl mMo_order mnMo_order miMo_order (by decide +kernel) (by decide +kernel) ⟨by decide +kernel, by decide +kernel⟩ rfl rfl (Nat.le_of_ble_eq_true rfl) dL_181 (fun r2 w2 hp2 => ?_)
  obtain ⟨hp2, rfl⟩ := hp2
  obtain ⟨v2, rfl⟩ : ∃ v, r2 = some (.inl v) := (ri_int hp2)
  show LW p l e s m below meth c b D E1 E2 A0 A1 A2 N0 M0 184 [.int v2] t _ _
  refine lw_pop hC dL_184 ?_
  refine lw_go hC (tgt := 566) dL_185 (by decide) ?_
  exact kk _ _ _ _ _ _ _ ⟨hG, hO, s9, n9, k9, kl, re, e9, p9, z9, W9, pl, hR⟩
set_option maxHeartbeats 4000000 in
set_option maxRecDepth 100000 in
theorem lc_classes (hC : LC p s m meth c b L xs D E1 E2 A0 A1 A2 N0 M0) (hL : L ≤ 2048) {t : Nat} (ht : t + 3 < L) (hG : gnO gen gc a i a' i') (hO : i 0 2 = -1 ∨ ccO gen gc a g i) (hR : rdO gen gc a g i a' i' s9 n9 k9 kl re e9 p9 z9 W9 pl)  (kk : ∀ (gen : Nat → Nat) (gc : Nat) (a : sA) (g : sG) (i a' i' : sA), relO gen gc a g i a' i' → LW p l e s m below meth c b D E1 E2 A0 A1 A2 N0 M0 566 [] t (cW a g i) (mW a' i')) : LW p l e s m below meth c b D E1 E2 A0 A1 A2 N0 M0 234 [] t (cW a g i) (mW a' i') := by
  refine lw_a1 hC dL_234 ?_
  refine lw_c1 hC (n := 0) (y := yCc_classes) (As := []) (rest := []) (c_Cc_classes l D E1 29 A1 (Nat.le_refl 29) ) rfl rfl rfl mCc_classes mnCc_classes miCc_classes (by decide +kernel) (by decide +kernel) ⟨by decide +kernel, by decide +kernel⟩ rfl rfl (Nat.le_of_ble_eq_true rfl) dL_235 (fun r1 w1 hp1 => ?_)
  obtain ⟨hp1, rfl⟩ := hp1
  obtain ⟨v1, rfl⟩ : ∃ v, r1 = some (.inl v) := (ri_int hp1)
  show LW p l e s m below meth c b D E1 E2 A0 A1 A2 N0 M0 238 [.int v1] t _ _
  refine lw_pop hC dL_238 ?_
  show LW p l e s m below meth c b D E1 E2 A0 A1 A2 N0 M0 239 [] t _ _
  refine lw_a2 hC dL_239 ?_
  refine lw_c2 hC (n := 0) (y := yMo_classes) (As := []) (rest := []) (c_Mo_classes l D E2 11 A2 (Nat.le_refl 11) ) rfl rfl rfl mMo_classes mnMo_classes miMo_classes (by decide +kernel) (by decide +kernel) ⟨by decide +kernel, by decide +kernel⟩ rfl rfl (Nat.le_of_ble_eq_true rfl) dL_240 (fun r2 w2 hp2 => ?_)
  obtain ⟨hp2, rfl⟩ := hp2
  obtain ⟨v2, rfl⟩ : ∃ v, r2 = some (.inl v) := (ri_int hp2)
  show LW p l e s m below meth c b D E1 E2 A0 A1 A2 N0 M0 243 [.int v2] t _ _
  refine lw_pop hC dL_243 ?_
  refine lw_go hC (tgt := 566) dL_244 (by decide) ?_
  exact kk _ _ _ _ _ _ _ ⟨hG, hO, s9, n9, k9, kl, re, e9, p9, z9, W9, pl, hR⟩
set_option maxHeartbeats 4000000 in
set_option maxRecDepth 100000 in
theorem lc_exponent (hC : LC p s m meth c b L xs D E1 E2 A0 A1 A2 N0 M0) (hL : L ≤ 2048) {t : Nat} (ht : t + 3 < L) (hG : gnO gen gc a i a' i') (hO : i 0 2 = -1 ∨ ccO gen gc a g i) (hR : rdO gen gc a g i a' i' s9 n9 k9 kl re e9 p9 z9 W9 pl)  (kk : ∀ (gen : Nat → Nat) (gc : Nat) (a : sA) (g : sG) (i a' i' : sA), relO gen gc a g i a' i' → LW p l e s m below meth c b D E1 E2 A0 A1 A2 N0 M0 566 [] t (cW a g i) (mW a' i')) : LW p l e s m below meth c b D E1 E2 A0 A1 A2 N0 M0 369 [] t (cW a g i) (mW a' i') := by
  refine lw_a1 hC dL_369 ?_
  refine lw_c1 hC (n := 0) (y := yCc_exponent) (As := []) (rest := []) (c_Cc_exponent l D E1 29 A1 (Nat.le_refl 29) ) rfl rfl rfl mCc_exponent mnCc_exponent miCc_exponent (by decide +kernel) (by decide +kernel) ⟨by decide +kernel, by decide +kernel⟩ rfl rfl (Nat.le_of_ble_eq_true rfl) dL_370 (fun r1 w1 hp1 => ?_)
  obtain ⟨hp1, rfl⟩ := hp1
  obtain ⟨v1, rfl⟩ : ∃ v, r1 = some (.inl v) := (ri_int hp1)
  show LW p l e s m below meth c b D E1 E2 A0 A1 A2 N0 M0 373 [.int v1] t _ _
  refine lw_pop hC dL_373 ?_
  show LW p l e s m below meth c b D E1 E2 A0 A1 A2 N0 M0 374 [] t _ _
  refine lw_a2 hC dL_374 ?_
  refine lw_c2 hC (n := 0) (y := yMo_exponent) (As := []) (rest := []) (c_Mo_exponent l D E2 11 A2 (Nat.le_refl 11) ) rfl rfl rfl mMo_exponent mnMo_exponent miMo_exponent (by decide +kernel) (by decide +kernel) ⟨by decide +kernel, by decide +kernel⟩ rfl rfl (Nat.le_of_ble_eq_true rfl) dL_375 (fun r2 w2 hp2 => ?_)
  obtain ⟨hp2, rfl⟩ := hp2
  obtain ⟨v2, rfl⟩ : ∃ v, r2 = some (.inl v) := (ri_int hp2)
  show LW p l e s m below meth c b D E1 E2 A0 A1 A2 N0 M0 378 [.int v2] t _ _
  refine lw_pop hC dL_378 ?_
  refine lw_go hC (tgt := 566) dL_379 (by decide) ?_
  exact kk _ _ _ _ _ _ _ ⟨hG, hO, s9, n9, k9, kl, re, e9, p9, z9, W9, pl, hR⟩
set_option maxHeartbeats 4000000 in
set_option maxRecDepth 100000 in
theorem lc_prime (hC : LC p s m meth c b L xs D E1 E2 A0 A1 A2 N0 M0) (hL : L ≤ 2048) {t : Nat} (ht : t + 3 < L) (hG : gnO gen gc a i a' i') (hO : i 0 2 = -1 ∨ ccO gen gc a g i) (hR : rdO gen gc a g i a' i' s9 n9 k9 kl re e9 p9 z9 W9 pl)  (kk : ∀ (gen : Nat → Nat) (gc : Nat) (a : sA) (g : sG) (i a' i' : sA), relO gen gc a g i a' i' → LW p l e s m below meth c b D E1 E2 A0 A1 A2 N0 M0 566 [] t (cW a g i) (mW a' i')) : LW p l e s m below meth c b D E1 E2 A0 A1 A2 N0 M0 382 [] t (cW a g i) (mW a' i') := by
  refine lw_a1 hC dL_382 ?_
  refine lw_c1 hC (n := 0) (y := yCc_prime) (As := []) (rest := []) (c_Cc_prime l D E1 29 A1 (Nat.le_refl 29) ) rfl rfl rfl mCc_prime mnCc_prime miCc_prime (by decide +kernel) (by decide +kernel) ⟨by decide +kernel, by decide +kernel⟩ rfl rfl (Nat.le_of_ble_eq_true rfl) dL_383 (fun r1 w1 hp1 => ?_)
  obtain ⟨hp1, rfl⟩ := hp1
  obtain ⟨v1, rfl⟩ : ∃ v, r1 = some (.inl v) := (ri_int hp1)
  show LW p l e s m below meth c b D E1 E2 A0 A1 A2 N0 M0 386 [.int v1] t _ _
  refine lw_pop hC dL_386 ?_
  show LW p l e s m below meth c b D E1 E2 A0 A1 A2 N0 M0 387 [] t _ _
  refine lw_a2 hC dL_387 ?_
  refine lw_c2 hC (n := 0) (y := yMo_prime) (As := []) (rest := []) (c_Mo_prime l D E2 11 A2 (Nat.le_refl 11) ) rfl rfl rfl mMo_prime mnMo_prime miMo_prime (by decide +kernel) (by decide +kernel) ⟨by decide +kernel, by decide +kernel⟩ rfl rfl (Nat.le_of_ble_eq_true rfl) dL_388 (fun r2 w2 hp2 => ?_)
  obtain ⟨hp2, rfl⟩ := hp2
  obtain ⟨v2, rfl⟩ : ∃ v, r2 = some (.inl v) := (ri_int hp2)
  show LW p l e s m below meth c b D E1 E2 A0 A1 A2 N0 M0 391 [.int v2] t _ _
  refine lw_pop hC dL_391 ?_
  refine lw_go hC (tgt := 566) dL_392 (by decide) ?_
  exact kk _ _ _ _ _ _ _ ⟨hG, hO, s9, n9, k9, kl, re, e9, p9, z9, W9, pl, hR⟩
set_option maxHeartbeats 4000000 in
set_option maxRecDepth 100000 in
theorem lc_root (hC : LC p s m meth c b L xs D E1 E2 A0 A1 A2 N0 M0) (hL : L ≤ 2048) {t : Nat} (ht : t + 3 < L) (hG : gnO gen gc a i a' i') (hO : i 0 2 = -1 ∨ ccO gen gc a g i) (hR : rdO gen gc a g i a' i' s9 n9 k9 kl re e9 p9 z9 W9 pl)  (kk : ∀ (gen : Nat → Nat) (gc : Nat) (a : sA) (g : sG) (i a' i' : sA), relO gen gc a g i a' i' → LW p l e s m below meth c b D E1 E2 A0 A1 A2 N0 M0 566 [] t (cW a g i) (mW a' i')) : LW p l e s m below meth c b D E1 E2 A0 A1 A2 N0 M0 395 [] t (cW a g i) (mW a' i') := by
  refine lw_a1 hC dL_395 ?_
  refine lw_c1 hC (n := 0) (y := yCc_root) (As := []) (rest := []) (c_Cc_root l D E1 29 A1 (Nat.le_refl 29) ) rfl rfl rfl mCc_root mnCc_root miCc_root (by decide +kernel) (by decide +kernel) ⟨by decide +kernel, by decide +kernel⟩ rfl rfl (Nat.le_of_ble_eq_true rfl) dL_396 (fun r1 w1 hp1 => ?_)
  obtain ⟨hp1, rfl⟩ := hp1
  obtain ⟨v1, rfl⟩ : ∃ v, r1 = some (.inl v) := (ri_int hp1)
  show LW p l e s m below meth c b D E1 E2 A0 A1 A2 N0 M0 399 [.int v1] t _ _
  refine lw_pop hC dL_399 ?_
  show LW p l e s m below meth c b D E1 E2 A0 A1 A2 N0 M0 400 [] t _ _
  refine lw_a2 hC dL_400 ?_
  refine lw_c2 hC (n := 0) (y := yMo_root) (As := []) (rest := []) (c_Mo_root l D E2 11 A2 (Nat.le_refl 11) ) rfl rfl rfl mMo_root mnMo_root miMo_root (by decide +kernel) (by decide +kernel) ⟨by decide +kernel, by decide +kernel⟩ rfl rfl (Nat.le_of_ble_eq_true rfl) dL_401 (fun r2 w2 hp2 => ?_)
  obtain ⟨hp2, rfl⟩ := hp2
  obtain ⟨v2, rfl⟩ : ∃ v, r2 = some (.inl v) := (ri_int hp2)
  show LW p l e s m below meth c b D E1 E2 A0 A1 A2 N0 M0 404 [.int v2] t _ _
  refine lw_pop hC dL_404 ?_
  refine lw_go hC (tgt := 566) dL_405 (by decide) ?_
  exact kk _ _ _ _ _ _ _ ⟨hG, hO, s9, n9, k9, kl, re, e9, p9, z9, W9, pl, hR⟩
set_option maxHeartbeats 4000000 in
set_option maxRecDepth 100000 in
theorem lc_element (hC : LC p s m meth c b L xs D E1 E2 A0 A1 A2 N0 M0) (hL : L ≤ 2048) {t : Nat} (ht : t + 3 < L) (hG : gnO gen gc a i a' i') (hO : i 0 2 = -1 ∨ ccO gen gc a g i) (hR : rdO gen gc a g i a' i' s9 n9 k9 kl re e9 p9 z9 W9 pl)  (kk : ∀ (gen : Nat → Nat) (gc : Nat) (a : sA) (g : sG) (i a' i' : sA), relO gen gc a g i a' i' → LW p l e s m below meth c b D E1 E2 A0 A1 A2 N0 M0 566 [] t (cW a g i) (mW a' i')) : LW p l e s m below meth c b D E1 E2 A0 A1 A2 N0 M0 188 [] t (cW a g i) (mW a' i') := by
  refine lw_a1 hC dL_188 ?_
  refine lw_xs hC hL (q := 1) rfl (by omega) dL_189 dL_190 dL_191 dL_192 dL_193 ?_
  refine lw_c1 hC (n := 1) (y := yCc_element) (As := [.inl (xs (t + 1))]) (rest := []) (c_Cc_element l D E1 29 A1 (Nat.le_refl 29) (n := n9) (x := xs (t + 1)) (rd_cn hR)) rfl rfl rfl mCc_element mnCc_element miCc_element (by decide +kernel) (by decide +kernel) ⟨by decide +kernel, by decide +kernel⟩ rfl rfl (Nat.le_of_ble_eq_true rfl) dL_194 (fun r1 w1 hp1 => ?_)
  obtain ⟨hp1, rfl⟩ := hp1
  obtain ⟨v1, rfl⟩ : ∃ v, r1 = some (.inl v) := by rcases hp1 with ⟨_, _, _, _, h⟩ | ⟨_, h⟩ <;> exact ⟨_, h⟩
  show LW p l e s m below meth c b D E1 E2 A0 A1 A2 N0 M0 197 [.int v1] t _ _
  refine lw_pop hC dL_197 ?_
  show LW p l e s m below meth c b D E1 E2 A0 A1 A2 N0 M0 198 [] t _ _
  refine lw_a2 hC dL_198 ?_
  refine lw_xs hC hL (q := 1) rfl (by omega) dL_199 dL_200 dL_201 dL_202 dL_203 ?_
  refine lw_c2 hC (n := 1) (y := yMo_element) (As := [.inl (xs (t + 1))]) (rest := []) (c_Mo_element l D E2 11 A2 (Nat.le_refl 11) (n := n9) (x := xs (t + 1)) (rd_mn hR)) rfl rfl rfl mMo_element mnMo_element miMo_element (by decide +kernel) (by decide +kernel) ⟨by decide +kernel, by decide +kernel⟩ rfl rfl (Nat.le_of_ble_eq_true rfl) dL_204 (fun r2 w2 hp2 => ?_)
  obtain ⟨hp2, rfl⟩ := hp2
  obtain ⟨v2, rfl⟩ : ∃ v, r2 = some (.inl v) := by rcases hp2 with ⟨_, _, _, _, h⟩ | ⟨_, h⟩ <;> exact ⟨_, h⟩
  show LW p l e s m below meth c b D E1 E2 A0 A1 A2 N0 M0 207 [.int v2] t _ _
  refine lw_pop hC dL_207 ?_
  refine lw_go hC (tgt := 566) dL_208 (by decide) ?_
  exact kk _ _ _ _ _ _ _ ⟨hG, hO, s9, n9, k9, kl, re, e9, p9, z9, W9, pl, hR⟩
set_option maxHeartbeats 4000000 in
set_option maxRecDepth 100000 in
theorem lc_size (hC : LC p s m meth c b L xs D E1 E2 A0 A1 A2 N0 M0) (hL : L ≤ 2048) {t : Nat} (ht : t + 3 < L) (hG : gnO gen gc a i a' i') (hO : i 0 2 = -1 ∨ ccO gen gc a g i) (hR : rdO gen gc a g i a' i' s9 n9 k9 kl re e9 p9 z9 W9 pl)  (kk : ∀ (gen : Nat → Nat) (gc : Nat) (a : sA) (g : sG) (i a' i' : sA), relO gen gc a g i a' i' → LW p l e s m below meth c b D E1 E2 A0 A1 A2 N0 M0 566 [] t (cW a g i) (mW a' i')) : LW p l e s m below meth c b D E1 E2 A0 A1 A2 N0 M0 247 [] t (cW a g i) (mW a' i') := by
  refine lw_a1 hC dL_247 ?_
  refine lw_xs hC hL (q := 1) rfl (by omega) dL_248 dL_249 dL_250 dL_251 dL_252 ?_
  refine lw_c1 hC (n := 1) (y := yCc_size) (As := [.inl (xs (t + 1))]) (rest := []) (c_Cc_size l D E1 29 A1 (Nat.le_refl 29) (k := k9) (x := xs (t + 1)) (rd_ck hR)) rfl rfl rfl mCc_size mnCc_size miCc_size (by decide +kernel) (by decide +kernel) ⟨by decide +kernel, by decide +kernel⟩ rfl rfl (Nat.le_of_ble_eq_true rfl) dL_253 (fun r1 w1 hp1 => ?_)
  obtain ⟨hp1, rfl⟩ := hp1
  obtain ⟨v1, rfl⟩ : ∃ v, r1 = some (.inl v) := by rcases hp1 with ⟨_, _, _, _, h⟩ | ⟨_, h⟩ <;> exact ⟨_, h⟩
  show LW p l e s m below meth c b D E1 E2 A0 A1 A2 N0 M0 256 [.int v1] t _ _
  refine lw_pop hC dL_256 ?_
  show LW p l e s m below meth c b D E1 E2 A0 A1 A2 N0 M0 257 [] t _ _
  refine lw_a2 hC dL_257 ?_
  refine lw_xs hC hL (q := 1) rfl (by omega) dL_258 dL_259 dL_260 dL_261 dL_262 ?_
  refine lw_c2 hC (n := 1) (y := yMo_size) (As := [.inl (xs (t + 1))]) (rest := []) (c_Mo_size l D E2 11 A2 (Nat.le_refl 11) (k := k9) (x := xs (t + 1)) (rd_mk hR)) rfl rfl rfl mMo_size mnMo_size miMo_size (by decide +kernel) (by decide +kernel) ⟨by decide +kernel, by decide +kernel⟩ rfl rfl (Nat.le_of_ble_eq_true rfl) dL_263 (fun r2 w2 hp2 => ?_)
  obtain ⟨hp2, rfl⟩ := hp2
  obtain ⟨v2, rfl⟩ : ∃ v, r2 = some (.inl v) := by rcases hp2 with ⟨_, _, _, _, h⟩ | ⟨_, h⟩ <;> exact ⟨_, h⟩
  show LW p l e s m below meth c b D E1 E2 A0 A1 A2 N0 M0 266 [.int v2] t _ _
  refine lw_pop hC dL_266 ?_
  refine lw_go hC (tgt := 566) dL_267 (by decide) ?_
  exact kk _ _ _ _ _ _ _ ⟨hG, hO, s9, n9, k9, kl, re, e9, p9, z9, W9, pl, hR⟩
set_option maxHeartbeats 4000000 in
set_option maxRecDepth 100000 in
theorem lc_least (hC : LC p s m meth c b L xs D E1 E2 A0 A1 A2 N0 M0) (hL : L ≤ 2048) {t : Nat} (ht : t + 3 < L) (hG : gnO gen gc a i a' i') (hO : i 0 2 = -1 ∨ ccO gen gc a g i) (hR : rdO gen gc a g i a' i' s9 n9 k9 kl re e9 p9 z9 W9 pl)  (kk : ∀ (gen : Nat → Nat) (gc : Nat) (a : sA) (g : sG) (i a' i' : sA), relO gen gc a g i a' i' → LW p l e s m below meth c b D E1 E2 A0 A1 A2 N0 M0 566 [] t (cW a g i) (mW a' i')) : LW p l e s m below meth c b D E1 E2 A0 A1 A2 N0 M0 270 [] t (cW a g i) (mW a' i') := by
  refine lw_a1 hC dL_270 ?_
  refine lw_xs hC hL (q := 1) rfl (by omega) dL_271 dL_272 dL_273 dL_274 dL_275 ?_
  refine lw_c1 hC (n := 1) (y := yCc_least) (As := [.inl (xs (t + 1))]) (rest := []) (c_Cc_least l D E1 29 A1 (Nat.le_refl 29) (k := k9) (x := xs (t + 1)) (rd_ck hR)) rfl rfl rfl mCc_least mnCc_least miCc_least (by decide +kernel) (by decide +kernel) ⟨by decide +kernel, by decide +kernel⟩ rfl rfl (Nat.le_of_ble_eq_true rfl) dL_276 (fun r1 w1 hp1 => ?_)
  obtain ⟨hp1, rfl⟩ := hp1
  obtain ⟨v1, rfl⟩ : ∃ v, r1 = some (.inl v) := by rcases hp1 with ⟨_, _, _, _, h⟩ | ⟨_, h⟩ <;> exact ⟨_, h⟩
  show LW p l e s m below meth c b D E1 E2 A0 A1 A2 N0 M0 279 [.int v1] t _ _
  refine lw_pop hC dL_279 ?_
  show LW p l e s m below meth c b D E1 E2 A0 A1 A2 N0 M0 280 [] t _ _
  refine lw_a2 hC dL_280 ?_
  refine lw_xs hC hL (q := 1) rfl (by omega) dL_281 dL_282 dL_283 dL_284 dL_285 ?_
  refine lw_c2 hC (n := 1) (y := yMo_least) (As := [.inl (xs (t + 1))]) (rest := []) (c_Mo_least l D E2 11 A2 (Nat.le_refl 11) (k := k9) (x := xs (t + 1)) (rd_mk hR)) rfl rfl rfl mMo_least mnMo_least miMo_least (by decide +kernel) (by decide +kernel) ⟨by decide +kernel, by decide +kernel⟩ rfl rfl (Nat.le_of_ble_eq_true rfl) dL_286 (fun r2 w2 hp2 => ?_)
  obtain ⟨hp2, rfl⟩ := hp2
  obtain ⟨v2, rfl⟩ : ∃ v, r2 = some (.inl v) := by rcases hp2 with ⟨_, _, _, _, h⟩ | ⟨_, h⟩ <;> exact ⟨_, h⟩
  show LW p l e s m below meth c b D E1 E2 A0 A1 A2 N0 M0 289 [.int v2] t _ _
  refine lw_pop hC dL_289 ?_
  refine lw_go hC (tgt := 566) dL_290 (by decide) ?_
  exact kk _ _ _ _ _ _ _ ⟨hG, hO, s9, n9, k9, kl, re, e9, p9, z9, W9, pl, hR⟩
set_option maxHeartbeats 4000000 in
set_option maxRecDepth 100000 in
theorem lc_degree (hC : LC p s m meth c b L xs D E1 E2 A0 A1 A2 N0 M0) (hL : L ≤ 2048) {t : Nat} (ht : t + 3 < L) (hG : gnO gen gc a i a' i') (hO : i 0 2 = -1 ∨ ccO gen gc a g i) (hR : rdO gen gc a g i a' i' s9 n9 k9 kl re e9 p9 z9 W9 pl)  (kk : ∀ (gen : Nat → Nat) (gc : Nat) (a : sA) (g : sG) (i a' i' : sA), relO gen gc a g i a' i' → LW p l e s m below meth c b D E1 E2 A0 A1 A2 N0 M0 566 [] t (cW a g i) (mW a' i')) : LW p l e s m below meth c b D E1 E2 A0 A1 A2 N0 M0 408 [] t (cW a g i) (mW a' i') := by
  refine lw_a1 hC dL_408 ?_
  refine lw_xs hC hL (q := 1) rfl (by omega) dL_409 dL_410 dL_411 dL_412 dL_413 ?_
  refine lw_c1 hC (n := 1) (y := yCc_degree) (As := [.inl (xs (t + 1))]) (rest := []) (c_Cc_degree l D E1 29 A1 (Nat.le_refl 29) (k := k9) (pl := pl) (x := xs (t + 1)) (rd_ck hR) (rd_pl hR)) rfl rfl rfl mCc_degree mnCc_degree miCc_degree (by decide +kernel) (by decide +kernel) ⟨by decide +kernel, by decide +kernel⟩ rfl rfl (Nat.le_of_ble_eq_true rfl) dL_414 (fun r1 w1 hp1 => ?_)
  obtain ⟨hp1, rfl⟩ := hp1
  obtain ⟨v1, rfl⟩ : ∃ v, r1 = some (.inl v) := by rcases hp1 with ⟨_, _, _, _, h⟩ | ⟨_, h⟩ <;> exact ⟨_, h⟩
  show LW p l e s m below meth c b D E1 E2 A0 A1 A2 N0 M0 417 [.int v1] t _ _
  refine lw_pop hC dL_417 ?_
  show LW p l e s m below meth c b D E1 E2 A0 A1 A2 N0 M0 418 [] t _ _
  refine lw_a2 hC dL_418 ?_
  refine lw_xs hC hL (q := 1) rfl (by omega) dL_419 dL_420 dL_421 dL_422 dL_423 ?_
  refine lw_c2 hC (n := 1) (y := yMo_degree) (As := [.inl (xs (t + 1))]) (rest := []) (c_Mo_degree l D E2 11 A2 (Nat.le_refl 11) (k := k9) (x := xs (t + 1)) (rd_mk hR)) rfl rfl rfl mMo_degree mnMo_degree miMo_degree (by decide +kernel) (by decide +kernel) ⟨by decide +kernel, by decide +kernel⟩ rfl rfl (Nat.le_of_ble_eq_true rfl) dL_424 (fun r2 w2 hp2 => ?_)
  obtain ⟨hp2, rfl⟩ := hp2
  obtain ⟨v2, rfl⟩ : ∃ v, r2 = some (.inl v) := by rcases hp2 with ⟨_, _, _, _, h⟩ | ⟨_, h⟩ <;> exact ⟨_, h⟩
  show LW p l e s m below meth c b D E1 E2 A0 A1 A2 N0 M0 427 [.int v2] t _ _
  refine lw_pop hC dL_427 ?_
  refine lw_go hC (tgt := 566) dL_428 (by decide) ?_
  exact kk _ _ _ _ _ _ _ ⟨hG, hO, s9, n9, k9, kl, re, e9, p9, z9, W9, pl, hR⟩
set_option maxHeartbeats 4000000 in
set_option maxRecDepth 100000 in
theorem lc_kernel (hC : LC p s m meth c b L xs D E1 E2 A0 A1 A2 N0 M0) (hL : L ≤ 2048) {t : Nat} (ht : t + 3 < L) (hG : gnO gen gc a i a' i') (hO : i 0 2 = -1 ∨ ccO gen gc a g i) (hR : rdO gen gc a g i a' i' s9 n9 k9 kl re e9 p9 z9 W9 pl)  (kk : ∀ (gen : Nat → Nat) (gc : Nat) (a : sA) (g : sG) (i a' i' : sA), relO gen gc a g i a' i' → LW p l e s m below meth c b D E1 E2 A0 A1 A2 N0 M0 566 [] t (cW a g i) (mW a' i')) : LW p l e s m below meth c b D E1 E2 A0 A1 A2 N0 M0 530 [] t (cW a g i) (mW a' i') := by
  refine lw_a1 hC dL_530 ?_
  refine lw_xs hC hL (q := 1) rfl (by omega) dL_531 dL_532 dL_533 dL_534 dL_535 ?_
  refine lw_c1 hC (n := 1) (y := yCc_kernel) (As := [.inl (xs (t + 1))]) (rest := []) (c_Cc_kernel l D E1 29 A1 (Nat.le_refl 29) (k := k9) (pl := pl) (x := xs (t + 1)) (rd_ck hR) (rd_pl hR)) rfl rfl rfl mCc_kernel mnCc_kernel miCc_kernel (by decide +kernel) (by decide +kernel) ⟨by decide +kernel, by decide +kernel⟩ rfl rfl (Nat.le_of_ble_eq_true rfl) dL_536 (fun r1 w1 hp1 => ?_)
  obtain ⟨hp1, rfl⟩ := hp1
  obtain ⟨v1, rfl⟩ : ∃ v, r1 = some (.inl v) := by rcases hp1 with ⟨_, _, _, _, h⟩ | ⟨_, h⟩ <;> exact ⟨_, h⟩
  show LW p l e s m below meth c b D E1 E2 A0 A1 A2 N0 M0 539 [.int v1] t _ _
  refine lw_pop hC dL_539 ?_
  show LW p l e s m below meth c b D E1 E2 A0 A1 A2 N0 M0 540 [] t _ _
  refine lw_a2 hC dL_540 ?_
  refine lw_xs hC hL (q := 1) rfl (by omega) dL_541 dL_542 dL_543 dL_544 dL_545 ?_
  refine lw_c2 hC (n := 1) (y := yMo_kernel) (As := [.inl (xs (t + 1))]) (rest := []) (c_Mo_kernel l D E2 11 A2 (Nat.le_refl 11) (k := k9) (x := xs (t + 1)) (rd_mk hR)) rfl rfl rfl mMo_kernel mnMo_kernel miMo_kernel (by decide +kernel) (by decide +kernel) ⟨by decide +kernel, by decide +kernel⟩ rfl rfl (Nat.le_of_ble_eq_true rfl) dL_546 (fun r2 w2 hp2 => ?_)
  obtain ⟨hp2, rfl⟩ := hp2
  obtain ⟨v2, rfl⟩ : ∃ v, r2 = some (.inl v) := by rcases hp2 with ⟨_, _, _, _, h⟩ | ⟨_, h⟩ <;> exact ⟨_, h⟩
  show LW p l e s m below meth c b D E1 E2 A0 A1 A2 N0 M0 549 [.int v2] t _ _
  refine lw_pop hC dL_549 ?_
  refine lw_go hC (tgt := 566) dL_550 (by decide) ?_
  exact kk _ _ _ _ _ _ _ ⟨hG, hO, s9, n9, k9, kl, re, e9, p9, z9, W9, pl, hR⟩
set_option maxHeartbeats 4000000 in
set_option maxRecDepth 100000 in
theorem lc_classOf (hC : LC p s m meth c b L xs D E1 E2 A0 A1 A2 N0 M0) (hL : L ≤ 2048) {t : Nat} (ht : t + 3 < L) (hG : gnO gen gc a i a' i') (hO : i 0 2 = -1 ∨ ccO gen gc a g i) (hR : rdO gen gc a g i a' i' s9 n9 k9 kl re e9 p9 z9 W9 pl)  (kk : ∀ (gen : Nat → Nat) (gc : Nat) (a : sA) (g : sG) (i a' i' : sA), relO gen gc a g i a' i' → LW p l e s m below meth c b D E1 E2 A0 A1 A2 N0 M0 566 [] t (cW a g i) (mW a' i')) : LW p l e s m below meth c b D E1 E2 A0 A1 A2 N0 M0 211 [] t (cW a g i) (mW a' i') := by
  refine lw_a1 hC dL_211 ?_
  refine lw_xs hC hL (q := 1) rfl (by omega) dL_212 dL_213 dL_214 dL_215 dL_216 ?_
  refine lw_c1 hC (n := 1) (y := yCc_classOf) (As := [.inl (xs (t + 1))]) (rest := []) (c_Cc_classOf l D E1 29 A1 (Nat.le_refl 29) (s := s9) (n := n9) (x := xs (t + 1)) (rd_el hR)) rfl rfl rfl mCc_classOf mnCc_classOf miCc_classOf (by decide +kernel) (by decide +kernel) ⟨by decide +kernel, by decide +kernel⟩ rfl rfl (Nat.le_of_ble_eq_true rfl) dL_217 (fun r1 w1 hp1 => ?_)
  obtain ⟨hp1, rfl⟩ := hp1
  obtain ⟨v1, rfl⟩ : ∃ v, r1 = some (.inl v) := by rcases hp1 with ⟨_, _, _, _, h⟩ | ⟨_, h⟩ <;> exact ⟨_, h⟩
  show LW p l e s m below meth c b D E1 E2 A0 A1 A2 N0 M0 220 [.int v1] t _ _
  refine lw_pop hC dL_220 ?_
  show LW p l e s m below meth c b D E1 E2 A0 A1 A2 N0 M0 221 [] t _ _
  refine lw_a2 hC dL_221 ?_
  refine lw_xs hC hL (q := 1) rfl (by omega) dL_222 dL_223 dL_224 dL_225 dL_226 ?_
  refine lw_c2 hC (n := 1) (y := yMo_classOf) (As := [.inl (xs (t + 1))]) (rest := []) (c_Mo_classOf l D E2 11 A2 (Nat.le_refl 11) (n := n9) (x := xs (t + 1)) (rd_mn hR)) rfl rfl rfl mMo_classOf mnMo_classOf miMo_classOf (by decide +kernel) (by decide +kernel) ⟨by decide +kernel, by decide +kernel⟩ rfl rfl (Nat.le_of_ble_eq_true rfl) dL_227 (fun r2 w2 hp2 => ?_)
  obtain ⟨hp2, rfl⟩ := hp2
  obtain ⟨v2, rfl⟩ : ∃ v, r2 = some (.inl v) := by rcases hp2 with ⟨_, _, _, _, h⟩ | ⟨_, h⟩ <;> exact ⟨_, h⟩
  show LW p l e s m below meth c b D E1 E2 A0 A1 A2 N0 M0 230 [.int v2] t _ _
  refine lw_pop hC dL_230 ?_
  refine lw_go hC (tgt := 566) dL_231 (by decide) ?_
  exact kk _ _ _ _ _ _ _ ⟨hG, hO, s9, n9, k9, kl, re, e9, p9, z9, W9, pl, hR⟩
set_option maxHeartbeats 4000000 in
set_option maxRecDepth 100000 in
theorem lc_value (hC : LC p s m meth c b L xs D E1 E2 A0 A1 A2 N0 M0) (hL : L ≤ 2048) {t : Nat} (ht : t + 3 < L) (hG : gnO gen gc a i a' i') (hO : i 0 2 = -1 ∨ ccO gen gc a g i) (hR : rdO gen gc a g i a' i' s9 n9 k9 kl re e9 p9 z9 W9 pl)  (kk : ∀ (gen : Nat → Nat) (gc : Nat) (a : sA) (g : sG) (i a' i' : sA), relO gen gc a g i a' i' → LW p l e s m below meth c b D E1 E2 A0 A1 A2 N0 M0 566 [] t (cW a g i) (mW a' i')) : LW p l e s m below meth c b D E1 E2 A0 A1 A2 N0 M0 431 [] t (cW a g i) (mW a' i') := by
  refine lw_a1 hC dL_431 ?_
  refine lw_xs hC hL (q := 1) rfl (by omega) dL_432 dL_433 dL_434 dL_435 dL_436 ?_
  refine lw_xs hC hL (q := 2) rfl (by omega) dL_437 dL_438 dL_439 dL_440 dL_441 ?_
  refine lw_c1 hC (n := 2) (y := yCc_value) (As := [.inl (xs (t + 1)), .inl (xs (t + 2))]) (rest := []) (c_Cc_value l D E1 29 A1 (Nat.le_refl 29) (k := k9) (pl := pl) (x := xs (t + 1)) (y := xs (t + 2)) (rd_ck hR) (rd_pl hR)) rfl rfl rfl mCc_value mnCc_value miCc_value (by decide +kernel) (by decide +kernel) ⟨by decide +kernel, by decide +kernel⟩ rfl rfl (Nat.le_of_ble_eq_true rfl) dL_442 (fun r1 w1 hp1 => ?_)
  obtain ⟨hp1, rfl⟩ := hp1
  obtain ⟨v1, rfl⟩ : ∃ v, r1 = some (.inl v) := by rcases hp1 with ⟨_, _, _, _, _, _, _, h⟩ | ⟨_, h⟩ <;> exact ⟨_, h⟩
  show LW p l e s m below meth c b D E1 E2 A0 A1 A2 N0 M0 445 [.int v1] t _ _
  refine lw_pop hC dL_445 ?_
  show LW p l e s m below meth c b D E1 E2 A0 A1 A2 N0 M0 446 [] t _ _
  refine lw_a2 hC dL_446 ?_
  refine lw_xs hC hL (q := 1) rfl (by omega) dL_447 dL_448 dL_449 dL_450 dL_451 ?_
  refine lw_xs hC hL (q := 2) rfl (by omega) dL_452 dL_453 dL_454 dL_455 dL_456 ?_
  refine lw_c2 hC (n := 2) (y := yMo_value) (As := [.inl (xs (t + 1)), .inl (xs (t + 2))]) (rest := []) (c_Mo_value l D E2 11 A2 (Nat.le_refl 11) (k := k9) (x := xs (t + 1)) (y := xs (t + 2)) (rd_mk hR)) rfl rfl rfl mMo_value mnMo_value miMo_value (by decide +kernel) (by decide +kernel) ⟨by decide +kernel, by decide +kernel⟩ rfl rfl (Nat.le_of_ble_eq_true rfl) dL_457 (fun r2 w2 hp2 => ?_)
  obtain ⟨hp2, rfl⟩ := hp2
  obtain ⟨v2, rfl⟩ : ∃ v, r2 = some (.inl v) := by rcases hp2 with ⟨_, _, _, _, _, _, _, h⟩ | ⟨_, h⟩ <;> exact ⟨_, h⟩
  show LW p l e s m below meth c b D E1 E2 A0 A1 A2 N0 M0 460 [.int v2] t _ _
  refine lw_pop hC dL_460 ?_
  refine lw_go hC (tgt := 566) dL_461 (by decide) ?_
  exact kk _ _ _ _ _ _ _ ⟨hG, hO, s9, n9, k9, kl, re, e9, p9, z9, W9, pl, hR⟩
set_option maxHeartbeats 4000000 in
set_option maxRecDepth 100000 in
theorem lc_power (hC : LC p s m meth c b L xs D E1 E2 A0 A1 A2 N0 M0) (hL : L ≤ 2048) {t : Nat} (ht : t + 3 < L) (hG : gnO gen gc a i a' i') (hO : i 0 2 = -1 ∨ ccO gen gc a g i) (hR : rdO gen gc a g i a' i' s9 n9 k9 kl re e9 p9 z9 W9 pl)  (kk : ∀ (gen : Nat → Nat) (gc : Nat) (a : sA) (g : sG) (i a' i' : sA), relO gen gc a g i a' i' → LW p l e s m below meth c b D E1 E2 A0 A1 A2 N0 M0 566 [] t (cW a g i) (mW a' i')) : LW p l e s m below meth c b D E1 E2 A0 A1 A2 N0 M0 293 [] t (cW a g i) (mW a' i') := by
  refine lw_a1 hC dL_293 ?_
  refine lw_xs hC hL (q := 1) rfl (by omega) dL_294 dL_295 dL_296 dL_297 dL_298 ?_
  refine lw_xs hC hL (q := 2) rfl (by omega) dL_299 dL_300 dL_301 dL_302 dL_303 ?_
  refine lw_c1 hC (n := 2) (y := yCc_power) (As := [.inl (xs (t + 1)), .inl (xs (t + 2))]) (rest := []) (c_Cc_power l D E1 29 A1 (Nat.le_refl 29) (k := k9) (e := e9) (x := xs (t + 1)) (y := xs (t + 2)) (rd_ck hR) (rd_ex hR)) rfl rfl rfl mCc_power mnCc_power miCc_power (by decide +kernel) (by decide +kernel) ⟨by decide +kernel, by decide +kernel⟩ rfl rfl (Nat.le_of_ble_eq_true rfl) dL_304 (fun r1 w1 hp1 => ?_)
  obtain ⟨hp1, rfl⟩ := hp1
  obtain ⟨v1, rfl⟩ : ∃ v, r1 = some (.inl v) := by rcases hp1 with ⟨_, _, _, _, _, _, _, h⟩ | ⟨_, h⟩ <;> exact ⟨_, h⟩
  show LW p l e s m below meth c b D E1 E2 A0 A1 A2 N0 M0 307 [.int v1] t _ _
  refine lw_pop hC dL_307 ?_
  show LW p l e s m below meth c b D E1 E2 A0 A1 A2 N0 M0 308 [] t _ _
  refine lw_a2 hC dL_308 ?_
  refine lw_xs hC hL (q := 1) rfl (by omega) dL_309 dL_310 dL_311 dL_312 dL_313 ?_
  refine lw_xs hC hL (q := 2) rfl (by omega) dL_314 dL_315 dL_316 dL_317 dL_318 ?_
  refine lw_c2 hC (n := 2) (y := yMo_power) (As := [.inl (xs (t + 1)), .inl (xs (t + 2))]) (rest := []) (c_Mo_power l D E2 11 A2 (Nat.le_refl 11) (x := xs (t + 1)) (y := xs (t + 2)) (rd_mt hR)) rfl rfl rfl mMo_power mnMo_power miMo_power (by decide +kernel) (by decide +kernel) ⟨by decide +kernel, by decide +kernel⟩ rfl rfl (Nat.le_of_ble_eq_true rfl) dL_319 (fun r2 w2 hp2 => ?_)
  obtain ⟨hp2, rfl⟩ := hp2
  obtain ⟨v2, rfl⟩ : ∃ v, r2 = some (.inl v) := by rcases hp2 with ⟨_, _, _, _, _, _, _, h⟩ | ⟨_, h⟩ <;> exact ⟨_, h⟩
  show LW p l e s m below meth c b D E1 E2 A0 A1 A2 N0 M0 322 [.int v2] t _ _
  refine lw_pop hC dL_322 ?_
  refine lw_go hC (tgt := 566) dL_323 (by decide) ?_
  exact kk _ _ _ _ _ _ _ ⟨hG, hO, s9, n9, k9, kl, re, e9, p9, z9, W9, pl, hR⟩
set_option maxHeartbeats 4000000 in
set_option maxRecDepth 100000 in
theorem lc_constant (hC : LC p s m meth c b L xs D E1 E2 A0 A1 A2 N0 M0) (hL : L ≤ 2048) {t : Nat} (ht : t + 3 < L) (hG : gnO gen gc a i a' i') (hO : i 0 2 = -1 ∨ ccO gen gc a g i) (hR : rdO gen gc a g i a' i' s9 n9 k9 kl re e9 p9 z9 W9 pl)  (kk : ∀ (gen : Nat → Nat) (gc : Nat) (a : sA) (g : sG) (i a' i' : sA), relO gen gc a g i a' i' → LW p l e s m below meth c b D E1 E2 A0 A1 A2 N0 M0 566 [] t (cW a g i) (mW a' i')) : LW p l e s m below meth c b D E1 E2 A0 A1 A2 N0 M0 326 [] t (cW a g i) (mW a' i') := by
  refine lw_a1 hC dL_326 ?_
  refine lw_xs hC hL (q := 1) rfl (by omega) dL_327 dL_328 dL_329 dL_330 dL_331 ?_
  refine lw_xs hC hL (q := 2) rfl (by omega) dL_332 dL_333 dL_334 dL_335 dL_336 ?_
  refine lw_xs hC hL (q := 3) rfl (by omega) dL_337 dL_338 dL_339 dL_340 dL_341 ?_
  refine lw_c1 hC (n := 3) (y := yCc_constant) (As := [.inl (xs (t + 1)), .inl (xs (t + 2)), .inl (xs (t + 3))]) (rest := []) (c_Cc_constant l D E1 29 A1 (Nat.le_refl 29) (k := k9) (x := xs (t + 1)) (y := xs (t + 2)) (z := xs (t + 3)) (rd_ck hR)) rfl rfl rfl mCc_constant mnCc_constant miCc_constant (by decide +kernel) (by decide +kernel) ⟨by decide +kernel, by decide +kernel⟩ rfl rfl (Nat.le_of_ble_eq_true rfl) dL_342 (fun r1 w1 hp1 => ?_)
  obtain ⟨hp1, rfl⟩ := hp1
  obtain ⟨v1, rfl⟩ : ∃ v, r1 = some (.inl v) := by rcases hp1 with ⟨_, _, _, _, _, _, _, _, _, _, h⟩ | ⟨_, h⟩ <;> exact ⟨_, h⟩
  show LW p l e s m below meth c b D E1 E2 A0 A1 A2 N0 M0 345 [.int v1] t _ _
  refine lw_pop hC dL_345 ?_
  show LW p l e s m below meth c b D E1 E2 A0 A1 A2 N0 M0 346 [] t _ _
  refine lw_a2 hC dL_346 ?_
  refine lw_xs hC hL (q := 1) rfl (by omega) dL_347 dL_348 dL_349 dL_350 dL_351 ?_
  refine lw_xs hC hL (q := 2) rfl (by omega) dL_352 dL_353 dL_354 dL_355 dL_356 ?_
  refine lw_xs hC hL (q := 3) rfl (by omega) dL_357 dL_358 dL_359 dL_360 dL_361 ?_
  refine lw_c2 hC (n := 3) (y := yMo_constant) (As := [.inl (xs (t + 1)), .inl (xs (t + 2)), .inl (xs (t + 3))]) (rest := []) (c_Mo_constant l D E2 11 A2 (Nat.le_refl 11) (k := k9) (x := xs (t + 1)) (y := xs (t + 2)) (z := xs (t + 3)) (rd_mk hR)) rfl rfl rfl mMo_constant mnMo_constant miMo_constant (by decide +kernel) (by decide +kernel) ⟨by decide +kernel, by decide +kernel⟩ rfl rfl (Nat.le_of_ble_eq_true rfl) dL_362 (fun r2 w2 hp2 => ?_)
  obtain ⟨hp2, rfl⟩ := hp2
  obtain ⟨v2, rfl⟩ : ∃ v, r2 = some (.inl v) := by rcases hp2 with ⟨_, _, _, _, _, _, _, _, _, _, h⟩ | ⟨_, h⟩ <;> exact ⟨_, h⟩
  show LW p l e s m below meth c b D E1 E2 A0 A1 A2 N0 M0 365 [.int v2] t _ _
  refine lw_pop hC dL_365 ?_
  refine lw_go hC (tgt := 566) dL_366 (by decide) ?_
  exact kk _ _ _ _ _ _ _ ⟨hG, hO, s9, n9, k9, kl, re, e9, p9, z9, W9, pl, hR⟩
set_option maxHeartbeats 4000000 in
set_option maxRecDepth 100000 in
theorem lc_multiplicity (hC : LC p s m meth c b L xs D E1 E2 A0 A1 A2 N0 M0) (hL : L ≤ 2048) {t : Nat} (ht : t + 3 < L) (hG : gnO gen gc a i a' i') (hO : i 0 2 = -1 ∨ ccO gen gc a g i) (hR : rdO gen gc a g i a' i' s9 n9 k9 kl re e9 p9 z9 W9 pl) (hE : i 0 2 = 0 → rwE k9 a g a' pl) (kk : ∀ (gen : Nat → Nat) (gc : Nat) (a : sA) (g : sG) (i a' i' : sA), relO gen gc a g i a' i' → LW p l e s m below meth c b D E1 E2 A0 A1 A2 N0 M0 566 [] t (cW a g i) (mW a' i')) : LW p l e s m below meth c b D E1 E2 A0 A1 A2 N0 M0 464 [] t (cW a g i) (mW a' i') := by
  refine lw_a1 hC dL_464 ?_
  refine lw_xs hC hL (q := 1) rfl (by omega) dL_465 dL_466 dL_467 dL_468 dL_469 ?_
  refine lw_xs hC hL (q := 2) rfl (by omega) dL_470 dL_471 dL_472 dL_473 dL_474 ?_
  refine lw_xs hC hL (q := 3) rfl (by omega) dL_475 dL_476 dL_477 dL_478 dL_479 ?_
  refine lw_c1 hC (n := 3) (y := yCc_multiplicity) (As := [.inl (xs (t + 1)), .inl (xs (t + 2)), .inl (xs (t + 3))]) (rest := []) (c_Cc_multiplicity l D E1 29 A1 (Nat.le_refl 29) (k := k9) (e := e9) (p := p9) (z := z9) (pl := pl) (pc := fun c t => kl (pw (re c) t)) (V := vCc g) (x := xs (t + 1)) (y := xs (t + 2)) (zz := xs (t + 3)) (rd_ck hR) (rd_pl hR) (rd_ti hR)) rfl rfl rfl mCc_multiplicity mnCc_multiplicity miCc_multiplicity (by decide +kernel) (by decide +kernel) ⟨by decide +kernel, by decide +kernel⟩ rfl rfl (Nat.le_of_ble_eq_true rfl) dL_480 (fun r1 w1 hp1 => ?_)
  obtain ⟨hp1, rfl⟩ := hp1
  obtain ⟨v1, rfl⟩ : ∃ v, r1 = some (.inl v) := by rcases hp1 with ⟨_, _, _, _, _, _, _, _, _, _, _, h, _⟩ | ⟨_, h⟩ <;> exact ⟨_, h⟩
  show LW p l e s m below meth c b D E1 E2 A0 A1 A2 N0 M0 483 [.int v1] t _ _
  refine lw_a2 hC dL_483 ?_
  refine lw_xs hC hL (q := 1) rfl (by omega) dL_484 dL_485 dL_486 dL_487 dL_488 ?_
  refine lw_xs hC hL (q := 2) rfl (by omega) dL_489 dL_490 dL_491 dL_492 dL_493 ?_
  refine lw_xs hC hL (q := 3) rfl (by omega) dL_494 dL_495 dL_496 dL_497 dL_498 ?_
  refine lw_c2 hC (n := 3) (y := yMo_multiplicity) (As := [.inl (xs (t + 1)), .inl (xs (t + 2)), .inl (xs (t + 3))]) (rest := [.int v1]) (c_Mo_multiplicity l D E2 11 A2 (Nat.le_refl 11) (e := e9) (p := p9) (z := z9) (V := vMo a') (x := xs (t + 1)) (y := xs (t + 2)) (zz := xs (t + 3)) (rd_mt hR) (rd_md hR) (rd_mV hR) (rd_tm hR)) rfl rfl rfl mMo_multiplicity mnMo_multiplicity miMo_multiplicity (by decide +kernel) (by decide +kernel) ⟨by decide +kernel, by decide +kernel⟩ rfl rfl (Nat.le_of_ble_eq_true rfl) dL_499 (fun r2 w2 hp2 => ?_)
  obtain ⟨hp2, rfl⟩ := hp2
  obtain ⟨v2, rfl⟩ : ∃ v, r2 = some (.inl v) := by rcases hp2 with ⟨_, _, _, _, _, _, _, _, _, _, _, _, h, _⟩ | ⟨_, h⟩ <;> exact ⟨_, h⟩
  show LW p l e s m below meth c b D E1 E2 A0 A1 A2 N0 M0 502 [.int v2, .int v1] t _ _
  have hcmp : v1 = v2 := by
    by_cases h9 : i 0 2 = 0
    · rcases hp1 with ⟨h1, j, q, m9, v, hj, hq, hm, hx, hy, hz, h, hv, hs⟩ | ⟨h1, h⟩ <;> rcases hp2 with ⟨h2, j', q', m', v', b', hj', hq', hm', hx', hy', hz', h', hv', hb', hbz, hs'⟩ | ⟨h2, h'⟩
      · have hk := (rd_ck hR h9).1
        have hee := (rd_ex hR h9).2.1
        have e1 : j = j' := (nI_eq (by omega) (by omega)).mp (hx.symm.trans hx')
        have e2 : q = q' := (nI_eq (by omega) (by omega)).mp (hy.symm.trans hy')
        have e3 : m9 = m' := (nI_eq (by omega) (by omega)).mp (hz.symm.trans hz')
        subst e1
        subst e2
        subst e3
        rw [sxl_in h, sxl_in h', e_mult hR hE h9 hj hq hm hv hv' hb' hbz hs hs']
      · exact absurd ⟨hR.1.1 h9, ⟨j, hj, hx⟩, ⟨q, hq, hy⟩, ⟨m9, hm, hz⟩⟩ h2
      · exact absurd ⟨h9, ⟨j', hj', hx'⟩, ⟨q', hq', hy'⟩, ⟨m', hm', hz'⟩⟩ h1
      · rw [sxl_in h, sxl_in h']
    · rcases hp1 with ⟨h1, _⟩ | ⟨h1, h⟩
      · exact absurd h1 h9
      · rcases hp2 with ⟨h2, _⟩ | ⟨h2, h'⟩
        · exact absurd (hR.1.2 h2) h9
        · rw [sxl_in h, sxl_in h']
  refine lw_eq hC (tgt := 566) hcmp dL_502 (by decide) ?_
  exact kk _ _ _ _ _ _ _ ⟨hG, hO, s9, n9, k9, kl, re, e9, p9, z9, W9, pl, hR⟩
set_option maxHeartbeats 4000000 in
set_option maxRecDepth 100000 in
theorem lc_indicator (hC : LC p s m meth c b L xs D E1 E2 A0 A1 A2 N0 M0) (hL : L ≤ 2048) {t : Nat} (ht : t + 3 < L) (hG : gnO gen gc a i a' i') (hO : i 0 2 = -1 ∨ ccO gen gc a g i) (hR : rdO gen gc a g i a' i' s9 n9 k9 kl re e9 p9 z9 W9 pl)  (kk : ∀ (gen : Nat → Nat) (gc : Nat) (a : sA) (g : sG) (i a' i' : sA), relO gen gc a g i a' i' → LW p l e s m below meth c b D E1 E2 A0 A1 A2 N0 M0 566 [] t (cW a g i) (mW a' i')) : LW p l e s m below meth c b D E1 E2 A0 A1 A2 N0 M0 507 [] t (cW a g i) (mW a' i') := by
  refine lw_a1 hC dL_507 ?_
  refine lw_xs hC hL (q := 1) rfl (by omega) dL_508 dL_509 dL_510 dL_511 dL_512 ?_
  refine lw_c1 hC (n := 1) (y := yCc_indicator) (As := [.inl (xs (t + 1))]) (rest := []) (c_Cc_indicator l D E1 29 A1 (Nat.le_refl 29) (k := k9) (pl := pl) (x := xs (t + 1)) (rd_ck hR) (rd_pl hR)) rfl rfl rfl mCc_indicator mnCc_indicator miCc_indicator (by decide +kernel) (by decide +kernel) ⟨by decide +kernel, by decide +kernel⟩ rfl rfl (Nat.le_of_ble_eq_true rfl) dL_513 (fun r1 w1 hp1 => ?_)
  obtain ⟨hp1, rfl⟩ := hp1
  obtain ⟨v1, rfl⟩ : ∃ v, r1 = some (.inl v) := by rcases hp1 with ⟨_, _, _, _, h⟩ | ⟨_, h⟩ <;> exact ⟨_, h⟩
  show LW p l e s m below meth c b D E1 E2 A0 A1 A2 N0 M0 516 [.int v1] t _ _
  refine lw_pop hC dL_516 ?_
  show LW p l e s m below meth c b D E1 E2 A0 A1 A2 N0 M0 517 [] t _ _
  refine lw_a2 hC dL_517 ?_
  refine lw_xs hC hL (q := 1) rfl (by omega) dL_518 dL_519 dL_520 dL_521 dL_522 ?_
  refine lw_c2 hC (n := 1) (y := yMo_indicator) (As := [.inl (xs (t + 1))]) (rest := []) (c_Mo_indicator l D E2 11 A2 (Nat.le_refl 11) (p := p9) (V := vMo a') (x := xs (t + 1)) (rd_mt hR) (rd_md hR) (rd_mV hR) (fun h9 => (rd_nd hR (hR.1.2 h9)).2.2.1)) rfl rfl rfl mMo_indicator mnMo_indicator miMo_indicator (by decide +kernel) (by decide +kernel) ⟨by decide +kernel, by decide +kernel⟩ rfl rfl (Nat.le_of_ble_eq_true rfl) dL_523 (fun r2 w2 hp2 => ?_)
  obtain ⟨hp2, rfl⟩ := hp2
  obtain ⟨v2, rfl⟩ : ∃ v, r2 = some (.inl v) := by rcases hp2 with ⟨_, _, _, _, _, h, _⟩ | ⟨_, h⟩ <;> exact ⟨_, h⟩
  show LW p l e s m below meth c b D E1 E2 A0 A1 A2 N0 M0 526 [.int v2] t _ _
  refine lw_pop hC dL_526 ?_
  refine lw_go hC (tgt := 566) dL_527 (by decide) ?_
  exact kk _ _ _ _ _ _ _ ⟨hG, hO, s9, n9, k9, kl, re, e9, p9, z9, W9, pl, hR⟩
theorem rel_10 (f : Nat → Int32) (h : relO gen gc a g i a' i') : relO gen gc a g i (va_up a' 10 f) i' := by
  obtain ⟨⟨g1, g2, g3, g4⟩, hO, s9, n9, k9, kl, re, e9, p9, z9, W9, pl, h1, h2⟩ := h
  have hn : ∀ x, x ≠ 10 → va_up a' 10 f x = a' x := fun x hx => va_up_ne _ _ hx
  refine ⟨⟨g1, g2, g3, fun k hk => by rw [hn 1 (by decide)]; exact g4 k hk⟩, hO, s9, n9, k9, kl, re, e9, p9, z9, W9, pl, h1, fun h9 => ?_⟩
  obtain ⟨q1, q2, q3, q4, q5, q6, ta, q7, q8, q9⟩ := h2 h9
  refine ⟨q1, q2, mt_fr q3 (hn 2 (by decide)) (hn 3 (by decide)) (hn 4 (by decide)) (hn 5 (by decide)) rfl rfl, md_fr q4 (hn 6 (by decide)) rfl rfl, q5, q6, ta, ?_, q8, ?_⟩
  · unfold rwM
    rw [hn 8 (by decide), hn 9 (by decide)]
    exact q7
  · rw [hn 8 (by decide), hn 9 (by decide)]
    exact q9

set_option maxHeartbeats 4000000 in
set_option maxRecDepth 100000 in
theorem lc_normals (hC : LC p s m meth c b L xs D E1 E2 A0 A1 A2 N0 M0) (hL : L ≤ 2048) {t : Nat} (ht : t + 3 < L) (hG : gnO gen gc a i a' i') (hO : i 0 2 = -1 ∨ ccO gen gc a g i) (hR : rdO gen gc a g i a' i' s9 n9 k9 kl re e9 p9 z9 W9 pl)  (kk : ∀ (gen : Nat → Nat) (gc : Nat) (a : sA) (g : sG) (i a' i' : sA), relO gen gc a g i a' i' → LW p l e s m below meth c b D E1 E2 A0 A1 A2 N0 M0 566 [] t (cW a g i) (mW a' i')) : LW p l e s m below meth c b D E1 E2 A0 A1 A2 N0 M0 553 [] t (cW a g i) (mW a' i') := by
  refine lw_a1 hC dL_553 ?_
  refine lw_c1 hC (n := 0) (y := yCc_normals) (As := []) (rest := []) (c_Cc_normals l D E1 29 A1 (Nat.le_refl 29) ) rfl rfl rfl mCc_normals mnCc_normals miCc_normals (by decide +kernel) (by decide +kernel) ⟨by decide +kernel, by decide +kernel⟩ rfl rfl (Nat.le_of_ble_eq_true rfl) dL_554 (fun r1 w1 hp1 => ?_)
  obtain ⟨hp1, rfl⟩ := hp1
  obtain ⟨v1, rfl⟩ : ∃ v, r1 = some (.inl v) := (ri_int hp1)
  show LW p l e s m below meth c b D E1 E2 A0 A1 A2 N0 M0 557 [.int v1] t _ _
  refine lw_pop hC dL_557 ?_
  show LW p l e s m below meth c b D E1 E2 A0 A1 A2 N0 M0 558 [] t _ _
  refine lw_a2 hC dL_558 ?_
  refine lw_c2 hC (n := 0) (y := yMo_normals) (As := []) (rest := []) (c_Mo_normals l D E2 11 A2 (Nat.le_refl 11) (k := k9) (rd_mk hR)) rfl rfl rfl mMo_normals mnMo_normals miMo_normals (by decide +kernel) (by decide +kernel) ⟨by decide +kernel, by decide +kernel⟩ rfl rfl (Nat.le_of_ble_eq_true rfl) dL_559 (fun r2 w2 hp2 => ?_)
  skip
  obtain ⟨v2, rfl⟩ : ∃ v, r2 = some (.inl v) := by rcases hp2 with ⟨_, _, _, _, h, _⟩ | ⟨_, h, _⟩ <;> exact ⟨_, h⟩
  show LW p l e s m below meth c b D E1 E2 A0 A1 A2 N0 M0 562 [.int v2] t _ _
  refine lw_pop hC dL_562 ?_
  refine lw_go hC (tgt := 566) dL_563 (by decide) ?_
  have hw : ∃ f9 : Nat → Int32, w2 = mW (va_up a' 10 f9) i' := by
    rcases hp2 with ⟨_, L9, f9, h, _⟩ | ⟨_, _, h⟩
    · exact ⟨f9, h⟩
    · exact ⟨a' 10, by rw [h, va_id a' (k := 10) rfl]⟩
  obtain ⟨f9, rfl⟩ := hw
  exact kk _ _ _ _ _ _ _ (rel_10 f9 ⟨hG, hO, s9, n9, k9, kl, re, e9, p9, z9, W9, pl, hR⟩)
end LCS
