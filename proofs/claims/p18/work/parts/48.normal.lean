-- sets that kernels have in common
theorem i128 : (Int16.ofInt 128).toInt32 = nI 128 := by decide +kernel

set_option maxHeartbeats 4000000 in
set_option maxRecDepth 100000 in
theorem c_Ro_includeNormal (l : Launch) (D : va_G) (E : sx_E) (B : Nat) (A : Nat → Prop) (hB : 29 ≤ B) {a : sA} {g : sG} {i : sA} {c : Nat} (h7 : i 22 7 = nI c) (hc : c ≤ 128) (x : Int32) : sM l D E B A yRo_includeNormal prog_7_method_10_code 3 none 0 0 [.inr (22, 0), .inl x] (cW a g i) (fun r w' => r = none ∧ (((∃ j, j < c ∧ a 28 j = x) ∧ w' = cW a g i) ∨ ((¬ ∃ j, j < c ∧ a 28 j = x) ∧ c = 128 ∧ w' = cW a g i) ∨ ((¬ ∃ j, j < c ∧ a 28 j = x) ∧ c < 128 ∧ w' = cW (va_up a 28 (upd (a 28) c x)) g (va_up i 22 (va_up (i 22) 7 (nI (c + 1))))))) := by
  refine sx_m0 (ls := lRo_includeNormal) (cs := noCalls) (by decide +kernel) kRo_includeNormal (fun pc i h1 h2 => sx_nc (ls := lRo_includeNormal) (by decide) pc i h1 h2) (by simp) (fun x w' h => by cases h.1) ?_
  intro Z hZ
  have loop : ∀ n q, n + q = c → (∀ j, j < q → a 28 j ≠ x) → Z 2 [some (.inr (22, 0)), some (.inl x), some (.inl (nI q))] [] (cW a g i) := by
    intro n
    induction n with
    | zero =>
      intro q hn h1
      have e : q = c := by omega
      subst e
      by_cases e128 : q = 128
      · refine z_iload_n hZ gRo_includeNormal_2 rfl ?_
        refine z_aload_n hZ gRo_includeNormal_3 rfl ?_
        refine z_get hZ gRo_includeNormal_4 (by omega) rfl (by rw [h7]; rfl) ?_
        refine z_cmpge hZ gRo_includeNormal_7 (fun c7 => ?_) (fun c7 => absurd (nI_le (Nat.le_refl q) (by omega)) c7)
        refine z_aload_n hZ gRo_includeNormal_27 rfl ?_
        refine z_get hZ gRo_includeNormal_28 (by omega) rfl (by rw [h7]; rfl) ?_
        refine z_sipush hZ gRo_includeNormal_31 _ i128 ?_
        refine z_cmpge hZ gRo_includeNormal_34 (fun c34 => ?_) (fun c34 => absurd (nI_le (show 128 ≤ q by omega) (by omega)) c34)
        refine z_vret hZ gRo_includeNormal_57 ?_
        exact ⟨rfl, Or.inr (Or.inl ⟨fun ⟨j, hj, h9⟩ => h1 j hj h9, e128, rfl⟩)⟩
      · have eq0 : (nI q).toNatClampNeg = q := nI_clamp (by omega)
        refine z_iload_n hZ gRo_includeNormal_2 rfl ?_
        refine z_aload_n hZ gRo_includeNormal_3 rfl ?_
        refine z_get hZ gRo_includeNormal_4 (by omega) rfl (by rw [h7]; rfl) ?_
        refine z_cmpge hZ gRo_includeNormal_7 (fun c7 => ?_) (fun c7 => absurd (nI_le (Nat.le_refl q) (by omega)) c7)
        refine z_aload_n hZ gRo_includeNormal_27 rfl ?_
        refine z_get hZ gRo_includeNormal_28 (by omega) rfl (by rw [h7]; rfl) ?_
        refine z_sipush hZ gRo_includeNormal_31 _ i128 ?_
        refine z_cmpge hZ gRo_includeNormal_34 (fun c34 => absurd c34 (nI_ge (by omega) (by omega))) (fun c34 => ?_)
        refine z_aload_n hZ gRo_includeNormal_37 rfl ?_
        refine z_get hZ gRo_includeNormal_38 (by omega) rfl rfl ?_
        refine z_aload_n hZ gRo_includeNormal_41 rfl ?_
        refine z_get hZ gRo_includeNormal_42 (by omega) rfl (by rw [h7]; rfl) ?_
        refine z_iload_n hZ gRo_includeNormal_45 rfl ?_
        refine z_iastW hZ gRo_includeNormal_46 (by omega) rfl (vp_in_nI (by omega) (by decide)) cW_a28 ?_
        rw [eq0]
        refine z_aload_n hZ gRo_includeNormal_47 rfl ?_
        refine z_dup hZ gRo_includeNormal_48 ?_
        refine z_get hZ gRo_includeNormal_49 (by omega) rfl (by rw [h7]; rfl) ?_
        refine z_iconst hZ gRo_includeNormal_52 _ rfl ?_
        refine z_iadd hZ gRo_includeNormal_53 _ (i1 q) ?_
        refine z_putW hZ gRo_includeNormal_54 (by omega) rfl (Or.inl (by decide)) (Nat.le_of_ble_eq_true rfl) cW_i22_7 ?_
        refine z_vret hZ gRo_includeNormal_57 ?_
        exact ⟨rfl, Or.inr (Or.inr ⟨fun ⟨j, hj, h9⟩ => h1 j hj h9, by omega, rfl⟩)⟩
    | succ n ih =>
      intro q hn h1
      have hq : q < c := by omega
      have eq0 : (nI q).toNatClampNeg = q := nI_clamp (by omega)
      refine z_iload_n hZ gRo_includeNormal_2 rfl ?_
      refine z_aload_n hZ gRo_includeNormal_3 rfl ?_
      refine z_get hZ gRo_includeNormal_4 (by omega) rfl (by rw [h7]; rfl) ?_
      refine z_cmpge hZ gRo_includeNormal_7 (fun c7 => absurd c7 (nI_ge (by omega) (by omega))) (fun c7 => ?_)
      refine z_aload_n hZ gRo_includeNormal_10 rfl ?_
      refine z_get hZ gRo_includeNormal_11 (by omega) rfl rfl ?_
      refine z_iload_n hZ gRo_includeNormal_14 rfl ?_
      refine z_iald hZ gRo_includeNormal_15 (by omega) rfl (vp_in_nI (by omega) (by decide)) ?_
      rw [eq0]
      refine z_iload_n hZ gRo_includeNormal_16 rfl ?_
      refine z_cmpne hZ gRo_includeNormal_17 (fun c17 => ?_) (fun c17 => ?_)
      · have ct17 := c17
        refine z_iinc hZ gRo_includeNormal_21 rfl _ (i1 q) rfl ?_
        refine z_goto hZ gRo_includeNormal_24 ?_
        refine ih (q + 1) (by omega) (fun j hj => ?_)
        by_cases e : j = q
        · rw [e]; exact ct17
        · exact h1 j (by omega)
      · have cf17 := c17
        refine z_vret hZ gRo_includeNormal_20 ?_
        exact ⟨rfl, Or.inl ⟨⟨q, hq, cf17⟩, rfl⟩⟩
  refine z_iconst hZ gRo_includeNormal_0 _ i0 ?_
  refine z_istore_n hZ gRo_includeNormal_1 rfl ?_
  exact loop c 0 (by omega) (fun j hj => absurd hj (Nat.not_lt_zero j))

