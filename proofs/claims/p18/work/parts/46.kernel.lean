-- sets of classes as bits
def krB (c : Nat → Bool) : Nat → Nat
  | 0 => 0
  | n + 1 => if c n = true then krB c n ||| 2 ^ n else krB c n
theorem krB_lt (c : Nat → Bool) : ∀ n, krB c n < 2 ^ n
  | 0 => Nat.zero_lt_one
  | n + 1 => by
    have h1 := krB_lt c n
    have h2 : 2 ^ n < 2 ^ (n + 1) := Nat.pow_lt_pow_right (by decide) (Nat.lt_succ_self n)
    unfold krB
    split
    · exact Nat.or_lt_two_pow (by omega) h2
    · omega
theorem sh16 : ∀ d, d < 16 → Int32.ofInt 1 <<< (nI d &&& 31) = nI (2 ^ d) := by decide +kernel
theorem krB_or (c : Nat → Bool) {n : Nat} (h : n < 16) : nI (krB c n) ||| nI (2 ^ n) = nI (krB c n ||| 2 ^ n) := nx_or (Nat.lt_of_lt_of_le (krB_lt c n) (Nat.pow_le_pow_right (by decide) (by omega))) (Nat.pow_lt_pow_right (by decide) (by omega))

set_option maxHeartbeats 4000000 in
set_option maxRecDepth 100000 in
theorem c_Ro_setKernel (l : Launch) (D : va_G) (E : sx_E) (B : Nat) (A : Nat → Prop) (hB : 29 ≤ B) {a : sA} {g : sG} {i : sA} {k r : Nat} (h22 : i 22 0 = nI k) (hk : k ≤ 16) (hr : r < 16) : sM l D E B A yRo_setKernel prog_7_method_6_code 4 none 0 0 [.inr (22, 0), .inl (nI r)] (cW a g i) (fun r9 w' => r9 = none ∧ w' = cW (va_up a 26 (upd (a 26) r (nI (krB (fun q => decide (g 24 r q = a 23 r)) k)))) g i) := by
  refine sx_m0 (ls := lRo_setKernel) (cs := noCalls) (by decide +kernel) kRo_setKernel (fun pc i h1 h2 => sx_nc (ls := lRo_setKernel) (by decide) pc i h1 h2) (by simp) (fun x w' h => by cases h.1) ?_
  intro Z hZ
  have er : (nI r).toNatClampNeg = r := nI_clamp (by omega)
  have loop : ∀ n q, n + q = k → Z 4 [some (.inr (22, 0)), some (.inl (nI r)), some (.inl (nI (krB (fun q => decide (g 24 r q = a 23 r)) q))), some (.inl (nI q))] [] (cW a g i) := by
    intro n
    induction n with
    | zero =>
      intro q hn
      have e : q = k := by omega
      subst e
      refine z_iload_n hZ gRo_setKernel_4 rfl ?_
      refine z_aload_n hZ gRo_setKernel_5 rfl ?_
      refine z_get hZ gRo_setKernel_6 (by omega) rfl (by rw [h22]; rfl) ?_
      refine z_cmpge hZ gRo_setKernel_9 (fun c9 => ?_) (fun c9 => absurd (nI_le (Nat.le_refl q) (by omega)) c9)
      refine z_aload_n hZ gRo_setKernel_41 rfl ?_
      refine z_get hZ gRo_setKernel_42 (by omega) rfl rfl ?_
      refine z_iload_n hZ gRo_setKernel_45 rfl ?_
      refine z_iload_n hZ gRo_setKernel_46 rfl ?_
      refine z_iastW hZ gRo_setKernel_47 (by omega) rfl (vp_in_nI (by omega) (by decide)) cW_a26 ?_
      rw [er]
      refine z_vret hZ gRo_setKernel_48 ?_
      exact ⟨rfl, rfl⟩
    | succ n ih =>
      intro q hn
      have hq : q < k := by omega
      have eq0 : (nI q).toNatClampNeg = q := nI_clamp (by omega)
      have h9 := ih (q + 1) (by omega)
      refine z_iload_n hZ gRo_setKernel_4 rfl ?_
      refine z_aload_n hZ gRo_setKernel_5 rfl ?_
      refine z_get hZ gRo_setKernel_6 (by omega) rfl (by rw [h22]; rfl) ?_
      refine z_cmpge hZ gRo_setKernel_9 (fun c9 => absurd c9 (nI_ge (by omega) (by omega))) (fun c9 => ?_)
      refine z_aload_n hZ gRo_setKernel_12 rfl ?_
      refine z_get hZ gRo_setKernel_13 (by omega) rfl rfl ?_
      refine z_iload_n hZ gRo_setKernel_16 rfl ?_
      refine z_aald hZ gRo_setKernel_17 (by omega) rfl (vp_in_nI (by omega) (by decide)) ?_
      rw [er]
      refine z_iload_n hZ gRo_setKernel_18 rfl ?_
      refine z_ialg hZ gRo_setKernel_19 (by omega) rfl (by omega) (vp_in_nI (by omega) (by decide)) ?_
      rw [eq0]
      refine z_aload_n hZ gRo_setKernel_20 rfl ?_
      refine z_get hZ gRo_setKernel_21 (by omega) rfl rfl ?_
      refine z_iload_n hZ gRo_setKernel_24 rfl ?_
      refine z_iald hZ gRo_setKernel_25 (by omega) rfl (vp_in_nI (by omega) (by decide)) ?_
      rw [er]
      refine z_cmpne hZ gRo_setKernel_26 (fun c26 => ?_) (fun c26 => ?_)
      · have ct26 := c26
        have e9 : krB (fun q => decide (g 24 r q = a 23 r)) (q + 1) = krB (fun q => decide (g 24 r q = a 23 r)) q := if_neg (by simpa using ct26)
        rw [e9] at h9
        refine z_iinc hZ gRo_setKernel_35 rfl _ (i1 q) rfl ?_
        refine z_goto hZ gRo_setKernel_38 ?_
        exact h9
      · have cf26 := c26
        have e9 : krB (fun q => decide (g 24 r q = a 23 r)) (q + 1) = krB (fun q => decide (g 24 r q = a 23 r)) q ||| 2 ^ q := if_pos (by simpa using cf26)
        rw [e9] at h9
        refine z_iload_n hZ gRo_setKernel_29 rfl ?_
        refine z_iconst hZ gRo_setKernel_30 _ rfl ?_
        refine z_iload_n hZ gRo_setKernel_31 rfl ?_
        refine z_ishl hZ gRo_setKernel_32 _ (sh16 q (by omega)) ?_
        refine z_ior hZ gRo_setKernel_33 _ (krB_or _ (by omega)) ?_
        refine z_istore_n hZ gRo_setKernel_34 rfl ?_
        refine z_iinc hZ gRo_setKernel_35 rfl _ (i1 q) rfl ?_
        refine z_goto hZ gRo_setKernel_38 ?_
        exact h9
  refine z_iconst hZ gRo_setKernel_0 _ i0 ?_
  refine z_istore_n hZ gRo_setKernel_1 rfl ?_
  refine z_iconst hZ gRo_setKernel_2 _ i0 ?_
  refine z_istore_n hZ gRo_setKernel_3 rfl ?_
  exact loop k 0 (by omega)

