set_option maxHeartbeats 4000000 in
set_option maxRecDepth 100000 in
theorem c_Re_choose (l : Launch) (D : va_G) (E : sx_E) (B : Nat) (A : Nat → Prop) (hB : 29 ≤ B) {a : sA} {g : sG} {i : sA} {n e : Nat} (hn : n ≤ 120) (he0 : 0 < e) (he1 : e ≤ 120) : sM l D E B A yRe_choose prog_6_method_2_code 5 none 2 45 [.inr (12, 0), .inl (nI n), .inl (nI e)] (cW a g i) (fun r w' => r = none ∧ ∃ p z : Nat, w' = rW a g i (nI p) (nI z) ∧ isPm n e p ∧ p < 1092 ∧ isRt p e z) := by
  refine sx_m0 (ls := lRe_choose) (cs := csAll) (by decide +kernel) kRe_choose (hRe_choose l D E B A hB) (by simp) (fun x w' h => by cases h.1) ?_
  intro Z hZ
  obtain ⟨ht1, ht2, ht3, ht4, ht5⟩ := tT_ok e (by omega) he0
  generalize tT.getD e 0 = te at *
  have hpe : isPr (te * e + 1) := isPr_chk (by
    have : 1 * 1 ≤ te * e := Nat.mul_le_mul ht1 he0
    omega) (by omega) ht5
  have hmul : ∀ t, t ≤ 300 → t * e ≤ 300 * 120 := fun t ht => Nat.mul_le_mul ht he1
  -- the search for the root
  have search : ∀ p t d z, isPm n e p → 1 ≤ t → p = t * e + 1 → p < 1092 → d + z = p - 1 → 1 ≤ z → (∀ y, 1 ≤ y → y < z → ¬ rtO p e y) → ∀ x3 x4, Z 61 [some (.inr (12, 0)), some (.inl (nI n)), some (.inl (nI e)), x3, x4] [] (rW a g i (nI p) (nI z)) := by
    intro p t d
    have hge : ∀ x y : Int32, (va_up i 12 (va_up (va_up (i 12) 0 x) 1 y)) 12 0 = x := fun x y => by rw [va_up_self, va_up_ne _ _ (by decide), va_up_self]
    have hgr : ∀ x y : Int32, (va_up i 12 (va_up (va_up (i 12) 0 x) 1 y)) 12 1 = y := fun x y => by rw [va_up_self, va_up_self]
    induction d with
    | zero =>
      intro z hpm ht hpt hp hd hz hno x3 x4
      have hp1 := hpm.1.1
      have hzp : z = p - 1 := by omega
      obtain ⟨z0, hz1, hz2, hz3⟩ := root_ex hpm.1 hp he0 ht hpt
      have hz0 : z0 = z := by
        refine Classical.byContradiction fun hne => ?_
        exact hno z0 hz1 (by omega) hz3
      subst hz0
      refine z_aload_n hZ gRe_choose_61 rfl ?_
      refine z_get hZ gRe_choose_62 (by omega) rfl (by rw [hgr]; rfl) ?_
      refine z_aload_n hZ gRe_choose_65 rfl ?_
      refine z_get hZ gRe_choose_66 (by omega) rfl (by rw [hge]; rfl) ?_
      refine z_iconst hZ gRe_choose_69 _ rfl ?_
      refine z_isub hZ gRe_choose_70 _ (nI_sub1 (by omega)) ?_
      refine z_cmpge hZ gRe_choose_71 (fun c71 => ?_) (fun c71 => absurd (nI_le (by omega) (by omega)) c71)
      refine z_vret hZ gRe_choose_99 ?_
      exact ⟨rfl, p, z0, rfl, hpm, hp, hz1, hz2, hz3, hno⟩
    | succ d ih =>
      intro z hpm ht hpt hp hd hz hno x3 x4
      have hp1 := hpm.1.1
      have hpp : p * p < 2 ^ 31 := by
        have := Nat.mul_le_mul (Nat.le_of_lt hp) (Nat.le_of_lt hp)
        omega
      have hep : e < p := by
        have : 1 * e ≤ t * e := Nat.mul_le_mul_right e ht
        omega
      refine z_aload_n hZ gRe_choose_61 rfl ?_
      refine z_get hZ gRe_choose_62 (by omega) rfl (by rw [hgr]; rfl) ?_
      refine z_aload_n hZ gRe_choose_65 rfl ?_
      refine z_get hZ gRe_choose_66 (by omega) rfl (by rw [hge]; rfl) ?_
      refine z_iconst hZ gRe_choose_69 _ rfl ?_
      refine z_isub hZ gRe_choose_70 _ (nI_sub1 (by omega)) ?_
      refine z_cmpge hZ gRe_choose_71 (fun c71 => absurd c71 (nI_ge (by omega) (by omega))) (fun c71 => ?_)
      refine z_aload_n hZ gRe_choose_74 rfl ?_
      refine z_aload_n hZ gRe_choose_75 rfl ?_
      refine z_get hZ gRe_choose_76 (by omega) rfl (by rw [hgr]; rfl) ?_
      refine z_cv hZ gRe_choose_79 rfl rfl (Nat.le_of_ble_eq_true rfl) (Nat.le_of_ble_eq_true rfl) ⟨⟨12, _, _, rfl, by decide, rfl⟩, fun l D E B A hB => c_Re_orderOf l D E B A hB (hge (nI p) (nI z)) (by omega) hpp (b := z) (by omega)⟩ (fun r79 w79 p79 => ?_)
      obtain ⟨k, rfl, hk1, hk2, hk3, hk4, rfl⟩ := p79
      show Z (79 + 3) _ (.inl (nI k) :: []) _
      refine z_iload_n hZ gRe_choose_82 rfl ?_
      refine z_cmpeq hZ gRe_choose_83 (fun c83 => ?_) (fun c83 => ?_)
      · have ct83 := c83
        have hke : k = e := (nI_eq (by omega) (by omega)).mp ct83
        subst hke
        refine z_vret hZ gRe_choose_99 ?_
        refine ⟨rfl, p, z, rfl, hpm, hp, hz, by omega, ⟨?_, hk3⟩, hno⟩
        rcases hk4 with h4 | h4
        · exact h4
        · omega
      · have cf83 := c83
        have hke : k ≠ e := fun h9 => cf83 (by rw [h9])
        refine z_aload_n hZ gRe_choose_86 rfl ?_
        refine z_dup hZ gRe_choose_87 ?_
        refine z_get hZ gRe_choose_88 (by omega) rfl (by rw [hgr]; rfl) ?_
        refine z_iconst hZ gRe_choose_91 _ rfl ?_
        refine z_iadd hZ gRe_choose_92 _ (i1 z) ?_
        refine z_putW hZ gRe_choose_93 (by omega) rfl (Or.inl (by decide)) (Nat.le_of_ble_eq_true rfl) cW_i12_1 ?_
        rw [rW_1]
        refine z_goto hZ gRe_choose_96 ?_
        refine ih (z + 1) hpm ht hpt hp (by omega) (by omega) (fun y h1 h2 => ?_) _ _
        by_cases e9 : y = z
        · subst e9
          intro h3
          rcases hk4 with h4 | h4
          · rcases Nat.lt_trichotomy k e with h5 | h5 | h5
            · exact h3.2 k hk1 h5 h4
            · exact hke h5
            · exact hk3 e he0 h5 h3.1
          · exact hk3 e he0 (by omega) h3.1
        · exact hno y h1 (by omega)
  have found : ∀ t x4, 1 ≤ t → t ≤ te → isPr (t * e + 1) → 4 * n < (t * e + 1) * (t * e + 1) → (∀ q, 1 ≤ q → q < t → ¬ (isPr (q * e + 1) ∧ 4 * n < (q * e + 1) * (q * e + 1))) → Z 47 [some (.inr (12, 0)), some (.inl (nI n)), some (.inl (nI e)), some (.inl (nI (t * e + 1))), x4] [] (cW a g i) := by
    intro t x4 ht htt hpr hsq hno
    have hle : t * e ≤ te * e := Nat.mul_le_mul_right e htt
    have hp1 := hpr.1
    have hpm : isPm n e (t * e + 1) := ⟨hpr, hsq, ⟨t, ht, rfl⟩, fun q h1 h2 h3 => by
      refine Nat.not_lt.mp fun h9 => hno q h1 ?_ ⟨h2, h3⟩
      refine Nat.not_le.mp fun h10 => ?_
      have := Nat.mul_le_mul_right e h10
      omega⟩
    have hmax : (if nI (t * e + 1) < nI 2 then nI 2 else nI (t * e + 1)) = nI (t * e + 1) := if_neg (nI_nlt (by omega) (by omega))
    refine z_aload_n hZ gRe_choose_47 rfl ?_
    refine z_iload_n hZ gRe_choose_48 rfl ?_
    refine z_iconst hZ gRe_choose_49 _ ic2 ?_
    refine z_cs hZ gRe_choose_50 rfl rfl (Nat.le_of_ble_eq_true rfl) (Nat.le_of_ble_eq_true rfl) (fun l D E B A hB => c_Ma_max l D E B A (nI (t * e + 1)) (nI 2) _) (fun r50 w50 p50 => ?_)
    obtain ⟨rfl, rfl⟩ := p50
    rw [hmax]
    show Z (50 + 3) _ (.inl (nI (t * e + 1)) :: .inr (12, 0) :: []) _
    refine z_putW hZ gRe_choose_53 (by omega) rfl (Or.inl (by decide)) (Nat.le_of_ble_eq_true rfl) cW_i12_0 ?_
    refine z_aload_n hZ gRe_choose_56 rfl ?_
    refine z_iconst hZ gRe_choose_57 _ ic1 ?_
    refine z_putW hZ gRe_choose_58 (by omega) rfl (Or.inl (by decide)) (Nat.le_of_ble_eq_true rfl) cW_i12_1 ?_
    rw [rW_0]
    exact search (t * e + 1) t (t * e + 1 - 2) 1 hpm ht rfl (by omega) (by omega) (Nat.le_refl 1) (fun y h1 h2 => absurd h1 (by omega)) _ _
  have loop : ∀ d t x3, d + t = te → 1 ≤ t → (∀ q, 1 ≤ q → q < t → ¬ (isPr (q * e + 1) ∧ 4 * n < (q * e + 1) * (q * e + 1))) → Z 7 [some (.inr (12, 0)), some (.inl (nI n)), some (.inl (nI e)), x3, some (.inl (nI t))] [] (cW a g i) := by
    intro d
    induction d with
    | zero =>
      intro t x3 hd ht hno
      have htt : t = te := by omega
      have hm := hmul t (by omega)
      have hsq2 : 4 * n < (t * e + 1) * (t * e + 1) := by rw [htt]; omega
      have hss : (t * e + 1) * (t * e + 1) ≤ 36001 * 36001 := Nat.mul_le_mul (by omega) (by omega)
      have hpr2 : isPr (t * e + 1) := by rw [htt]; exact hpe
      refine z_iload hZ gRe_choose_7 rfl ?_
      refine z_sipush hZ gRe_choose_9 _ i300 ?_
      refine z_cmpge hZ gRe_choose_12 (fun c12 => absurd c12 (nI_ge (by omega) (by decide))) (fun c12 => ?_)
      refine z_iload hZ gRe_choose_15 rfl ?_
      refine z_iload_n hZ gRe_choose_17 rfl ?_
      refine z_imul hZ gRe_choose_18 _ (pk_mul t e) ?_
      refine z_iconst hZ gRe_choose_19 _ rfl ?_
      refine z_iadd hZ gRe_choose_20 _ (i1 (t * e)) ?_
      refine z_istore_n hZ gRe_choose_21 rfl ?_
      refine z_iload_n hZ gRe_choose_22 rfl ?_
      refine z_iload_n hZ gRe_choose_23 rfl ?_
      refine z_imul hZ gRe_choose_24 _ (pk_mul (t * e + 1) (t * e + 1)) ?_
      refine z_iconst hZ gRe_choose_25 _ ic4 ?_
      refine z_iload_n hZ gRe_choose_26 rfl ?_
      refine z_imul hZ gRe_choose_27 _ (pk_mul 4 n) ?_
      refine z_cmple hZ gRe_choose_28 (fun c28 => absurd c28 (nI_ge hsq2 (by omega))) (fun c28 => ?_)
      refine z_iload_n hZ gRe_choose_31 rfl ?_
      refine z_cs hZ gRe_choose_32 rfl rfl (Nat.le_of_ble_eq_true rfl) (Nat.le_of_ble_eq_true rfl) (fun l D E B A hB => c_Re_isPrime l D E B A (n := t * e + 1) (by omega) _) (fun r32 w32 p32 => ?_)
      obtain ⟨h32, rfl⟩ := p32
      rcases h32 with ⟨rfl, _⟩ | ⟨_, hnp⟩
      rotate_left
      · exact absurd hpr2 hnp
      show Z (32 + 3) _ (.inl 1 :: []) _
      refine z_ifeq hZ gRe_choose_35 (fun c35 => absurd c35 (by decide)) (fun c35 => ?_)
      refine z_goto hZ gRe_choose_38 ?_
      exact found t _ ht (by omega) hpr2 hsq2 hno
    | succ d ih =>
      intro t x3 hd ht hno
      have hm := hmul t (by omega)
      have hss : (t * e + 1) * (t * e + 1) ≤ 36001 * 36001 := Nat.mul_le_mul (by omega) (by omega)
      have next : ¬ (isPr (t * e + 1) ∧ 4 * n < (t * e + 1) * (t * e + 1)) → ∀ x3, Z 41 [some (.inr (12, 0)), some (.inl (nI n)), some (.inl (nI e)), x3, some (.inl (nI t))] [] (cW a g i) := by
        intro h9 x3
        refine z_iinc hZ gRe_choose_41 rfl _ (i1 t) rfl ?_
        refine z_goto hZ gRe_choose_44 ?_
        refine ih (t + 1) _ (by omega) (by omega) (fun q h1 h2 => ?_)
        by_cases e9 : q = t
        · subst e9; exact h9
        · exact hno q h1 (by omega)
      refine z_iload hZ gRe_choose_7 rfl ?_
      refine z_sipush hZ gRe_choose_9 _ i300 ?_
      refine z_cmpge hZ gRe_choose_12 (fun c12 => absurd c12 (nI_ge (by omega) (by decide))) (fun c12 => ?_)
      refine z_iload hZ gRe_choose_15 rfl ?_
      refine z_iload_n hZ gRe_choose_17 rfl ?_
      refine z_imul hZ gRe_choose_18 _ (pk_mul t e) ?_
      refine z_iconst hZ gRe_choose_19 _ rfl ?_
      refine z_iadd hZ gRe_choose_20 _ (i1 (t * e)) ?_
      refine z_istore_n hZ gRe_choose_21 rfl ?_
      refine z_iload_n hZ gRe_choose_22 rfl ?_
      refine z_iload_n hZ gRe_choose_23 rfl ?_
      refine z_imul hZ gRe_choose_24 _ (pk_mul (t * e + 1) (t * e + 1)) ?_
      refine z_iconst hZ gRe_choose_25 _ ic4 ?_
      refine z_iload_n hZ gRe_choose_26 rfl ?_
      refine z_imul hZ gRe_choose_27 _ (pk_mul 4 n) ?_
      refine z_cmple hZ gRe_choose_28 (fun c28 => ?_) (fun c28 => ?_)
      · have ct28 := c28
        have hle : ¬ 4 * n < (t * e + 1) * (t * e + 1) := Nat.not_lt.mpr ((nI_leI (by omega) (by omega)).mp ct28)
        exact next (fun h9 => hle h9.2) _
      · have cf28 := c28
        have hsq2 : 4 * n < (t * e + 1) * (t * e + 1) := Nat.not_le.mp fun h9 => cf28 ((nI_leI (by omega) (by omega)).mpr h9)
        refine z_iload_n hZ gRe_choose_31 rfl ?_
        refine z_cs hZ gRe_choose_32 rfl rfl (Nat.le_of_ble_eq_true rfl) (Nat.le_of_ble_eq_true rfl) (fun l D E B A hB => c_Re_isPrime l D E B A (n := t * e + 1) (by omega) _) (fun r32 w32 p32 => ?_)
        obtain ⟨h32, rfl⟩ := p32
        rcases h32 with ⟨rfl, hpr2⟩ | ⟨rfl, hnp⟩
        rotate_left
        · show Z (32 + 3) _ (.inl 0 :: []) _
          refine z_ifeq hZ gRe_choose_35 (fun _ => ?_) (fun c35 => absurd rfl c35)
          exact next (fun h9 => hnp h9.1) _
        show Z (32 + 3) _ (.inl 1 :: []) _
        refine z_ifeq hZ gRe_choose_35 (fun c35 => absurd c35 (by decide)) (fun c35 => ?_)
        refine z_goto hZ gRe_choose_38 ?_
        exact found t _ ht (by omega) hpr2 hsq2 hno
  refine z_iload_n hZ gRe_choose_0 rfl ?_
  refine z_iconst hZ gRe_choose_1 _ rfl ?_
  refine z_iadd hZ gRe_choose_2 _ rfl ?_
  refine z_istore_n hZ gRe_choose_3 rfl ?_
  refine z_iconst hZ gRe_choose_4 _ ic1 ?_
  refine z_istore hZ gRe_choose_5 rfl ?_
  exact loop (te - 1) 1 _ (by omega) (Nat.le_refl 1) (fun q h1 h2 => absurd h1 (by omega))

