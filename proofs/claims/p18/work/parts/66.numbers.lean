-- the reference: exponent, prime, root
theorem i840 : (Int16.ofInt 840).toInt32 = nI 840 := by decide +kernel
theorem i10000 : (Int16.ofInt 10000).toInt32 = nI 10000 := by decide +kernel

theorem nI_nle2 {x y : Nat} (hy : y < 2 ^ 31) (h : x < y) : ¬ nI y ≤ nI x := nI_ge h hy

set_option maxHeartbeats 4000000 in
set_option maxRecDepth 100000 in
theorem c_Mo_numbers (l : Launch) (D : va_G) (E : sx_E) (B : Nat) (A : Nat → Prop) (hB : 11 ≤ B) {a : sA} {i : sA} {re : Nat → Nat} {n k e p z : Nat} (hn1 : n ≤ 120) (hk16 : k ≤ 16) (hi3 : i 0 3 = nI n) (hi6 : i 0 6 = nI k) (h5 : ∀ l, l < k → a 5 l = nI (re l)) (hre : ∀ l, l < k → re l < 8 ^ 8) (hE : isE re k e) (hen : e ≤ n) (hpm : isPm n e p) (hp92 : p < 1092) (hrt : isRt p e z) : sM l D E B A yMo_numbers prog_9_method_15_code 1 none 4 92 [.inr (0, 0)] (mW a i) (fun r w' => r = none ∧ ∃ i' : sA, w' = mW a i' ∧ frM [10, 11, 12] i i' ∧ i' 0 10 = nI e ∧ i' 0 11 = nI p ∧ i' 0 12 = nI z) := by
  refine sx_m0 (ls := lMo_numbers) (cs := csAll) (by decide +kernel) kMo_numbers (hMo_numbers l D E B A hB) (by simp) (fun x w' h => by cases h.1) ?_
  intro Z hZ
  have hn := hn1
  have hrt0 := hrt
  obtain ⟨hz1, hz2, hz3, hz4⟩ := hrt
  have he0 := hE.1
  have he120 : e ≤ 120 := by omega
  have hp1 := hpm.1.1
  have rootL : ∀ d y (i' : sA), d + y = z → 1 ≤ y → frM [10, 11, 12] i i' → i' 0 10 = nI e → i' 0 11 = nI p → i' 0 12 = nI y → Z 114 [some (.inr (0, 0))] [] (mW a i') := by
    intro d
    induction d with
    | zero =>
      intro y i' hd hy hf h10 h11 h12
      have e9 : y = z := by omega
      subst e9
      refine z_aload_n hZ gMo_numbers_114 rfl ?_
      refine z_get hZ gMo_numbers_115 (by omega) rfl (by rw [h12]; rfl) ?_
      refine z_aload_n hZ gMo_numbers_118 rfl ?_
      refine z_get hZ gMo_numbers_119 (by omega) rfl (by rw [h11]; rfl) ?_
      refine z_cmpge hZ gMo_numbers_122 (fun c122 => absurd c122 (nI_ge hz2 (by omega))) (fun c122 => ?_)
      refine z_aload_n hZ gMo_numbers_125 rfl ?_
      refine z_aload_n hZ gMo_numbers_126 rfl ?_
      refine z_get hZ gMo_numbers_127 (by omega) rfl (by rw [h12]; rfl) ?_
      refine z_cv hZ gMo_numbers_130 rfl rfl (Nat.le_of_ble_eq_true rfl) (Nat.le_of_ble_eq_true rfl) ⟨⟨0, _, _, rfl, by decide, rfl⟩, fun l9 D E B A hB => c_Mo_isRoot l9 D E B A hB (p := p) (e := e) (z := y) hp1 hp92 he0 (by omega) hz2 h10 h11⟩ (fun r130 w130 p130 => ?_)
      obtain ⟨h130, rfl⟩ := p130
      rcases h130 with ⟨rfl, h130⟩ | ⟨rfl, h130⟩
      · show Z 133 _ (.inl 1 :: []) _
        refine z_ifne hZ gMo_numbers_133 (fun c9 => ?_) (fun c9 => absurd c9 (by decide))
        refine z_vret hZ gMo_numbers_149 ?_
        exact ⟨rfl, i', rfl, hf, h10, h11, h12⟩
      · show Z 133 _ (.inl 0 :: []) _
        refine z_ifne hZ gMo_numbers_133 (fun c9 => absurd rfl c9) (fun c9 => ?_)
        exact absurd hz3 h130
    | succ d ih =>
      intro y i' hd hy hf h10 h11 h12
      refine z_aload_n hZ gMo_numbers_114 rfl ?_
      refine z_get hZ gMo_numbers_115 (by omega) rfl (by rw [h12]; rfl) ?_
      refine z_aload_n hZ gMo_numbers_118 rfl ?_
      refine z_get hZ gMo_numbers_119 (by omega) rfl (by rw [h11]; rfl) ?_
      refine z_cmpge hZ gMo_numbers_122 (fun c122 => absurd c122 (nI_ge (by omega) (by omega))) (fun c122 => ?_)
      refine z_aload_n hZ gMo_numbers_125 rfl ?_
      refine z_aload_n hZ gMo_numbers_126 rfl ?_
      refine z_get hZ gMo_numbers_127 (by omega) rfl (by rw [h12]; rfl) ?_
      refine z_cv hZ gMo_numbers_130 rfl rfl (Nat.le_of_ble_eq_true rfl) (Nat.le_of_ble_eq_true rfl) ⟨⟨0, _, _, rfl, by decide, rfl⟩, fun l9 D E B A hB => c_Mo_isRoot l9 D E B A hB (p := p) (e := e) (z := y) hp1 hp92 he0 (by omega) (by omega) h10 h11⟩ (fun r130 w130 p130 => ?_)
      obtain ⟨h130, rfl⟩ := p130
      rcases h130 with ⟨rfl, h130⟩ | ⟨rfl, h130⟩
      · show Z 133 _ (.inl 1 :: []) _
        refine z_ifne hZ gMo_numbers_133 (fun c9 => ?_) (fun c9 => absurd c9 (by decide))
        exact absurd h130 (hz4 y hy (by omega))
      · show Z 133 _ (.inl 0 :: []) _
        refine z_ifne hZ gMo_numbers_133 (fun c9 => absurd rfl c9) (fun c9 => ?_)
        refine z_aload_n hZ gMo_numbers_136 rfl ?_
        refine z_dup hZ gMo_numbers_137 ?_
        refine z_get hZ gMo_numbers_138 (by omega) rfl (by rw [h12]; rfl) ?_
        refine z_iconst hZ gMo_numbers_141 _ rfl ?_
        refine z_iadd hZ gMo_numbers_142 _ (i1 y) ?_
        refine z_putW hZ gMo_numbers_143 (by omega) rfl (Or.inl (by decide)) (Nat.le_of_ble_eq_true rfl) mW_i0_12 ?_
        refine z_goto hZ gMo_numbers_146 ?_
        exact ih (y + 1) _ (by omega) (by omega) (frM_up hf (by decide)) (by rw [va_up_self, va_up_ne _ _ (by decide)]; exact h10) (by rw [va_up_self, va_up_ne _ _ (by decide)]; exact h11) (by rw [va_up_self, va_up_self])
  have primeL : ∀ d q (i' : sA), d + q = p → 2 ≤ q → frM [10, 11, 12] i i' → i' 0 10 = nI e → i' 0 11 = nI q → Z 44 [some (.inr (0, 0))] [] (mW a i') := by
    intro d
    induction d with
    | zero =>
      intro q i' hd hq hf h10 h11
      have e9 : q = p := by omega
      subst e9
      have h3 : i' 0 3 = nI n := by rw [hf 3 (by decide)]; exact hi3
      have hqq : q * q ≤ 1092 * 1092 := Nat.mul_le_mul (by omega) (by omega)
      have hdv : (q - 1) % e = 0 := by
        obtain ⟨t, ht, hpt⟩ := hpm.2.2.1
        rw [hpt, Nat.add_sub_cancel]
        exact Nat.mul_mod_left t e
      have h4 := hpm.2.1
      refine z_aload_n hZ gMo_numbers_44 rfl ?_
      refine z_get hZ gMo_numbers_45 (by omega) rfl (by rw [h11]; rfl) ?_
      refine z_sipush hZ gMo_numbers_48 _ i10000 ?_
      refine z_cmpge hZ gMo_numbers_51 (fun c51 => absurd c51 (nI_ge (by omega) (by decide))) (fun c51 => ?_)
      refine z_aload_n hZ gMo_numbers_54 rfl ?_
      refine z_get hZ gMo_numbers_55 (by omega) rfl (by rw [h11]; rfl) ?_
      refine z_cs hZ gMo_numbers_58 rfl rfl (Nat.le_of_ble_eq_true rfl) (Nat.le_of_ble_eq_true rfl) (fun l9 D E B A hB => c_Mo_isPrime l9 D E B A (n := q) (by omega) _) (fun r58 w58 p58 => ?_)
      obtain ⟨h58, rfl⟩ := p58
      rcases h58 with ⟨rfl, h58⟩ | ⟨rfl, h58⟩
      · show Z 61 _ (.inl 1 :: []) _
        refine z_ifeq hZ gMo_numbers_61 (fun c9 => absurd c9 (by decide)) (fun c9 => ?_)
        refine z_aload_n hZ gMo_numbers_64 rfl ?_
        refine z_get hZ gMo_numbers_65 (by omega) rfl (by rw [h11]; rfl) ?_
        refine z_aload_n hZ gMo_numbers_68 rfl ?_
        refine z_get hZ gMo_numbers_69 (by omega) rfl (by rw [h11]; rfl) ?_
        refine z_imul hZ gMo_numbers_72 _ (pk_mul q q) ?_
        refine z_iconst hZ gMo_numbers_73 _ ic4 ?_
        refine z_aload_n hZ gMo_numbers_74 rfl ?_
        refine z_get hZ gMo_numbers_75 (by omega) rfl (by rw [h3]; rfl) ?_
        refine z_imul hZ gMo_numbers_78 _ (pk_mul 4 n) ?_
        refine z_cmple hZ gMo_numbers_79 (fun c79 => absurd c79 (nI_nle2 (by omega) h4)) (fun c79 => ?_)
        refine z_aload_n hZ gMo_numbers_82 rfl ?_
        refine z_get hZ gMo_numbers_83 (by omega) rfl (by rw [h11]; rfl) ?_
        refine z_iconst hZ gMo_numbers_86 _ rfl ?_
        refine z_isub hZ gMo_numbers_87 _ (nI_sub1 (by omega)) ?_
        refine z_aload_n hZ gMo_numbers_88 rfl ?_
        refine z_get hZ gMo_numbers_89 (by omega) rfl (by rw [h10]; rfl) ?_
        have hne : ¬ nI e = 0 := nI_ne0 he0 (by omega)
        refine z_irem hZ gMo_numbers_92 hne _ (pk_rem (by omega) he0 (by omega)) ?_
        rw [hdv]
        refine z_ifeq hZ gMo_numbers_93 (fun c93 => ?_) (fun c93 => absurd rfl c93)
        refine z_aload_n hZ gMo_numbers_109 rfl ?_
        refine z_iconst hZ gMo_numbers_110 _ ic1 ?_
        refine z_putW hZ gMo_numbers_111 (by omega) rfl (Or.inl (by decide)) (Nat.le_of_ble_eq_true rfl) mW_i0_12 ?_
        exact rootL (z - 1) 1 _ (by omega) (Nat.le_refl 1) (frM_up hf (by decide)) (by rw [va_up_self, va_up_ne _ _ (by decide)]; exact h10) (by rw [va_up_self, va_up_ne _ _ (by decide)]; exact h11) (by rw [va_up_self, va_up_self])
      · show Z 61 _ (.inl 0 :: []) _
        refine z_ifeq hZ gMo_numbers_61 (fun c9 => ?_) (fun c9 => absurd rfl c9)
        exact absurd hpm.1 h58
    | succ d ih =>
      intro q i' hd hq hf h10 h11
      have h3 : i' 0 3 = nI n := by rw [hf 3 (by decide)]; exact hi3
      have hqq : q * q ≤ 1092 * 1092 := Nat.mul_le_mul (by omega) (by omega)
      have hno := pm_no hpm he0 (show q < p by omega) hq
      have next : Z 96 [some (.inr (0, 0))] [] (mW a i') := by
        refine z_aload_n hZ gMo_numbers_96 rfl ?_
        refine z_dup hZ gMo_numbers_97 ?_
        refine z_get hZ gMo_numbers_98 (by omega) rfl (by rw [h11]; rfl) ?_
        refine z_iconst hZ gMo_numbers_101 _ rfl ?_
        refine z_iadd hZ gMo_numbers_102 _ (i1 q) ?_
        refine z_putW hZ gMo_numbers_103 (by omega) rfl (Or.inl (by decide)) (Nat.le_of_ble_eq_true rfl) mW_i0_11 ?_
        refine z_goto hZ gMo_numbers_106 ?_
        exact ih (q + 1) _ (by omega) (by omega) (frM_up hf (by decide)) (by rw [va_up_self, va_up_ne _ _ (by decide)]; exact h10) (by rw [va_up_self, va_up_self])
      refine z_aload_n hZ gMo_numbers_44 rfl ?_
      refine z_get hZ gMo_numbers_45 (by omega) rfl (by rw [h11]; rfl) ?_
      refine z_sipush hZ gMo_numbers_48 _ i10000 ?_
      refine z_cmpge hZ gMo_numbers_51 (fun c51 => absurd c51 (nI_ge (by omega) (by decide))) (fun c51 => ?_)
      refine z_aload_n hZ gMo_numbers_54 rfl ?_
      refine z_get hZ gMo_numbers_55 (by omega) rfl (by rw [h11]; rfl) ?_
      refine z_cs hZ gMo_numbers_58 rfl rfl (Nat.le_of_ble_eq_true rfl) (Nat.le_of_ble_eq_true rfl) (fun l9 D E B A hB => c_Mo_isPrime l9 D E B A (n := q) (by omega) _) (fun r58 w58 p58 => ?_)
      obtain ⟨h58, rfl⟩ := p58
      rcases h58 with ⟨rfl, h58⟩ | ⟨rfl, h58⟩
      · show Z 61 _ (.inl 1 :: []) _
        refine z_ifeq hZ gMo_numbers_61 (fun c9 => absurd c9 (by decide)) (fun c9 => ?_)
        refine z_aload_n hZ gMo_numbers_64 rfl ?_
        refine z_get hZ gMo_numbers_65 (by omega) rfl (by rw [h11]; rfl) ?_
        refine z_aload_n hZ gMo_numbers_68 rfl ?_
        refine z_get hZ gMo_numbers_69 (by omega) rfl (by rw [h11]; rfl) ?_
        refine z_imul hZ gMo_numbers_72 _ (pk_mul q q) ?_
        refine z_iconst hZ gMo_numbers_73 _ ic4 ?_
        refine z_aload_n hZ gMo_numbers_74 rfl ?_
        refine z_get hZ gMo_numbers_75 (by omega) rfl (by rw [h3]; rfl) ?_
        refine z_imul hZ gMo_numbers_78 _ (pk_mul 4 n) ?_
        refine z_cmple hZ gMo_numbers_79 (fun c79 => ?_) (fun c79 => ?_)
        · have ct79 := c79
          exact next
        · have cf79 := c79
          have h4 : 4 * n < q * q := Nat.lt_of_not_le fun h9 => c79 (nI_le h9 (by omega))
          refine z_aload_n hZ gMo_numbers_82 rfl ?_
          refine z_get hZ gMo_numbers_83 (by omega) rfl (by rw [h11]; rfl) ?_
          refine z_iconst hZ gMo_numbers_86 _ rfl ?_
          refine z_isub hZ gMo_numbers_87 _ (nI_sub1 (by omega)) ?_
          refine z_aload_n hZ gMo_numbers_88 rfl ?_
          refine z_get hZ gMo_numbers_89 (by omega) rfl (by rw [h10]; rfl) ?_
          have hne : ¬ nI e = 0 := nI_ne0 he0 (by omega)
          refine z_irem hZ gMo_numbers_92 hne _ (pk_rem (by omega) he0 (by omega)) ?_
          refine z_ifeq hZ gMo_numbers_93 (fun c93 => ?_) (fun c93 => ?_)
          · have ct93 := c93
            have hz : (q - 1) % e = 0 := (nI_eq (b := 0) (Nat.lt_trans (Nat.mod_lt (q - 1) (show e > 0 by omega)) (by omega)) (by decide)).mp c93
            exact absurd ⟨h58, h4, hz⟩ hno
          · have cf93 := c93
            exact next
      · show Z 61 _ (.inl 0 :: []) _
        refine z_ifeq hZ gMo_numbers_61 (fun c9 => ?_) (fun c9 => absurd rfl c9)
        exact next
  have expL : ∀ d q (i' : sA), d + q = e → 1 ≤ q → frM [10, 11, 12] i i' → i' 0 10 = nI q → Z 5 [some (.inr (0, 0))] [] (mW a i') := by
    intro d
    induction d with
    | zero =>
      intro q i' hd hq hf h10
      have e9 : q = e := by omega
      subst e9
      have h6 : i' 0 6 = nI k := by rw [hf 6 (by decide)]; exact hi6
      refine z_aload_n hZ gMo_numbers_5 rfl ?_
      refine z_get hZ gMo_numbers_6 (by omega) rfl (by rw [h10]; rfl) ?_
      refine z_sipush hZ gMo_numbers_9 _ i840 ?_
      refine z_cmpge hZ gMo_numbers_12 (fun c12 => absurd c12 (nI_ge (by omega) (by decide))) (fun c12 => ?_)
      refine z_aload_n hZ gMo_numbers_15 rfl ?_
      refine z_aload_n hZ gMo_numbers_16 rfl ?_
      refine z_get hZ gMo_numbers_17 (by omega) rfl (by rw [h10]; rfl) ?_
      refine z_cv hZ gMo_numbers_20 rfl rfl (Nat.le_of_ble_eq_true rfl) (Nat.le_of_ble_eq_true rfl) ⟨⟨0, _, _, rfl, by decide, rfl⟩, fun l9 D E B A hB => c_Mo_allAtOnce l9 D E B A hB (re := re) (k := k) (e := q) hk16 (by omega) h6 h5 hre⟩ (fun r20 w20 p20 => ?_)
      obtain ⟨h20, rfl⟩ := p20
      rcases h20 with ⟨rfl, h20⟩ | ⟨rfl, h20⟩
      · show Z 23 _ (.inl 1 :: []) _
        refine z_ifne hZ gMo_numbers_23 (fun c9 => ?_) (fun c9 => absurd c9 (by decide))
        refine z_aload_n hZ gMo_numbers_39 rfl ?_
        refine z_iconst hZ gMo_numbers_40 _ ic2 ?_
        refine z_putW hZ gMo_numbers_41 (by omega) rfl (Or.inl (by decide)) (Nat.le_of_ble_eq_true rfl) mW_i0_11 ?_
        exact primeL (p - 2) 2 _ (by omega) (Nat.le_refl 2) (frM_up hf (by decide)) (by rw [va_up_self, va_up_ne _ _ (by decide)]; exact h10) (by rw [va_up_self, va_up_self])
      · show Z 23 _ (.inl 0 :: []) _
        refine z_ifne hZ gMo_numbers_23 (fun c9 => absurd rfl c9) (fun c9 => ?_)
        exact absurd hE.2.1 h20
    | succ d ih =>
      intro q i' hd hq hf h10
      have h6 : i' 0 6 = nI k := by rw [hf 6 (by decide)]; exact hi6
      refine z_aload_n hZ gMo_numbers_5 rfl ?_
      refine z_get hZ gMo_numbers_6 (by omega) rfl (by rw [h10]; rfl) ?_
      refine z_sipush hZ gMo_numbers_9 _ i840 ?_
      refine z_cmpge hZ gMo_numbers_12 (fun c12 => absurd c12 (nI_ge (by omega) (by decide))) (fun c12 => ?_)
      refine z_aload_n hZ gMo_numbers_15 rfl ?_
      refine z_aload_n hZ gMo_numbers_16 rfl ?_
      refine z_get hZ gMo_numbers_17 (by omega) rfl (by rw [h10]; rfl) ?_
      refine z_cv hZ gMo_numbers_20 rfl rfl (Nat.le_of_ble_eq_true rfl) (Nat.le_of_ble_eq_true rfl) ⟨⟨0, _, _, rfl, by decide, rfl⟩, fun l9 D E B A hB => c_Mo_allAtOnce l9 D E B A hB (re := re) (k := k) (e := q) hk16 (by omega) h6 h5 hre⟩ (fun r20 w20 p20 => ?_)
      obtain ⟨h20, rfl⟩ := p20
      rcases h20 with ⟨rfl, h20⟩ | ⟨rfl, h20⟩
      · show Z 23 _ (.inl 1 :: []) _
        refine z_ifne hZ gMo_numbers_23 (fun c9 => ?_) (fun c9 => absurd c9 (by decide))
        obtain ⟨c9, hc9, hn9⟩ := hE.2.2 q (by omega) (by omega)
        exact absurd (h20 c9 hc9) hn9
      · show Z 23 _ (.inl 0 :: []) _
        refine z_ifne hZ gMo_numbers_23 (fun c9 => absurd rfl c9) (fun c9 => ?_)
        refine z_aload_n hZ gMo_numbers_26 rfl ?_
        refine z_dup hZ gMo_numbers_27 ?_
        refine z_get hZ gMo_numbers_28 (by omega) rfl (by rw [h10]; rfl) ?_
        refine z_iconst hZ gMo_numbers_31 _ rfl ?_
        refine z_iadd hZ gMo_numbers_32 _ (i1 q) ?_
        refine z_putW hZ gMo_numbers_33 (by omega) rfl (Or.inl (by decide)) (Nat.le_of_ble_eq_true rfl) mW_i0_10 ?_
        refine z_goto hZ gMo_numbers_36 ?_
        exact ih (q + 1) _ (by omega) (by omega) (frM_up hf (by decide)) (by rw [va_up_self, va_up_self])
  refine z_aload_n hZ gMo_numbers_0 rfl ?_
  refine z_iconst hZ gMo_numbers_1 _ ic1 ?_
  refine z_putW hZ gMo_numbers_2 (by omega) rfl (Or.inl (by decide)) (Nat.le_of_ble_eq_true rfl) mW_i0_10 ?_
  exact expL (e - 1) 1 _ (by omega) (Nat.le_refl 1) (frM_up (fun _ _ => rfl) (by decide)) (by rw [va_up_self, va_up_self])

