-- the reference: multiplicity, indicator, kernel
theorem krB_add (c : Nat → Bool) (n : Nat) : krB c (n + 1) = krB c n + if c n = true then 2 ^ n else 0 := by
  have h := krB_lt c n
  show (if c n = true then krB c n ||| 2 ^ n else krB c n) = _
  by_cases e : c n = true
  · rw [if_pos e, if_pos e, Nat.or_comm]
    have h9 := Nat.two_pow_add_eq_or_of_lt h 1
    rw [Nat.mul_one] at h9
    rw [← h9, Nat.add_comm]
  · rw [if_neg e, if_neg e, Nat.add_zero]

set_option maxHeartbeats 4000000 in
set_option maxRecDepth 100000 in
theorem c_Mo_multiplicity (l : Launch) (D : va_G) (E : sx_E) (B : Nat) (A : Nat → Prop) (hB : 11 ≤ B) {a : sA} {i : sA} {s kl re : Nat → Nat} {n k : Nat} {p e z : Nat} {Am : Nat → Nat → Nat → Nat} {V : Nat → Nat → Nat} {x y zz : Int32} (hm : ¬ i 0 2 = 0 → mtO a i s n k kl re) (hd : ¬ i 0 2 = 0 → mdO p k Am a i) (hV : ¬ i 0 2 = 0 → ∀ j q, j < k → q < k → a 9 (16 * j + q) = nI (V j q) ∧ V j q < p) (hT : ¬ i 0 2 = 0 → i 0 10 = nI e ∧ i 0 12 = nI z ∧ 0 < e ∧ e ≤ 120 ∧ z < p ∧ (∀ m, ¬ p ∣ z ^ m) ∧ ¬ p ∣ e) : sM l D E B A yMo_multiplicity prog_9_method_45_code 9 (some .int) 2 46 [.inr (0, 0), .inl x, .inl y, .inl zz] (mW a i) (fun r w' => ((¬ i 0 2 = 0 ∧ ∃ j c m v b : Nat, j < k ∧ c < k ∧ m < e ∧ x = nI j ∧ y = nI c ∧ zz = nI m ∧ r = some (.inl (nI v)) ∧ v < p ∧ b < p ∧ (p : Int) ∣ (b : Int) * ((z ^ m % p : Nat) : Int) - 1 ∧ (p : Int) ∣ (v : Int) * (e : Int) - (acS p (fun t => V j (kl (pw (re c) t))) (fun t => b ^ t % p) e : Int)) ∨ (¬ (¬ i 0 2 = 0 ∧ nJ k x ∧ nJ k y ∧ nJ e zz) ∧ r = some (.inl (-1)))) ∧ w' = mW a i) := by
  refine sx_m0 (ls := lMo_multiplicity) (cs := csAll) (by decide +kernel) kMo_multiplicity (hMo_multiplicity l D E B A hB) (by simp) (fun w' h => (by rcases h.1 with ⟨_, _, _, _, _, _, _, _, _, _, _, _, h, _⟩ | ⟨_, h⟩ <;> cases h)) ?_
  intro Z hZ
  refine z_aload_n hZ gMo_multiplicity_0 rfl ?_
  refine z_iload_n hZ gMo_multiplicity_1 rfl ?_
  refine z_cv hZ gMo_multiplicity_2 rfl rfl (Nat.le_of_ble_eq_true rfl) (Nat.le_of_ble_eq_true rfl) ⟨⟨0, _, _, rfl, by decide, rfl⟩, fun l9 D E B A hB => c_Mo_isClass l9 D E B A hB (k := k) (x := x) (fun h9 => ⟨by have := (hm h9).2.2.2.2.2.1; omega, (hm h9).2.2.2.2.2.2.1⟩)⟩ (fun r2 w2 p2 => ?_)
  obtain ⟨h2, rfl⟩ := p2
  rcases h2 with ⟨rfl, h2⟩ | ⟨rfl, h2⟩
  · show Z 5 _ (.inl 1 :: []) _
    refine z_ifeq hZ gMo_multiplicity_5 (fun c9 => absurd c9 (by decide)) (fun c9 => ?_)
    refine z_aload_n hZ gMo_multiplicity_8 rfl ?_
    refine z_iload_n hZ gMo_multiplicity_9 rfl ?_
    refine z_cv hZ gMo_multiplicity_10 rfl rfl (Nat.le_of_ble_eq_true rfl) (Nat.le_of_ble_eq_true rfl) ⟨⟨0, _, _, rfl, by decide, rfl⟩, fun l9 D E B A hB => c_Mo_isClass l9 D E B A hB (k := k) (x := y) (fun h9 => ⟨by have := (hm h9).2.2.2.2.2.1; omega, (hm h9).2.2.2.2.2.2.1⟩)⟩ (fun r10 w10 p10 => ?_)
    obtain ⟨h10, rfl⟩ := p10
    rcases h10 with ⟨rfl, h10⟩ | ⟨rfl, h10⟩
    · show Z 13 _ (.inl 1 :: []) _
      refine z_ifeq hZ gMo_multiplicity_13 (fun c9 => absurd c9 (by decide)) (fun c9 => ?_)
      obtain ⟨hb0, j, hj, rfl⟩ := h2
      obtain ⟨_, c, hc, rfl⟩ := h10
      obtain ⟨q10, q12, q13, q14, _⟩ := hT hb0
      refine z_iload_n hZ gMo_multiplicity_16 rfl ?_
      refine z_iflt hZ gMo_multiplicity_17 (fun c17 => ?_) (fun c17 => ?_)
      · have ct17 := c17
        refine z_iconst hZ gMo_multiplicity_28 _ rfl ?_
        refine z_iret hZ gMo_multiplicity_29 ?_
        first | exact ⟨Or.inr ⟨fun h9 => nJ_neg (by omega) ct17 h9.2.2.2, rfl⟩, rfl⟩ | exact ⟨Or.inr ⟨fun h9 => nJ_big (by omega) (i_nlt2 cf25) h9.2.2.2, rfl⟩, rfl⟩
      · have cf17 := c17
        refine z_iload_n hZ gMo_multiplicity_20 rfl ?_
        refine z_aload_n hZ gMo_multiplicity_21 rfl ?_
        refine z_get hZ gMo_multiplicity_22 (by omega) rfl (by rw [q10]; rfl) ?_
        refine z_cmplt hZ gMo_multiplicity_25 (fun c25 => ?_) (fun c25 => ?_)
        · have ct25 := c25
          obtain ⟨m, hm9, rfl⟩ := nJ_of (k := e) (by omega) cf17 (i_nle c25)
          have hmt := hm hb0
          have hdd := hd hb0
          have hV1 := hV hb0
          obtain ⟨h10e, h12z, he0, he1, hzp, hnz, hnde⟩ := hT hb0
          have hk1 := hmt.2.2.2.2.2.1
          have hn := hmt.2.1
          have hpr := hdd.1
          have hp1 := hpr.1
          have hp92 := hdd.2.1
          have h11 := hdd.2.2.2.1
          have hpp : p * p ≤ 1092 * 1092 := Nat.mul_le_mul (by omega) (by omega)
          have hG := kc_g hmt.2.2.2.1.1
          have hrG := kc_re hmt.2.2.2.1.1 hc
          have ej := nI_clamp (n := j) (by omega)
          have ec := nI_clamp (n := c) (by omega)
          have loop : ∀ b, b < p → (p : Int) ∣ (b : Int) * ((z ^ m % p : Nat) : Int) - 1 → ∀ d t, d + t = e → Z 59 [some (.inr (0, 0)), some (.inl (nI j)), some (.inl (nI c)), some (.inl (nI m)), some (.inl (nI b)), some (.inl (nI (acS p (fun t => V j (kl (pw (re c) t))) (fun t => b ^ t % p) t))), some (.inl (nI (b ^ t % p))), some (.inl (nI (pw (re c) t))), some (.inl (nI t))] [] (mW a i) := by
            intro b hb hbz d
            induction d with
            | zero =>
              intro t hdt
              have e9 : t = e := by omega
              rw [e9]
              have hs := acS_lt (show 0 < p by omega) (fun t => V j (kl (pw (re c) t))) (fun t => b ^ t % p) e
              refine z_iload hZ gMo_multiplicity_59 rfl ?_
              refine z_aload_n hZ gMo_multiplicity_61 rfl ?_
              refine z_get hZ gMo_multiplicity_62 (by omega) rfl (by rw [h10e]; rfl) ?_
              refine z_cmpge hZ gMo_multiplicity_65 (fun c65 => ?_) (fun c65 => absurd (nI_le (Nat.le_refl e) (by omega)) c65)
              refine z_aload_n hZ gMo_multiplicity_133 rfl ?_
              refine z_iload hZ gMo_multiplicity_134 rfl ?_
              refine z_aload_n hZ gMo_multiplicity_136 rfl ?_
              refine z_get hZ gMo_multiplicity_137 (by omega) rfl (by rw [h10e]; rfl) ?_
              refine z_cv hZ gMo_multiplicity_140 rfl rfl (Nat.le_of_ble_eq_true rfl) (Nat.le_of_ble_eq_true rfl) ⟨⟨0, _, _, rfl, by decide, rfl⟩, fun l9 D E B A hB => c_Mo_over l9 D E B A hB (p := p) (x := (acS p (fun t => V j (kl (pw (re c) t))) (fun t => b ^ t % p) e)) (num := e) hpr hp92 (by omega) (by omega) h11⟩ (fun r140 w140 p140 => ?_)
              obtain ⟨v, rfl, hv1, hv2, rfl⟩ := p140
              have hv3 := hv2 hnde
              show Z (140 + 3) _ (.inl (nI v) :: []) _
              refine z_iret hZ gMo_multiplicity_143 ?_
              exact ⟨Or.inl ⟨hb0, j, c, m, v, b, hj, hc, hm9, rfl, rfl, rfl, rfl, hv1, hb, hbz, hv3⟩, rfl⟩
            | succ d ih =>
              intro t hdt
              have hpG : pw (re c) t ∈ Gl s n := gg_pm hG hrG t
              have hkx := kc_lt hmt.2.2.2.1.1 hpG
              obtain ⟨hv1, hv2⟩ := hV1 j _ hj hkx
              have eidx := nI_clamp (n := 16 * j + kl (pw (re c) t)) (by omega)
              have hbt : b ^ t % p < p := Nat.mod_lt _ (by omega)
              have hs := acS_lt (show 0 < p by omega) (fun t => V j (kl (pw (re c) t))) (fun t => b ^ t % p) t
              have hmu : V j (kl (pw (re c) t)) * (b ^ t % p) ≤ p * p := Nat.mul_le_mul (by omega) (by omega)
              have hmu2 : b ^ t % p * b ≤ p * p := Nat.mul_le_mul (by omega) (by omega)
              have es : ((acS p (fun t => V j (kl (pw (re c) t))) (fun t => b ^ t % p) t) + V j (kl (pw (re c) t)) * (b ^ t % p)) % p = (acS p (fun t => V j (kl (pw (re c) t))) (fun t => b ^ t % p) (t + 1)) := rfl
              have eb : b ^ t % p * b % p = b ^ (t + 1) % p := by rw [Nat.pow_succ, Nat.mod_mul_mod]
              refine z_iload hZ gMo_multiplicity_59 rfl ?_
              refine z_aload_n hZ gMo_multiplicity_61 rfl ?_
              refine z_get hZ gMo_multiplicity_62 (by omega) rfl (by rw [h10e]; rfl) ?_
              refine z_cmpge hZ gMo_multiplicity_65 (fun c65 => absurd c65 (nI_ge (by omega) (by omega))) (fun c65 => ?_)
              refine z_iload hZ gMo_multiplicity_68 rfl ?_
              refine z_aload_n hZ gMo_multiplicity_70 rfl ?_
              refine z_get hZ gMo_multiplicity_71 (by omega) rfl rfl ?_
              refine z_bipush hZ gMo_multiplicity_74 _ i16 ?_
              refine z_iload_n hZ gMo_multiplicity_76 rfl ?_
              refine z_imul hZ gMo_multiplicity_77 _ rfl ?_
              refine z_aload_n hZ gMo_multiplicity_78 rfl ?_
              refine z_get hZ gMo_multiplicity_79 (by omega) rfl rfl ?_
              refine z_aload_n hZ gMo_multiplicity_82 rfl ?_
              refine z_iload hZ gMo_multiplicity_83 rfl ?_
              refine z_cv hZ gMo_multiplicity_85 rfl rfl (Nat.le_of_ble_eq_true rfl) (Nat.le_of_ble_eq_true rfl) ⟨⟨0, _, _, rfl, by decide, rfl⟩, fun l9 D E B A hB => c_Mo_find l9 D E B A hB (cnt := n) (x := nI (pw (re c) t)) hmt.1.1 hmt.2.1⟩ (fun r85 w85 p85 => ?_)
              obtain ⟨h85, rfl⟩ := p85
              obtain ⟨j9, hj9, hj8, hj7, rfl⟩ := elM_fp hmt.1 hmt.2.2.1 hpG h85
              have ej9 : (nI j9).toNatClampNeg = j9 := nI_clamp (by omega)
              show Z (85 + 3) _ (.inl (nI j9) :: .inr (3, 0) :: .inl (nI 16 * nI j) :: .inr (9, 0) :: .inl (nI (acS p (fun t => V j (kl (pw (re c) t))) (fun t => b ^ t % p) t)) :: []) _
              refine z_iald hZ gMo_multiplicity_88 (by omega) rfl (vp_in_nI (by omega) (by decide)) ?_
              rw [ej9, hmt.2.2.2.2.2.2.2.1 j9 hj9, hj8]
              refine z_iadd hZ gMo_multiplicity_89 _ (ix2 j (kl (pw (re c) t))) ?_
              refine z_iald hZ gMo_multiplicity_90 (by omega) rfl (vp_in_nI (by omega) (by decide)) ?_
              rw [eidx, hv1]
              refine z_iload hZ gMo_multiplicity_91 rfl ?_
              refine z_imul hZ gMo_multiplicity_93 _ (pk_mul _ _) ?_
              refine z_iadd hZ gMo_multiplicity_94 _ (nI_add _ _) ?_
              refine z_aload_n hZ gMo_multiplicity_95 rfl ?_
              refine z_get hZ gMo_multiplicity_96 (by omega) rfl (by rw [h11]; rfl) ?_
              refine z_irem hZ gMo_multiplicity_99 (nI_ne0 (by omega) (by omega)) _ (pk_rem (by omega) (by omega) (by omega)) ?_
              rw [es]
              refine z_istore hZ gMo_multiplicity_100 rfl ?_
              refine z_iload hZ gMo_multiplicity_102 rfl ?_
              refine z_iload hZ gMo_multiplicity_104 rfl ?_
              refine z_imul hZ gMo_multiplicity_106 _ (pk_mul _ _) ?_
              refine z_aload_n hZ gMo_multiplicity_107 rfl ?_
              refine z_get hZ gMo_multiplicity_108 (by omega) rfl (by rw [h11]; rfl) ?_
              refine z_irem hZ gMo_multiplicity_111 (nI_ne0 (by omega) (by omega)) _ (pk_rem (by omega) (by omega) (by omega)) ?_
              rw [eb]
              refine z_istore hZ gMo_multiplicity_112 rfl ?_
              refine z_iload hZ gMo_multiplicity_114 rfl ?_
              refine z_aload_n hZ gMo_multiplicity_116 rfl ?_
              refine z_get hZ gMo_multiplicity_117 (by omega) rfl rfl ?_
              refine z_iload_n hZ gMo_multiplicity_120 rfl ?_
              refine z_iald hZ gMo_multiplicity_121 (by omega) rfl (vp_in_nI (by omega) (by decide)) ?_
              rw [ec, (hmt.2.2.2.2.2.2.2.2 c hc).1]
              refine z_cs hZ gMo_multiplicity_122 rfl rfl (Nat.le_of_ble_eq_true rfl) (Nat.le_of_ble_eq_true rfl) (fun l9 D E B A hB => c_Mo_product l9 D E B A hB (a := pw (re c) t) (b := re c) (pw_lt _ _) (hmt.2.2.2.2.1 _ hrG).1 _) (fun r122 w122 p122 => ?_)
              obtain ⟨rfl, rfl⟩ := p122
              show Z (122 + 3) _ (.inl (nI (pm (pw (re c) t) (re c))) :: []) _
              refine z_istore hZ gMo_multiplicity_125 rfl ?_
              refine z_iinc hZ gMo_multiplicity_127 rfl _ (i1 t) rfl ?_
              refine z_goto hZ gMo_multiplicity_130 ?_
              exact ih (t + 1) (by omega)
          have hzm : z ^ m % p < p := Nat.mod_lt _ (by omega)
          have hzn : ¬ p ∣ z ^ m % p := fun h9 => hnz m (Nat.dvd_of_mod_eq_zero (Nat.eq_zero_of_dvd_of_lt h9 hzm))
          refine z_aload_n hZ gMo_multiplicity_30 rfl ?_
          refine z_iconst hZ gMo_multiplicity_31 _ ic1 ?_
          refine z_aload_n hZ gMo_multiplicity_32 rfl ?_
          refine z_aload_n hZ gMo_multiplicity_33 rfl ?_
          refine z_get hZ gMo_multiplicity_34 (by omega) rfl (by rw [h12z]; rfl) ?_
          refine z_iload_n hZ gMo_multiplicity_37 rfl ?_
          refine z_cv hZ gMo_multiplicity_38 rfl rfl (Nat.le_of_ble_eq_true rfl) (Nat.le_of_ble_eq_true rfl) ⟨⟨0, _, _, rfl, by decide, rfl⟩, fun l9 D E B A hB => c_Mo_raised l9 D E B A hB (p := p) (b := z) (m := m) hp1 hp92 (by omega) (by omega) h11⟩ (fun r38 w38 p38 => ?_)
          obtain ⟨rfl, rfl⟩ := p38
          show Z (38 + 3) _ (.inl (nI (z ^ m % p)) :: .inl (nI 1) :: .inr (0, 0) :: []) _
          refine z_cv hZ gMo_multiplicity_41 rfl rfl (Nat.le_of_ble_eq_true rfl) (Nat.le_of_ble_eq_true rfl) ⟨⟨0, _, _, rfl, by decide, rfl⟩, fun l9 D E B A hB => c_Mo_over l9 D E B A hB (p := p) (x := 1) (num := z ^ m % p) hpr hp92 (by decide) (by omega) h11⟩ (fun r41 w41 p41 => ?_)
          obtain ⟨b, rfl, hb1, hb2, rfl⟩ := p41
          have hb3 := hb2 hzn
          show Z (41 + 3) _ (.inl (nI b) :: []) _
          refine z_istore hZ gMo_multiplicity_44 rfl ?_
          refine z_iconst hZ gMo_multiplicity_46 _ i0 ?_
          refine z_istore hZ gMo_multiplicity_47 rfl ?_
          refine z_iconst hZ gMo_multiplicity_49 _ ic1 ?_
          refine z_istore hZ gMo_multiplicity_50 rfl ?_
          refine z_ldc hZ gMo_multiplicity_52 ?_
          refine z_istore hZ gMo_multiplicity_54 rfl ?_
          refine z_iconst hZ gMo_multiplicity_56 _ i0 ?_
          refine z_istore hZ gMo_multiplicity_57 rfl ?_
          have h9 := loop b hb1 hb3 e 0 (by omega)
          rw [Nat.pow_zero, Nat.mod_eq_of_lt hp1] at h9
          exact h9
        · have cf25 := c25
          refine z_iconst hZ gMo_multiplicity_28 _ rfl ?_
          refine z_iret hZ gMo_multiplicity_29 ?_
          first | exact ⟨Or.inr ⟨fun h9 => nJ_neg (by omega) ct17 h9.2.2.2, rfl⟩, rfl⟩ | exact ⟨Or.inr ⟨fun h9 => nJ_big (by omega) (i_nlt2 cf25) h9.2.2.2, rfl⟩, rfl⟩
    · show Z 13 _ (.inl 0 :: []) _
      refine z_ifeq hZ gMo_multiplicity_13 (fun c9 => ?_) (fun c9 => absurd rfl c9)
      refine z_iconst hZ gMo_multiplicity_28 _ rfl ?_
      refine z_iret hZ gMo_multiplicity_29 ?_
      exact ⟨Or.inr ⟨fun h9 => h10 ⟨h9.1, h9.2.2.1⟩, rfl⟩, rfl⟩
  · show Z 5 _ (.inl 0 :: []) _
    refine z_ifeq hZ gMo_multiplicity_5 (fun c9 => ?_) (fun c9 => absurd rfl c9)
    refine z_iconst hZ gMo_multiplicity_28 _ rfl ?_
    refine z_iret hZ gMo_multiplicity_29 ?_
    exact ⟨Or.inr ⟨fun h9 => h2 ⟨h9.1, h9.2.1⟩, rfl⟩, rfl⟩

set_option maxHeartbeats 4000000 in
set_option maxRecDepth 100000 in
theorem c_Mo_indicator (l : Launch) (D : va_G) (E : sx_E) (B : Nat) (A : Nat → Prop) (hB : 11 ≤ B) {a : sA} {i : sA} {s kl re : Nat → Nat} {n k : Nat} {p : Nat} {Am : Nat → Nat → Nat → Nat} {V : Nat → Nat → Nat} {x : Int32} (hm : ¬ i 0 2 = 0 → mtO a i s n k kl re) (hd : ¬ i 0 2 = 0 → mdO p k Am a i) (hV : ¬ i 0 2 = 0 → ∀ j q, j < k → q < k → a 9 (16 * j + q) = nI (V j q) ∧ V j q < p) (hndn : ¬ i 0 2 = 0 → ¬ p ∣ n) : sM l D E B A yMo_indicator prog_9_method_46_code 4 (some .int) 4 92 [.inr (0, 0), .inl x] (mW a i) (fun r w' => ((¬ i 0 2 = 0 ∧ ∃ j v : Nat, j < k ∧ x = nI j ∧ r = some (.inl (inV p v)) ∧ v < p ∧ (p : Int) ∣ (v : Int) * (n : Int) - (acS p (kc_s (Gl s n) kl) (fun c => V j (kl (pw (re c) 2))) k : Int)) ∨ (¬ (¬ i 0 2 = 0 ∧ nJ k x) ∧ r = some (.inl 0))) ∧ w' = mW a i) := by
  refine sx_m0 (ls := lMo_indicator) (cs := csAll) (by decide +kernel) kMo_indicator (hMo_indicator l D E B A hB) (by simp) (fun w' h => (by rcases h.1 with ⟨_, _, _, _, _, h, _⟩ | ⟨_, h⟩ <;> cases h)) ?_
  intro Z hZ
  refine z_aload_n hZ gMo_indicator_0 rfl ?_
  refine z_iload_n hZ gMo_indicator_1 rfl ?_
  refine z_cv hZ gMo_indicator_2 rfl rfl (Nat.le_of_ble_eq_true rfl) (Nat.le_of_ble_eq_true rfl) ⟨⟨0, _, _, rfl, by decide, rfl⟩, fun l9 D E B A hB => c_Mo_isClass l9 D E B A hB (k := k) (x := x) (fun h9 => ⟨by have := (hm h9).2.2.2.2.2.1; omega, (hm h9).2.2.2.2.2.2.1⟩)⟩ (fun r2 w2 p2 => ?_)
  obtain ⟨h2, rfl⟩ := p2
  rcases h2 with ⟨rfl, h2⟩ | ⟨rfl, h2⟩
  · show Z 5 _ (.inl 1 :: []) _
    refine z_ifne hZ gMo_indicator_5 (fun c9 => ?_) (fun c9 => absurd c9 (by decide))
    obtain ⟨hb0, j, hj, rfl⟩ := h2
    have hmt := hm hb0
    have hdd := hd hb0
    have hV1 := hV hb0
    have hk1 := hmt.2.2.2.2.2.1
    have hn := hmt.2.1
    have hpr := hdd.1
    have hp1 := hpr.1
    have hp92 := hdd.2.1
    have h11 := hdd.2.2.2.1
    have h6 := hdd.2.2.2.2.1
    have hpp : p * p ≤ 1092 * 1092 := Nat.mul_le_mul (by omega) (by omega)
    have hG := kc_g hmt.2.2.2.1.1
    have loop : ∀ d c, d + c = k → Z 14 [some (.inr (0, 0)), some (.inl (nI j)), some (.inl (nI (acS p (kc_s (Gl s n) kl) (fun c => V j (kl (pw (re c) 2))) c))), some (.inl (nI c))] [] (mW a i) := by
      intro d
      induction d with
      | zero =>
        intro c hdc
        have e9 : c = k := by omega
        rw [e9]
        have hs := acS_lt (show 0 < p by omega) (kc_s (Gl s n) kl) (fun c => V j (kl (pw (re c) 2))) k
        refine z_iload_n hZ gMo_indicator_14 rfl ?_
        refine z_aload_n hZ gMo_indicator_15 rfl ?_
        refine z_get hZ gMo_indicator_16 (by omega) rfl (by rw [h6]; rfl) ?_
        refine z_cmpge hZ gMo_indicator_19 (fun c19 => ?_) (fun c19 => absurd (nI_le (Nat.le_refl k) (by omega)) c19)
        refine z_aload_n hZ gMo_indicator_59 rfl ?_
        refine z_iload_n hZ gMo_indicator_60 rfl ?_
        refine z_aload_n hZ gMo_indicator_61 rfl ?_
        refine z_get hZ gMo_indicator_62 (by omega) rfl (by rw [hmt.1.1]; rfl) ?_
        refine z_cv hZ gMo_indicator_65 rfl rfl (Nat.le_of_ble_eq_true rfl) (Nat.le_of_ble_eq_true rfl) ⟨⟨0, _, _, rfl, by decide, rfl⟩, fun l9 D E B A hB => c_Mo_over l9 D E B A hB (p := p) (x := (acS p (kc_s (Gl s n) kl) (fun c => V j (kl (pw (re c) 2))) k)) (num := n) hpr hp92 (by omega) (by omega) h11⟩ (fun r65 w65 p65 => ?_)
        obtain ⟨v, rfl, hv1, hv2, rfl⟩ := p65
        have hv3 := hv2 (hndn hb0)
        show Z (65 + 3) _ (.inl (nI v) :: []) _
        refine z_istore_n hZ gMo_indicator_68 rfl ?_
        refine z_iload_n hZ gMo_indicator_69 rfl ?_
        refine z_aload_n hZ gMo_indicator_70 rfl ?_
        refine z_get hZ gMo_indicator_71 (by omega) rfl (by rw [h11]; rfl) ?_
        refine z_iconst hZ gMo_indicator_74 _ rfl ?_
        refine z_isub hZ gMo_indicator_75 _ (nI_sub1 (by omega)) ?_
        refine z_cmpne hZ gMo_indicator_76 (fun c76 => ?_) (fun c76 => ?_)
        · have ct76 := c76
          have hin : nI v = inV p v := by unfold inV; rw [if_neg (fun h9 => c76 (by rw [h9]))]
          refine z_iload_n hZ gMo_indicator_83 rfl ?_
          refine z_iret hZ gMo_indicator_84 ?_
          first | exact ⟨Or.inl ⟨hb0, j, v, hj, rfl, by rw [← hin], hv1, hv3⟩, rfl⟩
        · have cf76 := c76
          have hin : (-1 : Int32) = inV p v := by unfold inV; rw [if_pos ((nI_eq (by omega) (by omega)).mp c76)]
          refine z_iconst hZ gMo_indicator_79 _ im1 ?_
          refine z_goto hZ gMo_indicator_80 ?_
          refine z_iret hZ gMo_indicator_84 ?_
          first | exact ⟨Or.inl ⟨hb0, j, v, hj, rfl, by rw [← hin], hv1, hv3⟩, rfl⟩
      | succ d ih =>
        intro c hdc
        have hc : c < k := by omega
        have hrG := kc_re hmt.2.2.2.1.1 hc
        have hpG : pw (re c) 2 ∈ Gl s n := gg_pm hG hrG 2
        have hkx := kc_lt hmt.2.2.2.1.1 hpG
        obtain ⟨hv1, hv2⟩ := hV1 j _ hj hkx
        have ec := nI_clamp (n := c) (by omega)
        have eidx := nI_clamp (n := 16 * j + kl (pw (re c) 2)) (by omega)
        have hs := acS_lt (show 0 < p by omega) (kc_s (Gl s n) kl) (fun c => V j (kl (pw (re c) 2))) c
        have hsz : kc_s (Gl s n) kl c ≤ 120 := Nat.le_trans (sz_le c) hn
        have hmu : kc_s (Gl s n) kl c * V j (kl (pw (re c) 2)) ≤ 120 * 1092 := Nat.mul_le_mul hsz (by omega)
        have es : ((acS p (kc_s (Gl s n) kl) (fun c => V j (kl (pw (re c) 2))) c) + kc_s (Gl s n) kl c * V j (kl (pw (re c) 2))) % p = (acS p (kc_s (Gl s n) kl) (fun c => V j (kl (pw (re c) 2))) (c + 1)) := rfl
        refine z_iload_n hZ gMo_indicator_14 rfl ?_
        refine z_aload_n hZ gMo_indicator_15 rfl ?_
        refine z_get hZ gMo_indicator_16 (by omega) rfl (by rw [h6]; rfl) ?_
        refine z_cmpge hZ gMo_indicator_19 (fun c19 => absurd c19 (nI_ge (by omega) (by omega))) (fun c19 => ?_)
        refine z_iload_n hZ gMo_indicator_22 rfl ?_
        refine z_aload_n hZ gMo_indicator_23 rfl ?_
        refine z_get hZ gMo_indicator_24 (by omega) rfl rfl ?_
        refine z_iload_n hZ gMo_indicator_27 rfl ?_
        refine z_iald hZ gMo_indicator_28 (by omega) rfl (vp_in_nI (by omega) (by decide)) ?_
        rw [ec, (hmt.2.2.2.2.2.2.2.2 c hc).2]
        refine z_aload_n hZ gMo_indicator_29 rfl ?_
        refine z_get hZ gMo_indicator_30 (by omega) rfl rfl ?_
        refine z_bipush hZ gMo_indicator_33 _ i16 ?_
        refine z_iload_n hZ gMo_indicator_35 rfl ?_
        refine z_imul hZ gMo_indicator_36 _ rfl ?_
        refine z_aload_n hZ gMo_indicator_37 rfl ?_
        refine z_iload_n hZ gMo_indicator_38 rfl ?_
        refine z_iconst hZ gMo_indicator_39 _ ic2 ?_
        refine z_cv hZ gMo_indicator_40 rfl rfl (Nat.le_of_ble_eq_true rfl) (Nat.le_of_ble_eq_true rfl) ⟨⟨0, _, _, rfl, by decide, rfl⟩, fun l9 D E B A hB => c_Mo_power l9 D E B A hB (x := nI c) (y := nI 2) hm⟩ (fun r40 w40 p40 => ?_)
        obtain ⟨h40, rfl⟩ := p40
        have hr40 : r40 = some (.inl (nI (kl (pw (re c) 2)))) := by
          rcases h40 with ⟨_, j9, m9, q1, q2, q3, q4, q5⟩ | ⟨q1, _⟩
          · have e1 := (nI_eq (by omega) (by omega)).mp q3
            have e2 := (nI_eq (by decide) (by omega)).mp q4
            rw [q5, ← e1, ← e2]
          · exact absurd ⟨hb0, ⟨c, hc, rfl⟩, ⟨2, by decide, rfl⟩⟩ q1
        subst hr40
        show Z (40 + 3) _ (.inl (nI (kl (pw (re c) 2))) :: .inl (nI 16 * nI j) :: .inr (9, 0) :: .inl (nI (kc_s (Gl s n) kl c)) :: .inl (nI (acS p (kc_s (Gl s n) kl) (fun c => V j (kl (pw (re c) 2))) c)) :: []) _
        refine z_iadd hZ gMo_indicator_43 _ (ix2 j (kl (pw (re c) 2))) ?_
        refine z_iald hZ gMo_indicator_44 (by omega) rfl (vp_in_nI (by omega) (by decide)) ?_
        rw [eidx, hv1]
        refine z_imul hZ gMo_indicator_45 _ (pk_mul _ _) ?_
        refine z_iadd hZ gMo_indicator_46 _ (nI_add _ _) ?_
        refine z_aload_n hZ gMo_indicator_47 rfl ?_
        refine z_get hZ gMo_indicator_48 (by omega) rfl (by rw [h11]; rfl) ?_
        refine z_irem hZ gMo_indicator_51 (nI_ne0 (by omega) (by omega)) _ (pk_rem (by omega) (by omega) (by omega)) ?_
        rw [es]
        refine z_istore_n hZ gMo_indicator_52 rfl ?_
        refine z_iinc hZ gMo_indicator_53 rfl _ (i1 c) rfl ?_
        refine z_goto hZ gMo_indicator_56 ?_
        exact ih (c + 1) (by omega)
    refine z_iconst hZ gMo_indicator_10 _ i0 ?_
    refine z_istore_n hZ gMo_indicator_11 rfl ?_
    refine z_iconst hZ gMo_indicator_12 _ i0 ?_
    refine z_istore_n hZ gMo_indicator_13 rfl ?_
    exact loop k 0 (by omega)
  · show Z 5 _ (.inl 0 :: []) _
    refine z_ifne hZ gMo_indicator_5 (fun c9 => absurd rfl c9) (fun c9 => ?_)
    refine z_iconst hZ gMo_indicator_8 _ rfl ?_
    refine z_iret hZ gMo_indicator_9 ?_
    exact ⟨Or.inr ⟨h2, rfl⟩, rfl⟩

set_option maxHeartbeats 4000000 in
set_option maxRecDepth 100000 in
theorem c_Mo_kernel (l : Launch) (D : va_G) (E : sx_E) (B : Nat) (A : Nat → Prop) (hB : 11 ≤ B) {a : sA} {i : sA} {k : Nat} {x : Int32} (hk : ¬ i 0 2 = 0 → k ≤ 16 ∧ i 0 6 = nI k) : sM l D E B A yMo_kernel prog_9_method_47_code 4 (some .int) 1 21 [.inr (0, 0), .inl x] (mW a i) (fun r w' => ((¬ i 0 2 = 0 ∧ ∃ j, j < k ∧ x = nI j ∧ r = some (.inl (nI (krB (fun q => decide (a 9 (16 * j + q) = a 8 j)) k)))) ∨ (¬ (¬ i 0 2 = 0 ∧ nJ k x) ∧ r = some (.inl 0))) ∧ w' = mW a i) := by
  refine sx_m0 (ls := lMo_kernel) (cs := csAll) (by decide +kernel) kMo_kernel (hMo_kernel l D E B A hB) (by simp) (fun w' h => (by rcases h.1 with ⟨_, _, _, _, h⟩ | ⟨_, h⟩ <;> cases h)) ?_
  intro Z hZ
  by_cases hcl : ¬ i 0 2 = 0 ∧ nJ k x
  · obtain ⟨hb0, j, hj, rfl⟩ := hcl
    obtain ⟨hk1, h6⟩ := hk hb0
    have ej := nI_clamp (n := j) (by omega)
    have loop : ∀ d c, d + c = k → Z 4 [some (.inr (0, 0)), some (.inl (nI j)), some (.inl (nI (krB (fun q => decide (a 9 (16 * j + q) = a 8 j)) c))), some (.inl (nI c))] [] (mW a i) := by
      intro d
      induction d with
      | zero =>
        intro c hdc
        have e9 : c = k := by omega
        rw [e9]
        refine z_iload_n hZ gMo_kernel_4 rfl ?_
        refine z_aload_n hZ gMo_kernel_5 rfl ?_
        refine z_get hZ gMo_kernel_6 (by omega) rfl (by rw [h6]; rfl) ?_
        refine z_cmpge hZ gMo_kernel_9 (fun c9 => ?_) (fun c9 => absurd (nI_le (Nat.le_refl k) (by omega)) c9)
        refine z_iload_n hZ gMo_kernel_56 rfl ?_
        refine z_iret hZ gMo_kernel_57 ?_
        exact ⟨Or.inl ⟨hb0, j, hj, rfl, rfl⟩, rfl⟩
      | succ d ih =>
        intro c hdc
        have ejc := nI_clamp (n := 16 * j + c) (by omega)
        have fin : ∀ v : Nat, v = (if decide (a 9 (16 * j + c) = a 8 j) = true then 2 ^ c else 0) → Z 48 [some (.inr (0, 0)), some (.inl (nI j)), some (.inl (nI (krB (fun q => decide (a 9 (16 * j + q) = a 8 j)) c))), some (.inl (nI c))] [.inl (nI v), .inl (nI (krB (fun q => decide (a 9 (16 * j + q) = a 8 j)) c))] (mW a i) := by
          intro v hv
          have ek : (krB (fun q => decide (a 9 (16 * j + q) = a 8 j)) c) + v = (krB (fun q => decide (a 9 (16 * j + q) = a 8 j)) (c + 1)) := by rw [krB_add, hv]
          refine z_iadd hZ gMo_kernel_48 _ (nI_add _ _) ?_
          rw [ek]
          refine z_istore_n hZ gMo_kernel_49 rfl ?_
          refine z_iinc hZ gMo_kernel_50 rfl _ (i1 c) rfl ?_
          refine z_goto hZ gMo_kernel_53 ?_
          exact ih (c + 1) (by omega)
        refine z_iload_n hZ gMo_kernel_4 rfl ?_
        refine z_aload_n hZ gMo_kernel_5 rfl ?_
        refine z_get hZ gMo_kernel_6 (by omega) rfl (by rw [h6]; rfl) ?_
        refine z_cmpge hZ gMo_kernel_9 (fun c9 => absurd c9 (nI_ge (by omega) (by omega))) (fun c9 => ?_)
        refine z_aload_n hZ gMo_kernel_12 rfl ?_
        refine z_iload_n hZ gMo_kernel_13 rfl ?_
        refine z_cv hZ gMo_kernel_14 rfl rfl (Nat.le_of_ble_eq_true rfl) (Nat.le_of_ble_eq_true rfl) ⟨⟨0, _, _, rfl, by decide, rfl⟩, fun l9 D E B A hB => c_Mo_isClass l9 D E B A hB (k := k) (x := nI j) (fun h9 => ⟨by omega, h6⟩)⟩ (fun r14 w14 p14 => ?_)
        obtain ⟨h14, rfl⟩ := p14
        rcases h14 with ⟨rfl, h14⟩ | ⟨rfl, h14⟩
        · show Z 17 _ (.inl 1 :: []) _
          refine z_ifeq hZ gMo_kernel_17 (fun c9 => absurd c9 (by decide)) (fun c9 => ?_)
          refine z_iload_n hZ gMo_kernel_20 rfl ?_
          refine z_aload_n hZ gMo_kernel_21 rfl ?_
          refine z_get hZ gMo_kernel_22 (by omega) rfl rfl ?_
          refine z_bipush hZ gMo_kernel_25 _ i16 ?_
          refine z_iload_n hZ gMo_kernel_27 rfl ?_
          refine z_imul hZ gMo_kernel_28 _ rfl ?_
          refine z_iload_n hZ gMo_kernel_29 rfl ?_
          refine z_iadd hZ gMo_kernel_30 _ (ix2 j c) ?_
          refine z_iald hZ gMo_kernel_31 (by omega) rfl (vp_in_nI (by omega) (by decide)) ?_
          rw [ejc]
          refine z_aload_n hZ gMo_kernel_32 rfl ?_
          refine z_get hZ gMo_kernel_33 (by omega) rfl rfl ?_
          refine z_iload_n hZ gMo_kernel_36 rfl ?_
          refine z_iald hZ gMo_kernel_37 (by omega) rfl (vp_in_nI (by omega) (by decide)) ?_
          rw [ej]
          refine z_cmpne hZ gMo_kernel_38 (fun c38 => ?_) (fun c38 => ?_)
          · have ct38 := c38
            have hv : 0 = (if decide (a 9 (16 * j + c) = a 8 j) = true then 2 ^ c else 0) := by rw [if_neg (fun h9 => c38 (of_decide_eq_true h9))]
            refine z_iconst hZ gMo_kernel_47 _ i0 ?_
            exact fin _ hv
          · have cf38 := c38
            have hv : 2 ^ c = (if decide (a 9 (16 * j + c) = a 8 j) = true then 2 ^ c else 0) := by rw [if_pos (decide_eq_true c38)]
            refine z_iconst hZ gMo_kernel_41 _ rfl ?_
            refine z_iload_n hZ gMo_kernel_42 rfl ?_
            refine z_ishl hZ gMo_kernel_43 _ (sh16 c (by omega)) ?_
            refine z_goto hZ gMo_kernel_44 ?_
            exact fin _ hv
        · show Z 17 _ (.inl 0 :: []) _
          refine z_ifeq hZ gMo_kernel_17 (fun c9 => ?_) (fun c9 => absurd rfl c9)
          exact absurd ⟨hb0, j, hj, rfl⟩ h14
    refine z_iconst hZ gMo_kernel_0 _ i0 ?_
    refine z_istore_n hZ gMo_kernel_1 rfl ?_
    refine z_iconst hZ gMo_kernel_2 _ i0 ?_
    refine z_istore_n hZ gMo_kernel_3 rfl ?_
    exact loop k 0 (by omega)
  · have out : ∀ x3, Z 56 [some (.inr (0, 0)), some (.inl x), some (.inl (Int32.ofInt 0)), x3] [] (mW a i) := by
      intro x3
      refine z_iload_n hZ gMo_kernel_56 rfl ?_
      refine z_iret hZ gMo_kernel_57 ?_
      exact ⟨Or.inr ⟨hcl, rfl⟩, rfl⟩
    refine z_iconst hZ gMo_kernel_0 _ rfl ?_
    refine z_istore_n hZ gMo_kernel_1 rfl ?_
    refine z_iconst hZ gMo_kernel_2 _ rfl ?_
    refine z_istore_n hZ gMo_kernel_3 rfl ?_
    refine z_iload_n hZ gMo_kernel_4 rfl ?_
    refine z_aload_n hZ gMo_kernel_5 rfl ?_
    refine z_get hZ gMo_kernel_6 (by omega) rfl rfl ?_
    refine z_cmpge hZ gMo_kernel_9 (fun c9 => ?_) (fun c9 => ?_)
    · have ct9 := c9
      exact out _
    · have cf9 := c9
      refine z_aload_n hZ gMo_kernel_12 rfl ?_
      refine z_iload_n hZ gMo_kernel_13 rfl ?_
      refine z_cv hZ gMo_kernel_14 rfl rfl (Nat.le_of_ble_eq_true rfl) (Nat.le_of_ble_eq_true rfl) ⟨⟨0, _, _, rfl, by decide, rfl⟩, fun l9 D E B A hB => c_Mo_isClass l9 D E B A hB (k := k) (x := x) (fun h9 => ⟨by have := (hk h9).1; omega, (hk h9).2⟩)⟩ (fun r14 w14 p14 => ?_)
      obtain ⟨h14, rfl⟩ := p14
      rcases h14 with ⟨rfl, h14⟩ | ⟨rfl, h14⟩
      · show Z 17 _ (.inl 1 :: []) _
        refine z_ifeq hZ gMo_kernel_17 (fun c9 => absurd c9 (by decide)) (fun c9 => ?_)
        exact absurd h14 hcl
      · show Z 17 _ (.inl 0 :: []) _
        refine z_ifeq hZ gMo_kernel_17 (fun c9 => ?_) (fun c9 => absurd rfl c9)
        exact out _

