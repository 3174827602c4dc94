-- multiplicity, add, clear, build
set_option maxHeartbeats 4000000 in
set_option maxRecDepth 100000 in
theorem c_Cc_multiplicity (l : Launch) (D : va_G) (E : sx_E) (B : Nat) (A : Nat → Prop) (hB : 29 ≤ B) {a : sA} {g : sG} {i : sA} {k e p z : Nat} {pl : Nat → Nat} {pc V : Nat → Nat → Nat} {x y zz : Int32} (hk : i 0 2 = 0 → k ≤ 16 ∧ i 5 0 = nI k) (hpl : i 0 2 = 0 → ∀ j, j < k → a 27 j = nI (pl j) ∧ pl j < k) (hT : i 0 2 = 0 → i 5 6 = nI e ∧ 0 < e ∧ e ≤ 120 ∧ i 12 0 = nI p ∧ i 12 1 = nI z ∧ z < p ∧ isPr p ∧ p < 1092 ∧ ¬ p ∣ e ∧ (∀ c t, c < k → t < e → g 9 c t = nI (pc c t) ∧ pc c t < k) ∧ ∀ r q, r < k → q < k → g 24 r q = nI (V r q) ∧ V r q < p) : sM l D E B A yCc_multiplicity prog_1_method_18_code 4 (some .int) 3 81 [.inr (0, 0), .inl x, .inl y, .inl zz] (cW a g i) (fun r w' => ((i 0 2 = 0 ∧ ∃ j q m v : Nat, j < k ∧ q < k ∧ m < e ∧ x = nI j ∧ y = nI q ∧ zz = nI m ∧ r = some (.inl (nI v)) ∧ v < p ∧ (p : Int) ∣ (v : Int) * (e : Int) - (acS p (fun t => V (pl j) (pc q t)) (fcS p (z ^ (e - m) % p)) e : Int)) ∨ (¬ (i 0 2 = 0 ∧ nJ k x ∧ nJ k y ∧ nJ e zz) ∧ r = some (.inl (-1)))) ∧ w' = cW a g i) := by
  refine sx_m0 (ls := lCc_multiplicity) (cs := csAll) (by decide +kernel) kCc_multiplicity (hCc_multiplicity l D E B A hB) (by simp) (fun w' h => (by rcases h.1 with ⟨_, _, _, _, _, _, _, _, _, _, _, h, _⟩ | ⟨_, h⟩ <;> cases h)) ?_
  intro Z hZ
  refine z_aload_n hZ gCc_multiplicity_0 rfl ?_
  refine z_iload_n hZ gCc_multiplicity_1 rfl ?_
  refine z_cv hZ gCc_multiplicity_2 rfl rfl (Nat.le_of_ble_eq_true rfl) (Nat.le_of_ble_eq_true rfl) ⟨⟨0, _, _, rfl, by decide, rfl⟩, fun l9 D E B A hB => c_Cc_isClass l9 D E B A hB (k := k) (x := x) (fun h9 => ⟨by have := (hk h9).1; omega, (hk h9).2⟩)⟩ (fun r2 w2 p2 => ?_)
  obtain ⟨h2, rfl⟩ := p2
  rcases h2 with ⟨rfl, h2⟩ | ⟨rfl, h2⟩
  · show Z 5 _ (.inl 1 :: []) _
    refine z_ifeq hZ gCc_multiplicity_5 (fun c9 => absurd c9 (by decide)) (fun c9 => ?_)
    refine z_aload_n hZ gCc_multiplicity_8 rfl ?_
    refine z_iload_n hZ gCc_multiplicity_9 rfl ?_
    refine z_cv hZ gCc_multiplicity_10 rfl rfl (Nat.le_of_ble_eq_true rfl) (Nat.le_of_ble_eq_true rfl) ⟨⟨0, _, _, rfl, by decide, rfl⟩, fun l9 D E B A hB => c_Cc_isClass l9 D E B A hB (k := k) (x := y) (fun h9 => ⟨by have := (hk h9).1; omega, (hk h9).2⟩)⟩ (fun r10 w10 p10 => ?_)
    obtain ⟨h10, rfl⟩ := p10
    rcases h10 with ⟨rfl, h10⟩ | ⟨rfl, h10⟩
    · show Z 13 _ (.inl 1 :: []) _
      refine z_ifeq hZ gCc_multiplicity_13 (fun c9 => absurd c9 (by decide)) (fun c9 => ?_)
      obtain ⟨hb, j, hj, rfl⟩ := h2
      have hk1 := (hk hb).1
      have ej : (nI j).toNatClampNeg = j := nI_clamp (by omega)
      obtain ⟨hp1, hp2⟩ := hpl hb j hj
      obtain ⟨_, q, hq, rfl⟩ := h10
      obtain ⟨he, he0, he1, hm, hz, hzp, hpr, hp, hnd, hpc, hV⟩ := hT hb
      refine z_iload_n hZ gCc_multiplicity_16 rfl ?_
      refine z_iflt hZ gCc_multiplicity_17 (fun c17 => ?_) (fun c17 => ?_)
      · have ct17 := c17
        refine z_iconst hZ gCc_multiplicity_31 _ rfl ?_
        refine z_iret hZ gCc_multiplicity_32 ?_
        first | exact ⟨Or.inr ⟨fun h9 => nJ_neg (by omega) ct17 h9.2.2.2, rfl⟩, rfl⟩ | exact ⟨Or.inr ⟨fun h9 => nJ_big (by omega) (i_nlt2 cf28) h9.2.2.2, rfl⟩, rfl⟩
      · have cf17 := c17
        refine z_iload_n hZ gCc_multiplicity_20 rfl ?_
        refine z_aload_n hZ gCc_multiplicity_21 rfl ?_
        refine z_get hZ gCc_multiplicity_22 (by omega) rfl rfl ?_
        refine z_get hZ gCc_multiplicity_25 (by omega) rfl (by rw [he]; rfl) ?_
        refine z_cmplt hZ gCc_multiplicity_28 (fun c28 => ?_) (fun c28 => ?_)
        · have ct28 := c28
          obtain ⟨m, hm9, rfl⟩ := nJ_of (k := e) (by omega) cf17 (i_nle c28)
          refine z_aload_n hZ gCc_multiplicity_33 rfl ?_
          refine z_get hZ gCc_multiplicity_34 (by omega) rfl rfl ?_
          refine z_aload_n hZ gCc_multiplicity_37 rfl ?_
          refine z_get hZ gCc_multiplicity_38 (by omega) rfl rfl ?_
          refine z_get hZ gCc_multiplicity_41 (by omega) rfl rfl ?_
          refine z_iload_n hZ gCc_multiplicity_44 rfl ?_
          refine z_iald hZ gCc_multiplicity_45 (by omega) rfl (vp_in_nI (by omega) (by decide)) ?_
          rw [ej, hp1]
          refine z_iload_n hZ gCc_multiplicity_46 rfl ?_
          refine z_iload_n hZ gCc_multiplicity_47 rfl ?_
          refine z_aload_n hZ gCc_multiplicity_48 rfl ?_
          refine z_get hZ gCc_multiplicity_49 (by omega) rfl rfl ?_
          refine z_aload_n hZ gCc_multiplicity_52 rfl ?_
          refine z_get hZ gCc_multiplicity_53 (by omega) rfl rfl ?_
          refine z_cv hZ gCc_multiplicity_56 rfl rfl (Nat.le_of_ble_eq_true rfl) (Nat.le_of_ble_eq_true rfl) ⟨⟨22, _, _, rfl, by decide, rfl⟩, fun l9 D E B A hB => c_Ro_timesOfRoot l9 D E B A hB (r := pl j) (c := q) (kk := m) (pc := pc q) (V := V (pl j)) hm hz (by omega) hpr hp hk1 (by omega) (by omega) (by omega) he he0 he1 hnd (fun t ht => hpc q t hq ht) (fun q9 hq9 => hV (pl j) q9 hp2 hq9)⟩ (fun r56 w56 p56 => ?_)
          obtain ⟨v, rfl, hv1, hv2, rfl⟩ := p56
          show Z (56 + 3) _ (.inl (nI v) :: []) _
          refine z_iret hZ gCc_multiplicity_59 ?_
          exact ⟨Or.inl ⟨hb, j, q, m, v, hj, hq, hm9, rfl, rfl, rfl, rfl, hv1, hv2⟩, rfl⟩
        · have cf28 := c28
          refine z_iconst hZ gCc_multiplicity_31 _ rfl ?_
          refine z_iret hZ gCc_multiplicity_32 ?_
          first | exact ⟨Or.inr ⟨fun h9 => nJ_neg (by omega) ct17 h9.2.2.2, rfl⟩, rfl⟩ | exact ⟨Or.inr ⟨fun h9 => nJ_big (by omega) (i_nlt2 cf28) h9.2.2.2, rfl⟩, rfl⟩
    · show Z 13 _ (.inl 0 :: []) _
      refine z_ifeq hZ gCc_multiplicity_13 (fun c9 => ?_) (fun c9 => absurd rfl c9)
      refine z_iconst hZ gCc_multiplicity_31 _ rfl ?_
      refine z_iret hZ gCc_multiplicity_32 ?_
      exact ⟨Or.inr ⟨fun h9 => h10 ⟨h9.1, h9.2.2.1⟩, rfl⟩, rfl⟩
  · show Z 5 _ (.inl 0 :: []) _
    refine z_ifeq hZ gCc_multiplicity_5 (fun c9 => ?_) (fun c9 => absurd rfl c9)
    refine z_iconst hZ gCc_multiplicity_31 _ rfl ?_
    refine z_iret hZ gCc_multiplicity_32 ?_
    exact ⟨Or.inr ⟨fun h9 => h2 ⟨h9.1, h9.2.1⟩, rfl⟩, rfl⟩

set_option maxHeartbeats 4000000 in
set_option maxRecDepth 100000 in
theorem c_Cc_add (l : Launch) (D : va_G) (E : sx_E) (B : Nat) (A : Nat → Prop) (hB : 29 ≤ B) {a : sA} {g : sG} {i : sA} {gc : Nat} {x : Int32} (hgc : gc ≤ 4) (hgi : i 0 1 = nI gc) : sM l D E B A yCc_add prog_1_method_2_code 2 (some .boolean) 1 22 [.inr (0, 0), .inl x] (cW a g i) (fun r w' => ((gc < 4 ∧ isC x) ∧ r = some (.inl 1) ∧ ∃ i' : sA, w' = cW (va_up a 1 (upd (a 1) gc x)) g i' ∧ (∀ n, n ≠ 0 → i' n = i n) ∧ i' 0 1 = nI (gc + 1) ∧ i' 0 2 = -1) ∨ (¬ (gc < 4 ∧ isC x) ∧ r = some (.inl 0) ∧ w' = cW a g i)) := by
  refine sx_m0 (ls := lCc_add) (cs := csAll) (by decide +kernel) kCc_add (hCc_add l D E B A hB) (by simp) (⟨fun w' h => (by rcases h with ⟨_, h, _⟩ | ⟨_, h, _⟩ <;> cases h), fun x9 w' h => (by rcases h with ⟨_, h, _⟩ | ⟨_, h, _⟩ <;> (injection h with h; injection h with h; subst h; simp))⟩) ?_
  intro Z hZ
  refine z_aload_n hZ gCc_add_0 rfl ?_
  refine z_get hZ gCc_add_1 (by omega) rfl (by rw [hgi]; rfl) ?_
  refine z_iconst hZ gCc_add_4 _ ic4 ?_
  refine z_cmpge hZ gCc_add_5 (fun c5 => ?_) (fun c5 => ?_)
  · have ct5 := c5
    have hx4 : ¬ gc < 4 := fun h8 => nI_ge h8 (by decide) c5
    refine z_iconst hZ gCc_add_15 _ rfl ?_
    refine z_iret hZ gCc_add_16 ?_
    exact Or.inr ⟨fun h8 => hx4 h8.1, rfl, rfl⟩
  · have cf5 := c5
    have hx4 : gc < 4 := Nat.lt_of_not_le fun h8 => c5 (nI_le h8 (by omega))
    refine z_iload_n hZ gCc_add_8 rfl ?_
    refine z_cs hZ gCc_add_9 rfl rfl (Nat.le_of_ble_eq_true rfl) (Nat.le_of_ble_eq_true rfl) (fun l9 D E B A hB => c_Cd_isPermutation l9 D E B A x (cW a g i)) (fun r9 w9 p9 => ?_)
    obtain ⟨h9, rfl⟩ := p9
    rcases h9 with ⟨rfl, h9⟩ | ⟨rfl, h9⟩
    · show Z 12 _ (.inl 1 :: []) _
      refine z_ifne hZ gCc_add_12 (fun c9 => ?_) (fun c9 => absurd c9 (by decide))
      refine z_aload_n hZ gCc_add_17 rfl ?_
      refine z_get hZ gCc_add_18 (by omega) rfl rfl ?_
      refine z_aload_n hZ gCc_add_21 rfl ?_
      refine z_get hZ gCc_add_22 (by omega) rfl (by rw [hgi]; rfl) ?_
      refine z_iload_n hZ gCc_add_25 rfl ?_
      refine z_iastW hZ gCc_add_26 (by omega) rfl (vp_in_nI (by omega) (by decide)) cW_a1 ?_
      rw [nI_clamp (by omega)]
      refine z_aload_n hZ gCc_add_27 rfl ?_
      refine z_dup hZ gCc_add_28 ?_
      refine z_get hZ gCc_add_29 (by omega) rfl (by rw [hgi]; rfl) ?_
      refine z_iconst hZ gCc_add_32 _ rfl ?_
      refine z_iadd hZ gCc_add_33 _ (i1 gc) ?_
      refine z_putW hZ gCc_add_34 (by omega) rfl (Or.inl (by decide)) (Nat.le_of_ble_eq_true rfl) cW_i0_1 ?_
      refine z_aload_n hZ gCc_add_37 rfl ?_
      refine z_iconst hZ gCc_add_38 _ rfl ?_
      refine z_putW hZ gCc_add_39 (by omega) rfl (Or.inl (by decide)) (Nat.le_of_ble_eq_true rfl) cW_i0_2 ?_
      refine z_iconst hZ gCc_add_42 _ rfl ?_
      refine z_iret hZ gCc_add_43 ?_
      refine Or.inl ⟨⟨by omega, h9⟩, rfl, _, rfl, fun n hn => ?_, ?_, ?_⟩
      · rw [va_up_ne _ _ hn, va_up_ne _ _ hn]
      · rw [va_up_self, va_up_ne _ _ (by decide), va_up_self, va_up_self]
      · rw [va_up_self, va_up_self]; rfl
    · show Z 12 _ (.inl 0 :: []) _
      refine z_ifne hZ gCc_add_12 (fun c9 => absurd rfl c9) (fun c9 => ?_)
      refine z_iconst hZ gCc_add_15 _ rfl ?_
      refine z_iret hZ gCc_add_16 ?_
      exact Or.inr ⟨fun h8 => h9 h8.2, rfl, rfl⟩

set_option maxHeartbeats 4000000 in
set_option maxRecDepth 100000 in
theorem c_Cc_clear (l : Launch) (D : va_G) (E : sx_E) (B : Nat) (A : Nat → Prop) (hB : 29 ≤ B) {a : sA} {g : sG} {i : sA} : sM l D E B A yCc_clear prog_1_method_3_code 1 none 0 0 [.inr (0, 0)] (cW a g i) (fun r w' => r = none ∧ ∃ i' : sA, w' = cW a g i' ∧ (∀ n, n ≠ 0 → i' n = i n) ∧ i' 0 1 = nI 0 ∧ i' 0 2 = -1) := by
  refine sx_m0 (ls := lCc_clear) (cs := noCalls) (by decide +kernel) kCc_clear (fun pc i h1 h2 => sx_nc (ls := lCc_clear) (by decide) pc i h1 h2) (by simp) (fun x w' h => by cases h.1) ?_
  intro Z hZ
  refine z_aload_n hZ gCc_clear_0 rfl ?_
  refine z_iconst hZ gCc_clear_1 _ rfl ?_
  refine z_putW hZ gCc_clear_2 (by omega) rfl (Or.inl (by decide)) (Nat.le_of_ble_eq_true rfl) cW_i0_1 ?_
  refine z_aload_n hZ gCc_clear_5 rfl ?_
  refine z_iconst hZ gCc_clear_6 _ rfl ?_
  refine z_putW hZ gCc_clear_7 (by omega) rfl (Or.inl (by decide)) (Nat.le_of_ble_eq_true rfl) cW_i0_2 ?_
  refine z_vret hZ gCc_clear_10 ?_
  refine ⟨rfl, _, rfl, fun n hn => ?_, ?_, ?_⟩
  · rw [va_up_ne _ _ hn, va_up_ne _ _ hn]
  · rw [va_up_self, va_up_ne _ _ (by decide), va_up_self, va_up_self]; rfl
  · rw [va_up_self, va_up_self]; rfl

def ccO (gen : Nat → Nat) (gc : Nat) (a : sA) (g : sG) (i : sA) : Prop := (i 0 2 = 0 ∧ ccB gen gc a g i) ∨ (i 0 2 = 1 ∧ gMany gen gc) ∨ (i 0 2 = 2 ∧ ∃ s n, elS gen gc s n ∧ cMany s n)
theorem ccB_cg {gen : Nat → Nat} {gc : Nat} {a : sA} {g : sG} {i i' : sA} (h : ccB gen gc a g i) (hi : ∀ n, n ≠ 0 → i' n = i n) : ccB gen gc a g i' := by
  obtain ⟨s, n, k, kl, re, e, p, z, W, pl, hG, q1, q2, q3, q4, q5, q6, q7, q8, q9, q10, q11, q12, q13⟩ := h
  refine ⟨s, n, k, kl, re, e, p, z, W, pl, hG, ⟨by rw [hi 2 (by decide)]; exact q1.1, q1.2⟩, by rw [hi 5 (by decide)]; exact q2, q3, q4, by rw [hi 5 (by decide)]; exact q5, q6, q7, by rw [hi 12 (by decide)]; exact q8, by rw [hi 12 (by decide)]; exact q9, q10, q11, q12, ⟨by rw [hi 22 (by decide)]; exact q13.1, q13.2⟩⟩
theorem cc_d1 : ¬ (0 : Int32) = Int32.ofInt (-1) := by decide
theorem cc_d2 : ¬ (1 : Int32) = Int32.ofInt (-1) := by decide
theorem cc_d3 : ¬ (2 : Int32) = Int32.ofInt (-1) := by decide

set_option maxHeartbeats 4000000 in
set_option maxRecDepth 100000 in
theorem c_Cc_build (l : Launch) (D : va_G) (E : sx_E) (B : Nat) (A : Nat → Prop) (hB : 29 ≤ B) {a : sA} {g : sG} {i : sA} {gen : Nat → Nat} {gc : Nat} (hgc : gc ≤ 4) (hgi : i 0 1 = nI gc) (h1 : ∀ k, k < gc → a 1 k = nI (gen k)) (hg : ∀ k, k < gc → isP (gen k)) (hout : i 0 2 = -1 ∨ ccO gen gc a g i) : sM l D E B A yCc_build prog_1_method_4_code 1 (some .int) 6 153 [.inr (0, 0)] (cW a g i) (fun r w' => ∃ (a' : sA) (g' : sG) (i' : sA), w' = cW a' g' i' ∧ a' 1 = a 1 ∧ i' 0 1 = i 0 1 ∧ r = some (.inl (i' 0 2)) ∧ ccO gen gc a' g' i') := by
  refine sx_m0 (ls := lCc_build) (cs := csAll) (by decide +kernel) kCc_build (hCc_build l D E B A hB) (by simp) (fun w' h => (by obtain ⟨_, _, _, _, _, _, h, _⟩ := h; cases h)) ?_
  intro Z hZ
  refine z_aload_n hZ gCc_build_0 rfl ?_
  refine z_get hZ gCc_build_1 (by omega) rfl rfl ?_
  refine z_iconst hZ gCc_build_4 _ rfl ?_
  refine z_cmpne hZ gCc_build_5 (fun c5 => ?_) (fun c5 => ?_)
  · have ct5 := c5
    have hb : ccO gen gc a g i := by
      rcases hout with h | h
      · exact absurd (h.trans im1.symm) c5
      · exact h
    refine z_aload_n hZ gCc_build_16 rfl ?_
    refine z_get hZ gCc_build_17 (by omega) rfl rfl ?_
    refine z_iret hZ gCc_build_20 ?_
    exact ⟨a, g, i, rfl, rfl, rfl, rfl, hb⟩
  · have cf5 := c5
    have hb : i 0 2 = -1 := c5.trans im1
    refine z_aload_n hZ gCc_build_8 rfl ?_
    refine z_aload_n hZ gCc_build_9 rfl ?_
    refine z_cv hZ gCc_build_10 rfl rfl (Nat.le_of_ble_eq_true rfl) (Nat.le_of_ble_eq_true rfl) ⟨⟨0, _, _, rfl, by decide, rfl⟩, fun l9 D E B A hB => c_Cc_workOut l9 D E B A hB hgc hgi h1 hg⟩ (fun r10 w10 p10 => ?_)
    obtain ⟨a', g', i', rfl, ha1, hi0, p10⟩ := p10
    rcases p10 with ⟨rfl, hB9⟩ | ⟨rfl, hB9⟩ | ⟨rfl, hB9⟩
    · show Z (10 + 3) _ (.inl 0 :: .inr (0, 0) :: []) _
      refine z_putW hZ gCc_build_13 (by omega) rfl (Or.inl (by decide)) (Nat.le_of_ble_eq_true rfl) cW_i0_2 ?_
      refine z_aload_n hZ gCc_build_16 rfl ?_
      refine z_get hZ gCc_build_17 (by omega) rfl rfl ?_
      refine z_iret hZ gCc_build_20 ?_
      refine ⟨a', g', _, rfl, ha1, ?_, rfl, ?_⟩
      · rw [va_up_self, va_up_ne _ _ (by decide), hi0]
      · have hf : ∀ n, n ≠ 0 → (va_up i' 0 (va_up (i' 0) 2 0)) n = i' n := fun n hn => va_up_ne _ _ hn
        have hv : (va_up i' 0 (va_up (i' 0) 2 0)) 0 2 = 0 := by rw [va_up_self, va_up_self]
        exact Or.inl ⟨hv, ccB_cg hB9 hf⟩
    · show Z (10 + 3) _ (.inl 1 :: .inr (0, 0) :: []) _
      refine z_putW hZ gCc_build_13 (by omega) rfl (Or.inl (by decide)) (Nat.le_of_ble_eq_true rfl) cW_i0_2 ?_
      refine z_aload_n hZ gCc_build_16 rfl ?_
      refine z_get hZ gCc_build_17 (by omega) rfl rfl ?_
      refine z_iret hZ gCc_build_20 ?_
      refine ⟨a', g', _, rfl, ha1, ?_, rfl, ?_⟩
      · rw [va_up_self, va_up_ne _ _ (by decide), hi0]
      · have hf : ∀ n, n ≠ 0 → (va_up i' 0 (va_up (i' 0) 2 1)) n = i' n := fun n hn => va_up_ne _ _ hn
        have hv : (va_up i' 0 (va_up (i' 0) 2 1)) 0 2 = 1 := by rw [va_up_self, va_up_self]
        exact Or.inr (Or.inl ⟨hv, hB9⟩)
    · show Z (10 + 3) _ (.inl 2 :: .inr (0, 0) :: []) _
      refine z_putW hZ gCc_build_13 (by omega) rfl (Or.inl (by decide)) (Nat.le_of_ble_eq_true rfl) cW_i0_2 ?_
      refine z_aload_n hZ gCc_build_16 rfl ?_
      refine z_get hZ gCc_build_17 (by omega) rfl rfl ?_
      refine z_iret hZ gCc_build_20 ?_
      refine ⟨a', g', _, rfl, ha1, ?_, rfl, ?_⟩
      · rw [va_up_self, va_up_ne _ _ (by decide), hi0]
      · have hf : ∀ n, n ≠ 0 → (va_up i' 0 (va_up (i' 0) 2 2)) n = i' n := fun n hn => va_up_ne _ _ hn
        have hv : (va_up i' 0 (va_up (i' 0) 2 2)) 0 2 = 2 := by rw [va_up_self, va_up_self]
        exact Or.inr (Or.inr ⟨hv, hB9⟩)

