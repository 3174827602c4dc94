-- the class's readers
-- the int x is the number j, below k
def nJ (k : Nat) (x : Int32) : Prop := ∃ j, j < k ∧ x = nI j
theorem nJ_of {k : Nat} {x : Int32} (hk : k < 2 ^ 31) (h1 : ¬ x < 0) (h2 : ¬ nI k ≤ x) : nJ k x := by
  obtain ⟨c, hc, rfl⟩ := nI_of h1
  exact ⟨c, Nat.lt_of_not_le fun h9 => h2 (nI_le h9 (by omega)), rfl⟩
theorem nJ_neg {k : Nat} {x : Int32} (hk : k < 2 ^ 31) (h1 : x < 0) : ¬ nJ k x := fun ⟨j, hj, e⟩ => by
  rw [e] at h1
  exact nI_pos (by omega) h1
theorem nJ_big {k : Nat} {x : Int32} (hk : k < 2 ^ 31) (h1 : nI k ≤ x) : ¬ nJ k x := fun ⟨j, hj, e⟩ => by
  rw [e] at h1
  exact nI_ge hj (by omega) h1

set_option maxHeartbeats 4000000 in
set_option maxRecDepth 100000 in
theorem c_Cc_isBuilt (l : Launch) (D : va_G) (E : sx_E) (B : Nat) (A : Nat → Prop) (hB : 29 ≤ B) {a : sA} {g : sG} {i : sA} : sM l D E B A yCc_isBuilt prog_1_method_22_code 1 (some .boolean) 0 0 [.inr (0, 0)] (cW a g i) (fun r w' => ans r (i 0 2 = 0) ∧ w' = cW a g i) := by
  refine sx_m0 (ls := lCc_isBuilt) (cs := noCalls) (by decide +kernel) kCc_isBuilt (fun pc i h1 h2 => sx_nc (ls := lCc_isBuilt) (by decide) pc i h1 h2) (by simp) ans_rt ?_
  intro Z hZ
  refine z_aload_n hZ gCc_isBuilt_0 rfl ?_
  refine z_get hZ gCc_isBuilt_1 (by omega) rfl rfl ?_
  refine z_ifne hZ gCc_isBuilt_4 (fun c4 => ?_) (fun c4 => ?_)
  · have ct4 := c4
    have hq : ¬ i 0 2 = 0 := c4
    refine z_iconst hZ gCc_isBuilt_11 _ rfl ?_
    refine z_iret hZ gCc_isBuilt_12 ?_
    first | exact ⟨Or.inl ⟨rfl, hq⟩, rfl⟩ | exact ⟨Or.inr ⟨rfl, hq⟩, rfl⟩
  · have cf4 := c4
    have hq : i 0 2 = 0 := c4
    refine z_iconst hZ gCc_isBuilt_7 _ rfl ?_
    refine z_goto hZ gCc_isBuilt_8 ?_
    refine z_iret hZ gCc_isBuilt_12 ?_
    first | exact ⟨Or.inl ⟨rfl, hq⟩, rfl⟩ | exact ⟨Or.inr ⟨rfl, hq⟩, rfl⟩

set_option maxHeartbeats 4000000 in
set_option maxRecDepth 100000 in
theorem c_Cc_isClass (l : Launch) (D : va_G) (E : sx_E) (B : Nat) (A : Nat → Prop) (hB : 29 ≤ B) {a : sA} {g : sG} {i : sA} {k : Nat} {x : Int32} (hk : i 0 2 = 0 → k < 2 ^ 31 ∧ i 5 0 = nI k) : sM l D E B A yCc_isClass prog_1_method_23_code 2 (some .boolean) 1 20 [.inr (0, 0), .inl x] (cW a g i) (fun r w' => ans r (i 0 2 = 0 ∧ nJ k x) ∧ w' = cW a g i) := by
  refine sx_m0 (ls := lCc_isClass) (cs := csAll) (by decide +kernel) kCc_isClass (hCc_isClass l D E B A hB) (by simp) ans_rt ?_
  intro Z hZ
  refine z_aload_n hZ gCc_isClass_0 rfl ?_
  refine z_cv hZ gCc_isClass_1 rfl rfl (Nat.le_of_ble_eq_true rfl) (Nat.le_of_ble_eq_true rfl) ⟨⟨0, _, _, rfl, by decide, rfl⟩, fun l9 D E B A hB => c_Cc_isBuilt l9 D E B A hB⟩ (fun r1 w1 p1 => ?_)
  obtain ⟨h1, rfl⟩ := p1
  rcases h1 with ⟨rfl, h1⟩ | ⟨rfl, h1⟩
  · show Z 4 _ (.inl 1 :: []) _
    refine z_ifeq hZ gCc_isClass_4 (fun c9 => absurd c9 (by decide)) (fun c9 => ?_)
    obtain ⟨hk1, hk2⟩ := hk h1
    refine z_iload_n hZ gCc_isClass_7 rfl ?_
    refine z_iflt hZ gCc_isClass_8 (fun c8 => ?_) (fun c8 => ?_)
    · have ct8 := c8
      refine z_iconst hZ gCc_isClass_26 _ rfl ?_
      refine z_iret hZ gCc_isClass_27 ?_
      first | exact ⟨Or.inr ⟨rfl, fun h9 => nJ_neg hk1 ct8 h9.2⟩, rfl⟩ | exact ⟨Or.inr ⟨rfl, fun h9 => nJ_big hk1 ct19 h9.2⟩, rfl⟩ | exact ⟨Or.inl ⟨rfl, h1, nJ_of hk1 cf8 cf19⟩, rfl⟩
    · have cf8 := c8
      refine z_iload_n hZ gCc_isClass_11 rfl ?_
      refine z_aload_n hZ gCc_isClass_12 rfl ?_
      refine z_get hZ gCc_isClass_13 (by omega) rfl rfl ?_
      refine z_get hZ gCc_isClass_16 (by omega) rfl (by rw [hk2]; rfl) ?_
      refine z_cmpge hZ gCc_isClass_19 (fun c19 => ?_) (fun c19 => ?_)
      · have ct19 := c19
        refine z_iconst hZ gCc_isClass_26 _ rfl ?_
        refine z_iret hZ gCc_isClass_27 ?_
        first | exact ⟨Or.inr ⟨rfl, fun h9 => nJ_neg hk1 ct8 h9.2⟩, rfl⟩ | exact ⟨Or.inr ⟨rfl, fun h9 => nJ_big hk1 ct19 h9.2⟩, rfl⟩ | exact ⟨Or.inl ⟨rfl, h1, nJ_of hk1 cf8 cf19⟩, rfl⟩
      · have cf19 := c19
        refine z_iconst hZ gCc_isClass_22 _ rfl ?_
        refine z_goto hZ gCc_isClass_23 ?_
        refine z_iret hZ gCc_isClass_27 ?_
        first | exact ⟨Or.inr ⟨rfl, fun h9 => nJ_neg hk1 ct8 h9.2⟩, rfl⟩ | exact ⟨Or.inr ⟨rfl, fun h9 => nJ_big hk1 ct19 h9.2⟩, rfl⟩ | exact ⟨Or.inl ⟨rfl, h1, nJ_of hk1 cf8 cf19⟩, rfl⟩
  · show Z 4 _ (.inl 0 :: []) _
    refine z_ifeq hZ gCc_isClass_4 (fun c9 => ?_) (fun c9 => absurd rfl c9)
    refine z_iconst hZ gCc_isClass_26 _ rfl ?_
    refine z_iret hZ gCc_isClass_27 ?_
    exact ⟨Or.inr ⟨rfl, fun h9 => h1 h9.1⟩, rfl⟩

set_option maxHeartbeats 4000000 in
set_option maxRecDepth 100000 in
theorem c_Cc_order (l : Launch) (D : va_G) (E : sx_E) (B : Nat) (A : Nat → Prop) (hB : 29 ≤ B) {a : sA} {g : sG} {i : sA} : sM l D E B A yCc_order prog_1_method_5_code 1 (some .int) 1 20 [.inr (0, 0)] (cW a g i) (fun r w' => ((i 0 2 = 0 ∧ r = some (.inl (i 2 2))) ∨ (¬ i 0 2 = 0 ∧ r = some (.inl 0))) ∧ w' = cW a g i) := by
  refine sx_m0 (ls := lCc_order) (cs := csAll) (by decide +kernel) kCc_order (hCc_order l D E B A hB) (by simp) (fun w' h => (by obtain ⟨h | h, _⟩ := h <;> cases h.2)) ?_
  intro Z hZ
  refine z_aload_n hZ gCc_order_0 rfl ?_
  refine z_cv hZ gCc_order_1 rfl rfl (Nat.le_of_ble_eq_true rfl) (Nat.le_of_ble_eq_true rfl) ⟨⟨0, _, _, rfl, by decide, rfl⟩, fun l9 D E B A hB => c_Cc_isBuilt l9 D E B A hB⟩ (fun r1 w1 p1 => ?_)
  obtain ⟨h1, rfl⟩ := p1
  rcases h1 with ⟨rfl, h1⟩ | ⟨rfl, h1⟩
  · show Z 4 _ (.inl 1 :: []) _
    refine z_ifeq hZ gCc_order_4 (fun c9 => absurd c9 (by decide)) (fun c9 => ?_)
    refine z_aload_n hZ gCc_order_7 rfl ?_
    refine z_get hZ gCc_order_8 (by omega) rfl rfl ?_
    refine z_get hZ gCc_order_11 (by omega) rfl rfl ?_
    refine z_goto hZ gCc_order_14 ?_
    refine z_iret hZ gCc_order_18 ?_
    exact ⟨Or.inl ⟨h1, rfl⟩, rfl⟩
  · show Z 4 _ (.inl 0 :: []) _
    refine z_ifeq hZ gCc_order_4 (fun c9 => ?_) (fun c9 => absurd rfl c9)
    refine z_iconst hZ gCc_order_17 _ rfl ?_
    refine z_iret hZ gCc_order_18 ?_
    exact ⟨Or.inr ⟨h1, rfl⟩, rfl⟩

set_option maxHeartbeats 4000000 in
set_option maxRecDepth 100000 in
theorem c_Cc_classes (l : Launch) (D : va_G) (E : sx_E) (B : Nat) (A : Nat → Prop) (hB : 29 ≤ B) {a : sA} {g : sG} {i : sA} : sM l D E B A yCc_classes prog_1_method_8_code 1 (some .int) 1 20 [.inr (0, 0)] (cW a g i) (fun r w' => ((i 0 2 = 0 ∧ r = some (.inl (i 5 0))) ∨ (¬ i 0 2 = 0 ∧ r = some (.inl 0))) ∧ w' = cW a g i) := by
  refine sx_m0 (ls := lCc_classes) (cs := csAll) (by decide +kernel) kCc_classes (hCc_classes l D E B A hB) (by simp) (fun w' h => (by obtain ⟨h | h, _⟩ := h <;> cases h.2)) ?_
  intro Z hZ
  refine z_aload_n hZ gCc_classes_0 rfl ?_
  refine z_cv hZ gCc_classes_1 rfl rfl (Nat.le_of_ble_eq_true rfl) (Nat.le_of_ble_eq_true rfl) ⟨⟨0, _, _, rfl, by decide, rfl⟩, fun l9 D E B A hB => c_Cc_isBuilt l9 D E B A hB⟩ (fun r1 w1 p1 => ?_)
  obtain ⟨h1, rfl⟩ := p1
  rcases h1 with ⟨rfl, h1⟩ | ⟨rfl, h1⟩
  · show Z 4 _ (.inl 1 :: []) _
    refine z_ifeq hZ gCc_classes_4 (fun c9 => absurd c9 (by decide)) (fun c9 => ?_)
    refine z_aload_n hZ gCc_classes_7 rfl ?_
    refine z_get hZ gCc_classes_8 (by omega) rfl rfl ?_
    refine z_get hZ gCc_classes_11 (by omega) rfl rfl ?_
    refine z_goto hZ gCc_classes_14 ?_
    refine z_iret hZ gCc_classes_18 ?_
    exact ⟨Or.inl ⟨h1, rfl⟩, rfl⟩
  · show Z 4 _ (.inl 0 :: []) _
    refine z_ifeq hZ gCc_classes_4 (fun c9 => ?_) (fun c9 => absurd rfl c9)
    refine z_iconst hZ gCc_classes_17 _ rfl ?_
    refine z_iret hZ gCc_classes_18 ?_
    exact ⟨Or.inr ⟨h1, rfl⟩, rfl⟩

set_option maxHeartbeats 4000000 in
set_option maxRecDepth 100000 in
theorem c_Cc_exponent (l : Launch) (D : va_G) (E : sx_E) (B : Nat) (A : Nat → Prop) (hB : 29 ≤ B) {a : sA} {g : sG} {i : sA} : sM l D E B A yCc_exponent prog_1_method_13_code 1 (some .int) 1 20 [.inr (0, 0)] (cW a g i) (fun r w' => ((i 0 2 = 0 ∧ r = some (.inl (i 5 6))) ∨ (¬ i 0 2 = 0 ∧ r = some (.inl 0))) ∧ w' = cW a g i) := by
  refine sx_m0 (ls := lCc_exponent) (cs := csAll) (by decide +kernel) kCc_exponent (hCc_exponent l D E B A hB) (by simp) (fun w' h => (by obtain ⟨h | h, _⟩ := h <;> cases h.2)) ?_
  intro Z hZ
  refine z_aload_n hZ gCc_exponent_0 rfl ?_
  refine z_cv hZ gCc_exponent_1 rfl rfl (Nat.le_of_ble_eq_true rfl) (Nat.le_of_ble_eq_true rfl) ⟨⟨0, _, _, rfl, by decide, rfl⟩, fun l9 D E B A hB => c_Cc_isBuilt l9 D E B A hB⟩ (fun r1 w1 p1 => ?_)
  obtain ⟨h1, rfl⟩ := p1
  rcases h1 with ⟨rfl, h1⟩ | ⟨rfl, h1⟩
  · show Z 4 _ (.inl 1 :: []) _
    refine z_ifeq hZ gCc_exponent_4 (fun c9 => absurd c9 (by decide)) (fun c9 => ?_)
    refine z_aload_n hZ gCc_exponent_7 rfl ?_
    refine z_get hZ gCc_exponent_8 (by omega) rfl rfl ?_
    refine z_get hZ gCc_exponent_11 (by omega) rfl rfl ?_
    refine z_goto hZ gCc_exponent_14 ?_
    refine z_iret hZ gCc_exponent_18 ?_
    exact ⟨Or.inl ⟨h1, rfl⟩, rfl⟩
  · show Z 4 _ (.inl 0 :: []) _
    refine z_ifeq hZ gCc_exponent_4 (fun c9 => ?_) (fun c9 => absurd rfl c9)
    refine z_iconst hZ gCc_exponent_17 _ rfl ?_
    refine z_iret hZ gCc_exponent_18 ?_
    exact ⟨Or.inr ⟨h1, rfl⟩, rfl⟩

set_option maxHeartbeats 4000000 in
set_option maxRecDepth 100000 in
theorem c_Cc_prime (l : Launch) (D : va_G) (E : sx_E) (B : Nat) (A : Nat → Prop) (hB : 29 ≤ B) {a : sA} {g : sG} {i : sA} : sM l D E B A yCc_prime prog_1_method_14_code 1 (some .int) 1 20 [.inr (0, 0)] (cW a g i) (fun r w' => ((i 0 2 = 0 ∧ r = some (.inl (i 12 0))) ∨ (¬ i 0 2 = 0 ∧ r = some (.inl 0))) ∧ w' = cW a g i) := by
  refine sx_m0 (ls := lCc_prime) (cs := csAll) (by decide +kernel) kCc_prime (hCc_prime l D E B A hB) (by simp) (fun w' h => (by obtain ⟨h | h, _⟩ := h <;> cases h.2)) ?_
  intro Z hZ
  refine z_aload_n hZ gCc_prime_0 rfl ?_
  refine z_cv hZ gCc_prime_1 rfl rfl (Nat.le_of_ble_eq_true rfl) (Nat.le_of_ble_eq_true rfl) ⟨⟨0, _, _, rfl, by decide, rfl⟩, fun l9 D E B A hB => c_Cc_isBuilt l9 D E B A hB⟩ (fun r1 w1 p1 => ?_)
  obtain ⟨h1, rfl⟩ := p1
  rcases h1 with ⟨rfl, h1⟩ | ⟨rfl, h1⟩
  · show Z 4 _ (.inl 1 :: []) _
    refine z_ifeq hZ gCc_prime_4 (fun c9 => absurd c9 (by decide)) (fun c9 => ?_)
    refine z_aload_n hZ gCc_prime_7 rfl ?_
    refine z_get hZ gCc_prime_8 (by omega) rfl rfl ?_
    refine z_get hZ gCc_prime_11 (by omega) rfl rfl ?_
    refine z_goto hZ gCc_prime_14 ?_
    refine z_iret hZ gCc_prime_18 ?_
    exact ⟨Or.inl ⟨h1, rfl⟩, rfl⟩
  · show Z 4 _ (.inl 0 :: []) _
    refine z_ifeq hZ gCc_prime_4 (fun c9 => ?_) (fun c9 => absurd rfl c9)
    refine z_iconst hZ gCc_prime_17 _ rfl ?_
    refine z_iret hZ gCc_prime_18 ?_
    exact ⟨Or.inr ⟨h1, rfl⟩, rfl⟩

set_option maxHeartbeats 4000000 in
set_option maxRecDepth 100000 in
theorem c_Cc_root (l : Launch) (D : va_G) (E : sx_E) (B : Nat) (A : Nat → Prop) (hB : 29 ≤ B) {a : sA} {g : sG} {i : sA} : sM l D E B A yCc_root prog_1_method_15_code 1 (some .int) 1 20 [.inr (0, 0)] (cW a g i) (fun r w' => ((i 0 2 = 0 ∧ r = some (.inl (i 12 1))) ∨ (¬ i 0 2 = 0 ∧ r = some (.inl 0))) ∧ w' = cW a g i) := by
  refine sx_m0 (ls := lCc_root) (cs := csAll) (by decide +kernel) kCc_root (hCc_root l D E B A hB) (by simp) (fun w' h => (by obtain ⟨h | h, _⟩ := h <;> cases h.2)) ?_
  intro Z hZ
  refine z_aload_n hZ gCc_root_0 rfl ?_
  refine z_cv hZ gCc_root_1 rfl rfl (Nat.le_of_ble_eq_true rfl) (Nat.le_of_ble_eq_true rfl) ⟨⟨0, _, _, rfl, by decide, rfl⟩, fun l9 D E B A hB => c_Cc_isBuilt l9 D E B A hB⟩ (fun r1 w1 p1 => ?_)
  obtain ⟨h1, rfl⟩ := p1
  rcases h1 with ⟨rfl, h1⟩ | ⟨rfl, h1⟩
  · show Z 4 _ (.inl 1 :: []) _
    refine z_ifeq hZ gCc_root_4 (fun c9 => absurd c9 (by decide)) (fun c9 => ?_)
    refine z_aload_n hZ gCc_root_7 rfl ?_
    refine z_get hZ gCc_root_8 (by omega) rfl rfl ?_
    refine z_get hZ gCc_root_11 (by omega) rfl rfl ?_
    refine z_goto hZ gCc_root_14 ?_
    refine z_iret hZ gCc_root_18 ?_
    exact ⟨Or.inl ⟨h1, rfl⟩, rfl⟩
  · show Z 4 _ (.inl 0 :: []) _
    refine z_ifeq hZ gCc_root_4 (fun c9 => ?_) (fun c9 => absurd rfl c9)
    refine z_iconst hZ gCc_root_17 _ rfl ?_
    refine z_iret hZ gCc_root_18 ?_
    exact ⟨Or.inr ⟨h1, rfl⟩, rfl⟩

set_option maxHeartbeats 4000000 in
set_option maxRecDepth 100000 in
theorem c_Cc_normals (l : Launch) (D : va_G) (E : sx_E) (B : Nat) (A : Nat → Prop) (hB : 29 ≤ B) {a : sA} {g : sG} {i : sA} : sM l D E B A yCc_normals prog_1_method_21_code 1 (some .int) 1 20 [.inr (0, 0)] (cW a g i) (fun r w' => ((i 0 2 = 0 ∧ r = some (.inl (i 22 7))) ∨ (¬ i 0 2 = 0 ∧ r = some (.inl 0))) ∧ w' = cW a g i) := by
  refine sx_m0 (ls := lCc_normals) (cs := csAll) (by decide +kernel) kCc_normals (hCc_normals l D E B A hB) (by simp) (fun w' h => (by obtain ⟨h | h, _⟩ := h <;> cases h.2)) ?_
  intro Z hZ
  refine z_aload_n hZ gCc_normals_0 rfl ?_
  refine z_cv hZ gCc_normals_1 rfl rfl (Nat.le_of_ble_eq_true rfl) (Nat.le_of_ble_eq_true rfl) ⟨⟨0, _, _, rfl, by decide, rfl⟩, fun l9 D E B A hB => c_Cc_isBuilt l9 D E B A hB⟩ (fun r1 w1 p1 => ?_)
  obtain ⟨h1, rfl⟩ := p1
  rcases h1 with ⟨rfl, h1⟩ | ⟨rfl, h1⟩
  · show Z 4 _ (.inl 1 :: []) _
    refine z_ifeq hZ gCc_normals_4 (fun c9 => absurd c9 (by decide)) (fun c9 => ?_)
    refine z_aload_n hZ gCc_normals_7 rfl ?_
    refine z_get hZ gCc_normals_8 (by omega) rfl rfl ?_
    refine z_get hZ gCc_normals_11 (by omega) rfl rfl ?_
    refine z_goto hZ gCc_normals_14 ?_
    refine z_iret hZ gCc_normals_18 ?_
    exact ⟨Or.inl ⟨h1, rfl⟩, rfl⟩
  · show Z 4 _ (.inl 0 :: []) _
    refine z_ifeq hZ gCc_normals_4 (fun c9 => ?_) (fun c9 => absurd rfl c9)
    refine z_iconst hZ gCc_normals_17 _ rfl ?_
    refine z_iret hZ gCc_normals_18 ?_
    exact ⟨Or.inr ⟨h1, rfl⟩, rfl⟩

theorem i_nle {x y : Int32} (h : x < y) : ¬ y ≤ x := fun h9 => i_nlt h9 h
theorem i_nlt2 {x y : Int32} (h : ¬ x < y) : y ≤ x := Classical.byContradiction fun h9 => h (i_lt h9)

set_option maxHeartbeats 4000000 in
set_option maxRecDepth 100000 in
theorem c_Cc_element (l : Launch) (D : va_G) (E : sx_E) (B : Nat) (A : Nat → Prop) (hB : 29 ≤ B) {a : sA} {g : sG} {i : sA} {n : Nat} {x : Int32} (hk : i 0 2 = 0 → n ≤ 120 ∧ i 2 2 = nI n) : sM l D E B A yCc_element prog_1_method_6_code 2 (some .int) 1 20 [.inr (0, 0), .inl x] (cW a g i) (fun r w' => ((i 0 2 = 0 ∧ ∃ j, j < n ∧ x = nI j ∧ r = some (.inl (a 3 j))) ∨ (¬ (i 0 2 = 0 ∧ nJ n x) ∧ r = some (.inl (-1)))) ∧ w' = cW a g i) := by
  refine sx_m0 (ls := lCc_element) (cs := csAll) (by decide +kernel) kCc_element (hCc_element l D E B A hB) (by simp) (fun w' h => (by rcases h.1 with ⟨_, _, _, _, h⟩ | ⟨_, h⟩ <;> cases h)) ?_
  intro Z hZ
  refine z_aload_n hZ gCc_element_0 rfl ?_
  refine z_cv hZ gCc_element_1 rfl rfl (Nat.le_of_ble_eq_true rfl) (Nat.le_of_ble_eq_true rfl) ⟨⟨0, _, _, rfl, by decide, rfl⟩, fun l9 D E B A hB => c_Cc_isBuilt l9 D E B A hB⟩ (fun r1 w1 p1 => ?_)
  obtain ⟨h1, rfl⟩ := p1
  rcases h1 with ⟨rfl, h1⟩ | ⟨rfl, h1⟩
  · show Z 4 _ (.inl 1 :: []) _
    refine z_ifeq hZ gCc_element_4 (fun c9 => absurd c9 (by decide)) (fun c9 => ?_)
    obtain ⟨hk1, hk2⟩ := hk h1
    refine z_iload_n hZ gCc_element_7 rfl ?_
    refine z_iflt hZ gCc_element_8 (fun c8 => ?_) (fun c8 => ?_)
    · have ct8 := c8
      refine z_iconst hZ gCc_element_22 _ rfl ?_
      refine z_iret hZ gCc_element_23 ?_
      first | exact ⟨Or.inl ⟨h1, j, hj, rfl, rfl⟩, rfl⟩ | exact ⟨Or.inr ⟨fun h9 => nJ_neg (by omega) ct8 h9.2, rfl⟩, rfl⟩ | exact ⟨Or.inr ⟨fun h9 => nJ_big (by omega) (i_nlt2 cf19) h9.2, rfl⟩, rfl⟩
    · have cf8 := c8
      refine z_iload_n hZ gCc_element_11 rfl ?_
      refine z_aload_n hZ gCc_element_12 rfl ?_
      refine z_get hZ gCc_element_13 (by omega) rfl rfl ?_
      refine z_get hZ gCc_element_16 (by omega) rfl (by rw [hk2]; rfl) ?_
      refine z_cmplt hZ gCc_element_19 (fun c19 => ?_) (fun c19 => ?_)
      · have ct19 := c19
        obtain ⟨j, hj, rfl⟩ := nJ_of (by omega) cf8 (i_nle c19)
        have ej : (nI j).toNatClampNeg = j := nI_clamp (by omega)
        refine z_aload_n hZ gCc_element_24 rfl ?_
        refine z_get hZ gCc_element_25 (by omega) rfl rfl ?_
        refine z_get hZ gCc_element_28 (by omega) rfl rfl ?_
        refine z_iload_n hZ gCc_element_31 rfl ?_
        refine z_iald hZ gCc_element_32 (by omega) rfl (vp_in_nI (by omega) (by decide)) ?_
        rw [ej]
        refine z_iret hZ gCc_element_33 ?_
        first | exact ⟨Or.inl ⟨h1, j, hj, rfl, rfl⟩, rfl⟩ | exact ⟨Or.inr ⟨fun h9 => nJ_neg (by omega) ct8 h9.2, rfl⟩, rfl⟩ | exact ⟨Or.inr ⟨fun h9 => nJ_big (by omega) (i_nlt2 cf19) h9.2, rfl⟩, rfl⟩
      · have cf19 := c19
        refine z_iconst hZ gCc_element_22 _ rfl ?_
        refine z_iret hZ gCc_element_23 ?_
        first | exact ⟨Or.inl ⟨h1, j, hj, rfl, rfl⟩, rfl⟩ | exact ⟨Or.inr ⟨fun h9 => nJ_neg (by omega) ct8 h9.2, rfl⟩, rfl⟩ | exact ⟨Or.inr ⟨fun h9 => nJ_big (by omega) (i_nlt2 cf19) h9.2, rfl⟩, rfl⟩
  · show Z 4 _ (.inl 0 :: []) _
    refine z_ifeq hZ gCc_element_4 (fun c9 => ?_) (fun c9 => absurd rfl c9)
    refine z_iconst hZ gCc_element_22 _ rfl ?_
    refine z_iret hZ gCc_element_23 ?_
    exact ⟨Or.inr ⟨fun h9 => h1 h9.1, rfl⟩, rfl⟩

set_option maxHeartbeats 4000000 in
set_option maxRecDepth 100000 in
theorem c_Cc_classOf (l : Launch) (D : va_G) (E : sx_E) (B : Nat) (A : Nat → Prop) (hB : 29 ≤ B) {a : sA} {g : sG} {i : sA} {s : Nat → Nat} {n : Nat} {x : Int32} (hel : i 0 2 = 0 → elH a i s n) : sM l D E B A yCc_classOf prog_1_method_7_code 2 (some .int) 3 68 [.inr (0, 0), .inl x] (cW a g i) (fun r w' => ((i 0 2 = 0 ∧ ∃ j, j < n ∧ a 3 j = x ∧ r = some (.inl (a 6 j))) ∨ (¬ (i 0 2 = 0 ∧ ∃ j, j < n ∧ a 3 j = x) ∧ r = some (.inl (-1)))) ∧ w' = cW a g i) := by
  refine sx_m0 (ls := lCc_classOf) (cs := csAll) (by decide +kernel) kCc_classOf (hCc_classOf l D E B A hB) (by simp) (fun w' h => (by rcases h.1 with ⟨_, _, _, _, h⟩ | ⟨_, h⟩ <;> cases h)) ?_
  intro Z hZ
  refine z_aload_n hZ gCc_classOf_0 rfl ?_
  refine z_cv hZ gCc_classOf_1 rfl rfl (Nat.le_of_ble_eq_true rfl) (Nat.le_of_ble_eq_true rfl) ⟨⟨0, _, _, rfl, by decide, rfl⟩, fun l9 D E B A hB => c_Cc_isBuilt l9 D E B A hB⟩ (fun r1 w1 p1 => ?_)
  obtain ⟨h1, rfl⟩ := p1
  rcases h1 with ⟨rfl, h1⟩ | ⟨rfl, h1⟩
  · show Z 4 _ (.inl 1 :: []) _
    refine z_ifeq hZ gCc_classOf_4 (fun c9 => absurd c9 (by decide)) (fun c9 => ?_)
    refine z_aload_n hZ gCc_classOf_7 rfl ?_
    refine z_get hZ gCc_classOf_8 (by omega) rfl rfl ?_
    refine z_iload_n hZ gCc_classOf_11 rfl ?_
    refine z_aload_n hZ gCc_classOf_12 rfl ?_
    refine z_get hZ gCc_classOf_13 (by omega) rfl rfl ?_
    refine z_cv hZ gCc_classOf_16 rfl rfl (Nat.le_of_ble_eq_true rfl) (Nat.le_of_ble_eq_true rfl) ⟨⟨5, _, _, rfl, by decide, rfl⟩, fun l9 D E B A hB => c_Co_classHolding l9 D E B A hB (hel h1) x⟩ (fun r16 w16 p16 => ?_)
    obtain ⟨p16, rfl⟩ := p16
    rcases p16 with ⟨j, hj, hx, rfl⟩ | ⟨rfl, hx⟩
    · show Z (16 + 3) _ (.inl (a 6 j) :: []) _
      refine z_goto hZ gCc_classOf_19 ?_
      refine z_iret hZ gCc_classOf_23 ?_
      exact ⟨Or.inl ⟨h1, j, hj, hx, rfl⟩, rfl⟩
    · show Z (16 + 3) _ (.inl (-1) :: []) _
      refine z_goto hZ gCc_classOf_19 ?_
      refine z_iret hZ gCc_classOf_23 ?_
      exact ⟨Or.inr ⟨fun h9 => hx h9.2, rfl⟩, rfl⟩
  · show Z 4 _ (.inl 0 :: []) _
    refine z_ifeq hZ gCc_classOf_4 (fun c9 => ?_) (fun c9 => absurd rfl c9)
    refine z_iconst hZ gCc_classOf_22 _ rfl ?_
    refine z_iret hZ gCc_classOf_23 ?_
    exact ⟨Or.inr ⟨fun h9 => h1 h9.1, rfl⟩, rfl⟩

set_option maxHeartbeats 4000000 in
set_option maxRecDepth 100000 in
theorem c_Cc_size (l : Launch) (D : va_G) (E : sx_E) (B : Nat) (A : Nat → Prop) (hB : 29 ≤ B) {a : sA} {g : sG} {i : sA} {k : Nat} {x : Int32} (hk : i 0 2 = 0 → k ≤ 16 ∧ i 5 0 = nI k) : sM l D E B A yCc_size prog_1_method_9_code 2 (some .int) 2 41 [.inr (0, 0), .inl x] (cW a g i) (fun r w' => ((i 0 2 = 0 ∧ ∃ j, j < k ∧ x = nI j ∧ r = some (.inl (a 7 j))) ∨ (¬ (i 0 2 = 0 ∧ nJ k x) ∧ r = some (.inl 0))) ∧ w' = cW a g i) := by
  refine sx_m0 (ls := lCc_size) (cs := csAll) (by decide +kernel) kCc_size (hCc_size l D E B A hB) (by simp) (fun w' h => (by rcases h.1 with ⟨_, _, _, _, h⟩ | ⟨_, h⟩ <;> cases h)) ?_
  intro Z hZ
  refine z_aload_n hZ gCc_size_0 rfl ?_
  refine z_iload_n hZ gCc_size_1 rfl ?_
  refine z_cv hZ gCc_size_2 rfl rfl (Nat.le_of_ble_eq_true rfl) (Nat.le_of_ble_eq_true rfl) ⟨⟨0, _, _, rfl, by decide, rfl⟩, fun l9 D E B A hB => c_Cc_isClass l9 D E B A hB (k := k) (x := x) (fun h9 => ⟨by have := (hk h9).1; omega, (hk h9).2⟩)⟩ (fun r2 w2 p2 => ?_)
  obtain ⟨h2, rfl⟩ := p2
  rcases h2 with ⟨rfl, h2⟩ | ⟨rfl, h2⟩
  · show Z 5 _ (.inl 1 :: []) _
    refine z_ifeq hZ gCc_size_5 (fun c9 => absurd c9 (by decide)) (fun c9 => ?_)
    obtain ⟨hb, j, hj, rfl⟩ := h2
    have hk1 := (hk hb).1
    have ej : (nI j).toNatClampNeg = j := nI_clamp (by omega)
    refine z_aload_n hZ gCc_size_8 rfl ?_
    refine z_get hZ gCc_size_9 (by omega) rfl rfl ?_
    refine z_get hZ gCc_size_12 (by omega) rfl rfl ?_
    refine z_iload_n hZ gCc_size_15 rfl ?_
    refine z_iald hZ gCc_size_16 (by omega) rfl (vp_in_nI (by omega) (by decide)) ?_
    rw [ej]
    refine z_goto hZ gCc_size_17 ?_
    refine z_iret hZ gCc_size_21 ?_
    exact ⟨Or.inl ⟨hb, j, hj, rfl, rfl⟩, rfl⟩
  · show Z 5 _ (.inl 0 :: []) _
    refine z_ifeq hZ gCc_size_5 (fun c9 => ?_) (fun c9 => absurd rfl c9)
    refine z_iconst hZ gCc_size_20 _ rfl ?_
    refine z_iret hZ gCc_size_21 ?_
    exact ⟨Or.inr ⟨h2, rfl⟩, rfl⟩

set_option maxHeartbeats 4000000 in
set_option maxRecDepth 100000 in
theorem c_Cc_least (l : Launch) (D : va_G) (E : sx_E) (B : Nat) (A : Nat → Prop) (hB : 29 ≤ B) {a : sA} {g : sG} {i : sA} {k : Nat} {x : Int32} (hk : i 0 2 = 0 → k ≤ 16 ∧ i 5 0 = nI k) : sM l D E B A yCc_least prog_1_method_10_code 2 (some .int) 2 41 [.inr (0, 0), .inl x] (cW a g i) (fun r w' => ((i 0 2 = 0 ∧ ∃ j, j < k ∧ x = nI j ∧ r = some (.inl (a 8 j))) ∨ (¬ (i 0 2 = 0 ∧ nJ k x) ∧ r = some (.inl (-1)))) ∧ w' = cW a g i) := by
  refine sx_m0 (ls := lCc_least) (cs := csAll) (by decide +kernel) kCc_least (hCc_least l D E B A hB) (by simp) (fun w' h => (by rcases h.1 with ⟨_, _, _, _, h⟩ | ⟨_, h⟩ <;> cases h)) ?_
  intro Z hZ
  refine z_aload_n hZ gCc_least_0 rfl ?_
  refine z_iload_n hZ gCc_least_1 rfl ?_
  refine z_cv hZ gCc_least_2 rfl rfl (Nat.le_of_ble_eq_true rfl) (Nat.le_of_ble_eq_true rfl) ⟨⟨0, _, _, rfl, by decide, rfl⟩, fun l9 D E B A hB => c_Cc_isClass l9 D E B A hB (k := k) (x := x) (fun h9 => ⟨by have := (hk h9).1; omega, (hk h9).2⟩)⟩ (fun r2 w2 p2 => ?_)
  obtain ⟨h2, rfl⟩ := p2
  rcases h2 with ⟨rfl, h2⟩ | ⟨rfl, h2⟩
  · show Z 5 _ (.inl 1 :: []) _
    refine z_ifeq hZ gCc_least_5 (fun c9 => absurd c9 (by decide)) (fun c9 => ?_)
    obtain ⟨hb, j, hj, rfl⟩ := h2
    have hk1 := (hk hb).1
    have ej : (nI j).toNatClampNeg = j := nI_clamp (by omega)
    refine z_aload_n hZ gCc_least_8 rfl ?_
    refine z_get hZ gCc_least_9 (by omega) rfl rfl ?_
    refine z_get hZ gCc_least_12 (by omega) rfl rfl ?_
    refine z_iload_n hZ gCc_least_15 rfl ?_
    refine z_iald hZ gCc_least_16 (by omega) rfl (vp_in_nI (by omega) (by decide)) ?_
    rw [ej]
    refine z_goto hZ gCc_least_17 ?_
    refine z_iret hZ gCc_least_21 ?_
    exact ⟨Or.inl ⟨hb, j, hj, rfl, rfl⟩, rfl⟩
  · show Z 5 _ (.inl 0 :: []) _
    refine z_ifeq hZ gCc_least_5 (fun c9 => ?_) (fun c9 => absurd rfl c9)
    refine z_iconst hZ gCc_least_20 _ rfl ?_
    refine z_iret hZ gCc_least_21 ?_
    exact ⟨Or.inr ⟨h2, rfl⟩, rfl⟩

set_option maxHeartbeats 4000000 in
set_option maxRecDepth 100000 in
theorem c_Cc_degree (l : Launch) (D : va_G) (E : sx_E) (B : Nat) (A : Nat → Prop) (hB : 29 ≤ B) {a : sA} {g : sG} {i : sA} {k : Nat} {pl : Nat → Nat} {x : Int32} (hk : i 0 2 = 0 → k ≤ 16 ∧ i 5 0 = nI k) (hpl : i 0 2 = 0 → ∀ j, j < k → a 27 j = nI (pl j) ∧ pl j < k) : sM l D E B A yCc_degree prog_1_method_16_code 2 (some .int) 2 41 [.inr (0, 0), .inl x] (cW a g i) (fun r w' => ((i 0 2 = 0 ∧ ∃ j, j < k ∧ x = nI j ∧ r = some (.inl (a 23 (pl j)))) ∨ (¬ (i 0 2 = 0 ∧ nJ k x) ∧ r = some (.inl 0))) ∧ w' = cW a g i) := by
  refine sx_m0 (ls := lCc_degree) (cs := csAll) (by decide +kernel) kCc_degree (hCc_degree l D E B A hB) (by simp) (fun w' h => (by rcases h.1 with ⟨_, _, _, _, h⟩ | ⟨_, h⟩ <;> cases h)) ?_
  intro Z hZ
  refine z_aload_n hZ gCc_degree_0 rfl ?_
  refine z_iload_n hZ gCc_degree_1 rfl ?_
  refine z_cv hZ gCc_degree_2 rfl rfl (Nat.le_of_ble_eq_true rfl) (Nat.le_of_ble_eq_true rfl) ⟨⟨0, _, _, rfl, by decide, rfl⟩, fun l9 D E B A hB => c_Cc_isClass l9 D E B A hB (k := k) (x := x) (fun h9 => ⟨by have := (hk h9).1; omega, (hk h9).2⟩)⟩ (fun r2 w2 p2 => ?_)
  obtain ⟨h2, rfl⟩ := p2
  rcases h2 with ⟨rfl, h2⟩ | ⟨rfl, h2⟩
  · show Z 5 _ (.inl 1 :: []) _
    refine z_ifeq hZ gCc_degree_5 (fun c9 => absurd c9 (by decide)) (fun c9 => ?_)
    obtain ⟨hb, j, hj, rfl⟩ := h2
    have hk1 := (hk hb).1
    have ej : (nI j).toNatClampNeg = j := nI_clamp (by omega)
    obtain ⟨hp1, hp2⟩ := hpl hb j hj
    have ep : (nI (pl j)).toNatClampNeg = pl j := nI_clamp (by omega)
    refine z_aload_n hZ gCc_degree_8 rfl ?_
    refine z_get hZ gCc_degree_9 (by omega) rfl rfl ?_
    refine z_get hZ gCc_degree_12 (by omega) rfl rfl ?_
    refine z_aload_n hZ gCc_degree_15 rfl ?_
    refine z_get hZ gCc_degree_16 (by omega) rfl rfl ?_
    refine z_get hZ gCc_degree_19 (by omega) rfl rfl ?_
    refine z_iload_n hZ gCc_degree_22 rfl ?_
    refine z_iald hZ gCc_degree_23 (by omega) rfl (vp_in_nI (by omega) (by decide)) ?_
    rw [ej, hp1]
    refine z_iald hZ gCc_degree_24 (by omega) rfl (vp_in_nI (by omega) (by decide)) ?_
    rw [ep]
    refine z_goto hZ gCc_degree_25 ?_
    refine z_iret hZ gCc_degree_29 ?_
    exact ⟨Or.inl ⟨hb, j, hj, rfl, rfl⟩, rfl⟩
  · show Z 5 _ (.inl 0 :: []) _
    refine z_ifeq hZ gCc_degree_5 (fun c9 => ?_) (fun c9 => absurd rfl c9)
    refine z_iconst hZ gCc_degree_28 _ rfl ?_
    refine z_iret hZ gCc_degree_29 ?_
    exact ⟨Or.inr ⟨h2, rfl⟩, rfl⟩

set_option maxHeartbeats 4000000 in
set_option maxRecDepth 100000 in
theorem c_Cc_indicator (l : Launch) (D : va_G) (E : sx_E) (B : Nat) (A : Nat → Prop) (hB : 29 ≤ B) {a : sA} {g : sG} {i : sA} {k : Nat} {pl : Nat → Nat} {x : Int32} (hk : i 0 2 = 0 → k ≤ 16 ∧ i 5 0 = nI k) (hpl : i 0 2 = 0 → ∀ j, j < k → a 27 j = nI (pl j) ∧ pl j < k) : sM l D E B A yCc_indicator prog_1_method_19_code 2 (some .int) 2 41 [.inr (0, 0), .inl x] (cW a g i) (fun r w' => ((i 0 2 = 0 ∧ ∃ j, j < k ∧ x = nI j ∧ r = some (.inl (a 25 (pl j)))) ∨ (¬ (i 0 2 = 0 ∧ nJ k x) ∧ r = some (.inl 0))) ∧ w' = cW a g i) := by
  refine sx_m0 (ls := lCc_indicator) (cs := csAll) (by decide +kernel) kCc_indicator (hCc_indicator l D E B A hB) (by simp) (fun w' h => (by rcases h.1 with ⟨_, _, _, _, h⟩ | ⟨_, h⟩ <;> cases h)) ?_
  intro Z hZ
  refine z_aload_n hZ gCc_indicator_0 rfl ?_
  refine z_iload_n hZ gCc_indicator_1 rfl ?_
  refine z_cv hZ gCc_indicator_2 rfl rfl (Nat.le_of_ble_eq_true rfl) (Nat.le_of_ble_eq_true rfl) ⟨⟨0, _, _, rfl, by decide, rfl⟩, fun l9 D E B A hB => c_Cc_isClass l9 D E B A hB (k := k) (x := x) (fun h9 => ⟨by have := (hk h9).1; omega, (hk h9).2⟩)⟩ (fun r2 w2 p2 => ?_)
  obtain ⟨h2, rfl⟩ := p2
  rcases h2 with ⟨rfl, h2⟩ | ⟨rfl, h2⟩
  · show Z 5 _ (.inl 1 :: []) _
    refine z_ifeq hZ gCc_indicator_5 (fun c9 => absurd c9 (by decide)) (fun c9 => ?_)
    obtain ⟨hb, j, hj, rfl⟩ := h2
    have hk1 := (hk hb).1
    have ej : (nI j).toNatClampNeg = j := nI_clamp (by omega)
    obtain ⟨hp1, hp2⟩ := hpl hb j hj
    have ep : (nI (pl j)).toNatClampNeg = pl j := nI_clamp (by omega)
    refine z_aload_n hZ gCc_indicator_8 rfl ?_
    refine z_get hZ gCc_indicator_9 (by omega) rfl rfl ?_
    refine z_get hZ gCc_indicator_12 (by omega) rfl rfl ?_
    refine z_aload_n hZ gCc_indicator_15 rfl ?_
    refine z_get hZ gCc_indicator_16 (by omega) rfl rfl ?_
    refine z_get hZ gCc_indicator_19 (by omega) rfl rfl ?_
    refine z_iload_n hZ gCc_indicator_22 rfl ?_
    refine z_iald hZ gCc_indicator_23 (by omega) rfl (vp_in_nI (by omega) (by decide)) ?_
    rw [ej, hp1]
    refine z_iald hZ gCc_indicator_24 (by omega) rfl (vp_in_nI (by omega) (by decide)) ?_
    rw [ep]
    refine z_goto hZ gCc_indicator_25 ?_
    refine z_iret hZ gCc_indicator_29 ?_
    exact ⟨Or.inl ⟨hb, j, hj, rfl, rfl⟩, rfl⟩
  · show Z 5 _ (.inl 0 :: []) _
    refine z_ifeq hZ gCc_indicator_5 (fun c9 => ?_) (fun c9 => absurd rfl c9)
    refine z_iconst hZ gCc_indicator_28 _ rfl ?_
    refine z_iret hZ gCc_indicator_29 ?_
    exact ⟨Or.inr ⟨h2, rfl⟩, rfl⟩

set_option maxHeartbeats 4000000 in
set_option maxRecDepth 100000 in
theorem c_Cc_kernel (l : Launch) (D : va_G) (E : sx_E) (B : Nat) (A : Nat → Prop) (hB : 29 ≤ B) {a : sA} {g : sG} {i : sA} {k : Nat} {pl : Nat → Nat} {x : Int32} (hk : i 0 2 = 0 → k ≤ 16 ∧ i 5 0 = nI k) (hpl : i 0 2 = 0 → ∀ j, j < k → a 27 j = nI (pl j) ∧ pl j < k) : sM l D E B A yCc_kernel prog_1_method_20_code 2 (some .int) 2 41 [.inr (0, 0), .inl x] (cW a g i) (fun r w' => ((i 0 2 = 0 ∧ ∃ j, j < k ∧ x = nI j ∧ r = some (.inl (a 26 (pl j)))) ∨ (¬ (i 0 2 = 0 ∧ nJ k x) ∧ r = some (.inl 0))) ∧ w' = cW a g i) := by
  refine sx_m0 (ls := lCc_kernel) (cs := csAll) (by decide +kernel) kCc_kernel (hCc_kernel l D E B A hB) (by simp) (fun w' h => (by rcases h.1 with ⟨_, _, _, _, h⟩ | ⟨_, h⟩ <;> cases h)) ?_
  intro Z hZ
  refine z_aload_n hZ gCc_kernel_0 rfl ?_
  refine z_iload_n hZ gCc_kernel_1 rfl ?_
  refine z_cv hZ gCc_kernel_2 rfl rfl (Nat.le_of_ble_eq_true rfl) (Nat.le_of_ble_eq_true rfl) ⟨⟨0, _, _, rfl, by decide, rfl⟩, fun l9 D E B A hB => c_Cc_isClass l9 D E B A hB (k := k) (x := x) (fun h9 => ⟨by have := (hk h9).1; omega, (hk h9).2⟩)⟩ (fun r2 w2 p2 => ?_)
  obtain ⟨h2, rfl⟩ := p2
  rcases h2 with ⟨rfl, h2⟩ | ⟨rfl, h2⟩
  · show Z 5 _ (.inl 1 :: []) _
    refine z_ifeq hZ gCc_kernel_5 (fun c9 => absurd c9 (by decide)) (fun c9 => ?_)
    obtain ⟨hb, j, hj, rfl⟩ := h2
    have hk1 := (hk hb).1
    have ej : (nI j).toNatClampNeg = j := nI_clamp (by omega)
    obtain ⟨hp1, hp2⟩ := hpl hb j hj
    have ep : (nI (pl j)).toNatClampNeg = pl j := nI_clamp (by omega)
    refine z_aload_n hZ gCc_kernel_8 rfl ?_
    refine z_get hZ gCc_kernel_9 (by omega) rfl rfl ?_
    refine z_get hZ gCc_kernel_12 (by omega) rfl rfl ?_
    refine z_aload_n hZ gCc_kernel_15 rfl ?_
    refine z_get hZ gCc_kernel_16 (by omega) rfl rfl ?_
    refine z_get hZ gCc_kernel_19 (by omega) rfl rfl ?_
    refine z_iload_n hZ gCc_kernel_22 rfl ?_
    refine z_iald hZ gCc_kernel_23 (by omega) rfl (vp_in_nI (by omega) (by decide)) ?_
    rw [ej, hp1]
    refine z_iald hZ gCc_kernel_24 (by omega) rfl (vp_in_nI (by omega) (by decide)) ?_
    rw [ep]
    refine z_goto hZ gCc_kernel_25 ?_
    refine z_iret hZ gCc_kernel_29 ?_
    exact ⟨Or.inl ⟨hb, j, hj, rfl, rfl⟩, rfl⟩
  · show Z 5 _ (.inl 0 :: []) _
    refine z_ifeq hZ gCc_kernel_5 (fun c9 => ?_) (fun c9 => absurd rfl c9)
    refine z_iconst hZ gCc_kernel_28 _ rfl ?_
    refine z_iret hZ gCc_kernel_29 ?_
    exact ⟨Or.inr ⟨h2, rfl⟩, rfl⟩

set_option maxHeartbeats 4000000 in
set_option maxRecDepth 100000 in
theorem c_Cc_value (l : Launch) (D : va_G) (E : sx_E) (B : Nat) (A : Nat → Prop) (hB : 29 ≤ B) {a : sA} {g : sG} {i : sA} {k : Nat} {pl : Nat → Nat} {x y : Int32} (hk : i 0 2 = 0 → k ≤ 16 ∧ i 5 0 = nI k) (hpl : i 0 2 = 0 → ∀ j, j < k → a 27 j = nI (pl j) ∧ pl j < k) : sM l D E B A yCc_value prog_1_method_17_code 3 (some .int) 2 41 [.inr (0, 0), .inl x, .inl y] (cW a g i) (fun r w' => ((i 0 2 = 0 ∧ ∃ j q, j < k ∧ q < k ∧ x = nI j ∧ y = nI q ∧ r = some (.inl (g 24 (pl j) q))) ∨ (¬ (i 0 2 = 0 ∧ nJ k x ∧ nJ k y) ∧ r = some (.inl (-1)))) ∧ w' = cW a g i) := by
  refine sx_m0 (ls := lCc_value) (cs := csAll) (by decide +kernel) kCc_value (hCc_value l D E B A hB) (by simp) (fun w' h => (by rcases h.1 with ⟨_, _, _, _, _, _, _, h⟩ | ⟨_, h⟩ <;> cases h)) ?_
  intro Z hZ
  refine z_aload_n hZ gCc_value_0 rfl ?_
  refine z_iload_n hZ gCc_value_1 rfl ?_
  refine z_cv hZ gCc_value_2 rfl rfl (Nat.le_of_ble_eq_true rfl) (Nat.le_of_ble_eq_true rfl) ⟨⟨0, _, _, rfl, by decide, rfl⟩, fun l9 D E B A hB => c_Cc_isClass l9 D E B A hB (k := k) (x := x) (fun h9 => ⟨by have := (hk h9).1; omega, (hk h9).2⟩)⟩ (fun r2 w2 p2 => ?_)
  obtain ⟨h2, rfl⟩ := p2
  rcases h2 with ⟨rfl, h2⟩ | ⟨rfl, h2⟩
  · show Z 5 _ (.inl 1 :: []) _
    refine z_ifeq hZ gCc_value_5 (fun c9 => absurd c9 (by decide)) (fun c9 => ?_)
    refine z_aload_n hZ gCc_value_8 rfl ?_
    refine z_iload_n hZ gCc_value_9 rfl ?_
    refine z_cv hZ gCc_value_10 rfl rfl (Nat.le_of_ble_eq_true rfl) (Nat.le_of_ble_eq_true rfl) ⟨⟨0, _, _, rfl, by decide, rfl⟩, fun l9 D E B A hB => c_Cc_isClass l9 D E B A hB (k := k) (x := y) (fun h9 => ⟨by have := (hk h9).1; omega, (hk h9).2⟩)⟩ (fun r10 w10 p10 => ?_)
    obtain ⟨h10, rfl⟩ := p10
    rcases h10 with ⟨rfl, h10⟩ | ⟨rfl, h10⟩
    · show Z 13 _ (.inl 1 :: []) _
      refine z_ifne hZ gCc_value_13 (fun c9 => ?_) (fun c9 => absurd c9 (by decide))
      obtain ⟨hb, j, hj, rfl⟩ := h2
      have hk1 := (hk hb).1
      have ej : (nI j).toNatClampNeg = j := nI_clamp (by omega)
      obtain ⟨hp1, hp2⟩ := hpl hb j hj
      have ep : (nI (pl j)).toNatClampNeg = pl j := nI_clamp (by omega)
      obtain ⟨_, q, hq, rfl⟩ := h10
      have eq : (nI q).toNatClampNeg = q := nI_clamp (by omega)
      refine z_aload_n hZ gCc_value_18 rfl ?_
      refine z_get hZ gCc_value_19 (by omega) rfl rfl ?_
      refine z_get hZ gCc_value_22 (by omega) rfl rfl ?_
      refine z_aload_n hZ gCc_value_25 rfl ?_
      refine z_get hZ gCc_value_26 (by omega) rfl rfl ?_
      refine z_get hZ gCc_value_29 (by omega) rfl rfl ?_
      refine z_iload_n hZ gCc_value_32 rfl ?_
      refine z_iald hZ gCc_value_33 (by omega) rfl (vp_in_nI (by omega) (by decide)) ?_
      rw [ej, hp1]
      refine z_aald hZ gCc_value_34 (by omega) rfl (vp_in_nI (by omega) (by decide)) ?_
      rw [ep]
      refine z_iload_n hZ gCc_value_35 rfl ?_
      refine z_ialg hZ gCc_value_36 (by omega) rfl (by omega) (vp_in_nI (by omega) (by decide)) ?_
      rw [eq]
      refine z_iret hZ gCc_value_37 ?_
      exact ⟨Or.inl ⟨hb, j, q, hj, hq, rfl, rfl, rfl⟩, rfl⟩
    · show Z 13 _ (.inl 0 :: []) _
      refine z_ifne hZ gCc_value_13 (fun c9 => absurd rfl c9) (fun c9 => ?_)
      refine z_iconst hZ gCc_value_16 _ rfl ?_
      refine z_iret hZ gCc_value_17 ?_
      exact ⟨Or.inr ⟨fun h9 => h10 ⟨h9.1, h9.2.2⟩, rfl⟩, rfl⟩
  · show Z 5 _ (.inl 0 :: []) _
    refine z_ifeq hZ gCc_value_5 (fun c9 => ?_) (fun c9 => absurd rfl c9)
    refine z_iconst hZ gCc_value_16 _ rfl ?_
    refine z_iret hZ gCc_value_17 ?_
    exact ⟨Or.inr ⟨fun h9 => h2 ⟨h9.1, h9.2.1⟩, rfl⟩, rfl⟩

theorem i1000 : (Int16.ofInt 1000).toInt32 = nI 1000 := by decide +kernel
theorem i_1001 {x : Int32} (h : x ≤ nI 1000) : ¬ nI 1001 ≤ x := fun h9 => by
  rw [Int32.le_iff_toInt_le] at h h9
  have e1 : (nI 1000).toInt = 1000 := by decide +kernel
  have e2 : (nI 1001).toInt = 1001 := by decide +kernel
  omega
theorem nJ_1001 {x : Int32} (h : ¬ x ≤ nI 1000) : ¬ nJ 1001 x := fun ⟨j, hj, e⟩ => h (by rw [e]; exact nI_le (by omega) (by decide))

set_option maxHeartbeats 4000000 in
set_option maxRecDepth 100000 in
theorem c_Cc_power (l : Launch) (D : va_G) (E : sx_E) (B : Nat) (A : Nat → Prop) (hB : 29 ≤ B) {a : sA} {g : sG} {i : sA} {k e : Nat} {x y : Int32} (hk : i 0 2 = 0 → k ≤ 16 ∧ i 5 0 = nI k) (hex : i 0 2 = 0 → 0 < e ∧ e ≤ 120 ∧ i 5 6 = nI e) : sM l D E B A yCc_power prog_1_method_11_code 3 (some .int) 2 41 [.inr (0, 0), .inl x, .inl y] (cW a g i) (fun r w' => ((i 0 2 = 0 ∧ ∃ j m, j < k ∧ m < 1001 ∧ x = nI j ∧ y = nI m ∧ r = some (.inl (g 9 j (m % e)))) ∨ (¬ (i 0 2 = 0 ∧ nJ k x ∧ nJ 1001 y) ∧ r = some (.inl (-1)))) ∧ w' = cW a g i) := by
  refine sx_m0 (ls := lCc_power) (cs := csAll) (by decide +kernel) kCc_power (hCc_power l D E B A hB) (by simp) (fun w' h => (by rcases h.1 with ⟨_, _, _, _, _, _, _, h⟩ | ⟨_, h⟩ <;> cases h)) ?_
  intro Z hZ
  refine z_aload_n hZ gCc_power_0 rfl ?_
  refine z_iload_n hZ gCc_power_1 rfl ?_
  refine z_cv hZ gCc_power_2 rfl rfl (Nat.le_of_ble_eq_true rfl) (Nat.le_of_ble_eq_true rfl) ⟨⟨0, _, _, rfl, by decide, rfl⟩, fun l9 D E B A hB => c_Cc_isClass l9 D E B A hB (k := k) (x := x) (fun h9 => ⟨by have := (hk h9).1; omega, (hk h9).2⟩)⟩ (fun r2 w2 p2 => ?_)
  obtain ⟨h2, rfl⟩ := p2
  rcases h2 with ⟨rfl, h2⟩ | ⟨rfl, h2⟩
  · show Z 5 _ (.inl 1 :: []) _
    refine z_ifeq hZ gCc_power_5 (fun c9 => absurd c9 (by decide)) (fun c9 => ?_)
    obtain ⟨hb, j, hj, rfl⟩ := h2
    have hk1 := (hk hb).1
    refine z_iload_n hZ gCc_power_8 rfl ?_
    refine z_iflt hZ gCc_power_9 (fun c9 => ?_) (fun c9 => ?_)
    · have ct9 := c9
      refine z_iconst hZ gCc_power_19 _ rfl ?_
      refine z_iret hZ gCc_power_20 ?_
      first | exact ⟨Or.inr ⟨fun h9 => nJ_neg (by decide) ct9 h9.2.2, rfl⟩, rfl⟩ | exact ⟨Or.inr ⟨fun h9 => nJ_1001 cf16 h9.2.2, rfl⟩, rfl⟩
    · have cf9 := c9
      refine z_iload_n hZ gCc_power_12 rfl ?_
      refine z_sipush hZ gCc_power_13 _ i1000 ?_
      refine z_cmple hZ gCc_power_16 (fun c16 => ?_) (fun c16 => ?_)
      · have ct16 := c16
        obtain ⟨m, hm, rfl⟩ := nJ_of (k := 1001) (by decide) cf9 (i_1001 c16)
        obtain ⟨he0, he1, he⟩ := hex hb
        refine z_aload_n hZ gCc_power_21 rfl ?_
        refine z_get hZ gCc_power_22 (by omega) rfl rfl ?_
        refine z_iload_n hZ gCc_power_25 rfl ?_
        refine z_iload_n hZ gCc_power_26 rfl ?_
        refine z_cv hZ gCc_power_27 rfl rfl (Nat.le_of_ble_eq_true rfl) (Nat.le_of_ble_eq_true rfl) ⟨⟨5, _, _, rfl, by decide, rfl⟩, fun l9 D E B A hB => c_Co_classRaised l9 D E B A hB (c := j) (m := m) he he0 he1 (by omega) (by omega)⟩ (fun r27 w27 p27 => ?_)
        obtain ⟨rfl, rfl⟩ := p27
        show Z (27 + 3) _ (.inl (g 9 j (m % e)) :: []) _
        refine z_iret hZ gCc_power_30 ?_
        exact ⟨Or.inl ⟨hb, j, m, hj, hm, rfl, rfl, rfl⟩, rfl⟩
      · have cf16 := c16
        refine z_iconst hZ gCc_power_19 _ rfl ?_
        refine z_iret hZ gCc_power_20 ?_
        first | exact ⟨Or.inr ⟨fun h9 => nJ_neg (by decide) ct9 h9.2.2, rfl⟩, rfl⟩ | exact ⟨Or.inr ⟨fun h9 => nJ_1001 cf16 h9.2.2, rfl⟩, rfl⟩
  · show Z 5 _ (.inl 0 :: []) _
    refine z_ifeq hZ gCc_power_5 (fun c9 => ?_) (fun c9 => absurd rfl c9)
    refine z_iconst hZ gCc_power_19 _ rfl ?_
    refine z_iret hZ gCc_power_20 ?_
    exact ⟨Or.inr ⟨fun h9 => h2 ⟨h9.1, h9.2.1⟩, rfl⟩, rfl⟩

set_option maxHeartbeats 4000000 in
set_option maxRecDepth 100000 in
theorem c_Cc_constant (l : Launch) (D : va_G) (E : sx_E) (B : Nat) (A : Nat → Prop) (hB : 29 ≤ B) {a : sA} {g : sG} {i : sA} {k : Nat} {x y z : Int32} (hk : i 0 2 = 0 → k ≤ 16 ∧ i 5 0 = nI k) : sM l D E B A yCc_constant prog_1_method_12_code 4 (some .int) 2 45 [.inr (0, 0), .inl x, .inl y, .inl z] (cW a g i) (fun r w' => ((i 0 2 = 0 ∧ ∃ j q t, j < k ∧ q < k ∧ t < k ∧ x = nI j ∧ y = nI q ∧ z = nI t ∧ r = some (.inl (a 11 ((j * 16 + q) * 16 + t)))) ∨ (¬ (i 0 2 = 0 ∧ nJ k x ∧ nJ k y ∧ nJ k z) ∧ r = some (.inl (-1)))) ∧ w' = cW a g i) := by
  refine sx_m0 (ls := lCc_constant) (cs := csAll) (by decide +kernel) kCc_constant (hCc_constant l D E B A hB) (by simp) (fun w' h => (by rcases h.1 with ⟨_, _, _, _, _, _, _, _, _, _, h⟩ | ⟨_, h⟩ <;> cases h)) ?_
  intro Z hZ
  refine z_aload_n hZ gCc_constant_0 rfl ?_
  refine z_iload_n hZ gCc_constant_1 rfl ?_
  refine z_cv hZ gCc_constant_2 rfl rfl (Nat.le_of_ble_eq_true rfl) (Nat.le_of_ble_eq_true rfl) ⟨⟨0, _, _, rfl, by decide, rfl⟩, fun l9 D E B A hB => c_Cc_isClass l9 D E B A hB (k := k) (x := x) (fun h9 => ⟨by have := (hk h9).1; omega, (hk h9).2⟩)⟩ (fun r2 w2 p2 => ?_)
  obtain ⟨h2, rfl⟩ := p2
  rcases h2 with ⟨rfl, h2⟩ | ⟨rfl, h2⟩
  · show Z 5 _ (.inl 1 :: []) _
    refine z_ifeq hZ gCc_constant_5 (fun c9 => absurd c9 (by decide)) (fun c9 => ?_)
    refine z_aload_n hZ gCc_constant_8 rfl ?_
    refine z_iload_n hZ gCc_constant_9 rfl ?_
    refine z_cv hZ gCc_constant_10 rfl rfl (Nat.le_of_ble_eq_true rfl) (Nat.le_of_ble_eq_true rfl) ⟨⟨0, _, _, rfl, by decide, rfl⟩, fun l9 D E B A hB => c_Cc_isClass l9 D E B A hB (k := k) (x := y) (fun h9 => ⟨by have := (hk h9).1; omega, (hk h9).2⟩)⟩ (fun r10 w10 p10 => ?_)
    obtain ⟨h10, rfl⟩ := p10
    rcases h10 with ⟨rfl, h10⟩ | ⟨rfl, h10⟩
    · show Z 13 _ (.inl 1 :: []) _
      refine z_ifeq hZ gCc_constant_13 (fun c9 => absurd c9 (by decide)) (fun c9 => ?_)
      refine z_aload_n hZ gCc_constant_16 rfl ?_
      refine z_iload_n hZ gCc_constant_17 rfl ?_
      refine z_cv hZ gCc_constant_18 rfl rfl (Nat.le_of_ble_eq_true rfl) (Nat.le_of_ble_eq_true rfl) ⟨⟨0, _, _, rfl, by decide, rfl⟩, fun l9 D E B A hB => c_Cc_isClass l9 D E B A hB (k := k) (x := z) (fun h9 => ⟨by have := (hk h9).1; omega, (hk h9).2⟩)⟩ (fun r18 w18 p18 => ?_)
      obtain ⟨h18, rfl⟩ := p18
      rcases h18 with ⟨rfl, h18⟩ | ⟨rfl, h18⟩
      · show Z 21 _ (.inl 1 :: []) _
        refine z_ifne hZ gCc_constant_21 (fun c9 => ?_) (fun c9 => absurd c9 (by decide))
        obtain ⟨hb, j, hj, rfl⟩ := h2
        obtain ⟨_, q, hq, rfl⟩ := h10
        obtain ⟨_, t, ht, rfl⟩ := h18
        have hk1 := (hk hb).1
        refine z_aload_n hZ gCc_constant_26 rfl ?_
        refine z_get hZ gCc_constant_27 (by omega) rfl rfl ?_
        refine z_iload_n hZ gCc_constant_30 rfl ?_
        refine z_iload_n hZ gCc_constant_31 rfl ?_
        refine z_iload_n hZ gCc_constant_32 rfl ?_
        refine z_cv hZ gCc_constant_33 rfl rfl (Nat.le_of_ble_eq_true rfl) (Nat.le_of_ble_eq_true rfl) ⟨⟨5, _, _, rfl, by decide, rfl⟩, fun l9 D E B A hB => c_Co_pairs l9 D E B A hB (x := j) (y := q) (z := t) (by omega) (by omega) (by omega)⟩ (fun r33 w33 p33 => ?_)
        obtain ⟨rfl, rfl⟩ := p33
        show Z (33 + 3) _ (.inl (a 11 ((j * 16 + q) * 16 + t)) :: []) _
        refine z_iret hZ gCc_constant_36 ?_
        exact ⟨Or.inl ⟨hb, j, q, t, hj, hq, ht, rfl, rfl, rfl, rfl⟩, rfl⟩
      · show Z 21 _ (.inl 0 :: []) _
        refine z_ifne hZ gCc_constant_21 (fun c9 => absurd rfl c9) (fun c9 => ?_)
        refine z_iconst hZ gCc_constant_24 _ rfl ?_
        refine z_iret hZ gCc_constant_25 ?_
        exact ⟨Or.inr ⟨fun h9 => h18 ⟨h9.1, h9.2.2.2⟩, rfl⟩, rfl⟩
    · show Z 13 _ (.inl 0 :: []) _
      refine z_ifeq hZ gCc_constant_13 (fun c9 => ?_) (fun c9 => absurd rfl c9)
      refine z_iconst hZ gCc_constant_24 _ rfl ?_
      refine z_iret hZ gCc_constant_25 ?_
      exact ⟨Or.inr ⟨fun h9 => h10 ⟨h9.1, h9.2.2.1⟩, rfl⟩, rfl⟩
  · show Z 5 _ (.inl 0 :: []) _
    refine z_ifeq hZ gCc_constant_5 (fun c9 => ?_) (fun c9 => absurd rfl c9)
    refine z_iconst hZ gCc_constant_24 _ rfl ?_
    refine z_iret hZ gCc_constant_25 ?_
    exact ⟨Or.inr ⟨fun h9 => h2 ⟨h9.1, h9.2.1⟩, rfl⟩, rfl⟩

