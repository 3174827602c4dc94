-- the reference's readers
set_option maxHeartbeats 4000000 in
set_option maxRecDepth 100000 in
theorem c_Mo_isClass (l : Launch) (D : va_G) (E : sx_E) (B : Nat) (A : Nat → Prop) (hB : 11 ≤ B) {a : sA} {i : sA} {k : Nat} {x : Int32} (hk : ¬ i 0 2 = 0 → k < 2 ^ 31 ∧ i 0 6 = nI k) : sM l D E B A yMo_isClass prog_9_method_31_code 2 (some .boolean) 0 0 [.inr (0, 0), .inl x] (mW a i) (fun r w' => ans r (¬ i 0 2 = 0 ∧ nJ k x) ∧ w' = mW a i) := by
  refine sx_m0 (ls := lMo_isClass) (cs := noCalls) (by decide +kernel) kMo_isClass (fun pc i h1 h2 => sx_nc (ls := lMo_isClass) (by decide) pc i h1 h2) (by simp) ans_rt ?_
  intro Z hZ
  refine z_aload_n hZ gMo_isClass_0 rfl ?_
  refine z_get hZ gMo_isClass_1 (by omega) rfl rfl ?_
  refine z_ifeq hZ gMo_isClass_4 (fun c4 => ?_) (fun c4 => ?_)
  · have ct4 := c4
    refine z_iconst hZ gMo_isClass_23 _ rfl ?_
    refine z_iret hZ gMo_isClass_24 ?_
    first | exact ⟨Or.inr ⟨rfl, fun h9 => h9.1 ct4⟩, rfl⟩ | exact ⟨Or.inr ⟨rfl, fun h9 => nJ_neg (hk cf4).1 ct8 h9.2⟩, rfl⟩ | exact ⟨Or.inr ⟨rfl, fun h9 => nJ_big (hk cf4).1 ct16 h9.2⟩, rfl⟩ | exact ⟨Or.inl ⟨rfl, cf4, nJ_of (hk cf4).1 cf8 cf16⟩, rfl⟩
  · have cf4 := c4
    refine z_iload_n hZ gMo_isClass_7 rfl ?_
    refine z_iflt hZ gMo_isClass_8 (fun c8 => ?_) (fun c8 => ?_)
    · have ct8 := c8
      refine z_iconst hZ gMo_isClass_23 _ rfl ?_
      refine z_iret hZ gMo_isClass_24 ?_
      first | exact ⟨Or.inr ⟨rfl, fun h9 => h9.1 ct4⟩, rfl⟩ | exact ⟨Or.inr ⟨rfl, fun h9 => nJ_neg (hk cf4).1 ct8 h9.2⟩, rfl⟩ | exact ⟨Or.inr ⟨rfl, fun h9 => nJ_big (hk cf4).1 ct16 h9.2⟩, rfl⟩ | exact ⟨Or.inl ⟨rfl, cf4, nJ_of (hk cf4).1 cf8 cf16⟩, rfl⟩
    · have cf8 := c8
      refine z_iload_n hZ gMo_isClass_11 rfl ?_
      refine z_aload_n hZ gMo_isClass_12 rfl ?_
      refine z_get hZ gMo_isClass_13 (by omega) rfl (by rw [(hk cf4).2]; rfl) ?_
      refine z_cmpge hZ gMo_isClass_16 (fun c16 => ?_) (fun c16 => ?_)
      · have ct16 := c16
        refine z_iconst hZ gMo_isClass_23 _ rfl ?_
        refine z_iret hZ gMo_isClass_24 ?_
        first | exact ⟨Or.inr ⟨rfl, fun h9 => h9.1 ct4⟩, rfl⟩ | exact ⟨Or.inr ⟨rfl, fun h9 => nJ_neg (hk cf4).1 ct8 h9.2⟩, rfl⟩ | exact ⟨Or.inr ⟨rfl, fun h9 => nJ_big (hk cf4).1 ct16 h9.2⟩, rfl⟩ | exact ⟨Or.inl ⟨rfl, cf4, nJ_of (hk cf4).1 cf8 cf16⟩, rfl⟩
      · have cf16 := c16
        refine z_iconst hZ gMo_isClass_19 _ rfl ?_
        refine z_goto hZ gMo_isClass_20 ?_
        refine z_iret hZ gMo_isClass_24 ?_
        first | exact ⟨Or.inr ⟨rfl, fun h9 => h9.1 ct4⟩, rfl⟩ | exact ⟨Or.inr ⟨rfl, fun h9 => nJ_neg (hk cf4).1 ct8 h9.2⟩, rfl⟩ | exact ⟨Or.inr ⟨rfl, fun h9 => nJ_big (hk cf4).1 ct16 h9.2⟩, rfl⟩ | exact ⟨Or.inl ⟨rfl, cf4, nJ_of (hk cf4).1 cf8 cf16⟩, rfl⟩

set_option maxHeartbeats 4000000 in
set_option maxRecDepth 100000 in
theorem c_Mo_order (l : Launch) (D : va_G) (E : sx_E) (B : Nat) (A : Nat → Prop) (hB : 11 ≤ B) {a : sA} {i : sA} : sM l D E B A yMo_order prog_9_method_32_code 1 (some .int) 0 0 [.inr (0, 0)] (mW a i) (fun r w' => ((¬ i 0 2 = 0 ∧ r = some (.inl (i 0 3))) ∨ (¬ ¬ i 0 2 = 0 ∧ r = some (.inl 0))) ∧ w' = mW a i) := by
  refine sx_m0 (ls := lMo_order) (cs := noCalls) (by decide +kernel) kMo_order (fun pc i h1 h2 => sx_nc (ls := lMo_order) (by decide) pc i h1 h2) (by simp) (fun w' h => (by obtain ⟨h | h, _⟩ := h <;> cases h.2)) ?_
  intro Z hZ
  refine z_aload_n hZ gMo_order_0 rfl ?_
  refine z_get hZ gMo_order_1 (by omega) rfl rfl ?_
  refine z_ifeq hZ gMo_order_4 (fun c4 => ?_) (fun c4 => ?_)
  · have ct4 := c4
    refine z_iconst hZ gMo_order_14 _ rfl ?_
    refine z_iret hZ gMo_order_15 ?_
    first | exact ⟨Or.inr ⟨fun h9 => h9 ct4, rfl⟩, rfl⟩ | exact ⟨Or.inl ⟨cf4, rfl⟩, rfl⟩
  · have cf4 := c4
    refine z_aload_n hZ gMo_order_7 rfl ?_
    refine z_get hZ gMo_order_8 (by omega) rfl rfl ?_
    refine z_goto hZ gMo_order_11 ?_
    refine z_iret hZ gMo_order_15 ?_
    first | exact ⟨Or.inr ⟨fun h9 => h9 ct4, rfl⟩, rfl⟩ | exact ⟨Or.inl ⟨cf4, rfl⟩, rfl⟩

set_option maxHeartbeats 4000000 in
set_option maxRecDepth 100000 in
theorem c_Mo_classes (l : Launch) (D : va_G) (E : sx_E) (B : Nat) (A : Nat → Prop) (hB : 11 ≤ B) {a : sA} {i : sA} : sM l D E B A yMo_classes prog_9_method_35_code 1 (some .int) 0 0 [.inr (0, 0)] (mW a i) (fun r w' => ((¬ i 0 2 = 0 ∧ r = some (.inl (i 0 6))) ∨ (¬ ¬ i 0 2 = 0 ∧ r = some (.inl 0))) ∧ w' = mW a i) := by
  refine sx_m0 (ls := lMo_classes) (cs := noCalls) (by decide +kernel) kMo_classes (fun pc i h1 h2 => sx_nc (ls := lMo_classes) (by decide) pc i h1 h2) (by simp) (fun w' h => (by obtain ⟨h | h, _⟩ := h <;> cases h.2)) ?_
  intro Z hZ
  refine z_aload_n hZ gMo_classes_0 rfl ?_
  refine z_get hZ gMo_classes_1 (by omega) rfl rfl ?_
  refine z_ifeq hZ gMo_classes_4 (fun c4 => ?_) (fun c4 => ?_)
  · have ct4 := c4
    refine z_iconst hZ gMo_classes_14 _ rfl ?_
    refine z_iret hZ gMo_classes_15 ?_
    first | exact ⟨Or.inr ⟨fun h9 => h9 ct4, rfl⟩, rfl⟩ | exact ⟨Or.inl ⟨cf4, rfl⟩, rfl⟩
  · have cf4 := c4
    refine z_aload_n hZ gMo_classes_7 rfl ?_
    refine z_get hZ gMo_classes_8 (by omega) rfl rfl ?_
    refine z_goto hZ gMo_classes_11 ?_
    refine z_iret hZ gMo_classes_15 ?_
    first | exact ⟨Or.inr ⟨fun h9 => h9 ct4, rfl⟩, rfl⟩ | exact ⟨Or.inl ⟨cf4, rfl⟩, rfl⟩

set_option maxHeartbeats 4000000 in
set_option maxRecDepth 100000 in
theorem c_Mo_exponent (l : Launch) (D : va_G) (E : sx_E) (B : Nat) (A : Nat → Prop) (hB : 11 ≤ B) {a : sA} {i : sA} : sM l D E B A yMo_exponent prog_9_method_40_code 1 (some .int) 0 0 [.inr (0, 0)] (mW a i) (fun r w' => ((¬ i 0 2 = 0 ∧ r = some (.inl (i 0 10))) ∨ (¬ ¬ i 0 2 = 0 ∧ r = some (.inl 0))) ∧ w' = mW a i) := by
  refine sx_m0 (ls := lMo_exponent) (cs := noCalls) (by decide +kernel) kMo_exponent (fun pc i h1 h2 => sx_nc (ls := lMo_exponent) (by decide) pc i h1 h2) (by simp) (fun w' h => (by obtain ⟨h | h, _⟩ := h <;> cases h.2)) ?_
  intro Z hZ
  refine z_aload_n hZ gMo_exponent_0 rfl ?_
  refine z_get hZ gMo_exponent_1 (by omega) rfl rfl ?_
  refine z_ifeq hZ gMo_exponent_4 (fun c4 => ?_) (fun c4 => ?_)
  · have ct4 := c4
    refine z_iconst hZ gMo_exponent_14 _ rfl ?_
    refine z_iret hZ gMo_exponent_15 ?_
    first | exact ⟨Or.inr ⟨fun h9 => h9 ct4, rfl⟩, rfl⟩ | exact ⟨Or.inl ⟨cf4, rfl⟩, rfl⟩
  · have cf4 := c4
    refine z_aload_n hZ gMo_exponent_7 rfl ?_
    refine z_get hZ gMo_exponent_8 (by omega) rfl rfl ?_
    refine z_goto hZ gMo_exponent_11 ?_
    refine z_iret hZ gMo_exponent_15 ?_
    first | exact ⟨Or.inr ⟨fun h9 => h9 ct4, rfl⟩, rfl⟩ | exact ⟨Or.inl ⟨cf4, rfl⟩, rfl⟩

set_option maxHeartbeats 4000000 in
set_option maxRecDepth 100000 in
theorem c_Mo_prime (l : Launch) (D : va_G) (E : sx_E) (B : Nat) (A : Nat → Prop) (hB : 11 ≤ B) {a : sA} {i : sA} : sM l D E B A yMo_prime prog_9_method_41_code 1 (some .int) 0 0 [.inr (0, 0)] (mW a i) (fun r w' => ((¬ i 0 2 = 0 ∧ r = some (.inl (i 0 11))) ∨ (¬ ¬ i 0 2 = 0 ∧ r = some (.inl 0))) ∧ w' = mW a i) := by
  refine sx_m0 (ls := lMo_prime) (cs := noCalls) (by decide +kernel) kMo_prime (fun pc i h1 h2 => sx_nc (ls := lMo_prime) (by decide) pc i h1 h2) (by simp) (fun w' h => (by obtain ⟨h | h, _⟩ := h <;> cases h.2)) ?_
  intro Z hZ
  refine z_aload_n hZ gMo_prime_0 rfl ?_
  refine z_get hZ gMo_prime_1 (by omega) rfl rfl ?_
  refine z_ifeq hZ gMo_prime_4 (fun c4 => ?_) (fun c4 => ?_)
  · have ct4 := c4
    refine z_iconst hZ gMo_prime_14 _ rfl ?_
    refine z_iret hZ gMo_prime_15 ?_
    first | exact ⟨Or.inr ⟨fun h9 => h9 ct4, rfl⟩, rfl⟩ | exact ⟨Or.inl ⟨cf4, rfl⟩, rfl⟩
  · have cf4 := c4
    refine z_aload_n hZ gMo_prime_7 rfl ?_
    refine z_get hZ gMo_prime_8 (by omega) rfl rfl ?_
    refine z_goto hZ gMo_prime_11 ?_
    refine z_iret hZ gMo_prime_15 ?_
    first | exact ⟨Or.inr ⟨fun h9 => h9 ct4, rfl⟩, rfl⟩ | exact ⟨Or.inl ⟨cf4, rfl⟩, rfl⟩

set_option maxHeartbeats 4000000 in
set_option maxRecDepth 100000 in
theorem c_Mo_root (l : Launch) (D : va_G) (E : sx_E) (B : Nat) (A : Nat → Prop) (hB : 11 ≤ B) {a : sA} {i : sA} : sM l D E B A yMo_root prog_9_method_42_code 1 (some .int) 0 0 [.inr (0, 0)] (mW a i) (fun r w' => ((¬ i 0 2 = 0 ∧ r = some (.inl (i 0 12))) ∨ (¬ ¬ i 0 2 = 0 ∧ r = some (.inl 0))) ∧ w' = mW a i) := by
  refine sx_m0 (ls := lMo_root) (cs := noCalls) (by decide +kernel) kMo_root (fun pc i h1 h2 => sx_nc (ls := lMo_root) (by decide) pc i h1 h2) (by simp) (fun w' h => (by obtain ⟨h | h, _⟩ := h <;> cases h.2)) ?_
  intro Z hZ
  refine z_aload_n hZ gMo_root_0 rfl ?_
  refine z_get hZ gMo_root_1 (by omega) rfl rfl ?_
  refine z_ifeq hZ gMo_root_4 (fun c4 => ?_) (fun c4 => ?_)
  · have ct4 := c4
    refine z_iconst hZ gMo_root_14 _ rfl ?_
    refine z_iret hZ gMo_root_15 ?_
    first | exact ⟨Or.inr ⟨fun h9 => h9 ct4, rfl⟩, rfl⟩ | exact ⟨Or.inl ⟨cf4, rfl⟩, rfl⟩
  · have cf4 := c4
    refine z_aload_n hZ gMo_root_7 rfl ?_
    refine z_get hZ gMo_root_8 (by omega) rfl rfl ?_
    refine z_goto hZ gMo_root_11 ?_
    refine z_iret hZ gMo_root_15 ?_
    first | exact ⟨Or.inr ⟨fun h9 => h9 ct4, rfl⟩, rfl⟩ | exact ⟨Or.inl ⟨cf4, rfl⟩, rfl⟩

set_option maxHeartbeats 4000000 in
set_option maxRecDepth 100000 in
theorem c_Mo_element (l : Launch) (D : va_G) (E : sx_E) (B : Nat) (A : Nat → Prop) (hB : 11 ≤ B) {a : sA} {i : sA} {n : Nat} {x : Int32} (hk : ¬ i 0 2 = 0 → n ≤ 120 ∧ i 0 3 = nI n) : sM l D E B A yMo_element prog_9_method_33_code 2 (some .int) 0 0 [.inr (0, 0), .inl x] (mW a i) (fun r w' => ((¬ i 0 2 = 0 ∧ ∃ j, j < n ∧ x = nI j ∧ r = some (.inl (a 2 j))) ∨ (¬ (¬ i 0 2 = 0 ∧ nJ n x) ∧ r = some (.inl (-1)))) ∧ w' = mW a i) := by
  refine sx_m0 (ls := lMo_element) (cs := noCalls) (by decide +kernel) kMo_element (fun pc i h1 h2 => sx_nc (ls := lMo_element) (by decide) pc i h1 h2) (by simp) (fun w' h => (by rcases h.1 with ⟨_, _, _, _, h⟩ | ⟨_, h⟩ <;> cases h)) ?_
  intro Z hZ
  refine z_aload_n hZ gMo_element_0 rfl ?_
  refine z_get hZ gMo_element_1 (by omega) rfl rfl ?_
  refine z_ifeq hZ gMo_element_4 (fun c4 => ?_) (fun c4 => ?_)
  · have ct4 := c4
    refine z_iconst hZ gMo_element_28 _ rfl ?_
    refine z_iret hZ gMo_element_29 ?_
    first | exact ⟨Or.inr ⟨fun h9 => h9.1 ct4, rfl⟩, rfl⟩ | exact ⟨Or.inr ⟨fun h9 => nJ_neg (by omega) ct8 h9.2, rfl⟩, rfl⟩ | exact ⟨Or.inr ⟨fun h9 => nJ_big (by omega) ct16 h9.2, rfl⟩, rfl⟩ | exact ⟨Or.inl ⟨cf4, j, hj, rfl, rfl⟩, rfl⟩
  · have cf4 := c4
    obtain ⟨hk1, hk2⟩ := hk c4
    refine z_iload_n hZ gMo_element_7 rfl ?_
    refine z_iflt hZ gMo_element_8 (fun c8 => ?_) (fun c8 => ?_)
    · have ct8 := c8
      refine z_iconst hZ gMo_element_28 _ rfl ?_
      refine z_iret hZ gMo_element_29 ?_
      first | exact ⟨Or.inr ⟨fun h9 => h9.1 ct4, rfl⟩, rfl⟩ | exact ⟨Or.inr ⟨fun h9 => nJ_neg (by omega) ct8 h9.2, rfl⟩, rfl⟩ | exact ⟨Or.inr ⟨fun h9 => nJ_big (by omega) ct16 h9.2, rfl⟩, rfl⟩ | exact ⟨Or.inl ⟨cf4, j, hj, rfl, rfl⟩, rfl⟩
    · have cf8 := c8
      refine z_iload_n hZ gMo_element_11 rfl ?_
      refine z_aload_n hZ gMo_element_12 rfl ?_
      refine z_get hZ gMo_element_13 (by omega) rfl (by rw [hk2]; rfl) ?_
      refine z_cmpge hZ gMo_element_16 (fun c16 => ?_) (fun c16 => ?_)
      · have ct16 := c16
        refine z_iconst hZ gMo_element_28 _ rfl ?_
        refine z_iret hZ gMo_element_29 ?_
        first | exact ⟨Or.inr ⟨fun h9 => h9.1 ct4, rfl⟩, rfl⟩ | exact ⟨Or.inr ⟨fun h9 => nJ_neg (by omega) ct8 h9.2, rfl⟩, rfl⟩ | exact ⟨Or.inr ⟨fun h9 => nJ_big (by omega) ct16 h9.2, rfl⟩, rfl⟩ | exact ⟨Or.inl ⟨cf4, j, hj, rfl, rfl⟩, rfl⟩
      · have cf16 := c16
        obtain ⟨j, hj, rfl⟩ := nJ_of (by omega) cf8 c16
        have ej : (nI j).toNatClampNeg = j := nI_clamp (by omega)
        refine z_aload_n hZ gMo_element_19 rfl ?_
        refine z_get hZ gMo_element_20 (by omega) rfl rfl ?_
        refine z_iload_n hZ gMo_element_23 rfl ?_
        refine z_iald hZ gMo_element_24 (by omega) rfl (vp_in_nI (by omega) (by decide)) ?_
        rw [ej]
        refine z_goto hZ gMo_element_25 ?_
        refine z_iret hZ gMo_element_29 ?_
        first | exact ⟨Or.inr ⟨fun h9 => h9.1 ct4, rfl⟩, rfl⟩ | exact ⟨Or.inr ⟨fun h9 => nJ_neg (by omega) ct8 h9.2, rfl⟩, rfl⟩ | exact ⟨Or.inr ⟨fun h9 => nJ_big (by omega) ct16 h9.2, rfl⟩, rfl⟩ | exact ⟨Or.inl ⟨cf4, j, hj, rfl, rfl⟩, rfl⟩

set_option maxHeartbeats 4000000 in
set_option maxRecDepth 100000 in
theorem c_Mo_classOf (l : Launch) (D : va_G) (E : sx_E) (B : Nat) (A : Nat → Prop) (hB : 11 ≤ B) {a : sA} {i : sA} {n : Nat} {x : Int32} (hk : ¬ i 0 2 = 0 → n ≤ 120 ∧ i 0 3 = nI n) : sM l D E B A yMo_classOf prog_9_method_34_code 3 (some .int) 1 22 [.inr (0, 0), .inl x] (mW a i) (fun r w' => ((¬ i 0 2 = 0 ∧ ∃ j, j < n ∧ a 2 j = x ∧ r = some (.inl (a 3 j))) ∨ (¬ (¬ i 0 2 = 0 ∧ ∃ j, j < n ∧ a 2 j = x) ∧ r = some (.inl (-1)))) ∧ w' = mW a i) := by
  refine sx_m0 (ls := lMo_classOf) (cs := csAll) (by decide +kernel) kMo_classOf (hMo_classOf l D E B A hB) (by simp) (fun w' h => (by rcases h.1 with ⟨_, _, _, _, h⟩ | ⟨_, h⟩ <;> cases h)) ?_
  intro Z hZ
  refine z_aload_n hZ gMo_classOf_0 rfl ?_
  refine z_get hZ gMo_classOf_1 (by omega) rfl rfl ?_
  refine z_ifeq hZ gMo_classOf_4 (fun c4 => ?_) (fun c4 => ?_)
  · have ct4 := c4
    refine z_iconst hZ gMo_classOf_15 _ rfl ?_
    refine z_istore_n hZ gMo_classOf_16 rfl ?_
    refine z_iload_n hZ gMo_classOf_17 rfl ?_
    refine z_iconst hZ gMo_classOf_18 _ rfl ?_
    refine z_cmpne hZ gMo_classOf_19 (fun c19 => absurd rfl c19) (fun c19 => ?_)
    refine z_iconst hZ gMo_classOf_22 _ rfl ?_
    refine z_goto hZ gMo_classOf_23 ?_
    refine z_iret hZ gMo_classOf_32 ?_
    exact ⟨Or.inr ⟨fun h9 => h9.1 ct4, rfl⟩, rfl⟩
  · have cf4 := c4
    obtain ⟨hk1, hk2⟩ := hk c4
    refine z_aload_n hZ gMo_classOf_7 rfl ?_
    refine z_iload_n hZ gMo_classOf_8 rfl ?_
    refine z_cv hZ gMo_classOf_9 rfl rfl (Nat.le_of_ble_eq_true rfl) (Nat.le_of_ble_eq_true rfl) ⟨⟨0, _, _, rfl, by decide, rfl⟩, fun l9 D E B A hB => c_Mo_find l9 D E B A hB (cnt := n) (x := x) hk2 hk1⟩ (fun r9 w9 p9 => ?_)
    obtain ⟨h9, rfl⟩ := p9
    rcases h9 with ⟨j, hj, hx, _, rfl⟩ | ⟨hno, rfl⟩
    · show Z (9 + 3) _ (.inl (nI j) :: []) _
      have ej : (nI j).toNatClampNeg = j := nI_clamp (by omega)
      refine z_goto hZ gMo_classOf_12 ?_
      refine z_istore_n hZ gMo_classOf_16 rfl ?_
      refine z_iload_n hZ gMo_classOf_17 rfl ?_
      refine z_iconst hZ gMo_classOf_18 _ rfl ?_
      refine z_cmpne hZ gMo_classOf_19 (fun c19 => ?_) (fun c19 => absurd c19 (nI_nm1 (by omega)))
      refine z_aload_n hZ gMo_classOf_26 rfl ?_
      refine z_get hZ gMo_classOf_27 (by omega) rfl rfl ?_
      refine z_iload_n hZ gMo_classOf_30 rfl ?_
      refine z_iald hZ gMo_classOf_31 (by omega) rfl (vp_in_nI (by omega) (by decide)) ?_
      rw [ej]
      refine z_iret hZ gMo_classOf_32 ?_
      exact ⟨Or.inl ⟨cf4, j, hj, hx, rfl⟩, rfl⟩
    · show Z (9 + 3) _ (.inl (-1) :: []) _
      refine z_goto hZ gMo_classOf_12 ?_
      refine z_istore_n hZ gMo_classOf_16 rfl ?_
      refine z_iload_n hZ gMo_classOf_17 rfl ?_
      refine z_iconst hZ gMo_classOf_18 _ rfl ?_
      refine z_cmpne hZ gMo_classOf_19 (fun c19 => absurd im1.symm c19) (fun c19 => ?_)
      refine z_iconst hZ gMo_classOf_22 _ rfl ?_
      refine z_goto hZ gMo_classOf_23 ?_
      refine z_iret hZ gMo_classOf_32 ?_
      exact ⟨Or.inr ⟨fun h9 => by obtain ⟨_, j, hj, hx⟩ := h9; exact hno j hj hx, rfl⟩, rfl⟩

set_option maxHeartbeats 4000000 in
set_option maxRecDepth 100000 in
theorem c_Mo_size (l : Launch) (D : va_G) (E : sx_E) (B : Nat) (A : Nat → Prop) (hB : 11 ≤ B) {a : sA} {i : sA} {k : Nat} {x : Int32} (hk : ¬ i 0 2 = 0 → k ≤ 16 ∧ i 0 6 = nI k) : sM l D E B A yMo_size prog_9_method_36_code 2 (some .int) 1 21 [.inr (0, 0), .inl x] (mW a i) (fun r w' => ((¬ i 0 2 = 0 ∧ ∃ j, j < k ∧ x = nI j ∧ r = some (.inl (a 4 j))) ∨ (¬ (¬ i 0 2 = 0 ∧ nJ k x) ∧ r = some (.inl 0))) ∧ w' = mW a i) := by
  refine sx_m0 (ls := lMo_size) (cs := csAll) (by decide +kernel) kMo_size (hMo_size l D E B A hB) (by simp) (fun w' h => (by rcases h.1 with ⟨_, _, _, _, h⟩ | ⟨_, h⟩ <;> cases h)) ?_
  intro Z hZ
  refine z_aload_n hZ gMo_size_0 rfl ?_
  refine z_iload_n hZ gMo_size_1 rfl ?_
  refine z_cv hZ gMo_size_2 rfl rfl (Nat.le_of_ble_eq_true rfl) (Nat.le_of_ble_eq_true rfl) ⟨⟨0, _, _, rfl, by decide, rfl⟩, fun l9 D E B A hB => c_Mo_isClass l9 D E B A hB (k := k) (x := x) (fun h9 => ⟨by have := (hk h9).1; omega, (hk h9).2⟩)⟩ (fun r2 w2 p2 => ?_)
  obtain ⟨h2, rfl⟩ := p2
  rcases h2 with ⟨rfl, h2⟩ | ⟨rfl, h2⟩
  · show Z 5 _ (.inl 1 :: []) _
    refine z_ifeq hZ gMo_size_5 (fun c9 => absurd c9 (by decide)) (fun c9 => ?_)
    obtain ⟨hb, j, hj, rfl⟩ := h2
    have hk1 := (hk hb).1
    have ej : (nI j).toNatClampNeg = j := nI_clamp (by omega)
    refine z_aload_n hZ gMo_size_8 rfl ?_
    refine z_get hZ gMo_size_9 (by omega) rfl rfl ?_
    refine z_iload_n hZ gMo_size_12 rfl ?_
    refine z_iald hZ gMo_size_13 (by omega) rfl (vp_in_nI (by omega) (by decide)) ?_
    rw [ej]
    refine z_goto hZ gMo_size_14 ?_
    refine z_iret hZ gMo_size_18 ?_
    exact ⟨Or.inl ⟨hb, j, hj, rfl, rfl⟩, rfl⟩
  · show Z 5 _ (.inl 0 :: []) _
    refine z_ifeq hZ gMo_size_5 (fun c9 => ?_) (fun c9 => absurd rfl c9)
    refine z_iconst hZ gMo_size_17 _ rfl ?_
    refine z_iret hZ gMo_size_18 ?_
    exact ⟨Or.inr ⟨h2, rfl⟩, rfl⟩

set_option maxHeartbeats 4000000 in
set_option maxRecDepth 100000 in
theorem c_Mo_least (l : Launch) (D : va_G) (E : sx_E) (B : Nat) (A : Nat → Prop) (hB : 11 ≤ B) {a : sA} {i : sA} {k : Nat} {x : Int32} (hk : ¬ i 0 2 = 0 → k ≤ 16 ∧ i 0 6 = nI k) : sM l D E B A yMo_least prog_9_method_37_code 2 (some .int) 1 21 [.inr (0, 0), .inl x] (mW a i) (fun r w' => ((¬ i 0 2 = 0 ∧ ∃ j, j < k ∧ x = nI j ∧ r = some (.inl (a 5 j))) ∨ (¬ (¬ i 0 2 = 0 ∧ nJ k x) ∧ r = some (.inl (-1)))) ∧ w' = mW a i) := by
  refine sx_m0 (ls := lMo_least) (cs := csAll) (by decide +kernel) kMo_least (hMo_least l D E B A hB) (by simp) (fun w' h => (by rcases h.1 with ⟨_, _, _, _, h⟩ | ⟨_, h⟩ <;> cases h)) ?_
  intro Z hZ
  refine z_aload_n hZ gMo_least_0 rfl ?_
  refine z_iload_n hZ gMo_least_1 rfl ?_
  refine z_cv hZ gMo_least_2 rfl rfl (Nat.le_of_ble_eq_true rfl) (Nat.le_of_ble_eq_true rfl) ⟨⟨0, _, _, rfl, by decide, rfl⟩, fun l9 D E B A hB => c_Mo_isClass l9 D E B A hB (k := k) (x := x) (fun h9 => ⟨by have := (hk h9).1; omega, (hk h9).2⟩)⟩ (fun r2 w2 p2 => ?_)
  obtain ⟨h2, rfl⟩ := p2
  rcases h2 with ⟨rfl, h2⟩ | ⟨rfl, h2⟩
  · show Z 5 _ (.inl 1 :: []) _
    refine z_ifeq hZ gMo_least_5 (fun c9 => absurd c9 (by decide)) (fun c9 => ?_)
    obtain ⟨hb, j, hj, rfl⟩ := h2
    have hk1 := (hk hb).1
    have ej : (nI j).toNatClampNeg = j := nI_clamp (by omega)
    refine z_aload_n hZ gMo_least_8 rfl ?_
    refine z_get hZ gMo_least_9 (by omega) rfl rfl ?_
    refine z_iload_n hZ gMo_least_12 rfl ?_
    refine z_iald hZ gMo_least_13 (by omega) rfl (vp_in_nI (by omega) (by decide)) ?_
    rw [ej]
    refine z_goto hZ gMo_least_14 ?_
    refine z_iret hZ gMo_least_18 ?_
    exact ⟨Or.inl ⟨hb, j, hj, rfl, rfl⟩, rfl⟩
  · show Z 5 _ (.inl 0 :: []) _
    refine z_ifeq hZ gMo_least_5 (fun c9 => ?_) (fun c9 => absurd rfl c9)
    refine z_iconst hZ gMo_least_17 _ rfl ?_
    refine z_iret hZ gMo_least_18 ?_
    exact ⟨Or.inr ⟨h2, rfl⟩, rfl⟩

set_option maxHeartbeats 4000000 in
set_option maxRecDepth 100000 in
theorem c_Mo_degree (l : Launch) (D : va_G) (E : sx_E) (B : Nat) (A : Nat → Prop) (hB : 11 ≤ B) {a : sA} {i : sA} {k : Nat} {x : Int32} (hk : ¬ i 0 2 = 0 → k ≤ 16 ∧ i 0 6 = nI k) : sM l D E B A yMo_degree prog_9_method_43_code 2 (some .int) 1 21 [.inr (0, 0), .inl x] (mW a i) (fun r w' => ((¬ i 0 2 = 0 ∧ ∃ j, j < k ∧ x = nI j ∧ r = some (.inl (a 8 j))) ∨ (¬ (¬ i 0 2 = 0 ∧ nJ k x) ∧ r = some (.inl 0))) ∧ w' = mW a i) := by
  refine sx_m0 (ls := lMo_degree) (cs := csAll) (by decide +kernel) kMo_degree (hMo_degree l D E B A hB) (by simp) (fun w' h => (by rcases h.1 with ⟨_, _, _, _, h⟩ | ⟨_, h⟩ <;> cases h)) ?_
  intro Z hZ
  refine z_aload_n hZ gMo_degree_0 rfl ?_
  refine z_iload_n hZ gMo_degree_1 rfl ?_
  refine z_cv hZ gMo_degree_2 rfl rfl (Nat.le_of_ble_eq_true rfl) (Nat.le_of_ble_eq_true rfl) ⟨⟨0, _, _, rfl, by decide, rfl⟩, fun l9 D E B A hB => c_Mo_isClass l9 D E B A hB (k := k) (x := x) (fun h9 => ⟨by have := (hk h9).1; omega, (hk h9).2⟩)⟩ (fun r2 w2 p2 => ?_)
  obtain ⟨h2, rfl⟩ := p2
  rcases h2 with ⟨rfl, h2⟩ | ⟨rfl, h2⟩
  · show Z 5 _ (.inl 1 :: []) _
    refine z_ifeq hZ gMo_degree_5 (fun c9 => absurd c9 (by decide)) (fun c9 => ?_)
    obtain ⟨hb, j, hj, rfl⟩ := h2
    have hk1 := (hk hb).1
    have ej : (nI j).toNatClampNeg = j := nI_clamp (by omega)
    refine z_aload_n hZ gMo_degree_8 rfl ?_
    refine z_get hZ gMo_degree_9 (by omega) rfl rfl ?_
    refine z_iload_n hZ gMo_degree_12 rfl ?_
    refine z_iald hZ gMo_degree_13 (by omega) rfl (vp_in_nI (by omega) (by decide)) ?_
    rw [ej]
    refine z_goto hZ gMo_degree_14 ?_
    refine z_iret hZ gMo_degree_18 ?_
    exact ⟨Or.inl ⟨hb, j, hj, rfl, rfl⟩, rfl⟩
  · show Z 5 _ (.inl 0 :: []) _
    refine z_ifeq hZ gMo_degree_5 (fun c9 => ?_) (fun c9 => absurd rfl c9)
    refine z_iconst hZ gMo_degree_17 _ rfl ?_
    refine z_iret hZ gMo_degree_18 ?_
    exact ⟨Or.inr ⟨h2, rfl⟩, rfl⟩

set_option maxHeartbeats 4000000 in
set_option maxRecDepth 100000 in
theorem c_Mo_value (l : Launch) (D : va_G) (E : sx_E) (B : Nat) (A : Nat → Prop) (hB : 11 ≤ B) {a : sA} {i : sA} {k : Nat} {x y : Int32} (hk : ¬ i 0 2 = 0 → k ≤ 16 ∧ i 0 6 = nI k) : sM l D E B A yMo_value prog_9_method_44_code 3 (some .int) 1 21 [.inr (0, 0), .inl x, .inl y] (mW a i) (fun r w' => ((¬ i 0 2 = 0 ∧ ∃ j q, j < k ∧ q < k ∧ x = nI j ∧ y = nI q ∧ r = some (.inl (a 9 (16 * j + q)))) ∨ (¬ (¬ i 0 2 = 0 ∧ nJ k x ∧ nJ k y) ∧ r = some (.inl (-1)))) ∧ w' = mW a i) := by
  refine sx_m0 (ls := lMo_value) (cs := csAll) (by decide +kernel) kMo_value (hMo_value l D E B A hB) (by simp) (fun w' h => (by rcases h.1 with ⟨_, _, _, _, _, _, _, h⟩ | ⟨_, h⟩ <;> cases h)) ?_
  intro Z hZ
  refine z_aload_n hZ gMo_value_0 rfl ?_
  refine z_iload_n hZ gMo_value_1 rfl ?_
  refine z_cv hZ gMo_value_2 rfl rfl (Nat.le_of_ble_eq_true rfl) (Nat.le_of_ble_eq_true rfl) ⟨⟨0, _, _, rfl, by decide, rfl⟩, fun l9 D E B A hB => c_Mo_isClass l9 D E B A hB (k := k) (x := x) (fun h9 => ⟨by have := (hk h9).1; omega, (hk h9).2⟩)⟩ (fun r2 w2 p2 => ?_)
  obtain ⟨h2, rfl⟩ := p2
  rcases h2 with ⟨rfl, h2⟩ | ⟨rfl, h2⟩
  · show Z 5 _ (.inl 1 :: []) _
    refine z_ifeq hZ gMo_value_5 (fun c9 => absurd c9 (by decide)) (fun c9 => ?_)
    refine z_aload_n hZ gMo_value_8 rfl ?_
    refine z_iload_n hZ gMo_value_9 rfl ?_
    refine z_cv hZ gMo_value_10 rfl rfl (Nat.le_of_ble_eq_true rfl) (Nat.le_of_ble_eq_true rfl) ⟨⟨0, _, _, rfl, by decide, rfl⟩, fun l9 D E B A hB => c_Mo_isClass l9 D E B A hB (k := k) (x := y) (fun h9 => ⟨by have := (hk h9).1; omega, (hk h9).2⟩)⟩ (fun r10 w10 p10 => ?_)
    obtain ⟨h10, rfl⟩ := p10
    rcases h10 with ⟨rfl, h10⟩ | ⟨rfl, h10⟩
    · show Z 13 _ (.inl 1 :: []) _
      refine z_ifeq hZ gMo_value_13 (fun c9 => absurd c9 (by decide)) (fun c9 => ?_)
      obtain ⟨hb, j, hj, rfl⟩ := h2
      have hk1 := (hk hb).1
      have ej : (nI j).toNatClampNeg = j := nI_clamp (by omega)
      obtain ⟨_, q, hq, rfl⟩ := h10
      have ejq := nI_clamp (n := 16 * j + q) (by omega)
      refine z_aload_n hZ gMo_value_16 rfl ?_
      refine z_get hZ gMo_value_17 (by omega) rfl rfl ?_
      refine z_bipush hZ gMo_value_20 _ i16 ?_
      refine z_iload_n hZ gMo_value_22 rfl ?_
      refine z_imul hZ gMo_value_23 _ rfl ?_
      refine z_iload_n hZ gMo_value_24 rfl ?_
      refine z_iadd hZ gMo_value_25 _ (ix2 j q) ?_
      refine z_iald hZ gMo_value_26 (by omega) rfl (vp_in_nI (by omega) (by decide)) ?_
      rw [ejq]
      refine z_goto hZ gMo_value_27 ?_
      refine z_iret hZ gMo_value_31 ?_
      exact ⟨Or.inl ⟨hb, j, q, hj, hq, rfl, rfl, rfl⟩, rfl⟩
    · show Z 13 _ (.inl 0 :: []) _
      refine z_ifeq hZ gMo_value_13 (fun c9 => ?_) (fun c9 => absurd rfl c9)
      refine z_iconst hZ gMo_value_30 _ rfl ?_
      refine z_iret hZ gMo_value_31 ?_
      exact ⟨Or.inr ⟨fun h9 => h10 ⟨h9.1, h9.2.2⟩, rfl⟩, rfl⟩
  · show Z 5 _ (.inl 0 :: []) _
    refine z_ifeq hZ gMo_value_5 (fun c9 => ?_) (fun c9 => absurd rfl c9)
    refine z_iconst hZ gMo_value_30 _ rfl ?_
    refine z_iret hZ gMo_value_31 ?_
    exact ⟨Or.inr ⟨fun h9 => h2 ⟨h9.1, h9.2.1⟩, rfl⟩, rfl⟩

set_option maxHeartbeats 4000000 in
set_option maxRecDepth 100000 in
theorem c_Mo_constant (l : Launch) (D : va_G) (E : sx_E) (B : Nat) (A : Nat → Prop) (hB : 11 ≤ B) {a : sA} {i : sA} {k : Nat} {x y z : Int32} (hk : ¬ i 0 2 = 0 → k ≤ 16 ∧ i 0 6 = nI k) : sM l D E B A yMo_constant prog_9_method_39_code 4 (some .int) 1 21 [.inr (0, 0), .inl x, .inl y, .inl z] (mW a i) (fun r w' => ((¬ i 0 2 = 0 ∧ ∃ j q t, j < k ∧ q < k ∧ t < k ∧ x = nI j ∧ y = nI q ∧ z = nI t ∧ r = some (.inl (a 6 ((j * 16 + q) * 16 + t)))) ∨ (¬ (¬ i 0 2 = 0 ∧ nJ k x ∧ nJ k y ∧ nJ k z) ∧ r = some (.inl (-1)))) ∧ w' = mW a i) := by
  refine sx_m0 (ls := lMo_constant) (cs := csAll) (by decide +kernel) kMo_constant (hMo_constant l D E B A hB) (by simp) (fun w' h => (by rcases h.1 with ⟨_, _, _, _, _, _, _, _, _, _, h⟩ | ⟨_, h⟩ <;> cases h)) ?_
  intro Z hZ
  refine z_aload_n hZ gMo_constant_0 rfl ?_
  refine z_iload_n hZ gMo_constant_1 rfl ?_
  refine z_cv hZ gMo_constant_2 rfl rfl (Nat.le_of_ble_eq_true rfl) (Nat.le_of_ble_eq_true rfl) ⟨⟨0, _, _, rfl, by decide, rfl⟩, fun l9 D E B A hB => c_Mo_isClass l9 D E B A hB (k := k) (x := x) (fun h9 => ⟨by have := (hk h9).1; omega, (hk h9).2⟩)⟩ (fun r2 w2 p2 => ?_)
  obtain ⟨h2, rfl⟩ := p2
  rcases h2 with ⟨rfl, h2⟩ | ⟨rfl, h2⟩
  · show Z 5 _ (.inl 1 :: []) _
    refine z_ifeq hZ gMo_constant_5 (fun c9 => absurd c9 (by decide)) (fun c9 => ?_)
    refine z_aload_n hZ gMo_constant_8 rfl ?_
    refine z_iload_n hZ gMo_constant_9 rfl ?_
    refine z_cv hZ gMo_constant_10 rfl rfl (Nat.le_of_ble_eq_true rfl) (Nat.le_of_ble_eq_true rfl) ⟨⟨0, _, _, rfl, by decide, rfl⟩, fun l9 D E B A hB => c_Mo_isClass l9 D E B A hB (k := k) (x := y) (fun h9 => ⟨by have := (hk h9).1; omega, (hk h9).2⟩)⟩ (fun r10 w10 p10 => ?_)
    obtain ⟨h10, rfl⟩ := p10
    rcases h10 with ⟨rfl, h10⟩ | ⟨rfl, h10⟩
    · show Z 13 _ (.inl 1 :: []) _
      refine z_ifeq hZ gMo_constant_13 (fun c9 => absurd c9 (by decide)) (fun c9 => ?_)
      refine z_aload_n hZ gMo_constant_16 rfl ?_
      refine z_iload_n hZ gMo_constant_17 rfl ?_
      refine z_cv hZ gMo_constant_18 rfl rfl (Nat.le_of_ble_eq_true rfl) (Nat.le_of_ble_eq_true rfl) ⟨⟨0, _, _, rfl, by decide, rfl⟩, fun l9 D E B A hB => c_Mo_isClass l9 D E B A hB (k := k) (x := z) (fun h9 => ⟨by have := (hk h9).1; omega, (hk h9).2⟩)⟩ (fun r18 w18 p18 => ?_)
      obtain ⟨h18, rfl⟩ := p18
      rcases h18 with ⟨rfl, h18⟩ | ⟨rfl, h18⟩
      · show Z 21 _ (.inl 1 :: []) _
        refine z_ifeq hZ gMo_constant_21 (fun c9 => absurd c9 (by decide)) (fun c9 => ?_)
        obtain ⟨hb, j, hj, rfl⟩ := h2
        obtain ⟨_, q, hq, rfl⟩ := h10
        obtain ⟨_, t, ht, rfl⟩ := h18
        have hk1 := (hk hb).1
        have hidx : (j * 16 + q) * 16 + t < 4096 := by omega
        have eidx := nI_clamp (n := (j * 16 + q) * 16 + t) (by omega)
        refine z_aload_n hZ gMo_constant_24 rfl ?_
        refine z_get hZ gMo_constant_25 (by omega) rfl rfl ?_
        refine z_sipush hZ gMo_constant_28 _ i256 ?_
        refine z_iload_n hZ gMo_constant_31 rfl ?_
        refine z_imul hZ gMo_constant_32 _ rfl ?_
        refine z_bipush hZ gMo_constant_33 _ i16 ?_
        refine z_iload_n hZ gMo_constant_35 rfl ?_
        refine z_imul hZ gMo_constant_36 _ rfl ?_
        refine z_iadd hZ gMo_constant_37 _ rfl ?_
        refine z_iload_n hZ gMo_constant_38 rfl ?_
        refine z_iadd hZ gMo_constant_39 _ (ix3 j q t) ?_
        refine z_iald hZ gMo_constant_40 (by omega) rfl (vp_in_nI hidx (by decide)) ?_
        rw [eidx]
        refine z_goto hZ gMo_constant_41 ?_
        refine z_iret hZ gMo_constant_45 ?_
        exact ⟨Or.inl ⟨hb, j, q, t, hj, hq, ht, rfl, rfl, rfl, rfl⟩, rfl⟩
      · show Z 21 _ (.inl 0 :: []) _
        refine z_ifeq hZ gMo_constant_21 (fun c9 => ?_) (fun c9 => absurd rfl c9)
        refine z_iconst hZ gMo_constant_44 _ rfl ?_
        refine z_iret hZ gMo_constant_45 ?_
        exact ⟨Or.inr ⟨fun h9 => h18 ⟨h9.1, h9.2.2.2⟩, rfl⟩, rfl⟩
    · show Z 13 _ (.inl 0 :: []) _
      refine z_ifeq hZ gMo_constant_13 (fun c9 => ?_) (fun c9 => absurd rfl c9)
      refine z_iconst hZ gMo_constant_44 _ rfl ?_
      refine z_iret hZ gMo_constant_45 ?_
      exact ⟨Or.inr ⟨fun h9 => h10 ⟨h9.1, h9.2.2.1⟩, rfl⟩, rfl⟩
  · show Z 5 _ (.inl 0 :: []) _
    refine z_ifeq hZ gMo_constant_5 (fun c9 => ?_) (fun c9 => absurd rfl c9)
    refine z_iconst hZ gMo_constant_44 _ rfl ?_
    refine z_iret hZ gMo_constant_45 ?_
    exact ⟨Or.inr ⟨fun h9 => h2 ⟨h9.1, h9.2.1⟩, rfl⟩, rfl⟩

set_option maxHeartbeats 4000000 in
set_option maxRecDepth 100000 in
theorem c_Mo_power (l : Launch) (D : va_G) (E : sx_E) (B : Nat) (A : Nat → Prop) (hB : 11 ≤ B) {a : sA} {i : sA} {s kl re : Nat → Nat} {n k : Nat} {x y : Int32} (hm : ¬ i 0 2 = 0 → mtO a i s n k kl re) : sM l D E B A yMo_power prog_9_method_38_code 4 (some .int) 3 69 [.inr (0, 0), .inl x, .inl y] (mW a i) (fun r w' => ((¬ i 0 2 = 0 ∧ ∃ j m, j < k ∧ m < 1001 ∧ x = nI j ∧ y = nI m ∧ r = some (.inl (nI (kl (pw (re j) m))))) ∨ (¬ (¬ i 0 2 = 0 ∧ nJ k x ∧ nJ 1001 y) ∧ r = some (.inl (-1)))) ∧ w' = mW a i) := by
  refine sx_m0 (ls := lMo_power) (cs := csAll) (by decide +kernel) kMo_power (hMo_power l D E B A hB) (by simp) (fun w' h => (by rcases h.1 with ⟨_, _, _, _, _, _, _, h⟩ | ⟨_, h⟩ <;> cases h)) ?_
  intro Z hZ
  refine z_aload_n hZ gMo_power_0 rfl ?_
  refine z_iload_n hZ gMo_power_1 rfl ?_
  refine z_cv hZ gMo_power_2 rfl rfl (Nat.le_of_ble_eq_true rfl) (Nat.le_of_ble_eq_true rfl) ⟨⟨0, _, _, rfl, by decide, rfl⟩, fun l9 D E B A hB => c_Mo_isClass l9 D E B A hB (k := k) (x := x) (fun h9 => ⟨by have := (hm h9).2.2.2.2.2.1; omega, (hm h9).2.2.2.2.2.2.1⟩)⟩ (fun r2 w2 p2 => ?_)
  obtain ⟨h2, rfl⟩ := p2
  rcases h2 with ⟨rfl, h2⟩ | ⟨rfl, h2⟩
  · show Z 5 _ (.inl 1 :: []) _
    refine z_ifeq hZ gMo_power_5 (fun c9 => absurd c9 (by decide)) (fun c9 => ?_)
    obtain ⟨hb, j, hj, rfl⟩ := h2
    have hmt := hm hb
    have hk1 := hmt.2.2.2.2.2.1
    have ej : (nI j).toNatClampNeg = j := nI_clamp (by omega)
    refine z_iload_n hZ gMo_power_8 rfl ?_
    refine z_iflt hZ gMo_power_9 (fun c9 => ?_) (fun c9 => ?_)
    · have ct9 := c9
      refine z_iconst hZ gMo_power_19 _ rfl ?_
      refine z_iret hZ gMo_power_20 ?_
      first | exact ⟨Or.inr ⟨fun h9 => nJ_neg (by decide) ct9 h9.2.2, rfl⟩, rfl⟩ | exact ⟨Or.inr ⟨fun h9 => nJ_1001 cf16 h9.2.2, rfl⟩, rfl⟩
    · have cf9 := c9
      refine z_iload_n hZ gMo_power_12 rfl ?_
      refine z_sipush hZ gMo_power_13 _ i1000 ?_
      refine z_cmple hZ gMo_power_16 (fun c16 => ?_) (fun c16 => ?_)
      · have ct16 := c16
        obtain ⟨m, hm9, rfl⟩ := nJ_of (k := 1001) (by decide) cf9 (i_1001 c16)
        have hG := kc_g hmt.2.2.2.1.1
        have hrG := kc_re hmt.2.2.2.1.1 hj
        have hpG : pw (re j) m ∈ Gl s n := gg_pm hG hrG m
        have hn := hmt.2.1
        refine z_aload_n hZ gMo_power_21 rfl ?_
        refine z_aload_n hZ gMo_power_22 rfl ?_
        refine z_get hZ gMo_power_23 (by omega) rfl rfl ?_
        refine z_iload_n hZ gMo_power_26 rfl ?_
        refine z_iald hZ gMo_power_27 (by omega) rfl (vp_in_nI (by omega) (by decide)) ?_
        rw [ej, (hmt.2.2.2.2.2.2.2.2 j hj).1]
        refine z_iload_n hZ gMo_power_28 rfl ?_
        refine z_cv hZ gMo_power_29 rfl rfl (Nat.le_of_ble_eq_true rfl) (Nat.le_of_ble_eq_true rfl) ⟨⟨0, _, _, rfl, by decide, rfl⟩, fun l9 D E B A hB => c_Mo_powerOf l9 D E B A hB (c := re j) (m := m) (hmt.2.2.2.2.1 _ hrG).1 (by omega) _⟩ (fun r29 w29 p29 => ?_)
        obtain ⟨rfl, rfl⟩ := p29
        show Z (29 + 3) _ (.inl (nI (pw (re j) m)) :: []) _
        refine z_istore_n hZ gMo_power_32 rfl ?_
        refine z_aload_n hZ gMo_power_33 rfl ?_
        refine z_get hZ gMo_power_34 (by omega) rfl rfl ?_
        refine z_aload_n hZ gMo_power_37 rfl ?_
        refine z_iload_n hZ gMo_power_38 rfl ?_
        refine z_cv hZ gMo_power_39 rfl rfl (Nat.le_of_ble_eq_true rfl) (Nat.le_of_ble_eq_true rfl) ⟨⟨0, _, _, rfl, by decide, rfl⟩, fun l9 D E B A hB => c_Mo_find l9 D E B A hB (cnt := n) (x := nI (pw (re j) m)) hmt.1.1 hmt.2.1⟩ (fun r39 w39 p39 => ?_)
        obtain ⟨h39, rfl⟩ := p39
        obtain ⟨j9, hj9, hj8, hj7, rfl⟩ := elM_fp hmt.1 hmt.2.2.1 hpG h39
        have ej9 : (nI j9).toNatClampNeg = j9 := nI_clamp (by omega)
        show Z (39 + 3) _ (.inl (nI j9) :: .inr (3, 0) :: []) _
        refine z_iald hZ gMo_power_42 (by omega) rfl (vp_in_nI (by omega) (by decide)) ?_
        rw [ej9, hmt.2.2.2.2.2.2.2.1 j9 hj9, hj8]
        refine z_iret hZ gMo_power_43 ?_
        exact ⟨Or.inl ⟨hb, j, m, hj, hm9, rfl, rfl, rfl⟩, rfl⟩
      · have cf16 := c16
        refine z_iconst hZ gMo_power_19 _ rfl ?_
        refine z_iret hZ gMo_power_20 ?_
        first | exact ⟨Or.inr ⟨fun h9 => nJ_neg (by decide) ct9 h9.2.2, rfl⟩, rfl⟩ | exact ⟨Or.inr ⟨fun h9 => nJ_1001 cf16 h9.2.2, rfl⟩, rfl⟩
  · show Z 5 _ (.inl 0 :: []) _
    refine z_ifeq hZ gMo_power_5 (fun c9 => ?_) (fun c9 => absurd rfl c9)
    refine z_iconst hZ gMo_power_19 _ rfl ?_
    refine z_iret hZ gMo_power_20 ?_
    exact ⟨Or.inr ⟨fun h9 => h2 ⟨h9.1, h9.2.1⟩, rfl⟩, rfl⟩

