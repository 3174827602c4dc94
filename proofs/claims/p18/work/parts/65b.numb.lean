-- the reference: numbers
theorem pw_lt (c : Nat) : ∀ k, pw c k < 8 ^ 8
  | 0 => show pid < 8 ^ 8 by decide
  | k + 1 => pm_lt _ _

set_option maxHeartbeats 4000000 in
set_option maxRecDepth 100000 in
theorem c_Mo_powerOf (l : Launch) (D : va_G) (E : sx_E) (B : Nat) (A : Nat → Prop) (hB : 11 ≤ B) {c m : Nat} (hc : c < 8 ^ 8) (hm : m < 2 ^ 31) (w : sx_M) : sM l D E B A yMo_powerOf prog_9_method_12_code 5 (some .int) 2 45 [.inr (0, 0), .inl (nI c), .inl (nI m)] w (fun r w' => r = some (.inl (nI (pw c m))) ∧ w' = w) := by
  refine sx_m0 (ls := lMo_powerOf) (cs := csAll) (by decide +kernel) kMo_powerOf (hMo_powerOf l D E B A hB) (by simp) (fun w' h => by cases h.1) ?_
  intro Z hZ
  have loop : ∀ d k, d + k = m → Z 6 [some (.inr (0, 0)), some (.inl (nI c)), some (.inl (nI m)), some (.inl (nI (pw c k))), some (.inl (nI k))] [] w := by
    intro d
    induction d with
    | zero =>
      intro k hk
      have e9 : k = m := by omega
      subst e9
      refine z_iload hZ gMo_powerOf_6 rfl ?_
      refine z_iload_n hZ gMo_powerOf_8 rfl ?_
      refine z_cmpge hZ gMo_powerOf_9 (fun c9 => ?_) (fun c9 => absurd (nI_le (Nat.le_refl k) (by omega)) c9)
      refine z_iload_n hZ gMo_powerOf_24 rfl ?_
      refine z_iret hZ gMo_powerOf_25 ?_
      exact ⟨rfl, rfl⟩
    | succ d ih =>
      intro k hk
      have hlt : pw c k < 8 ^ 8 := pw_lt c k
      refine z_iload hZ gMo_powerOf_6 rfl ?_
      refine z_iload_n hZ gMo_powerOf_8 rfl ?_
      refine z_cmpge hZ gMo_powerOf_9 (fun c9 => absurd c9 (nI_ge (by omega) (by omega))) (fun c9 => ?_)
      refine z_iload_n hZ gMo_powerOf_12 rfl ?_
      refine z_iload_n hZ gMo_powerOf_13 rfl ?_
      refine z_cs hZ gMo_powerOf_14 rfl rfl (Nat.le_of_ble_eq_true rfl) (Nat.le_of_ble_eq_true rfl) (fun l9 D E B A hB => c_Mo_product l9 D E B A hB (a := pw c k) (b := c) hlt hc _) (fun r14 w14 p14 => ?_)
      obtain ⟨rfl, rfl⟩ := p14
      show Z (14 + 3) _ (.inl (nI (pm (pw c k) c)) :: []) _
      refine z_istore_n hZ gMo_powerOf_17 rfl ?_
      refine z_iinc hZ gMo_powerOf_18 rfl _ (i1 k) rfl ?_
      refine z_goto hZ gMo_powerOf_21 ?_
      exact ih (k + 1) (by omega)
  refine z_ldc hZ gMo_powerOf_0 ?_
  refine z_istore_n hZ gMo_powerOf_2 rfl ?_
  refine z_iconst hZ gMo_powerOf_3 _ i0 ?_
  refine z_istore hZ gMo_powerOf_4 rfl ?_
  exact loop m 0 (by omega)

set_option maxHeartbeats 4000000 in
set_option maxRecDepth 100000 in
theorem c_Mo_allAtOnce (l : Launch) (D : va_G) (E : sx_E) (B : Nat) (A : Nat → Prop) (hB : 11 ≤ B) {a : sA} {i : sA} {re : Nat → Nat} {k e : Nat} (hk16 : k ≤ 16) (he : e < 1000) (hi6 : i 0 6 = nI k) (h5 : ∀ l, l < k → a 5 l = nI (re l)) (hre : ∀ l, l < k → re l < 8 ^ 8) : sM l D E B A yMo_allAtOnce prog_9_method_13_code 4 (some .boolean) 3 69 [.inr (0, 0), .inl (nI e)] (mW a i) (fun r w' => ans r (∀ c, c < k → pw (re c) e = pid) ∧ w' = mW a i) := by
  refine sx_m0 (ls := lMo_allAtOnce) (cs := csAll) (by decide +kernel) kMo_allAtOnce (hMo_allAtOnce l D E B A hB) (by simp) ans_rt ?_
  intro Z hZ
  have loop : ∀ d c (v : Int32), d + c = k → ((v = 1 ∧ ∀ j, j < c → pw (re j) e = pid) ∨ (v = 0 ∧ ∃ j, j < c ∧ pw (re j) e ≠ pid)) → Z 4 [some (.inr (0, 0)), some (.inl (nI e)), some (.inl v), some (.inl (nI c))] [] (mW a i) := by
    intro d
    induction d with
    | zero =>
      intro c v hd hv
      have e9 : c = k := by omega
      subst e9
      refine z_iload_n hZ gMo_allAtOnce_4 rfl ?_
      refine z_aload_n hZ gMo_allAtOnce_5 rfl ?_
      refine z_get hZ gMo_allAtOnce_6 (by omega) rfl (by rw [hi6]; rfl) ?_
      refine z_cmpge hZ gMo_allAtOnce_9 (fun c9 => ?_) (fun c9 => absurd (nI_le (Nat.le_refl c) (by omega)) c9)
      refine z_iload_n hZ gMo_allAtOnce_44 rfl ?_
      refine z_iret hZ gMo_allAtOnce_45 ?_
      rcases hv with ⟨rfl, hv⟩ | ⟨rfl, j, hj, hv⟩
      · exact ⟨Or.inl ⟨rfl, hv⟩, rfl⟩
      · exact ⟨Or.inr ⟨rfl, fun h9 => hv (h9 j hj)⟩, rfl⟩
    | succ d ih =>
      intro c v hd hv
      have hc : c < k := by omega
      have ec : (nI c).toNatClampNeg = c := nI_clamp (by omega)
      refine z_iload_n hZ gMo_allAtOnce_4 rfl ?_
      refine z_aload_n hZ gMo_allAtOnce_5 rfl ?_
      refine z_get hZ gMo_allAtOnce_6 (by omega) rfl (by rw [hi6]; rfl) ?_
      refine z_cmpge hZ gMo_allAtOnce_9 (fun c9 => absurd c9 (nI_ge (by omega) (by omega))) (fun c9 => ?_)
      refine z_iload_n hZ gMo_allAtOnce_12 rfl ?_
      refine z_ifeq hZ gMo_allAtOnce_13 (fun c13 => ?_) (fun c13 => ?_)
      · have ct13 := c13
        have hno : ∃ j, j < c + 1 ∧ pw (re j) e ≠ pid := by
          rcases hv with ⟨h9, _⟩ | ⟨_, j, hj, h9⟩
          · rw [h9] at c13; exact absurd c13 (by decide)
          · exact ⟨j, by omega, h9⟩
        refine z_iconst hZ gMo_allAtOnce_36 _ rfl ?_
        refine z_istore_n hZ gMo_allAtOnce_37 rfl ?_
        refine z_iinc hZ gMo_allAtOnce_38 rfl _ (i1 c) rfl ?_
        refine z_goto hZ gMo_allAtOnce_41 ?_
        first | exact ih (c + 1) _ (by omega) (Or.inr ⟨rfl, hno⟩) | exact ih (c + 1) _ (by omega) (Or.inl ⟨rfl, hyes1⟩)
      · have cf13 := c13
        have hyes : ∀ j, j < c → pw (re j) e = pid := by
          rcases hv with ⟨_, h9⟩ | ⟨h9, _⟩
          · exact h9
          · exact absurd h9 c13
        refine z_aload_n hZ gMo_allAtOnce_16 rfl ?_
        refine z_aload_n hZ gMo_allAtOnce_17 rfl ?_
        refine z_get hZ gMo_allAtOnce_18 (by omega) rfl rfl ?_
        refine z_iload_n hZ gMo_allAtOnce_21 rfl ?_
        refine z_iald hZ gMo_allAtOnce_22 (by omega) rfl (vp_in_nI (by omega) (by decide)) ?_
        rw [ec, h5 c hc]
        refine z_iload_n hZ gMo_allAtOnce_23 rfl ?_
        refine z_cv hZ gMo_allAtOnce_24 rfl rfl (Nat.le_of_ble_eq_true rfl) (Nat.le_of_ble_eq_true rfl) ⟨⟨0, _, _, rfl, by decide, rfl⟩, fun l9 D E B A hB => c_Mo_powerOf l9 D E B A hB (c := re c) (m := e) (hre c hc) (by omega) _⟩ (fun r24 w24 p24 => ?_)
        obtain ⟨rfl, rfl⟩ := p24
        show Z (24 + 3) _ (.inl (nI (pw (re c) e)) :: []) _
        refine z_ldc hZ gMo_allAtOnce_27 ?_
        refine z_cmpne hZ gMo_allAtOnce_29 (fun c29 => ?_) (fun c29 => ?_)
        · have ct29 := c29
          have hno : ∃ j, j < c + 1 ∧ pw (re j) e ≠ pid := ⟨c, by omega, fun h9 => c29 (by rw [h9]; rfl)⟩
          refine z_iconst hZ gMo_allAtOnce_36 _ rfl ?_
          refine z_istore_n hZ gMo_allAtOnce_37 rfl ?_
          refine z_iinc hZ gMo_allAtOnce_38 rfl _ (i1 c) rfl ?_
          refine z_goto hZ gMo_allAtOnce_41 ?_
          first | exact ih (c + 1) _ (by omega) (Or.inr ⟨rfl, hno⟩) | exact ih (c + 1) _ (by omega) (Or.inl ⟨rfl, hyes1⟩)
        · have cf29 := c29
          have hyes1 : ∀ j, j < c + 1 → pw (re j) e = pid := fun j hj => by
            by_cases e9 : j = c
            · subst e9; exact (nI_eq (Nat.lt_trans (pw_lt _ _) (by decide)) (by decide)).mp c29
            · exact hyes j (by omega)
          refine z_iconst hZ gMo_allAtOnce_32 _ rfl ?_
          refine z_goto hZ gMo_allAtOnce_33 ?_
          refine z_istore_n hZ gMo_allAtOnce_37 rfl ?_
          refine z_iinc hZ gMo_allAtOnce_38 rfl _ (i1 c) rfl ?_
          refine z_goto hZ gMo_allAtOnce_41 ?_
          first | exact ih (c + 1) _ (by omega) (Or.inr ⟨rfl, hno⟩) | exact ih (c + 1) _ (by omega) (Or.inl ⟨rfl, hyes1⟩)
  refine z_iconst hZ gMo_allAtOnce_0 _ rfl ?_
  refine z_istore_n hZ gMo_allAtOnce_1 rfl ?_
  refine z_iconst hZ gMo_allAtOnce_2 _ i0 ?_
  refine z_istore_n hZ gMo_allAtOnce_3 rfl ?_
  exact loop k 0 _ (by omega) (Or.inl ⟨rfl, fun j hj => absurd hj (Nat.not_lt_zero j)⟩)

set_option maxHeartbeats 4000000 in
set_option maxRecDepth 100000 in
theorem c_Mo_isPrime (l : Launch) (D : va_G) (E : sx_E) (B : Nat) (A : Nat → Prop) {n : Nat} (hn : n < 10000) (w : sx_M) : sM l D E B A yMo_isPrime prog_9_method_14_code 3 (some .boolean) 0 0 [.inl (nI n)] w (fun r w' => ans r (isPr n) ∧ w' = w) := by
  refine sx_m0 (ls := lMo_isPrime) (cs := noCalls) (by decide +kernel) kMo_isPrime (fun pc i h1 h2 => sx_nc (ls := lMo_isPrime) (by decide) pc i h1 h2) (by simp) ans_rt ?_
  intro Z hZ
  have loop : ∀ d q (v : Int32), d + q = n + 2 → 2 ≤ q → ((v = 1 ∧ 1 < n ∧ ∀ j, 2 ≤ j → j < q → n % j ≠ 0) ∨ (v = 0 ∧ ¬ isPr n)) → Z 13 [some (.inl (nI n)), some (.inl v), some (.inl (nI q))] [] w := by
    intro d
    have fin : ∀ q (v : Int32), n < q * q → ((v = 1 ∧ 1 < n ∧ ∀ j, 2 ≤ j → j < q → n % j ≠ 0) ∨ (v = 0 ∧ ¬ isPr n)) → ∀ x2, Z 42 [some (.inl (nI n)), some (.inl v), x2] [] w := by
      intro q v hq hv x2
      refine z_iload_n hZ gMo_isPrime_42 rfl ?_
      refine z_iret hZ gMo_isPrime_43 ?_
      rcases hv with ⟨rfl, h1, hv⟩ | ⟨rfl, hv⟩
      · exact ⟨Or.inl ⟨rfl, isPr_yes h1 hq hv⟩, rfl⟩
      · exact ⟨Or.inr ⟨rfl, hv⟩, rfl⟩
    induction d with
    | zero =>
      intro q v hd hq2 hv
      have hqq : q * 2 ≤ q * q := Nat.mul_le_mul_left q hq2
      have hqs : q * q ≤ 10002 * 10002 := Nat.mul_le_mul (by omega) (by omega)
      refine z_iload_n hZ gMo_isPrime_13 rfl ?_
      refine z_iload_n hZ gMo_isPrime_14 rfl ?_
      refine z_imul hZ gMo_isPrime_15 _ (pk_mul q q) ?_
      refine z_iload_n hZ gMo_isPrime_16 rfl ?_
      refine z_cmpgt hZ gMo_isPrime_17 (fun c17 => ?_) (fun c17 => absurd ((nI_ltI (by omega) (by omega)).mpr (by omega)) c17)
      exact fin q v (by omega) hv _
    | succ d ih =>
      intro q v hd hq2 hv
      have hqs : q * q ≤ 10002 * 10002 := Nat.mul_le_mul (by omega) (by omega)
      refine z_iload_n hZ gMo_isPrime_13 rfl ?_
      refine z_iload_n hZ gMo_isPrime_14 rfl ?_
      refine z_imul hZ gMo_isPrime_15 _ (pk_mul q q) ?_
      refine z_iload_n hZ gMo_isPrime_16 rfl ?_
      refine z_cmpgt hZ gMo_isPrime_17 (fun c17 => ?_) (fun c17 => ?_)
      · have ct17 := c17
        have hlt : n < q * q := (nI_ltI (by omega) (by omega)).mp c17
        exact fin q v hlt hv _
      · have cf17 := c17
        have hle : q * q ≤ n := Nat.le_of_not_lt fun h9 => c17 ((nI_ltI (by omega) (by omega)).mpr h9)
        refine z_iload_n hZ gMo_isPrime_20 rfl ?_
        refine z_ifeq hZ gMo_isPrime_21 (fun c21 => ?_) (fun c21 => ?_)
        · have ct21 := c21
          have hno : ¬ isPr n := by
            rcases hv with ⟨h9, _⟩ | ⟨_, h9⟩
            · rw [h9] at c21; exact absurd c21 (by decide)
            · exact h9
          refine z_iconst hZ gMo_isPrime_34 _ rfl ?_
          refine z_istore_n hZ gMo_isPrime_35 rfl ?_
          refine z_iinc hZ gMo_isPrime_36 rfl _ (i1 q) rfl ?_
          refine z_goto hZ gMo_isPrime_39 ?_
          first | exact ih (q + 1) _ (by omega) (by omega) (Or.inr ⟨rfl, hno⟩) | exact ih (q + 1) _ (by omega) (by omega) (Or.inl ⟨rfl, hyes1⟩)
        · have cf21 := c21
          have hyes : 1 < n ∧ ∀ j, 2 ≤ j → j < q → n % j ≠ 0 := by
            rcases hv with ⟨_, h9⟩ | ⟨h9, _⟩
            · exact h9
            · exact absurd h9 c21
          refine z_iload_n hZ gMo_isPrime_24 rfl ?_
          refine z_iload_n hZ gMo_isPrime_25 rfl ?_
          refine z_irem hZ gMo_isPrime_26 (nI_ne0 (by omega) (by omega)) _ (pk_rem (by omega) (by omega) (by omega)) ?_
          refine z_ifeq hZ gMo_isPrime_27 (fun c27 => ?_) (fun c27 => ?_)
          · have ct27 := c27
            have hno : ¬ isPr n := isPr_no hq2 hle ((nI_eq (b := 0) (Nat.lt_trans (Nat.mod_lt n (show q > 0 by omega)) (by omega)) (by decide)).mp c27)
            refine z_iconst hZ gMo_isPrime_34 _ rfl ?_
            refine z_istore_n hZ gMo_isPrime_35 rfl ?_
            refine z_iinc hZ gMo_isPrime_36 rfl _ (i1 q) rfl ?_
            refine z_goto hZ gMo_isPrime_39 ?_
            first | exact ih (q + 1) _ (by omega) (by omega) (Or.inr ⟨rfl, hno⟩) | exact ih (q + 1) _ (by omega) (by omega) (Or.inl ⟨rfl, hyes1⟩)
          · have cf27 := c27
            have hyes1 : 1 < n ∧ ∀ j, 2 ≤ j → j < q + 1 → n % j ≠ 0 := ⟨hyes.1, fun j hj1 hj2 h9 => by
              by_cases e9 : j = q
              · subst e9; exact c27 (by rw [h9]; rfl)
              · exact hyes.2 j hj1 (by omega) h9⟩
            refine z_iconst hZ gMo_isPrime_30 _ rfl ?_
            refine z_goto hZ gMo_isPrime_31 ?_
            refine z_istore_n hZ gMo_isPrime_35 rfl ?_
            refine z_iinc hZ gMo_isPrime_36 rfl _ (i1 q) rfl ?_
            refine z_goto hZ gMo_isPrime_39 ?_
            first | exact ih (q + 1) _ (by omega) (by omega) (Or.inr ⟨rfl, hno⟩) | exact ih (q + 1) _ (by omega) (by omega) (Or.inl ⟨rfl, hyes1⟩)
  refine z_iload_n hZ gMo_isPrime_0 rfl ?_
  refine z_iconst hZ gMo_isPrime_1 _ ic1 ?_
  refine z_cmple hZ gMo_isPrime_2 (fun c2 => ?_) (fun c2 => ?_)
  · have ct2 := c2
    have hno : ¬ isPr n := fun h9 => by
      have h8 := h9.1
      exact nI_ge h8 (by omega) c2
    refine z_iconst hZ gMo_isPrime_9 _ rfl ?_
    refine z_istore_n hZ gMo_isPrime_10 rfl ?_
    refine z_iconst hZ gMo_isPrime_11 _ ic2 ?_
    refine z_istore_n hZ gMo_isPrime_12 rfl ?_
    first | exact loop n 2 _ (by omega) (Nat.le_refl 2) (Or.inr ⟨rfl, hno⟩) | exact loop n 2 _ (by omega) (Nat.le_refl 2) (Or.inl ⟨rfl, hyes, fun j h1 h2 => absurd h1 (by omega)⟩)
  · have cf2 := c2
    have hyes : 1 < n := Nat.lt_of_not_le fun h9 => c2 (nI_le h9 (by decide))
    refine z_iconst hZ gMo_isPrime_5 _ rfl ?_
    refine z_goto hZ gMo_isPrime_6 ?_
    refine z_istore_n hZ gMo_isPrime_10 rfl ?_
    refine z_iconst hZ gMo_isPrime_11 _ ic2 ?_
    refine z_istore_n hZ gMo_isPrime_12 rfl ?_
    first | exact loop n 2 _ (by omega) (Nat.le_refl 2) (Or.inr ⟨rfl, hno⟩) | exact loop n 2 _ (by omega) (Nat.le_refl 2) (Or.inl ⟨rfl, hyes, fun j h1 h2 => absurd h1 (by omega)⟩)

set_option maxHeartbeats 4000000 in
set_option maxRecDepth 100000 in
theorem c_Mo_isRoot (l : Launch) (D : va_G) (E : sx_E) (B : Nat) (A : Nat → Prop) (hB : 11 ≤ B) {a : sA} {i : sA} {p e z : Nat} (hp1 : 1 < p) (hp : p < 1092) (he0 : 0 < e) (he1 : e ≤ 840) (hzp : z < p) (he10 : i 0 10 = nI e) (hp11 : i 0 11 = nI p) : sM l D E B A yMo_isRoot prog_9_method_16_code 5 (some .boolean) 0 0 [.inr (0, 0), .inl (nI z)] (mW a i) (fun r w' => ans r (rtO p e z) ∧ w' = mW a i) := by
  refine sx_m0 (ls := lMo_isRoot) (cs := noCalls) (by decide +kernel) kMo_isRoot (fun pc i h1 h2 => sx_nc (ls := lMo_isRoot) (by decide) pc i h1 h2) (by simp) ans_rt ?_
  intro Z hZ
  have hp0 : 0 < p := by omega
  have hpp : p * p ≤ 1092 * 1092 := Nat.mul_le_mul (by omega) (by omega)
  have hx1 : ∀ m, z ^ m % p < p := fun m => Nat.mod_lt _ hp0
  have hxs : ∀ m, z ^ m % p * z % p = z ^ (m + 1) % p := fun m => by rw [Nat.pow_succ, Nat.mod_mul_mod]
  have loop : ∀ d m (v : Int32), d + m = e + 1 → 1 ≤ m → ((v = 0 ∧ ∀ j, 1 ≤ j → j < m → j < e → z ^ j % p ≠ 1) ∨ (v = 1 ∧ ∃ j, 1 ≤ j ∧ j < e ∧ z ^ j % p = 1)) → Z 7 [some (.inr (0, 0)), some (.inl (nI z)), some (.inl (nI (z ^ (m - 1) % p))), some (.inl v), some (.inl (nI m))] [] (mW a i) := by
    intro d
    induction d with
    | zero =>
      intro m v hd hm hv
      have e9 : m = e + 1 := by omega
      subst e9
      rw [Nat.add_sub_cancel]
      have hz := hx1 e
      refine z_iload hZ gMo_isRoot_7 rfl ?_
      refine z_aload_n hZ gMo_isRoot_9 rfl ?_
      refine z_get hZ gMo_isRoot_10 (by omega) rfl (by rw [he10]; rfl) ?_
      refine z_cmpgt hZ gMo_isRoot_13 (fun c13 => ?_) (fun c13 => absurd ((nI_ltI (by omega) (by omega)).mpr (Nat.lt_succ_self e)) c13)
      refine z_iload_n hZ gMo_isRoot_55 rfl ?_
      refine z_iconst hZ gMo_isRoot_56 _ ic1 ?_
      refine z_cmpne hZ gMo_isRoot_57 (fun c57 => ?_) (fun c57 => ?_)
      · have ct57 := c57
        have hno : ¬ rtO p e z := fun h9 => c57 (by rw [h9.1])
        refine z_iconst hZ gMo_isRoot_68 _ rfl ?_
        refine z_iret hZ gMo_isRoot_69 ?_
        first | exact ⟨Or.inr ⟨rfl, hno⟩, rfl⟩ | exact ⟨Or.inl ⟨rfl, hyes1⟩, rfl⟩
      · have cf57 := c57
        have hyes : z ^ e % p = 1 := (nI_eq (by omega) (by decide)).mp c57
        refine z_iload_n hZ gMo_isRoot_60 rfl ?_
        refine z_ifne hZ gMo_isRoot_61 (fun c61 => ?_) (fun c61 => ?_)
        · have ct61 := c61
          have hno : ¬ rtO p e z := by
            rcases hv with ⟨h9, _⟩ | ⟨_, j, h1, h2, h3⟩
            · exact absurd h9 c61
            · exact fun h9 => h9.2 j h1 h2 h3
          refine z_iconst hZ gMo_isRoot_68 _ rfl ?_
          refine z_iret hZ gMo_isRoot_69 ?_
          first | exact ⟨Or.inr ⟨rfl, hno⟩, rfl⟩ | exact ⟨Or.inl ⟨rfl, hyes1⟩, rfl⟩
        · have cf61 := c61
          have hyes1 : rtO p e z := by
            rcases hv with ⟨_, h9⟩ | ⟨h9, _⟩
            · exact ⟨hyes, fun j h1 h2 => h9 j h1 (by omega) h2⟩
            · rw [h9] at c61; exact absurd c61 (by decide)
          refine z_iconst hZ gMo_isRoot_64 _ rfl ?_
          refine z_goto hZ gMo_isRoot_65 ?_
          refine z_iret hZ gMo_isRoot_69 ?_
          first | exact ⟨Or.inr ⟨rfl, hno⟩, rfl⟩ | exact ⟨Or.inl ⟨rfl, hyes1⟩, rfl⟩
    | succ d ih =>
      intro m v hd hm hv
      have hz := hx1 (m - 1)
      have hz2 := hx1 m
      have hmul : z ^ (m - 1) % p * z < 2 ^ 31 := Nat.lt_of_le_of_lt (Nat.mul_le_mul (Nat.le_of_lt hz) (Nat.le_of_lt hzp)) (by omega)
      have hxm : z ^ (m - 1) % p * z % p = z ^ m % p := by rw [hxs, Nat.sub_add_cancel hm]
      have next : ∀ v : Int32, ((v = 0 ∧ ∀ j, 1 ≤ j → j < m + 1 → j < e → z ^ j % p ≠ 1) ∨ (v = 1 ∧ ∃ j, 1 ≤ j ∧ j < e ∧ z ^ j % p = 1)) → Z 7 [some (.inr (0, 0)), some (.inl (nI z)), some (.inl (nI (z ^ m % p))), some (.inl v), some (.inl (nI (m + 1)))] [] (mW a i) := fun v hv => by
        have h9 := ih (m + 1) v (by omega) (by omega) hv
        rw [Nat.add_sub_cancel] at h9
        exact h9
      refine z_iload hZ gMo_isRoot_7 rfl ?_
      refine z_aload_n hZ gMo_isRoot_9 rfl ?_
      refine z_get hZ gMo_isRoot_10 (by omega) rfl (by rw [he10]; rfl) ?_
      refine z_cmpgt hZ gMo_isRoot_13 (fun c13 => absurd ((nI_ltI (by omega) (by omega)).mp c13) (by omega)) (fun c13 => ?_)
      refine z_iload_n hZ gMo_isRoot_16 rfl ?_
      refine z_iload_n hZ gMo_isRoot_17 rfl ?_
      refine z_imul hZ gMo_isRoot_18 _ (pk_mul _ _) ?_
      refine z_aload_n hZ gMo_isRoot_19 rfl ?_
      refine z_get hZ gMo_isRoot_20 (by omega) rfl (by rw [hp11]; rfl) ?_
      refine z_irem hZ gMo_isRoot_23 (nI_ne0 (by omega) (by omega)) _ (pk_rem hmul (by omega) (by omega)) ?_
      rw [hxm]
      refine z_istore_n hZ gMo_isRoot_24 rfl ?_
      refine z_iload_n hZ gMo_isRoot_25 rfl ?_
      refine z_ifne hZ gMo_isRoot_26 (fun c26 => ?_) (fun c26 => ?_)
      · have ct26 := c26
        have hno : ∃ j, 1 ≤ j ∧ j < e ∧ z ^ j % p = 1 := by
          rcases hv with ⟨h9, _⟩ | ⟨_, h9⟩
          · exact absurd h9 c26
          · exact h9
        refine z_iconst hZ gMo_isRoot_43 _ rfl ?_
        refine z_goto hZ gMo_isRoot_44 ?_
        refine z_istore_n hZ gMo_isRoot_48 rfl ?_
        refine z_iinc hZ gMo_isRoot_49 rfl _ (i1 m) rfl ?_
        refine z_goto hZ gMo_isRoot_52 ?_
        first | exact next _ (Or.inr ⟨rfl, hno⟩) | exact next _ (Or.inl ⟨rfl, hyes1⟩)
      · have cf26 := c26
        have hyes : ∀ j, 1 ≤ j → j < m → j < e → z ^ j % p ≠ 1 := by
          rcases hv with ⟨_, h9⟩ | ⟨h9, _⟩
          · exact h9
          · rw [h9] at c26; exact absurd c26 (by decide)
        refine z_iload_n hZ gMo_isRoot_29 rfl ?_
        refine z_iconst hZ gMo_isRoot_30 _ ic1 ?_
        refine z_cmpne hZ gMo_isRoot_31 (fun c31 => ?_) (fun c31 => ?_)
        · have ct31 := c31
          have hyes1 : ∀ j, 1 ≤ j → j < m + 1 → j < e → z ^ j % p ≠ 1 := fun j h1 h2 h3 h4 => by
            by_cases e9 : j = m
            · subst e9; exact c31 (by rw [h4])
            · exact hyes j h1 (by omega) h3 h4
          refine z_iconst hZ gMo_isRoot_47 _ rfl ?_
          refine z_istore_n hZ gMo_isRoot_48 rfl ?_
          refine z_iinc hZ gMo_isRoot_49 rfl _ (i1 m) rfl ?_
          refine z_goto hZ gMo_isRoot_52 ?_
          first | exact next _ (Or.inr ⟨rfl, hno⟩) | exact next _ (Or.inl ⟨rfl, hyes1⟩)
        · have cf31 := c31
          have h1m : z ^ m % p = 1 := (nI_eq (by omega) (by decide)).mp c31
          refine z_iload hZ gMo_isRoot_34 rfl ?_
          refine z_aload_n hZ gMo_isRoot_36 rfl ?_
          refine z_get hZ gMo_isRoot_37 (by omega) rfl (by rw [he10]; rfl) ?_
          refine z_cmpge hZ gMo_isRoot_40 (fun c40 => ?_) (fun c40 => ?_)
          · have ct40 := c40
            have hme : e ≤ m := Nat.le_of_not_lt fun h9 => nI_ge h9 (by omega) c40
            have hyes1 : ∀ j, 1 ≤ j → j < m + 1 → j < e → z ^ j % p ≠ 1 := fun j h1 h2 h3 h4 => hyes j h1 (by omega) h3 h4
            refine z_iconst hZ gMo_isRoot_47 _ rfl ?_
            refine z_istore_n hZ gMo_isRoot_48 rfl ?_
            refine z_iinc hZ gMo_isRoot_49 rfl _ (i1 m) rfl ?_
            refine z_goto hZ gMo_isRoot_52 ?_
            first | exact next _ (Or.inr ⟨rfl, hno⟩) | exact next _ (Or.inl ⟨rfl, hyes1⟩)
          · have cf40 := c40
            have hno : ∃ j, 1 ≤ j ∧ j < e ∧ z ^ j % p = 1 := ⟨m, hm, Nat.lt_of_not_le fun h9 => c40 (nI_le h9 (by omega)), h1m⟩
            refine z_iconst hZ gMo_isRoot_43 _ rfl ?_
            refine z_goto hZ gMo_isRoot_44 ?_
            refine z_istore_n hZ gMo_isRoot_48 rfl ?_
            refine z_iinc hZ gMo_isRoot_49 rfl _ (i1 m) rfl ?_
            refine z_goto hZ gMo_isRoot_52 ?_
            first | exact next _ (Or.inr ⟨rfl, hno⟩) | exact next _ (Or.inl ⟨rfl, hyes1⟩)
  refine z_iconst hZ gMo_isRoot_0 _ ic1 ?_
  refine z_istore_n hZ gMo_isRoot_1 rfl ?_
  refine z_iconst hZ gMo_isRoot_2 _ rfl ?_
  refine z_istore_n hZ gMo_isRoot_3 rfl ?_
  refine z_iconst hZ gMo_isRoot_4 _ ic1 ?_
  refine z_istore hZ gMo_isRoot_5 rfl ?_
  have h9 := loop e 1 0 (by omega) (Nat.le_refl 1) (Or.inl ⟨rfl, fun j h1 h2 => absurd h1 (by omega)⟩)
  rw [Nat.sub_self, Nat.pow_zero, Nat.mod_eq_of_lt hp1] at h9
  exact h9

theorem dv_0 {x p : Int} (h : p ∣ x) (h1 : -p < x) (h2 : x < p) : x = 0 := by
  obtain ⟨c, rfl⟩ := h
  have hp : 0 < p := by omega
  have hc1 : c < 1 := Int.lt_of_mul_lt_mul_left (by omega : p * c < p * 1) (by omega)
  have hc2 : -1 < c := Int.lt_of_mul_lt_mul_left (by rw [Int.mul_neg, Int.mul_one]; exact h1 : p * (-1) < p * c) (by omega)
  have : c = 0 := by omega
  rw [this, Int.mul_zero]
theorem mod_fin {x y : Int32} {p : Nat} (hp0 : 0 < p) (hp2 : p < 2 ^ 31) (h : (0 ≤ x - x / nI p * nI p ∧ y = x - x / nI p * nI p) ∨ (¬ 0 ≤ x - x / nI p * nI p ∧ y = x - x / nI p * nI p + nI p)) : y.toInt = ((x.toInt % (p : Int)).toNat : Int) := by
  have h1 := fm_rem (x := x) hp0 hp2
  have h3 := Int.emod_nonneg x.toInt (show (p : Int) ≠ 0 by omega)
  have h4 := Int.tmod_lt_of_pos x.toInt (show (0 : Int) < (p : Int) by omega)
  have h5 := Int.lt_tmod_of_pos x.toInt (show (0 : Int) < (p : Int) by omega)
  have h6 := Int.emod_lt_of_pos x.toInt (show (0 : Int) < (p : Int) by omega)
  have h7 : (p : Int) ∣ x.toInt % (p : Int) - x.toInt.tmod (p : Int) := by
    have e : x.toInt % (p : Int) - x.toInt.tmod (p : Int) = (p : Int) * (x.toInt.tdiv (p : Int) - x.toInt / (p : Int)) := by
      have a1 := Int.mul_tdiv_add_tmod x.toInt (p : Int)
      have a2 := Int.mul_ediv_add_emod x.toInt (p : Int)
      rw [Int.mul_sub]; omega
    exact ⟨_, e⟩
  rcases h with ⟨h8, rfl⟩ | ⟨h8, rfl⟩
  · rw [Int32.le_iff_toInt_le, Int32.toInt_zero, h1] at h8
    rw [h1]
    have h9 : x.toInt % (p : Int) - x.toInt.tmod (p : Int) = 0 := dv_0 h7 (by omega) (by omega)
    omega
  · rw [Int32.le_iff_toInt_le, Int32.toInt_zero, h1] at h8
    have hpt : (nI p).toInt = (p : Int) := nI_toInt hp2
    rw [Int32.toInt_add, h1, hpt]
    have h9 : x.toInt % (p : Int) - x.toInt.tmod (p : Int) - (p : Int) = 0 := dv_0 (Int.dvd_sub h7 (Int.dvd_refl _)) (by omega) (by omega)
    rw [Int.bmod_eq_of_le (by omega) (by omega)]
    omega

set_option maxHeartbeats 4000000 in
set_option maxRecDepth 100000 in
theorem c_Mo_mod (l : Launch) (D : va_G) (E : sx_E) (B : Nat) (A : Nat → Prop) (hB : 11 ≤ B) {a : sA} {i : sA} {p : Nat} {x : Int32} (hp0 : 0 < p) (hp : p < 1092) (hp11 : i 0 11 = nI p) : sM l D E B A yMo_mod prog_9_method_17_code 3 (some .int) 0 0 [.inr (0, 0), .inl x] (mW a i) (fun r w' => r = some (.inl (nI (x.toInt % (p : Int)).toNat)) ∧ w' = mW a i) := by
  refine sx_m0 (ls := lMo_mod) (cs := noCalls) (by decide +kernel) kMo_mod (fun pc i h1 h2 => sx_nc (ls := lMo_mod) (by decide) pc i h1 h2) (by simp) (fun w' h => by cases h.1) ?_
  intro Z hZ
  have hp2 : p < 2 ^ 31 := by omega
  refine z_iload_n hZ gMo_mod_0 rfl ?_
  refine z_aload_n hZ gMo_mod_1 rfl ?_
  refine z_get hZ gMo_mod_2 (by omega) rfl (by rw [hp11]; rfl) ?_
  refine z_irem hZ gMo_mod_5 (nI_ne0 hp0 hp2) _ rfl ?_
  refine z_istore_n hZ gMo_mod_6 rfl ?_
  refine z_iload_n hZ gMo_mod_7 rfl ?_
  refine z_ifge hZ gMo_mod_8 (fun c8 => ?_) (fun c8 => ?_)
  · have ct8 := c8
    refine z_iload_n hZ gMo_mod_20 rfl ?_
    refine z_iret hZ gMo_mod_21 ?_
    refine ⟨congrArg (fun v => some (Sum.inl v)) (fm_nI ?_), rfl⟩
    exact mod_fin hp0 (by omega) (by first | exact Or.inl ⟨ct8, rfl⟩ | exact Or.inr ⟨cf8, rfl⟩)
  · have cf8 := c8
    refine z_iload_n hZ gMo_mod_11 rfl ?_
    refine z_aload_n hZ gMo_mod_12 rfl ?_
    refine z_get hZ gMo_mod_13 (by omega) rfl (by rw [hp11]; rfl) ?_
    refine z_iadd hZ gMo_mod_16 _ rfl ?_
    refine z_goto hZ gMo_mod_17 ?_
    refine z_iret hZ gMo_mod_21 ?_
    refine ⟨congrArg (fun v => some (Sum.inl v)) (fm_nI ?_), rfl⟩
    exact mod_fin hp0 (by omega) (by first | exact Or.inl ⟨ct8, rfl⟩ | exact Or.inr ⟨cf8, rfl⟩)

set_option maxHeartbeats 4000000 in
set_option maxRecDepth 100000 in
theorem c_Mo_raised (l : Launch) (D : va_G) (E : sx_E) (B : Nat) (A : Nat → Prop) (hB : 11 ≤ B) {a : sA} {i : sA} {p b m : Nat} (hp1 : 1 < p) (hp : p < 1092) (hb : b ≤ p) (hm : m < 2 ^ 31) (hp11 : i 0 11 = nI p) : sM l D E B A yMo_raised prog_9_method_18_code 5 (some .int) 0 0 [.inr (0, 0), .inl (nI b), .inl (nI m)] (mW a i) (fun r w' => r = some (.inl (nI (b ^ m % p))) ∧ w' = mW a i) := by
  refine sx_m0 (ls := lMo_raised) (cs := noCalls) (by decide +kernel) kMo_raised (fun pc i h1 h2 => sx_nc (ls := lMo_raised) (by decide) pc i h1 h2) (by simp) (fun w' h => by cases h.1) ?_
  intro Z hZ
  have hp0 : 0 < p := by omega
  have loop : ∀ d k, d + k = m → Z 5 [some (.inr (0, 0)), some (.inl (nI b)), some (.inl (nI m)), some (.inl (nI (b ^ k % p))), some (.inl (nI k))] [] (mW a i) := by
    intro d
    induction d with
    | zero =>
      intro k hk
      have e9 : k = m := by omega
      subst e9
      refine z_iload hZ gMo_raised_5 rfl ?_
      refine z_iload_n hZ gMo_raised_7 rfl ?_
      refine z_cmpge hZ gMo_raised_8 (fun c8 => ?_) (fun c8 => absurd (nI_le (Nat.le_refl k) (by omega)) c8)
      refine z_iload_n hZ gMo_raised_26 rfl ?_
      refine z_iret hZ gMo_raised_27 ?_
      exact ⟨rfl, rfl⟩
    | succ d ih =>
      intro k hk
      have hz : b ^ k % p < p := Nat.mod_lt _ hp0
      have hmul : b ^ k % p * b < 2 ^ 31 := Nat.lt_of_le_of_lt (Nat.mul_le_mul (Nat.le_of_lt hz) hb) (Nat.lt_of_le_of_lt (Nat.mul_le_mul (Nat.le_of_lt hp) (Nat.le_of_lt hp)) (by decide))
      have hxm : b ^ k % p * b % p = b ^ (k + 1) % p := by rw [Nat.pow_succ, Nat.mod_mul_mod]
      refine z_iload hZ gMo_raised_5 rfl ?_
      refine z_iload_n hZ gMo_raised_7 rfl ?_
      refine z_cmpge hZ gMo_raised_8 (fun c8 => absurd c8 (nI_ge (by omega) (by omega))) (fun c8 => ?_)
      refine z_iload_n hZ gMo_raised_11 rfl ?_
      refine z_iload_n hZ gMo_raised_12 rfl ?_
      refine z_imul hZ gMo_raised_13 _ (pk_mul _ _) ?_
      refine z_aload_n hZ gMo_raised_14 rfl ?_
      refine z_get hZ gMo_raised_15 (by omega) rfl (by rw [hp11]; rfl) ?_
      refine z_irem hZ gMo_raised_18 (nI_ne0 (by omega) (by omega)) _ (pk_rem hmul (by omega) (by omega)) ?_
      rw [hxm]
      refine z_istore_n hZ gMo_raised_19 rfl ?_
      refine z_iinc hZ gMo_raised_20 rfl _ (i1 k) rfl ?_
      refine z_goto hZ gMo_raised_23 ?_
      exact ih (k + 1) (by omega)
  refine z_iconst hZ gMo_raised_0 _ ic1 ?_
  refine z_istore_n hZ gMo_raised_1 rfl ?_
  refine z_iconst hZ gMo_raised_2 _ i0 ?_
  refine z_istore hZ gMo_raised_3 rfl ?_
  have h9 := loop m 0 (by omega)
  rw [Nat.pow_zero, Nat.mod_eq_of_lt hp1] at h9
  exact h9

set_option maxHeartbeats 4000000 in
set_option maxRecDepth 100000 in
theorem c_Mo_over (l : Launch) (D : va_G) (E : sx_E) (B : Nat) (A : Nat → Prop) (hB : 11 ≤ B) {a : sA} {i : sA} {p x num : Nat} (hpr : isPr p) (hp : p < 1092) (hx : x < 2 ^ 31) (hnum : num < 2 ^ 31) (hp11 : i 0 11 = nI p) : sM l D E B A yMo_over prog_9_method_19_code 3 (some .int) 1 24 [.inr (0, 0), .inl (nI x), .inl (nI num)] (mW a i) (fun r w' => ∃ v : Nat, r = some (.inl (nI v)) ∧ v < p ∧ (¬ p ∣ num → (p : Int) ∣ (v : Int) * (num : Int) - (x : Int)) ∧ w' = mW a i) := by
  refine sx_m0 (ls := lMo_over) (cs := csAll) (by decide +kernel) kMo_over (hMo_over l D E B A hB) (by simp) (fun w' h => (by obtain ⟨_, h, _⟩ := h; cases h)) ?_
  intro Z hZ
  have hp1 := hpr.1
  have hx1 : x % p < p := Nat.mod_lt _ (by omega)
  have hn1 : num % p < p := Nat.mod_lt _ (by omega)
  have hr1 : (num % p) ^ (p - 2) % p < p := Nat.mod_lt _ (by omega)
  have hmul : x % p * ((num % p) ^ (p - 2) % p) < 2 ^ 31 := Nat.lt_of_le_of_lt (Nat.mul_le_mul (Nat.le_of_lt hx1) (Nat.le_of_lt hr1)) (Nat.lt_of_le_of_lt (Nat.mul_le_mul (Nat.le_of_lt hp) (Nat.le_of_lt hp)) (by decide))
  have md : ∀ y : Nat, y < 2 ^ 31 → ((nI y).toInt % (p : Int)).toNat = y % p := fun y hy => by
    rw [nI_toInt hy]
    omega
  refine z_aload_n hZ gMo_over_0 rfl ?_
  refine z_iload_n hZ gMo_over_1 rfl ?_
  refine z_cv hZ gMo_over_2 rfl rfl (Nat.le_of_ble_eq_true rfl) (Nat.le_of_ble_eq_true rfl) ⟨⟨0, _, _, rfl, by decide, rfl⟩, fun l9 D E B A hB => c_Mo_mod l9 D E B A hB (p := p) (x := nI x) (by omega) hp hp11⟩ (fun r2 w2 p2 => ?_)
  obtain ⟨rfl, rfl⟩ := p2
  rw [md x hx]
  show Z (2 + 3) _ (.inl (nI (x % p)) :: []) _
  refine z_aload_n hZ gMo_over_5 rfl ?_
  refine z_aload_n hZ gMo_over_6 rfl ?_
  refine z_iload_n hZ gMo_over_7 rfl ?_
  refine z_cv hZ gMo_over_8 rfl rfl (Nat.le_of_ble_eq_true rfl) (Nat.le_of_ble_eq_true rfl) ⟨⟨0, _, _, rfl, by decide, rfl⟩, fun l9 D E B A hB => c_Mo_mod l9 D E B A hB (p := p) (x := nI num) (by omega) hp hp11⟩ (fun r8 w8 p8 => ?_)
  obtain ⟨rfl, rfl⟩ := p8
  rw [md num hnum]
  show Z (8 + 3) _ (.inl (nI (num % p)) :: .inr (0, 0) :: .inl (nI (x % p)) :: []) _
  refine z_aload_n hZ gMo_over_11 rfl ?_
  refine z_get hZ gMo_over_12 (by omega) rfl (by rw [hp11]; rfl) ?_
  refine z_iconst hZ gMo_over_15 _ ic2 ?_
  refine z_isub hZ gMo_over_16 _ (pk_sub (by omega)) ?_
  refine z_cv hZ gMo_over_17 rfl rfl (Nat.le_of_ble_eq_true rfl) (Nat.le_of_ble_eq_true rfl) ⟨⟨0, _, _, rfl, by decide, rfl⟩, fun l9 D E B A hB => c_Mo_raised l9 D E B A hB (p := p) (b := num % p) (m := p - 2) hp1 hp (by omega) (by omega) hp11⟩ (fun r17 w17 p17 => ?_)
  obtain ⟨rfl, rfl⟩ := p17
  show Z (17 + 3) _ (.inl (nI ((num % p) ^ (p - 2) % p)) :: .inl (nI (x % p)) :: []) _
  refine z_imul hZ gMo_over_20 _ (pk_mul _ _) ?_
  refine z_aload_n hZ gMo_over_21 rfl ?_
  refine z_get hZ gMo_over_22 (by omega) rfl (by rw [hp11]; rfl) ?_
  refine z_irem hZ gMo_over_25 (nI_ne0 (by omega) (by omega)) _ (pk_rem hmul (by omega) (by omega)) ?_
  refine z_iret hZ gMo_over_26 ?_
  exact ⟨_, rfl, Nat.mod_lt _ (by omega), fun h9 => ovr_ok hpr h9, rfl⟩

