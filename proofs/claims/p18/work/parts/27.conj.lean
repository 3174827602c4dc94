theorem i16 : (Int8.ofInt 16).toInt32 = nI 16 := by decide +kernel

set_option maxHeartbeats 4000000 in
set_option maxRecDepth 100000 in
theorem c_Co_pairPlace (l : Launch) (D : va_G) (E : sx_E) (B : Nat) (A : Nat → Prop) (x y z : Nat) (w : sx_M) : sM l D E B A yCo_pairPlace prog_4_method_10_code 3 (some .int) 0 0 [.inl (nI x), .inl (nI y), .inl (nI z)] w (fun r w' => r = some (.inl (nI ((x * 16 + y) * 16 + z))) ∧ w' = w) := by
  refine sx_m0 (ls := lCo_pairPlace) (cs := noCalls) (by decide +kernel) kCo_pairPlace (fun pc i h1 h2 => sx_nc (ls := lCo_pairPlace) (by decide) pc i h1 h2) (by simp) (fun w' h => by cases h.1) ?_
  intro Z hZ
  refine z_iload_n hZ gCo_pairPlace_0 rfl ?_
  refine z_bipush hZ gCo_pairPlace_1 _ i16 ?_
  refine z_imul hZ gCo_pairPlace_3 _ (pk_mul x 16) ?_
  refine z_iload_n hZ gCo_pairPlace_4 rfl ?_
  refine z_iadd hZ gCo_pairPlace_5 _ (nI_add (x * 16) y) ?_
  refine z_bipush hZ gCo_pairPlace_6 _ i16 ?_
  refine z_imul hZ gCo_pairPlace_8 _ (pk_mul (x * 16 + y) 16) ?_
  refine z_iload_n hZ gCo_pairPlace_9 rfl ?_
  refine z_iadd hZ gCo_pairPlace_10 _ (nI_add ((x * 16 + y) * 16) z) ?_
  refine z_iret hZ gCo_pairPlace_11 ?_
  exact ⟨rfl, rfl⟩

set_option maxHeartbeats 4000000 in
set_option maxRecDepth 100000 in
theorem c_Co_pairs (l : Launch) (D : va_G) (E : sx_E) (B : Nat) (A : Nat → Prop) (hB : 29 ≤ B) {a : sA} {g : sG} {i : sA} {x y z : Nat} (hx : x < 16) (hy : y < 16) (hz : z < 16) : sM l D E B A yCo_pairs prog_4_method_9_code 4 (some .int) 1 22 [.inr (5, 0), .inl (nI x), .inl (nI y), .inl (nI z)] (cW a g i) (fun r w' => r = some (.inl (a 11 ((x * 16 + y) * 16 + z))) ∧ w' = cW a g i) := by
  refine sx_m0 (ls := lCo_pairs) (cs := csAll) (by decide +kernel) kCo_pairs (hCo_pairs l D E B A hB) (by simp) (fun w' h => by cases h.1) ?_
  intro Z hZ
  refine z_aload_n hZ gCo_pairs_0 rfl ?_
  refine z_get hZ gCo_pairs_1 (by omega) rfl rfl ?_
  refine z_iload_n hZ gCo_pairs_4 rfl ?_
  refine z_iload_n hZ gCo_pairs_5 rfl ?_
  refine z_iload_n hZ gCo_pairs_6 rfl ?_
  refine z_cs hZ gCo_pairs_7 rfl rfl (Nat.le_of_ble_eq_true rfl) (Nat.le_of_ble_eq_true rfl) (fun l D E B A hB => c_Co_pairPlace l D E B A x y z _) (fun r7 w7 p7 => ?_)
  obtain ⟨rfl, rfl⟩ := p7
  show Z (7 + 3) _ (.inl (nI ((x * 16 + y) * 16 + z)) :: .inr (11, 0) :: []) _
  refine z_iald hZ gCo_pairs_10 (by omega) rfl (vp_in_nI (by omega) (by decide)) ?_
  refine z_iret hZ gCo_pairs_11 ?_
  rw [nI_clamp (by omega)]
  exact ⟨rfl, rfl⟩

set_option maxHeartbeats 4000000 in
set_option maxRecDepth 100000 in
theorem c_Co_classRaised (l : Launch) (D : va_G) (E : sx_E) (B : Nat) (A : Nat → Prop) (hB : 29 ≤ B) {a : sA} {g : sG} {i : sA} {e c m : Nat} (he : i 5 6 = nI e) (he0 : 0 < e) (he1 : e ≤ 120) (hc : c < 16) (hm : m < 2 ^ 31) : sM l D E B A yCo_classRaised prog_4_method_6_code 3 (some .int) 0 0 [.inr (5, 0), .inl (nI c), .inl (nI m)] (cW a g i) (fun r w' => r = some (.inl (g 9 c (m % e))) ∧ w' = cW a g i) := by
  refine sx_m0 (ls := lCo_classRaised) (cs := noCalls) (by decide +kernel) kCo_classRaised (fun pc i h1 h2 => sx_nc (ls := lCo_classRaised) (by decide) pc i h1 h2) (by simp) (fun w' h => by cases h.1) ?_
  intro Z hZ
  refine z_aload_n hZ gCo_classRaised_0 rfl ?_
  refine z_get hZ gCo_classRaised_1 (by omega) rfl rfl ?_
  refine z_iload_n hZ gCo_classRaised_4 rfl ?_
  refine z_aald hZ gCo_classRaised_5 (by omega) rfl (vp_in_nI (by omega) (by decide)) ?_
  refine z_iload_n hZ gCo_classRaised_6 rfl ?_
  refine z_aload_n hZ gCo_classRaised_7 rfl ?_
  refine z_get hZ gCo_classRaised_8 (by omega) rfl (by rw [he]; rfl) ?_
  refine z_irem hZ gCo_classRaised_11 (nI_ne0 he0 (by omega)) _ (pk_rem hm he0 (by omega)) ?_
  rw [nI_clamp (n := c) (by omega)]
  have hmod := Nat.mod_lt m he0
  refine z_ialg hZ gCo_classRaised_12 (by omega) rfl hc (vp_in_nI (by omega) (by decide)) ?_
  refine z_iret hZ gCo_classRaised_13 ?_
  rw [nI_clamp (by omega)]
  exact ⟨rfl, rfl⟩

set_option maxHeartbeats 4000000 in
set_option maxRecDepth 100000 in
theorem c_Co_inverseOf (l : Launch) (D : va_G) (E : sx_E) (B : Nat) (A : Nat → Prop) (hB : 29 ≤ B) {a : sA} {g : sG} {i : sA} {e c : Nat} (he : i 5 6 = nI e) (he0 : 0 < e) (he1 : e ≤ 120) (hc : c < 16) : sM l D E B A yCo_inverseOf prog_4_method_7_code 2 (some .int) 0 0 [.inr (5, 0), .inl (nI c)] (cW a g i) (fun r w' => r = some (.inl (g 9 c (e - 1))) ∧ w' = cW a g i) := by
  refine sx_m0 (ls := lCo_inverseOf) (cs := noCalls) (by decide +kernel) kCo_inverseOf (fun pc i h1 h2 => sx_nc (ls := lCo_inverseOf) (by decide) pc i h1 h2) (by simp) (fun w' h => by cases h.1) ?_
  intro Z hZ
  refine z_aload_n hZ gCo_inverseOf_0 rfl ?_
  refine z_get hZ gCo_inverseOf_1 (by omega) rfl rfl ?_
  refine z_iload_n hZ gCo_inverseOf_4 rfl ?_
  refine z_aald hZ gCo_inverseOf_5 (by omega) rfl (vp_in_nI (by omega) (by decide)) ?_
  refine z_aload_n hZ gCo_inverseOf_6 rfl ?_
  refine z_get hZ gCo_inverseOf_7 (by omega) rfl (by rw [he]; rfl) ?_
  refine z_iconst hZ gCo_inverseOf_10 _ rfl ?_
  refine z_isub hZ gCo_inverseOf_11 _ (nI_sub1 he0) ?_
  rw [nI_clamp (n := c) (by omega)]
  refine z_ialg hZ gCo_inverseOf_12 (by omega) rfl hc (vp_in_nI (by omega) (by decide)) ?_
  refine z_iret hZ gCo_inverseOf_13 ?_
  rw [nI_clamp (by omega)]
  exact ⟨rfl, rfl⟩

-- the elements as the object holds them: s 0 < s 1 < .. , n of them
def elH (a i : sA) (s : Nat → Nat) (n : Nat) : Prop := i 2 2 = nI n ∧ n ≤ 120 ∧ (∀ j, j < n → a 3 j = nI (s j)) ∧ (∀ j k, j < k → k < n → s j < s k) ∧ (∀ j, j < n → s j < 8 ^ 8)
theorem elH_inc {a i : sA} {s : Nat → Nat} {n : Nat} (h : elH a i s n) : inc (a 3) n := fun j k hjk hk => by
  rw [h.2.2.1 j (by omega), h.2.2.1 k hk]
  exact nI_lt (h.2.2.2.1 j k hjk hk) (Nat.lt_trans (h.2.2.2.2 k hk) (by decide))
theorem elH_eq {a i : sA} {s : Nat → Nat} {n : Nat} (h : elH a i s n) {c j : Nat} (hc : c < 8 ^ 8) (hj : j < n) : a 3 j = nI c ↔ s j = c := by
  rw [h.2.2.1 j hj]
  exact nI_eq (Nat.lt_trans (h.2.2.2.2 j hj) (by decide)) (Nat.lt_trans hc (by decide))
theorem elH_inj {a i : sA} {s : Nat → Nat} {n : Nat} (h : elH a i s n) {j k : Nat} (hj : j < n) (hk : k < n) (e : s j = s k) : j = k := by
  rcases Nat.lt_trichotomy j k with h1 | h1 | h1
  · have := h.2.2.2.1 j k h1 hk; omega
  · exact h1
  · have := h.2.2.2.1 k j h1 hj; omega
theorem nI_m1 {n : Nat} (h : n < 2 ^ 31) : ¬ nI n = -1 := fun e => by
  have h1 := nI_pos h
  rw [e] at h1
  exact h1 (by decide)

set_option maxHeartbeats 4000000 in
set_option maxRecDepth 100000 in
theorem c_Co_classHolding (l : Launch) (D : va_G) (E : sx_E) (B : Nat) (A : Nat → Prop) (hB : 29 ≤ B) {a : sA} {g : sG} {i : sA} {s : Nat → Nat} {n : Nat} (hel : elH a i s n) (x : Int32) : sM l D E B A yCo_classHolding prog_4_method_4_code 4 (some .int) 2 45 [.inr (5, 0), .inl x, .inr (2, 0)] (cW a g i) (fun r w' => ((∃ j, j < n ∧ a 3 j = x ∧ r = some (.inl (a 6 j))) ∨ (r = some (.inl (-1)) ∧ ¬ ∃ j, j < n ∧ a 3 j = x)) ∧ w' = cW a g i) := by
  refine sx_m0 (ls := lCo_classHolding) (cs := csAll) (by decide +kernel) kCo_classHolding (hCo_classHolding l D E B A hB) (by simp) (fun w' h => (by rcases h.1 with ⟨_, _, _, h⟩ | ⟨h, _⟩ <;> cases h)) ?_
  intro Z hZ
  refine z_aload_n hZ gCo_classHolding_0 rfl ?_
  refine z_iload_n hZ gCo_classHolding_1 rfl ?_
  refine z_cv hZ gCo_classHolding_2 rfl rfl (Nat.le_of_ble_eq_true rfl) (Nat.le_of_ble_eq_true rfl) ⟨⟨2, _, _, rfl, by decide, rfl⟩, fun l D E B A hB => c_El_indexOf l D E B A hB hel.1 hel.2.1 (elH_inc hel) x⟩ (fun r2 w2 p2 => ?_)
  obtain ⟨h2, rfl⟩ := p2
  have hn := hel.2.1
  rcases h2 with ⟨j, hj, hjx, rfl⟩ | ⟨rfl, hno⟩
  rotate_left
  · show Z (2 + 3) _ (.inl (-1) :: []) _
    refine z_istore_n hZ gCo_classHolding_5 rfl ?_
    refine z_iload_n hZ gCo_classHolding_6 rfl ?_
    refine z_iconst hZ gCo_classHolding_7 _ rfl ?_
    refine z_cmpne hZ gCo_classHolding_8 (fun c8 => absurd rfl c8) (fun c8 => ?_)
    refine z_iconst hZ gCo_classHolding_11 _ rfl ?_
    refine z_goto hZ gCo_classHolding_12 ?_
    refine z_iret hZ gCo_classHolding_21 ?_
    exact ⟨Or.inr ⟨rfl, hno⟩, rfl⟩
  show Z (2 + 3) _ (.inl (nI j) :: []) _
  refine z_istore_n hZ gCo_classHolding_5 rfl ?_
  refine z_iload_n hZ gCo_classHolding_6 rfl ?_
  refine z_iconst hZ gCo_classHolding_7 _ im1 ?_
  refine z_cmpne hZ gCo_classHolding_8 (fun c8 => ?_) (fun c8 => absurd c8 (nI_m1 (by omega)))
  refine z_aload_n hZ gCo_classHolding_15 rfl ?_
  refine z_get hZ gCo_classHolding_16 (by omega) rfl rfl ?_
  refine z_iload_n hZ gCo_classHolding_19 rfl ?_
  refine z_iald hZ gCo_classHolding_20 (by omega) rfl (vp_in_nI (by omega) (by decide)) ?_
  refine z_iret hZ gCo_classHolding_21 ?_
  rw [nI_clamp (by omega)]
  exact ⟨Or.inl ⟨j, hj, hjx, rfl⟩, rfl⟩

-- gathering a class: a mirror of the loop (ix k: the place of the k-th conjugate)
def ga6 (f : Nat → Int32) (v : Int32) (ix : Nat → Nat) : Nat → Nat → Int32
  | 0 => f
  | k + 1 => if ga6 f v ix k (ix k) = -1 then upd (ga6 f v ix k) (ix k) v else ga6 f v ix k
def gaN (f : Nat → Int32) (v : Int32) (ix : Nat → Nat) : Nat → Nat
  | 0 => 0
  | k + 1 => if ga6 f v ix k (ix k) = -1 then gaN f v ix k + 1 else gaN f v ix k
theorem gaN_le (f : Nat → Int32) (v : Int32) (ix : Nat → Nat) : ∀ k, gaN f v ix k ≤ k
  | 0 => Nat.le_refl 0
  | k + 1 => by
    have := gaN_le f v ix k
    unfold gaN
    by_cases h : ga6 f v ix k (ix k) = -1
    · rw [if_pos h]; omega
    · rw [if_neg h]; omega
abbrev gaW (a : sA) (g : sG) (i : sA) (f6 : Nat → Int32) (f7 : Nat → Int32) (f8 : Nat → Int32) : sx_M := cW (va_up (va_up (va_up a 8 f8) 7 f7) 6 f6) g i
theorem gaW_6 (a : sA) (g : sG) (i : sA) (f6 f7 f8 h : Nat → Int32) : cW (va_up (va_up (va_up (va_up a 8 f8) 7 f7) 6 f6) 6 h) g i = gaW a g i h f7 f8 := by rw [va_uu]
theorem gaW_7 (a : sA) (g : sG) (i : sA) (f6 f7 f8 h : Nat → Int32) : cW (va_up (va_up (va_up (va_up a 8 f8) 7 f7) 6 f6) 7 h) g i = gaW a g i f6 h f8 := by
  show cW _ _ _ = cW _ _ _
  congr 1
  funext n
  by_cases h7 : n = 7
  · subst h7; rw [va_up_self, va_up_ne _ _ (by decide), va_up_self]
  · rw [va_up_ne _ _ h7]
    by_cases h6 : n = 6
    · subst h6; rw [va_up_self, va_up_self]
    · rw [va_up_ne _ _ h6, va_up_ne _ _ h6, va_up_ne _ _ h7, va_up_ne _ _ h7]
theorem upd_u (f : Nat → Int32) (k : Nat) (x y : Int32) : upd (upd f k x) k y = upd f k y := by
  funext j
  by_cases e : j = k
  · subst e; rw [pk_us, pk_us]
  · rw [pk_un e, pk_un e, pk_un e]

set_option maxHeartbeats 4000000 in
set_option maxRecDepth 100000 in
theorem c_Co_gather (l : Launch) (D : va_G) (E : sx_E) (B : Nat) (A : Nat → Prop) (hB : 29 ≤ B) {a : sA} {g : sG} {i : sA} {s ix : Nat → Nat} {n cnt c0 : Nat} (hel : elH a i s n) (hcn : i 5 0 = nI cnt) (hc16 : cnt < 16) (hP : ∀ j, j < n → isP (s j)) (hP0 : isP c0) (hix : ∀ k, k < n → ix k < n ∧ s (ix k) = pm (pm (piv (s k)) c0) (s k)) : sM l D E B A yCo_gather prog_4_method_3_code 7 none 2 45 [.inr (5, 0), .inl (nI c0), .inr (2, 0)] (cW a g i) (fun r w' => r = none ∧ w' = gaW a g (va_up i 5 (va_up (i 5) 0 (nI (cnt + 1)))) (ga6 (a 6) (nI cnt) ix n) (upd (a 7) cnt (nI (gaN (a 6) (nI cnt) ix n))) (upd (a 8) cnt (nI c0))) := by
  refine sx_m0 (ls := lCo_gather) (cs := csAll) (by decide +kernel) kCo_gather (hCo_gather l D E B A hB) (by simp) (fun x w' h => by cases h.1) ?_
  intro Z hZ
  have hn := hel.2.1
  have loop : ∀ d k x4 x5 x6, d + k = n → Z 22 [some (.inr (5, 0)), some (.inl (nI c0)), some (.inr (2, 0)), some (.inl (nI k)), x4, x5, x6] [] (gaW a g i (ga6 (a 6) (nI cnt) ix k) (upd (a 7) cnt (nI (gaN (a 6) (nI cnt) ix k))) (upd (a 8) cnt (nI c0))) := by
    intro d
    induction d with
    | zero =>
      intro k x4 x5 x6 hk
      have e : k = n := by omega
      subst e
      refine z_iload_n hZ gCo_gather_22 rfl ?_
      refine z_aload_n hZ gCo_gather_23 rfl ?_
      refine z_get hZ gCo_gather_24 (by omega) rfl (by rw [hel.1]; rfl) ?_
      refine z_cmpge hZ gCo_gather_27 (fun c27 => ?_) (fun c27 => absurd (nI_le (Nat.le_refl k) (by omega)) c27)
      refine z_aload_n hZ gCo_gather_109 rfl ?_
      refine z_dup hZ gCo_gather_110 ?_
      refine z_get hZ gCo_gather_111 (by omega) rfl (by rw [hcn]; rfl) ?_
      refine z_iconst hZ gCo_gather_114 _ rfl ?_
      refine z_iadd hZ gCo_gather_115 _ (i1 cnt) ?_
      refine z_putW hZ gCo_gather_116 (by omega) rfl (Or.inl (by decide)) (Nat.le_of_ble_eq_true rfl) cW_i5_0 ?_
      refine z_vret hZ gCo_gather_119 ?_
      exact ⟨rfl, rfl⟩
    | succ d ih =>
      intro k x4 x5 x6 hk
      have hkn : k < n := by omega
      have hsk := hP k hkn
      have hpi := isP_inv hsk (piv_ok hsk)
      have h1 := isP_pm hpi hP0
      obtain ⟨hx1, hx2⟩ := hix k hkn
      have hN := gaN_le (a 6) (nI cnt) ix k
      have e3 : (va_up (va_up (va_up a 8 (upd (a 8) cnt (nI c0))) 7 (upd (a 7) cnt (nI (gaN (a 6) (nI cnt) ix k)))) 6 (ga6 (a 6) (nI cnt) ix k)) 3 = a 3 := by rw [va_up_ne _ _ (by decide), va_up_ne _ _ (by decide), va_up_ne _ _ (by decide)]
      have hel2 : elH (va_up (va_up (va_up a 8 (upd (a 8) cnt (nI c0))) 7 (upd (a 7) cnt (nI (gaN (a 6) (nI cnt) ix k)))) 6 (ga6 (a 6) (nI cnt) ix k)) i s n := by
        unfold elH; rw [e3]; exact hel
      refine z_iload_n hZ gCo_gather_22 rfl ?_
      refine z_aload_n hZ gCo_gather_23 rfl ?_
      refine z_get hZ gCo_gather_24 (by omega) rfl (by rw [hel.1]; rfl) ?_
      refine z_cmpge hZ gCo_gather_27 (fun c27 => absurd c27 (nI_ge (by omega) (by omega))) (fun c27 => ?_)
      refine z_aload_n hZ gCo_gather_30 rfl ?_
      refine z_get hZ gCo_gather_31 (by omega) rfl rfl ?_
      refine z_iload_n hZ gCo_gather_34 rfl ?_
      refine z_iald hZ gCo_gather_35 (by omega) rfl (vp_in_nI (by omega) (by decide)) ?_
      rw [nI_clamp (by omega), e3, hel.2.2.1 k hkn]
      refine z_istore hZ gCo_gather_36 rfl ?_
      refine z_iload hZ gCo_gather_38 rfl ?_
      refine z_cs hZ gCo_gather_40 rfl rfl (Nat.le_of_ble_eq_true rfl) (Nat.le_of_ble_eq_true rfl) (fun l D E B A hB => c_Cd_inverse l D E B A hsk _) (fun r40 w40 p40 => ?_)
      obtain ⟨rfl, rfl⟩ := p40
      show Z (40 + 3) _ (.inl (nI (piv (s k))) :: []) _
      refine z_iload_n hZ gCo_gather_43 rfl ?_
      refine z_cs hZ gCo_gather_44 rfl rfl (Nat.le_of_ble_eq_true rfl) (Nat.le_of_ble_eq_true rfl) (fun l D E B A hB => c_Cd_product l D E B A hpi.1 hP0.1 _) (fun r44 w44 p44 => ?_)
      obtain ⟨rfl, rfl⟩ := p44
      show Z (44 + 3) _ (.inl (nI (pm (piv (s k)) c0)) :: []) _
      refine z_iload hZ gCo_gather_47 rfl ?_
      refine z_cs hZ gCo_gather_49 rfl rfl (Nat.le_of_ble_eq_true rfl) (Nat.le_of_ble_eq_true rfl) (fun l D E B A hB => c_Cd_product l D E B A h1.1 hsk.1 _) (fun r49 w49 p49 => ?_)
      obtain ⟨rfl, rfl⟩ := p49
      show Z (49 + 3) _ (.inl (nI (pm (pm (piv (s k)) c0) (s k))) :: []) _
      refine z_istore hZ gCo_gather_52 rfl ?_
      refine z_aload_n hZ gCo_gather_54 rfl ?_
      refine z_iload hZ gCo_gather_55 rfl ?_
      refine z_cv hZ gCo_gather_57 rfl rfl (Nat.le_of_ble_eq_true rfl) (Nat.le_of_ble_eq_true rfl) ⟨⟨2, _, _, rfl, by decide, rfl⟩, fun l D E B A hB => c_El_indexOf l D E B A hB hel2.1 hel2.2.1 (elH_inc hel2) (nI (pm (pm (piv (s k)) c0) (s k)))⟩ (fun r57 w57 p57 => ?_)
      obtain ⟨h57, rfl⟩ := p57
      have hcj : pm (pm (piv (s k)) c0) (s k) < 8 ^ 8 := pm_lt _ _
      have hj : r57 = some (.inl (nI (ix k))) := by
        rcases h57 with ⟨j, hj, hjx, hr⟩ | ⟨_, hno⟩
        · have e1 := (elH_eq hel2 hcj hj).mp hjx
          have e2 : j = ix k := elH_inj hel hj hx1 (by rw [e1, hx2])
          rw [hr, e2]
        · exact absurd ⟨ix k, hx1, (elH_eq hel2 hcj hx1).mpr hx2⟩ hno
      subst hj
      show Z (57 + 3) _ (.inl (nI (ix k)) :: []) _
      refine z_istore hZ gCo_gather_60 rfl ?_
      refine z_iload hZ gCo_gather_62 rfl ?_
      refine z_iconst hZ gCo_gather_64 _ im1 ?_
      refine z_cmpeq hZ gCo_gather_65 (fun c65 => absurd c65 (nI_m1 (by omega))) (fun c65 => ?_)
      refine z_aload_n hZ gCo_gather_68 rfl ?_
      refine z_get hZ gCo_gather_69 (by omega) rfl rfl ?_
      refine z_iload hZ gCo_gather_72 rfl ?_
      refine z_iald hZ gCo_gather_74 (by omega) rfl (vp_in_nI (by omega) (by decide)) ?_
      rw [nI_clamp (by omega), va_up_self]
      refine z_iconst hZ gCo_gather_75 _ im1 ?_
      refine z_cmpne hZ gCo_gather_76 (fun c76 => ?_) (fun c76 => ?_)
      · have ct76 := c76
        have e6 : ga6 (a 6) (nI cnt) ix (k + 1) = ga6 (a 6) (nI cnt) ix k := if_neg ct76
        have e7 : gaN (a 6) (nI cnt) ix (k + 1) = gaN (a 6) (nI cnt) ix k := if_neg ct76
        first | rw [nI_clamp (by omega), e77, upd_u, ← e7, gaW_7] | skip
        refine z_iinc hZ gCo_gather_103 rfl _ (i1 k) rfl ?_
        refine z_goto hZ gCo_gather_106 ?_
        first | exact ih (k + 1) _ _ _ (by omega) | (have h9 := ih (k + 1) (some (.inl (nI (s k)))) (some (.inl (nI (pm (pm (piv (s k)) c0) (s k))))) (some (.inl (nI (ix k)))) (by omega); rw [e6, e7] at h9; exact h9)
      · have cf76 := c76
        have e6 : ga6 (a 6) (nI cnt) ix (k + 1) = upd (ga6 (a 6) (nI cnt) ix k) (ix k) (nI cnt) := if_pos cf76
        have e7 : gaN (a 6) (nI cnt) ix (k + 1) = gaN (a 6) (nI cnt) ix k + 1 := if_pos cf76
        refine z_aload_n hZ gCo_gather_79 rfl ?_
        refine z_get hZ gCo_gather_80 (by omega) rfl rfl ?_
        refine z_iload hZ gCo_gather_83 rfl ?_
        refine z_aload_n hZ gCo_gather_85 rfl ?_
        refine z_get hZ gCo_gather_86 (by omega) rfl (by rw [hcn]; rfl) ?_
        refine z_iastW hZ gCo_gather_89 (by omega) rfl (vp_in_nI (by omega) (by decide)) cW_a6 ?_
        rw [nI_clamp (by omega), va_up_self, ← e6, gaW_6]
        refine z_aload_n hZ gCo_gather_90 rfl ?_
        refine z_get hZ gCo_gather_91 (by omega) rfl rfl ?_
        refine z_aload_n hZ gCo_gather_94 rfl ?_
        refine z_get hZ gCo_gather_95 (by omega) rfl (by rw [hcn]; rfl) ?_
        refine z_dup2 hZ gCo_gather_98 ?_
        refine z_iald hZ gCo_gather_99 (by omega) rfl (vp_in_nI (by omega) (by decide)) ?_
        rw [nI_clamp (by omega)]
        have e77 : (va_up (va_up (va_up a 8 (upd (a 8) cnt (nI c0))) 7 (upd (a 7) cnt (nI (gaN (a 6) (nI cnt) ix k)))) 6 (ga6 (a 6) (nI cnt) ix (k + 1))) 7 = upd (a 7) cnt (nI (gaN (a 6) (nI cnt) ix k)) := by rw [va_up_ne _ _ (by decide), va_up_self]
        rw [e77, pk_us]
        refine z_iconst hZ gCo_gather_100 _ rfl ?_
        refine z_iadd hZ gCo_gather_101 _ (i1 _) ?_
        refine z_iastW hZ gCo_gather_102 (by omega) rfl (vp_in_nI (by omega) (by decide)) cW_a7 ?_
        first | rw [nI_clamp (by omega), e77, upd_u, ← e7, gaW_7] | skip
        refine z_iinc hZ gCo_gather_103 rfl _ (i1 k) rfl ?_
        refine z_goto hZ gCo_gather_106 ?_
        first | exact ih (k + 1) _ _ _ (by omega) | (have h9 := ih (k + 1) (some (.inl (nI (s k)))) (some (.inl (nI (pm (pm (piv (s k)) c0) (s k))))) (some (.inl (nI (ix k)))) (by omega); rw [e6, e7] at h9; exact h9)
  refine z_aload_n hZ gCo_gather_0 rfl ?_
  refine z_get hZ gCo_gather_1 (by omega) rfl rfl ?_
  refine z_aload_n hZ gCo_gather_4 rfl ?_
  refine z_get hZ gCo_gather_5 (by omega) rfl (by rw [hcn]; rfl) ?_
  refine z_iload_n hZ gCo_gather_8 rfl ?_
  refine z_iastW hZ gCo_gather_9 (by omega) rfl (vp_in_nI (by omega) (by decide)) cW_a8 ?_
  refine z_aload_n hZ gCo_gather_10 rfl ?_
  refine z_get hZ gCo_gather_11 (by omega) rfl rfl ?_
  refine z_aload_n hZ gCo_gather_14 rfl ?_
  refine z_get hZ gCo_gather_15 (by omega) rfl (by rw [hcn]; rfl) ?_
  refine z_iconst hZ gCo_gather_18 _ i0 ?_
  refine z_iastW hZ gCo_gather_19 (by omega) rfl (vp_in_nI (by omega) (by decide)) cW_a7 ?_
  refine z_iconst hZ gCo_gather_20 _ rfl ?_
  refine z_istore_n hZ gCo_gather_21 rfl ?_
  have h9 := loop n 0 none none none (by omega)
  rw [nI_clamp (by omega)]
  have e1 : cW (va_up (va_up a 8 (upd (a 8) cnt (nI c0))) 7 (upd ((va_up a 8 (upd (a 8) cnt (nI c0))) 7) cnt (nI 0))) g i = gaW a g i (ga6 (a 6) (nI cnt) ix 0) (upd (a 7) cnt (nI (gaN (a 6) (nI cnt) ix 0))) (upd (a 8) cnt (nI c0)) := by
    show cW _ _ _ = cW _ _ _
    congr 1
    show _ = va_up _ 6 (a 6)
    rw [va_id (k := 6)]
    · rw [va_up_ne _ _ (by decide)]; rfl
    · rw [va_up_ne _ _ (by decide), va_up_ne _ _ (by decide)]
  rw [e1]
  exact h9

