-- the reference: permutations
theorem t7 : ∀ m, m < 8 → (Int32.ofInt 3) * ((Int8.ofInt 7).toInt32 - nI m) = sh m := by decide +kernel
theorem nI_m8 {c d : Nat} : (Int8.ofInt 8).toInt32 * nI c + nI d = nI (c * 8 + d) := by
  have h8 : (Int8.ofInt 8).toInt32 = nI 8 := by decide +kernel
  rw [h8, pk_mul, nI_add, Nat.mul_comm]
theorem i8 : (Int8.ofInt 8).toInt32 = nI 8 := by decide +kernel
def imO (x : Int32) (m : Nat) : Int32 := (x >>> (sh m &&& 31)) &&& (Int8.ofInt 7).toInt32
theorem pinv_u {a b b' : Nat} (ha : isP a) (h : pinv a b) (h' : pinv a b') : b = b' := dg_ext h.1 h'.1 fun x hx => by
  obtain ⟨y, hy, rfl⟩ := isP_on ha hx
  rw [h.2 y hy, h'.2 y hy]

set_option maxHeartbeats 4000000 in
set_option maxRecDepth 100000 in
theorem c_Mo_image (l : Launch) (D : va_G) (E : sx_E) (B : Nat) (A : Nat → Prop) {x : Int32} {m : Nat} (hm : m < 8) (w : sx_M) : sM l D E B A yMo_image prog_9_method_2_code 2 (some .int) 0 0 [.inl x, .inl (nI m)] w (fun r w' => r = some (.inl (imO x m)) ∧ w' = w) := by
  refine sx_m0 (ls := lMo_image) (cs := noCalls) (by decide +kernel) kMo_image (fun pc i h1 h2 => sx_nc (ls := lMo_image) (by decide) pc i h1 h2) (by simp) (fun w' h => by cases h.1) ?_
  intro Z hZ
  refine z_iload_n hZ gMo_image_0 rfl ?_
  refine z_iconst hZ gMo_image_1 _ rfl ?_
  refine z_bipush hZ gMo_image_2 _ rfl ?_
  refine z_iload_n hZ gMo_image_4 rfl ?_
  refine z_isub hZ gMo_image_5 _ rfl ?_
  refine z_imul hZ gMo_image_6 _ (t7 m hm) ?_
  refine z_ishr hZ gMo_image_7 _ rfl ?_
  refine z_bipush hZ gMo_image_8 _ rfl ?_
  refine z_iand hZ gMo_image_10 _ rfl ?_
  refine z_iret hZ gMo_image_11 ?_
  exact ⟨rfl, rfl⟩

theorem im_dg {a m : Nat} (ha : a < 8 ^ 8) (hm : m < 8) : imO (nI a) m = nI (dg a m) := dg_sh ha hm

set_option maxHeartbeats 4000000 in
set_option maxRecDepth 100000 in
theorem c_Mo_product (l : Launch) (D : va_G) (E : sx_E) (B : Nat) (A : Nat → Prop) (hB : 11 ≤ B) {a b : Nat} (ha : a < 8 ^ 8) (hb : b < 8 ^ 8) (w : sx_M) : sM l D E B A yMo_product prog_9_method_3_code 5 (some .int) 1 21 [.inl (nI a), .inl (nI b)] w (fun r w' => r = some (.inl (nI (pm a b))) ∧ w' = w) := by
  refine sx_m0 (ls := lMo_product) (cs := csAll) (by decide +kernel) kMo_product (hMo_product l D E B A hB) (by simp) (fun w' h => by cases h.1) ?_
  intro Z hZ
  have loop : ∀ n m, n + m = 8 → ∀ x4, Z 4 [some (.inl (nI a)), some (.inl (nI b)), some (.inl (nI (encf (fun x => dg b (dg a x)) m))), some (.inl (nI m)), x4] [] w := by
    intro n
    induction n with
    | zero =>
      intro m hm x4
      have hm8 : m = 8 := by omega
      subst hm8
      refine z_iload_n hZ gMo_product_4 rfl ?_
      refine z_bipush hZ gMo_product_5 _ i8 ?_
      refine z_cmpge hZ gMo_product_7 (fun c7 => ?_) (fun c7 => absurd (nI_le (Nat.le_refl 8) (by decide)) c7)
      refine z_iload_n hZ gMo_product_35 rfl ?_
      refine z_iret hZ gMo_product_36 ?_
      exact ⟨rfl, rfl⟩
    | succ n ih =>
      intro m hm x4
      have hm8 : m < 8 := by omega
      have hd := dg_lt a m
      refine z_iload_n hZ gMo_product_4 rfl ?_
      refine z_bipush hZ gMo_product_5 _ i8 ?_
      refine z_cmpge hZ gMo_product_7 (fun c7 => absurd c7 (nI_ge hm8 (by decide))) (fun c7 => ?_)
      refine z_iload_n hZ gMo_product_10 rfl ?_
      refine z_iload_n hZ gMo_product_11 rfl ?_
      refine z_cs hZ gMo_product_12 rfl rfl (Nat.le_of_ble_eq_true rfl) (Nat.le_of_ble_eq_true rfl) (fun l9 D E B A hB => c_Mo_image l9 D E B A (x := nI a) (m := m) hm8 _) (fun r12 w12 p12 => ?_)
      obtain ⟨rfl, rfl⟩ := p12
      rw [im_dg ha hm8]
      show Z (12 + 3) _ (.inl (nI (dg a m)) :: []) _
      refine z_istore hZ gMo_product_15 rfl ?_
      refine z_bipush hZ gMo_product_17 _ rfl ?_
      refine z_iload_n hZ gMo_product_19 rfl ?_
      refine z_imul hZ gMo_product_20 _ rfl ?_
      refine z_iload_n hZ gMo_product_21 rfl ?_
      refine z_iload hZ gMo_product_22 rfl ?_
      refine z_cs hZ gMo_product_24 rfl rfl (Nat.le_of_ble_eq_true rfl) (Nat.le_of_ble_eq_true rfl) (fun l9 D E B A hB => c_Mo_image l9 D E B A (x := nI b) (m := dg a m) hd _) (fun r24 w24 p24 => ?_)
      obtain ⟨rfl, rfl⟩ := p24
      rw [im_dg hb hd]
      show Z (24 + 3) _ (.inl (nI (dg b (dg a m))) :: .inl ((Int8.ofInt 8).toInt32 * nI (encf (fun x => dg b (dg a x)) m)) :: []) _
      refine z_iadd hZ gMo_product_27 _ nI_m8 ?_
      refine z_istore_n hZ gMo_product_28 rfl ?_
      refine z_iinc hZ gMo_product_29 rfl _ (i1 m) rfl ?_
      refine z_goto hZ gMo_product_32 ?_
      exact ih (m + 1) (by omega) _
  refine z_iconst hZ gMo_product_0 _ i0 ?_
  refine z_istore_n hZ gMo_product_1 rfl ?_
  refine z_iconst hZ gMo_product_2 _ i0 ?_
  refine z_istore_n hZ gMo_product_3 rfl ?_
  exact loop 8 0 rfl _

def bkI (a : Nat) (x y : Nat) : Prop := y < 8 ∧ dg a y = x
theorem bk_enc {a : Nat} (ha : isP a) {f : Nat → Nat} (hf : ∀ x, x < 8 → f x < 8 ∧ dg a (f x) = x) : encf (fun x => f x % 8) 8 = piv a := by
  have h8 : ∀ x, f x % 8 < 8 := fun x => Nat.mod_lt _ (by decide)
  refine pinv_u ha ⟨enc_lt h8 8, fun x hx => ?_⟩ (piv_ok ha)
  have h1 := dg_lt a x
  have h2 : dg (encf (fun x => f x % 8) 8) (dg a x) = f (dg a x) % 8 := enc_dg h8 8 (dg a x) h1
  obtain ⟨h3, h4⟩ := hf (dg a x) h1
  rw [h2, Nat.mod_eq_of_lt h3]
  exact ha.2 _ h3 _ hx h4
theorem enc_cg {f f' : Nat → Nat} : ∀ n, (∀ x, x < n → f x = f' x) → encf f n = encf f' n
  | 0, _ => rfl
  | n + 1, h => by
    show encf f n * 8 + f n = encf f' n * 8 + f' n
    rw [enc_cg n (fun x hx => h x (by omega)), h n (Nat.lt_succ_self n)]

set_option maxHeartbeats 4000000 in
set_option maxRecDepth 100000 in
theorem c_Mo_inverted (l : Launch) (D : va_G) (E : sx_E) (B : Nat) (A : Nat → Prop) (hB : 11 ≤ B) {a : Nat} (ha : isP a) (w : sx_M) : sM l D E B A yMo_inverted prog_9_method_4_code 4 (some .int) 1 21 [.inl (nI a)] w (fun r w' => r = some (.inl (nI (piv a))) ∧ w' = w) := by
  refine sx_m0 (ls := lMo_inverted) (cs := csAll) (by decide +kernel) kMo_inverted (hMo_inverted l D E B A hB) (by simp) (fun w' h => by cases h.1) ?_
  intro Z hZ
  have ha8 := ha.1
  have loop : ∀ n m (f : Nat → Nat), n + m = 8 → (∀ x, x < m → f x < 8 ∧ dg a (f x) = x) → ∀ x3, Z 4 [some (.inl (nI a)), some (.inl (nI (encf (fun x => f x % 8) m))), some (.inl (nI m)), x3] [] w := by
    intro n
    induction n with
    | zero =>
      intro m f hm hf x3
      have hm8 : m = 8 := by omega
      subst hm8
      refine z_iload_n hZ gMo_inverted_4 rfl ?_
      refine z_bipush hZ gMo_inverted_5 _ i8 ?_
      refine z_cmpge hZ gMo_inverted_7 (fun c7 => ?_) (fun c7 => absurd (nI_le (Nat.le_refl 8) (by decide)) c7)
      refine z_iload_n hZ gMo_inverted_46 rfl ?_
      refine z_iret hZ gMo_inverted_47 ?_
      exact ⟨by rw [bk_enc ha hf], rfl⟩
    | succ n ih =>
      intro m f hm hf x3
      have hm8 : m < 8 := by omega
      have fin : ∀ y, y < 8 → dg a y = m → Z 33 [some (.inl (nI a)), some (.inl (nI (encf (fun x => f x % 8) m))), some (.inl (nI m)), some (.inl (nI y))] [] w := by
        intro y hy hay
        refine z_bipush hZ gMo_inverted_33 _ rfl ?_
        refine z_iload_n hZ gMo_inverted_35 rfl ?_
        refine z_imul hZ gMo_inverted_36 _ rfl ?_
        refine z_iload_n hZ gMo_inverted_37 rfl ?_
        refine z_iadd hZ gMo_inverted_38 _ nI_m8 ?_
        refine z_istore_n hZ gMo_inverted_39 rfl ?_
        refine z_iinc hZ gMo_inverted_40 rfl _ (i1 m) rfl ?_
        refine z_goto hZ gMo_inverted_43 ?_
        have h9 := ih (m + 1) (va_up f m y) (by omega) (fun x hx => by
          by_cases e : x = m
          · subst e; rw [va_up_self]; exact ⟨hy, hay⟩
          · rw [va_up_ne _ _ e]; exact hf x (by omega)) (some (.inl (nI y)))
        have e9 : encf (fun x => va_up f m y x % 8) (m + 1) = encf (fun x => f x % 8) m * 8 + y := by
          show encf (fun x => va_up f m y x % 8) m * 8 + va_up f m y m % 8 = _
          rw [va_up_self, Nat.mod_eq_of_lt hy, enc_cg (f' := fun x => f x % 8) m (fun x hx => by rw [va_up_ne _ _ (by omega)])]
        rw [e9] at h9
        exact h9
      have inner : ∀ q y, q + y = 7 → (∀ u, u < y → dg a u ≠ m) → Z 12 [some (.inl (nI a)), some (.inl (nI (encf (fun x => f x % 8) m))), some (.inl (nI m)), some (.inl (nI y))] [] w := by
        intro q
        induction q with
        | zero =>
          intro y hy hno
          have e7 : y = 7 := by omega
          subst e7
          refine z_iload_n hZ gMo_inverted_12 rfl ?_
          refine z_bipush hZ gMo_inverted_13 _ i7 ?_
          refine z_cmpge hZ gMo_inverted_15 (fun c15 => ?_) (fun c15 => absurd (nI_le (Nat.le_refl 7) (by decide)) c15)
          obtain ⟨u, hu, hau⟩ := isP_on ha hm8
          have e9 : u = 7 := by
            by_cases h9 : u < 7
            · exact absurd hau (hno u h9)
            · omega
          subst e9
          exact fin 7 (by decide) hau
        | succ q ihq =>
          intro y hy hno
          have hy8 : y < 8 := by omega
          have hda := dg_lt a y
          refine z_iload_n hZ gMo_inverted_12 rfl ?_
          refine z_bipush hZ gMo_inverted_13 _ i7 ?_
          refine z_cmpge hZ gMo_inverted_15 (fun c15 => absurd c15 (nI_ge (by omega) (by decide))) (fun c15 => ?_)
          refine z_iload_n hZ gMo_inverted_18 rfl ?_
          refine z_iload_n hZ gMo_inverted_19 rfl ?_
          refine z_cs hZ gMo_inverted_20 rfl rfl (Nat.le_of_ble_eq_true rfl) (Nat.le_of_ble_eq_true rfl) (fun l9 D E B A hB => c_Mo_image l9 D E B A (x := nI a) (m := y) hy8 _) (fun r20 w20 p20 => ?_)
          obtain ⟨rfl, rfl⟩ := p20
          rw [im_dg ha8 hy8]
          show Z (20 + 3) _ (.inl (nI (dg a y)) :: []) _
          refine z_iload_n hZ gMo_inverted_23 rfl ?_
          refine z_cmpeq hZ gMo_inverted_24 (fun c24 => ?_) (fun c24 => ?_)
          · have ct24 := c24
            have e9 := (nI_eq (by omega) (by omega)).mp c24
            exact fin y hy8 e9
          · have cf24 := c24
            refine z_iinc hZ gMo_inverted_27 rfl _ (i1 y) rfl ?_
            refine z_goto hZ gMo_inverted_30 ?_
            exact ihq (y + 1) (by omega) (fun u hu he => by
              by_cases e : u = y
              · subst e; exact cf24 (by rw [he])
              · exact hno u (by omega) he)
      refine z_iload_n hZ gMo_inverted_4 rfl ?_
      refine z_bipush hZ gMo_inverted_5 _ i8 ?_
      refine z_cmpge hZ gMo_inverted_7 (fun c7 => absurd c7 (nI_ge hm8 (by decide))) (fun c7 => ?_)
      refine z_iconst hZ gMo_inverted_10 _ i0 ?_
      refine z_istore_n hZ gMo_inverted_11 rfl ?_
      exact inner 7 0 rfl (fun u hu => absurd hu (Nat.not_lt_zero u))
  refine z_iconst hZ gMo_inverted_0 _ i0 ?_
  refine z_istore_n hZ gMo_inverted_1 rfl ?_
  refine z_iconst hZ gMo_inverted_2 _ i0 ?_
  refine z_istore_n hZ gMo_inverted_3 rfl ?_
  exact loop 8 0 (fun _ => 0) rfl (fun x hx => absurd hx (Nat.not_lt_zero x)) _

set_option maxHeartbeats 4000000 in
set_option maxRecDepth 100000 in
theorem c_Mo_isPermutation (l : Launch) (D : va_G) (E : sx_E) (B : Nat) (A : Nat → Prop) (hB : 11 ≤ B) (x : Int32) (w : sx_M) : sM l D E B A yMo_isPermutation prog_9_method_5_code 3 (some .boolean) 1 21 [.inl x] w (fun r w' => ans r (isC x) ∧ w' = w) := by
  refine sx_m0 (ls := lMo_isPermutation) (cs := csAll) (by decide +kernel) kMo_isPermutation (hMo_isPermutation l D E B A hB) (by simp) ans_rt ?_
  intro Z hZ
  have fin : ∀ (v : Int32) , (∀ c, c < 8 ^ 8 → x = nI c → v = nI (msk c 8)) → ∀ x2, Z 26 [some (.inl x), some (.inl v), x2] [] w := by
    intro v hv x2
    refine z_iload_n hZ gMo_isPermutation_26 rfl ?_
    refine z_iflt hZ gMo_isPermutation_27 (fun c27 => ?_) (fun c27 => ?_)
    · have ct27 := c27
      refine z_iconst hZ gMo_isPermutation_47 _ rfl ?_
      refine z_iret hZ gMo_isPermutation_48 ?_
      first | exact ⟨Or.inr ⟨rfl, isC_neg ct27⟩, rfl⟩ | exact ⟨Or.inr ⟨rfl, by rw [hx]; exact isC_big hc hc8⟩, rfl⟩ | exact ⟨Or.inr ⟨rfl, by rw [hx]; exact fun h9 => h255 ((isC_iff hc8).mp h9)⟩, rfl⟩ | exact ⟨Or.inl ⟨rfl, by rw [hx]; exact (isC_iff hc8).mpr h255⟩, rfl⟩
    · have cf27 := c27
      refine z_iload_n hZ gMo_isPermutation_30 rfl ?_
      refine z_ldc hZ gMo_isPermutation_31 ?_
      refine z_cmpge hZ gMo_isPermutation_33 (fun c33 => ?_) (fun c33 => ?_)
      · have ct33 := c33
        obtain ⟨c, hc, hx⟩ := nI_of cf27
        have hc8 : ¬ c < 8 ^ 8 := fun h9 => i_nlt c33 (by rw [hx]; exact (nI_ltI hc (by decide)).mpr h9)
        refine z_iconst hZ gMo_isPermutation_47 _ rfl ?_
        refine z_iret hZ gMo_isPermutation_48 ?_
        first | exact ⟨Or.inr ⟨rfl, isC_neg ct27⟩, rfl⟩ | exact ⟨Or.inr ⟨rfl, by rw [hx]; exact isC_big hc hc8⟩, rfl⟩ | exact ⟨Or.inr ⟨rfl, by rw [hx]; exact fun h9 => h255 ((isC_iff hc8).mp h9)⟩, rfl⟩ | exact ⟨Or.inl ⟨rfl, by rw [hx]; exact (isC_iff hc8).mpr h255⟩, rfl⟩
      · have cf33 := c33
        obtain ⟨c, hc, hx⟩ := nI_of cf27
        have hc8 : c < 8 ^ 8 := Nat.lt_of_not_le fun h9 => c33 (by rw [hx]; exact nI_le h9 hc)
        have hv9 := hv c hc8 hx
        refine z_iload_n hZ gMo_isPermutation_36 rfl ?_
        refine z_sipush hZ gMo_isPermutation_37 _ i255 ?_
        refine z_cmpne hZ gMo_isPermutation_40 (fun c40 => ?_) (fun c40 => ?_)
        · have ct40 := c40
          have h255 : ¬ msk c 8 = 255 := fun h9 => c40 (by rw [hv9, h9])
          refine z_iconst hZ gMo_isPermutation_47 _ rfl ?_
          refine z_iret hZ gMo_isPermutation_48 ?_
          first | exact ⟨Or.inr ⟨rfl, isC_neg ct27⟩, rfl⟩ | exact ⟨Or.inr ⟨rfl, by rw [hx]; exact isC_big hc hc8⟩, rfl⟩ | exact ⟨Or.inr ⟨rfl, by rw [hx]; exact fun h9 => h255 ((isC_iff hc8).mp h9)⟩, rfl⟩ | exact ⟨Or.inl ⟨rfl, by rw [hx]; exact (isC_iff hc8).mpr h255⟩, rfl⟩
        · have cf40 := c40
          have h255 : msk c 8 = 255 := (nI_eq (Nat.lt_trans (msk_lt c 8) (by decide)) (by decide)).mp (by rw [← hv9]; exact c40)
          refine z_iconst hZ gMo_isPermutation_43 _ rfl ?_
          refine z_goto hZ gMo_isPermutation_44 ?_
          refine z_iret hZ gMo_isPermutation_48 ?_
          first | exact ⟨Or.inr ⟨rfl, isC_neg ct27⟩, rfl⟩ | exact ⟨Or.inr ⟨rfl, by rw [hx]; exact isC_big hc hc8⟩, rfl⟩ | exact ⟨Or.inr ⟨rfl, by rw [hx]; exact fun h9 => h255 ((isC_iff hc8).mp h9)⟩, rfl⟩ | exact ⟨Or.inl ⟨rfl, by rw [hx]; exact (isC_iff hc8).mpr h255⟩, rfl⟩
  have loop : ∀ n m (v : Int32), n + m = 8 → (∀ c, c < 8 ^ 8 → x = nI c → v = nI (msk c m)) → Z 4 [some (.inl x), some (.inl v), some (.inl (nI m))] [] w := by
    intro n
    induction n with
    | zero =>
      intro m v hm hv
      have hm8 : m = 8 := by omega
      subst hm8
      refine z_iload_n hZ gMo_isPermutation_4 rfl ?_
      refine z_bipush hZ gMo_isPermutation_5 _ i8 ?_
      refine z_cmpge hZ gMo_isPermutation_7 (fun c7 => ?_) (fun c7 => absurd (nI_le (Nat.le_refl 8) (by decide)) c7)
      exact fin v hv _
    | succ n ih =>
      intro m v hm hv
      have hm8 : m < 8 := by omega
      refine z_iload_n hZ gMo_isPermutation_4 rfl ?_
      refine z_bipush hZ gMo_isPermutation_5 _ i8 ?_
      refine z_cmpge hZ gMo_isPermutation_7 (fun c7 => absurd c7 (nI_ge hm8 (by decide))) (fun c7 => ?_)
      refine z_iload_n hZ gMo_isPermutation_10 rfl ?_
      refine z_iconst hZ gMo_isPermutation_11 _ rfl ?_
      refine z_iload_n hZ gMo_isPermutation_12 rfl ?_
      refine z_iload_n hZ gMo_isPermutation_13 rfl ?_
      refine z_cs hZ gMo_isPermutation_14 rfl rfl (Nat.le_of_ble_eq_true rfl) (Nat.le_of_ble_eq_true rfl) (fun l9 D E B A hB => c_Mo_image l9 D E B A (x := x) (m := m) hm8 _) (fun r14 w14 p14 => ?_)
      obtain ⟨rfl, rfl⟩ := p14
      show Z (14 + 3) _ (.inl (imO x m) :: .inl (Int32.ofInt 1) :: .inl v :: []) _
      refine z_ishl hZ gMo_isPermutation_17 _ rfl ?_
      refine z_ior hZ gMo_isPermutation_18 _ rfl ?_
      refine z_istore_n hZ gMo_isPermutation_19 rfl ?_
      refine z_iinc hZ gMo_isPermutation_20 rfl _ (i1 m) rfl ?_
      refine z_goto hZ gMo_isPermutation_23 ?_
      refine ih (m + 1) _ (by omega) (fun c hc hx => ?_)
      rw [hv c hc hx, hx, im_dg hc hm8, sh_1 _ (dg_lt c m), msk_s]
  refine z_iconst hZ gMo_isPermutation_0 _ rfl ?_
  refine z_istore_n hZ gMo_isPermutation_1 rfl ?_
  refine z_iconst hZ gMo_isPermutation_2 _ i0 ?_
  refine z_istore_n hZ gMo_isPermutation_3 rfl ?_
  exact loop 8 0 _ rfl (fun c hc hx => rfl)

-- the first place of x among the first n
def fp (f : Nat → Int32) (n : Nat) (x : Int32) (r : Option sx_V) : Prop := (∃ j, j < n ∧ f j = x ∧ (∀ u, u < j → f u ≠ x) ∧ r = some (.inl (nI j))) ∨ ((∀ u, u < n → f u ≠ x) ∧ r = some (.inl (-1)))

set_option maxHeartbeats 4000000 in
set_option maxRecDepth 100000 in
theorem c_Mo_find (l : Launch) (D : va_G) (E : sx_E) (B : Nat) (A : Nat → Prop) (hB : 11 ≤ B) {a : sA} {i : sA} {cnt : Nat} {x : Int32} (hc : i 0 3 = nI cnt) (hc1 : cnt ≤ 120) : sM l D E B A yMo_find prog_9_method_8_code 3 (some .int) 0 0 [.inr (0, 0), .inl x] (mW a i) (fun r w' => fp (a 2) cnt x r ∧ w' = mW a i) := by
  refine sx_m0 (ls := lMo_find) (cs := noCalls) (by decide +kernel) kMo_find (fun pc i h1 h2 => sx_nc (ls := lMo_find) (by decide) pc i h1 h2) (by simp) (fun w' h => (by rcases h.1 with ⟨_, _, _, _, h⟩ | ⟨_, h⟩ <;> cases h)) ?_
  intro Z hZ
  have loop : ∀ n m, n + m = cnt → (∀ u, u < m → a 2 u ≠ x) → Z 2 [some (.inr (0, 0)), some (.inl x), some (.inl (nI m))] [] (mW a i) := by
    intro n
    induction n with
    | zero =>
      intro m hm hno
      have e : m = cnt := by omega
      subst e
      refine z_iload_n hZ gMo_find_2 rfl ?_
      refine z_aload_n hZ gMo_find_3 rfl ?_
      refine z_get hZ gMo_find_4 (by omega) rfl (by rw [hc]; rfl) ?_
      refine z_cmpge hZ gMo_find_7 (fun c7 => ?_) (fun c7 => absurd (nI_le (Nat.le_refl m) (by omega)) c7)
      refine z_iconst hZ gMo_find_28 _ rfl ?_
      refine z_iret hZ gMo_find_29 ?_
      exact ⟨Or.inr ⟨hno, rfl⟩, rfl⟩
    | succ n ih =>
      intro m hm hno
      have em : (nI m).toNatClampNeg = m := nI_clamp (by omega)
      refine z_iload_n hZ gMo_find_2 rfl ?_
      refine z_aload_n hZ gMo_find_3 rfl ?_
      refine z_get hZ gMo_find_4 (by omega) rfl (by rw [hc]; rfl) ?_
      refine z_cmpge hZ gMo_find_7 (fun c7 => absurd c7 (nI_ge (by omega) (by omega))) (fun c7 => ?_)
      refine z_aload_n hZ gMo_find_10 rfl ?_
      refine z_get hZ gMo_find_11 (by omega) rfl rfl ?_
      refine z_iload_n hZ gMo_find_14 rfl ?_
      refine z_iald hZ gMo_find_15 (by omega) rfl (vp_in_nI (by omega) (by decide)) ?_
      rw [em]
      refine z_iload_n hZ gMo_find_16 rfl ?_
      refine z_cmpne hZ gMo_find_17 (fun c17 => ?_) (fun c17 => ?_)
      · have ct17 := c17
        refine z_iinc hZ gMo_find_22 rfl _ (i1 m) rfl ?_
        refine z_goto hZ gMo_find_25 ?_
        exact ih (m + 1) (by omega) (fun u hu he => by
          by_cases e : u = m
          · subst e; exact ct17 he
          · exact hno u (by omega) he)
      · have cf17 := c17
        have e17 : a 2 m = x := c17
        refine z_iload_n hZ gMo_find_20 rfl ?_
        refine z_iret hZ gMo_find_21 ?_
        exact ⟨Or.inl ⟨m, by omega, e17, hno, rfl⟩, rfl⟩
  refine z_iconst hZ gMo_find_0 _ i0 ?_
  refine z_istore_n hZ gMo_find_1 rfl ?_
  exact loop cnt 0 (by omega) (fun u hu => absurd hu (Nat.not_lt_zero u))

set_option maxHeartbeats 4000000 in
set_option maxRecDepth 100000 in
theorem c_Mo_add (l : Launch) (D : va_G) (E : sx_E) (B : Nat) (A : Nat → Prop) (hB : 11 ≤ B) {a : sA} {i : sA} {gc : Nat} {x : Int32} (hgc : gc ≤ 4) (hgi : i 0 0 = nI gc) : sM l D E B A yMo_add prog_9_method_6_code 2 (some .boolean) 2 43 [.inr (0, 0), .inl x] (mW a i) (fun r w' => ((gc < 4 ∧ isC x) ∧ r = some (.inl 1) ∧ ∃ i' : sA, w' = mW (va_up a 1 (upd (a 1) gc x)) i' ∧ (∀ q, q ≠ 0 → q ≠ 2 → i' 0 q = i 0 q) ∧ i' 0 0 = nI (gc + 1) ∧ i' 0 2 = 0) ∨ (¬ (gc < 4 ∧ isC x) ∧ r = some (.inl 0) ∧ w' = mW a i)) := by
  refine sx_m0 (ls := lMo_add) (cs := csAll) (by decide +kernel) kMo_add (hMo_add l D E B A hB) (by simp) (⟨fun w' h => (by rcases h with ⟨_, h, _⟩ | ⟨_, h, _⟩ <;> cases h), fun x9 w' h => (by rcases h with ⟨_, h, _⟩ | ⟨_, h, _⟩ <;> (injection h with h; injection h with h; subst h; simp))⟩) ?_
  intro Z hZ
  refine z_iload_n hZ gMo_add_0 rfl ?_
  refine z_cs hZ gMo_add_1 rfl rfl (Nat.le_of_ble_eq_true rfl) (Nat.le_of_ble_eq_true rfl) (fun l9 D E B A hB => c_Mo_isPermutation l9 D E B A hB x _) (fun r1 w1 p1 => ?_)
  obtain ⟨h1, rfl⟩ := p1
  rcases h1 with ⟨rfl, h1⟩ | ⟨rfl, h1⟩
  · show Z 4 _ (.inl 1 :: []) _
    refine z_ifeq hZ gMo_add_4 (fun c9 => absurd c9 (by decide)) (fun c9 => ?_)
    refine z_aload_n hZ gMo_add_7 rfl ?_
    refine z_get hZ gMo_add_8 (by omega) rfl (by rw [hgi]; rfl) ?_
    refine z_iconst hZ gMo_add_11 _ ic4 ?_
    refine z_cmpne hZ gMo_add_12 (fun c12 => ?_) (fun c12 => ?_)
    · have ct12 := c12
      have hx4 : gc < 4 := by
        by_cases e : gc = 4
        · subst e; exact absurd rfl c12
        · omega
      refine z_aload_n hZ gMo_add_17 rfl ?_
      refine z_get hZ gMo_add_18 (by omega) rfl rfl ?_
      refine z_aload_n hZ gMo_add_21 rfl ?_
      refine z_get hZ gMo_add_22 (by omega) rfl (by rw [hgi]; rfl) ?_
      refine z_iload_n hZ gMo_add_25 rfl ?_
      refine z_iastW hZ gMo_add_26 (by omega) rfl (vp_in_nI (by omega) (by decide)) mW_a1 ?_
      rw [nI_clamp (by omega)]
      refine z_aload_n hZ gMo_add_27 rfl ?_
      refine z_dup hZ gMo_add_28 ?_
      refine z_get hZ gMo_add_29 (by omega) rfl (by rw [hgi]; rfl) ?_
      refine z_iconst hZ gMo_add_32 _ rfl ?_
      refine z_iadd hZ gMo_add_33 _ (i1 gc) ?_
      refine z_putW hZ gMo_add_34 (by omega) rfl (Or.inl (by decide)) (Nat.le_of_ble_eq_true rfl) mW_i0_0 ?_
      refine z_aload_n hZ gMo_add_37 rfl ?_
      refine z_iconst hZ gMo_add_38 _ rfl ?_
      refine z_putW hZ gMo_add_39 (by omega) rfl (Or.inr (Or.inl rfl)) (Nat.le_of_ble_eq_true rfl) mW_i0_2 ?_
      refine z_iconst hZ gMo_add_42 _ rfl ?_
      refine z_iret hZ gMo_add_43 ?_
      first
      | (refine Or.inr ⟨fun h8 => hx4 h8.1, rfl, rfl⟩; done)
      | (refine Or.inl ⟨⟨hx4, h1⟩, rfl, _, rfl, fun q h0 h2 => ?_, ?_, ?_⟩
         · rw [va_up_self, va_up_ne _ _ h2, va_up_self, va_up_ne _ _ h0]
         · rw [va_up_self, va_up_ne _ _ (by decide), va_up_self, va_up_self]
         · rw [va_up_self, va_up_self]; rfl)
    · have cf12 := c12
      have hx4 : ¬ gc < 4 := fun h8 => by
        have h7 := (nI_eq (by omega) (by decide)).mp c12
        omega
      refine z_iconst hZ gMo_add_15 _ rfl ?_
      refine z_iret hZ gMo_add_16 ?_
      first
      | (refine Or.inr ⟨fun h8 => hx4 h8.1, rfl, rfl⟩; done)
      | (refine Or.inl ⟨⟨hx4, h1⟩, rfl, _, rfl, fun q h0 h2 => ?_, ?_, ?_⟩
         · rw [va_up_self, va_up_ne _ _ h2, va_up_self, va_up_ne _ _ h0]
         · rw [va_up_self, va_up_ne _ _ (by decide), va_up_self, va_up_self]
         · rw [va_up_self, va_up_self]; rfl)
  · show Z 4 _ (.inl 0 :: []) _
    refine z_ifeq hZ gMo_add_4 (fun c9 => ?_) (fun c9 => absurd rfl c9)
    refine z_iconst hZ gMo_add_15 _ rfl ?_
    refine z_iret hZ gMo_add_16 ?_
    exact Or.inr ⟨fun h8 => h1 h8.2, rfl, rfl⟩

set_option maxHeartbeats 4000000 in
set_option maxRecDepth 100000 in
theorem c_Mo_clear (l : Launch) (D : va_G) (E : sx_E) (B : Nat) (A : Nat → Prop) (hB : 11 ≤ B) {a : sA} {i : sA} : sM l D E B A yMo_clear prog_9_method_7_code 1 none 0 0 [.inr (0, 0)] (mW a i) (fun r w' => r = none ∧ ∃ i' : sA, w' = mW a i' ∧ (∀ q, q ≠ 0 → q ≠ 2 → i' 0 q = i 0 q) ∧ i' 0 0 = nI 0 ∧ i' 0 2 = 0) := by
  refine sx_m0 (ls := lMo_clear) (cs := noCalls) (by decide +kernel) kMo_clear (fun pc i h1 h2 => sx_nc (ls := lMo_clear) (by decide) pc i h1 h2) (by simp) (fun x w' h => by cases h.1) ?_
  intro Z hZ
  refine z_aload_n hZ gMo_clear_0 rfl ?_
  refine z_iconst hZ gMo_clear_1 _ rfl ?_
  refine z_putW hZ gMo_clear_2 (by omega) rfl (Or.inl (by decide)) (Nat.le_of_ble_eq_true rfl) mW_i0_0 ?_
  refine z_aload_n hZ gMo_clear_5 rfl ?_
  refine z_iconst hZ gMo_clear_6 _ rfl ?_
  refine z_putW hZ gMo_clear_7 (by omega) rfl (Or.inr (Or.inl rfl)) (Nat.le_of_ble_eq_true rfl) mW_i0_2 ?_
  refine z_vret hZ gMo_clear_10 ?_
  refine ⟨rfl, _, rfl, fun q h0 h2 => ?_, ?_, ?_⟩
  · rw [va_up_self, va_up_ne _ _ h2, va_up_self, va_up_ne _ _ h0]
  · rw [va_up_self, va_up_ne _ _ (by decide), va_up_self, va_up_self]; rfl
  · rw [va_up_self, va_up_self]; rfl

