-- ClassCharacters$Codes
def sh (m : Nat) : Int32 := Int32.ofInt (21 - 3 * (m : Int))
theorem sh_0 : (Int8.ofInt 21).toInt32 = sh 0 := by decide +kernel
theorem sh_s : ∀ m, m < 8 → sh m + Int32.ofInt (-3) = sh (m + 1) := by decide +kernel
theorem sh_n : ∀ m, m < 8 → ¬ sh m < 0 := by decide +kernel
theorem sh_8 : sh 8 < 0 := by decide +kernel
theorem sh_k : ∀ m, m < 8 → ((sh m &&& 31).toBitVec.smod 32).toNat = 21 - 3 * m := by decide +kernel
theorem sh_p : ∀ m, m < 8 → 2 ^ (21 - 3 * m) = 8 ^ (7 - m) := by decide +kernel
theorem sh_t : ∀ m, m < 8 → (Int8.ofInt 21).toInt32 - (Int32.ofInt 3) * nI m = sh m := by decide +kernel
theorem b7 : ((Int8.ofInt 7).toInt32).toBitVec.toNat = 2 ^ 3 - 1 := by decide +kernel
theorem dg_sh {a m : Nat} (ha : a < 8 ^ 8) (hm : m < 8) : (nI a >>> (sh m &&& 31)) &&& (Int8.ofInt 7).toInt32 = nI (dg a m) := by
  have h1 : a < 2 ^ 31 := Nat.lt_trans ha (by decide)
  rw [pk_shrN h1 _ _ (sh_k m hm), pk_andN (Nat.lt_of_le_of_lt (Nat.div_le_self _ _) (Nat.lt_trans h1 (by decide))) 3 b7, sh_p m hm]
  rfl
theorem or8 {c d : Nat} (hc : c < 8 ^ 7) (hd : d < 8) : (nI c <<< (Int32.ofInt 3 &&& 31)) ||| nI d = nI (c * 8 + d) := by
  have h0 : ((Int32.ofInt 3 &&& 31).toBitVec.smod 32).toNat = 3 := by decide +kernel
  have h1 : nI c <<< (Int32.ofInt 3 &&& 31) = nI (c * 2 ^ 3) := pk_shlN _ 3 h0 (by omega)
  rw [h1]
  have h2 : nI (c * 2 ^ 3) ||| nI d = nI (c * 2 ^ 3 ||| d) := by
    apply Int32.toBitVec_inj.mp
    apply BitVec.eq_of_toNat_eq
    rw [Int32.toBitVec_or, BitVec.toNat_or, pk_tn (by omega), pk_tn (by omega), pk_tn (Nat.or_lt_two_pow (by omega) (by omega))]
  rw [h2, Nat.mul_comm c, ← Nat.two_pow_add_eq_or_of_lt (show d < 2 ^ 3 from hd), Nat.mul_comm]
set_option maxHeartbeats 4000000 in
theorem enc_small {g : Nat → Nat} (hg : ∀ x, g x < 8) {m : Nat} (hm : m < 8) : encf g m < 8 ^ 7 := Nat.lt_of_lt_of_le (enc_lt hg m) (Nat.pow_le_pow_right (by decide) (by omega))
set_option maxHeartbeats 4000000 in
set_option maxRecDepth 100000 in
theorem c_Cd_product (l : Launch) (D : va_G) (E : sx_E) (B : Nat) (A : Nat → Prop) {a b : Nat} (ha : a < 8 ^ 8) (hb : b < 8 ^ 8) (w : sx_M) : sM l D E B A yCd_product prog_3_method_3_code 6 (some .int) 0 0 [.inl (nI a), .inl (nI b)] w (fun r w' => r = some (.inl (nI (pm a b))) ∧ w' = w) := by
  refine sx_m0 (ls := lCd_product) (cs := noCalls) (by decide) kCd_product (fun pc i h1 h2 => sx_nc (ls := lCd_product) (by decide) pc i h1 h2) (by simp) (fun w' h => by cases h.1) ?_
  intro Z hZ
  have loop : ∀ n m, n + m = 8 → ∀ x4 x5, Z 5 [some (.inl (nI a)), some (.inl (nI b)), some (.inl (nI (encf (fun x => dg b (dg a x)) m))), some (.inl (sh m)), x4, x5] [] w := by
    intro n
    induction n with
    | zero =>
      intro m hm x4 x5
      have hm8 : m = 8 := by omega
      subst hm8
      refine z_iload_n hZ gCd_product_5 rfl ?_
      refine z_iflt hZ gCd_product_6 (fun c6 => ?_) (fun c6 => absurd sh_8 c6)
      refine z_iload_n hZ gCd_product_44 rfl ?_
      refine z_iret hZ gCd_product_45 ?_
      exact ⟨rfl, rfl⟩
    | succ n ih =>
      intro m hm x4 x5
      have hm8 : m < 8 := by omega
      have hd := dg_lt a m
      refine z_iload_n hZ gCd_product_5 rfl ?_
      refine z_iflt hZ gCd_product_6 (fun c6 => absurd c6 (sh_n m hm8)) (fun c6 => ?_)
      refine z_iload_n hZ gCd_product_9 rfl ?_
      refine z_iload_n hZ gCd_product_10 rfl ?_
      refine z_ishr hZ gCd_product_11 _ rfl ?_
      refine z_bipush hZ gCd_product_12 _ rfl ?_
      refine z_iand hZ gCd_product_14 _ (dg_sh ha hm8) ?_
      refine z_istore hZ gCd_product_15 rfl ?_
      refine z_iload_n hZ gCd_product_17 rfl ?_
      refine z_bipush hZ gCd_product_18 _ rfl ?_
      refine z_iconst hZ gCd_product_20 _ rfl ?_
      refine z_iload hZ gCd_product_21 rfl ?_
      refine z_imul hZ gCd_product_23 _ rfl ?_
      refine z_isub hZ gCd_product_24 _ (sh_t _ hd) ?_
      refine z_ishr hZ gCd_product_25 _ rfl ?_
      refine z_bipush hZ gCd_product_26 _ rfl ?_
      refine z_iand hZ gCd_product_28 _ (dg_sh hb hd) ?_
      refine z_istore hZ gCd_product_29 rfl ?_
      refine z_iload_n hZ gCd_product_31 rfl ?_
      refine z_iconst hZ gCd_product_32 _ rfl ?_
      refine z_ishl hZ gCd_product_33 _ rfl ?_
      refine z_iload hZ gCd_product_34 rfl ?_
      refine z_ior hZ gCd_product_36 _ (or8 (enc_small (fun _ => dg_lt _ _) hm8) (dg_lt _ _)) ?_
      refine z_istore_n hZ gCd_product_37 rfl ?_
      refine z_iinc hZ gCd_product_38 rfl _ (sh_s m hm8) rfl ?_
      refine z_goto hZ gCd_product_41 ?_
      exact ih (m + 1) (by omega) _ _
  refine z_iconst hZ gCd_product_0 _ rfl ?_
  refine z_istore_n hZ gCd_product_1 rfl ?_
  refine z_bipush hZ gCd_product_2 _ sh_0 ?_
  refine z_istore_n hZ gCd_product_4 rfl ?_
  exact loop 8 0 rfl _ _

theorem nx_or {a b : Nat} (ha : a < 2 ^ 32) (hb : b < 2 ^ 32) : nI a ||| nI b = nI (a ||| b) := by
  apply Int32.toBitVec_inj.mp
  apply BitVec.eq_of_toNat_eq
  rw [Int32.toBitVec_or, BitVec.toNat_or, pk_tn ha, pk_tn hb, pk_tn (Nat.or_lt_two_pow ha hb)]
def msk (c : Nat) : Nat → Nat
  | 0 => 0
  | m + 1 => msk c m ||| 2 ^ dg c m
theorem msk_bit (c : Nat) : ∀ m y : Nat, (msk c m).testBit y = true ↔ ∃ j, j < m ∧ dg c j = y
  | 0, y => by simp [msk]
  | m + 1, y => by
    rw [msk, Nat.testBit_or, Bool.or_eq_true, msk_bit c m y, Nat.testBit_two_pow]
    constructor
    · rintro (⟨j, h1, h2⟩ | h)
      · exact ⟨j, by omega, h2⟩
      · exact ⟨m, by omega, of_decide_eq_true h⟩
    · rintro ⟨j, h1, h2⟩
      by_cases e : j = m
      · subst e; exact Or.inr (decide_eq_true h2)
      · exact Or.inl ⟨j, by omega, h2⟩
theorem msk_lt (c : Nat) : ∀ m : Nat, msk c m < 2 ^ 8
  | 0 => by simp [msk]
  | m + 1 => Nat.or_lt_two_pow (msk_lt c m) (Nat.pow_lt_pow_right (by decide) (dg_lt c m))
theorem msk_255 (c : Nat) : msk c 8 = 255 ↔ ∀ x, x < 8 → ∀ y, y < 8 → dg c x = dg c y → x = y := by
  constructor
  · intro h x hx y hy e
    refine Classical.byContradiction fun hne => ?_
    have h1 : List.range 8 ⊆ ((List.range 8).erase x).map (dg c) := fun z hz => by
      have hz8 := List.mem_range.mp hz
      have h2 : (msk c 8).testBit z = true := by
        rw [h]
        have : ∀ z, z < 8 → Nat.testBit 255 z = true := by decide
        exact this z hz8
      obtain ⟨j, hj, hjz⟩ := (msk_bit c 8 z).mp h2
      by_cases e2 : j = x
      · exact List.mem_map.mpr ⟨y, (List.nodup_range.mem_erase_iff).mpr ⟨fun e3 => hne e3.symm, List.mem_range.mpr hy⟩, by rw [← e, ← e2]; exact hjz⟩
      · exact List.mem_map.mpr ⟨j, (List.nodup_range.mem_erase_iff).mpr ⟨e2, List.mem_range.mpr hj⟩, hjz⟩
    have h3 := List.nodup_range.length_le_of_subset h1
    rw [List.length_map, List.length_erase, List.length_range] at h3
    simp [hx] at h3
  · intro h
    apply Nat.eq_of_testBit_eq
    intro y
    by_cases hy : y < 8
    · have h1 : (msk c 8).testBit y = true := by
        refine (msk_bit c 8 y).mpr ?_
        have h2 : isP (c % 8 ^ 8) := ⟨Nat.mod_lt _ (by decide), fun u hu v hv e => by
          have hd : ∀ z, z < 8 → dg (c % 8 ^ 8) z = dg c z := fun z hz => by
            unfold dg
            have e1 : 8 ^ 8 = 8 ^ (7 - z) * 8 ^ (z + 1) := by rw [← Nat.pow_add]; congr 1; omega
            rw [e1, Nat.mod_mul_right_div_self, Nat.pow_succ, Nat.mod_mul_left_mod]
          rw [hd u hu, hd v hv] at e
          exact h u hu v hv e⟩
        obtain ⟨x, hx, e⟩ := isP_on h2 hy
        refine ⟨x, hx, ?_⟩
        have hd : dg (c % 8 ^ 8) x = dg c x := by
          unfold dg
          have e1 : 8 ^ 8 = 8 ^ (7 - x) * 8 ^ (x + 1) := by rw [← Nat.pow_add]; congr 1; omega
          rw [e1, Nat.mod_mul_right_div_self, Nat.pow_succ, Nat.mod_mul_left_mod]
        rw [← hd]; exact e
      have h2 : ∀ z, z < 8 → Nat.testBit 255 z = true := by decide
      rw [h1, h2 y hy]
    · have h1 : msk c 8 < 2 ^ y := Nat.lt_of_lt_of_le (msk_lt c 8) (Nat.pow_le_pow_right (by decide) (by omega))
      have h2 : 255 < 2 ^ y := Nat.lt_of_lt_of_le (show 255 < 2 ^ 8 by decide) (Nat.pow_le_pow_right (by decide) (by omega))
      rw [Nat.testBit_lt_two_pow h1, Nat.testBit_lt_two_pow h2]
theorem sh_1 : ∀ d, d < 8 → Int32.ofInt 1 <<< (nI d &&& 31) = nI (2 ^ d) := by decide +kernel
theorem msk_s (c : Nat) (m : Nat) : nI (msk c m) ||| nI (2 ^ dg c m) = nI (msk c (m + 1)) := nx_or (Nat.lt_trans (msk_lt c m) (by decide)) (Nat.lt_trans (Nat.pow_lt_pow_right (by decide) (dg_lt c m)) (by decide))
theorem i255 : (Int16.ofInt 255).toInt32 = nI 255 := by decide +kernel
theorem lim_ok : (8 : Nat) ^ 8 = 16777216 := by decide
-- an int that is the code of a permutation
def isC (x : Int32) : Prop := ∃ c, isP c ∧ x = nI c
theorem isC_neg {x : Int32} (h : x < 0) : ¬ isC x := fun ⟨c, hc, e⟩ => by
  rw [e] at h
  exact nI_pos (Nat.lt_trans hc.1 (by decide)) h
theorem isC_big {c : Nat} (hc : c < 2 ^ 31) (h : ¬ c < 8 ^ 8) : ¬ isC (nI c) := fun ⟨d, hd, e⟩ => by
  have := (nI_eq hc (Nat.lt_trans hd.1 (by decide))).mp e
  rw [this] at h
  exact h hd.1
theorem isC_iff {c : Nat} (hc : c < 8 ^ 8) : isC (nI c) ↔ msk c 8 = 255 := by
  rw [msk_255]
  constructor
  · rintro ⟨d, hd, e⟩
    have := (nI_eq (Nat.lt_trans hc (by decide)) (Nat.lt_trans hd.1 (by decide))).mp e
    rw [this]; exact hd.2
  · intro h; exact ⟨c, ⟨hc, h⟩, rfl⟩
-- a boolean answer
def ans (r : Option sx_V) (P : Prop) : Prop := (r = some (.inl 1) ∧ P) ∨ (r = some (.inl 0) ∧ ¬ P)
theorem ans_rt {P : sx_M → Prop} {Q : sx_M → Prop} : sx_rt (some .boolean) (fun r w' => ans r (P w') ∧ Q w') := by
  refine ⟨fun w' h => ?_, fun x w' h => ?_⟩
  · have h1 : ans none (P w') := h.1
    rcases h1 with ⟨h2, _⟩ | ⟨h2, _⟩ <;> cases h2
  · have h1 : ans (some (.inl x)) (P w') := h.1
    rcases h1 with ⟨h2, _⟩ | ⟨h2, _⟩
    · right; cases h2; rfl
    · left; cases h2; rfl

set_option maxHeartbeats 4000000 in
set_option maxRecDepth 100000 in
theorem c_Cd_isPermutation (l : Launch) (D : va_G) (E : sx_E) (B : Nat) (A : Nat → Prop) (x : Int32) (w : sx_M) : sM l D E B A yCd_isPermutation prog_3_method_2_code 3 (some .boolean) 0 0 [.inl x] w (fun r w' => ans r (isC x) ∧ w' = w) := by
  refine sx_m0 (ls := lCd_isPermutation) (cs := noCalls) (by decide +kernel) kCd_isPermutation (fun pc i h1 h2 => sx_nc (ls := lCd_isPermutation) (by decide) pc i h1 h2) (by simp) ans_rt ?_
  intro Z hZ
  have loop : ∀ (c : Nat), c < 8 ^ 8 → x = nI c → ∀ n m, n + m = 8 → Z 17 [some (.inl x), some (.inl (nI (msk c m))), some (.inl (sh m))] [] w := by
    intro c hc hx n
    subst hx
    induction n with
    | zero =>
      intro m hm
      have hm8 : m = 8 := by omega
      subst hm8
      refine z_iload_n hZ gCd_isPermutation_17 rfl ?_
      refine z_iflt hZ gCd_isPermutation_18 (fun c18 => ?_) (fun c18 => absurd sh_8 c18)
      refine z_iload_n hZ gCd_isPermutation_38 rfl ?_
      refine z_sipush hZ gCd_isPermutation_39 _ i255 ?_
      refine z_cmpne hZ gCd_isPermutation_42 (fun c42 => ?_) (fun c42 => ?_)
      · have ct42 := c42
        refine z_iconst hZ gCd_isPermutation_49 _ rfl ?_
        refine z_iret hZ gCd_isPermutation_50 ?_
        have h9 := isC_iff hc
        first | exact ⟨Or.inr ⟨rfl, fun h => ct42 (by rw [h9.mp h])⟩, rfl⟩ | exact ⟨Or.inl ⟨rfl, h9.mpr ((nI_eq (Nat.lt_trans (msk_lt c 8) (by decide)) (by decide)).mp cf42)⟩, rfl⟩
      · have cf42 := c42
        refine z_iconst hZ gCd_isPermutation_45 _ rfl ?_
        refine z_goto hZ gCd_isPermutation_46 ?_
        refine z_iret hZ gCd_isPermutation_50 ?_
        have h9 := isC_iff hc
        first | exact ⟨Or.inr ⟨rfl, fun h => ct42 (by rw [h9.mp h])⟩, rfl⟩ | exact ⟨Or.inl ⟨rfl, h9.mpr ((nI_eq (Nat.lt_trans (msk_lt c 8) (by decide)) (by decide)).mp cf42)⟩, rfl⟩
    | succ n ih =>
      intro m hm
      have hm8 : m < 8 := by omega
      refine z_iload_n hZ gCd_isPermutation_17 rfl ?_
      refine z_iflt hZ gCd_isPermutation_18 (fun c18 => absurd c18 (sh_n m hm8)) (fun c18 => ?_)
      refine z_iload_n hZ gCd_isPermutation_21 rfl ?_
      refine z_iconst hZ gCd_isPermutation_22 _ rfl ?_
      refine z_iload_n hZ gCd_isPermutation_23 rfl ?_
      refine z_iload_n hZ gCd_isPermutation_24 rfl ?_
      refine z_ishr hZ gCd_isPermutation_25 _ rfl ?_
      refine z_bipush hZ gCd_isPermutation_26 _ rfl ?_
      refine z_iand hZ gCd_isPermutation_28 _ (dg_sh hc hm8) ?_
      refine z_ishl hZ gCd_isPermutation_29 _ (sh_1 _ (dg_lt c m)) ?_
      refine z_ior hZ gCd_isPermutation_30 _ (msk_s c m) ?_
      refine z_istore_n hZ gCd_isPermutation_31 rfl ?_
      refine z_iinc hZ gCd_isPermutation_32 rfl _ (sh_s m hm8) rfl ?_
      refine z_goto hZ gCd_isPermutation_35 ?_
      exact ih (m + 1) (by omega)
  refine z_iload_n hZ gCd_isPermutation_0 rfl ?_
  refine z_iflt hZ gCd_isPermutation_1 (fun c1 => ?_) (fun c1 => ?_)
  · have ct1 := c1
    refine z_iconst hZ gCd_isPermutation_10 _ rfl ?_
    refine z_iret hZ gCd_isPermutation_11 ?_
    first | exact ⟨Or.inr ⟨rfl, isC_neg ct1⟩, rfl⟩ | exact ⟨Or.inr ⟨rfl, by rw [hx]; exact isC_big hc hc8⟩, rfl⟩
  · have cf1 := c1
    refine z_iload_n hZ gCd_isPermutation_4 rfl ?_
    refine z_ldc hZ gCd_isPermutation_5 ?_
    refine z_cmplt hZ gCd_isPermutation_7 (fun c7 => ?_) (fun c7 => ?_)
    · have ct7 := c7
      have ⟨c, hc, hx⟩ := nI_of cf1
      have hc8 : c < 8 ^ 8 := by rw [hx] at ct7; exact (nI_ltI hc (by decide)).mp ct7
      refine z_iconst hZ gCd_isPermutation_12 _ rfl ?_
      refine z_istore_n hZ gCd_isPermutation_13 rfl ?_
      refine z_bipush hZ gCd_isPermutation_14 _ sh_0 ?_
      refine z_istore_n hZ gCd_isPermutation_16 rfl ?_
      exact loop c hc8 hx 8 0 rfl
    · have cf7 := c7
      have ⟨c, hc, hx⟩ := nI_of cf1
      have hc8 : ¬ c < 8 ^ 8 := fun h9 => cf7 (by rw [hx]; exact (nI_ltI hc (by decide)).mpr h9)
      refine z_iconst hZ gCd_isPermutation_10 _ rfl ?_
      refine z_iret hZ gCd_isPermutation_11 ?_
      first | exact ⟨Or.inr ⟨rfl, isC_neg ct1⟩, rfl⟩ | exact ⟨Or.inr ⟨rfl, by rw [hx]; exact isC_big hc hc8⟩, rfl⟩

def bk (a : Nat) : Nat → Nat
  | 0 => 0
  | m + 1 => bk a m ||| m * 8 ^ (7 - dg a m)
theorem dg_or (a b y : Nat) : dg (a ||| b) y = dg a y ||| dg b y := by
  unfold dg
  have e : 8 ^ (7 - y) = 2 ^ (3 * (7 - y)) := by rw [Nat.pow_mul]
  rw [e, Nat.or_div_two_pow, show (8 : Nat) = 2 ^ 3 from rfl, Nat.or_mod_two_pow]
theorem dg_one : ∀ y, y < 8 → ∀ z, z < 8 → ∀ v, v < 8 → dg (v * 8 ^ (7 - y)) z = if z = y then v else 0 := by decide +kernel
theorem bk_lt (a : Nat) : ∀ m, m ≤ 8 → bk a m < 2 ^ 24
  | 0, _ => by simp [bk]
  | m + 1, h => Nat.or_lt_two_pow (bk_lt a m (by omega)) (by
      have h1 : ∀ v, v < 8 → ∀ y, y < 8 → v * 8 ^ (7 - y) < 2 ^ 24 := by decide +kernel
      exact h1 m (by omega) _ (dg_lt a m))
theorem bk_0 {a : Nat} : ∀ m, m ≤ 8 → ∀ y, y < 8 → (∀ j, j < m → dg a j ≠ y) → dg (bk a m) y = 0
  | 0, _, y, _, _ => by simp [bk, dg]
  | m + 1, hm, y, hy, h => by
    rw [bk, dg_or, bk_0 m (by omega) y hy (fun j hj => h j (by omega)), dg_one _ (dg_lt a m) y hy m (by omega), if_neg (fun e => h m (by omega) e.symm)]
    rfl
theorem bk_d {a : Nat} (ha : isP a) : ∀ m, m ≤ 8 → ∀ j, j < m → dg (bk a m) (dg a j) = j
  | 0, _, j, h => absurd h (Nat.not_lt_zero j)
  | m + 1, hm, j, hj => by
    rw [bk, dg_or, dg_one _ (dg_lt a m) _ (dg_lt a j) m (by omega)]
    by_cases e : j = m
    · subst e
      rw [bk_0 j (by omega) _ (dg_lt a j) (fun i hi e2 => by have := ha.2 i (by omega) j (by omega) e2; omega), if_pos rfl, Nat.zero_or]
    · rw [bk_d ha m (by omega) j (by omega), if_neg (fun e2 => e (ha.2 j (by omega) m (by omega) e2)), Nat.or_zero]
def piv (a : Nat) : Nat := bk a 8
theorem piv_ok {a : Nat} (ha : isP a) : pinv a (piv a) := ⟨bk_lt a 8 (by decide), fun x hx => bk_d ha 8 (by decide) x hx⟩
theorem sh_2 : ∀ m, m < 8 → ∀ d, d < 8 → nI m <<< (sh d &&& 31) = nI (m * 8 ^ (7 - d)) := by decide +kernel
theorem bk_s (a : Nat) {m : Nat} (hm : m < 8) : nI (bk a m) ||| nI (m * 8 ^ (7 - dg a m)) = nI (bk a (m + 1)) := nx_or (Nat.lt_trans (bk_lt a m (by omega)) (by decide)) (by
  have h1 : ∀ v, v < 8 → ∀ y, y < 8 → v * 8 ^ (7 - y) < 2 ^ 32 := by decide +kernel
  exact h1 m hm _ (dg_lt a m))
theorem i7 : (Int8.ofInt 7).toInt32 = nI 7 := by decide +kernel
theorem i1 (m : Nat) : nI m + Int32.ofInt 1 = nI (m + 1) := nI_1 m

set_option maxHeartbeats 4000000 in
set_option maxRecDepth 100000 in
theorem c_Cd_inverse (l : Launch) (D : va_G) (E : sx_E) (B : Nat) (A : Nat → Prop) {a : Nat} (ha : isP a) (w : sx_M) : sM l D E B A yCd_inverse prog_3_method_4_code 4 (some .int) 0 0 [.inl (nI a)] w (fun r w' => r = some (.inl (nI (piv a))) ∧ w' = w) := by
  refine sx_m0 (ls := lCd_inverse) (cs := noCalls) (by decide +kernel) kCd_inverse (fun pc i h1 h2 => sx_nc (ls := lCd_inverse) (by decide) pc i h1 h2) (by simp) (fun w' h => by cases h.1) ?_
  intro Z hZ
  have loop : ∀ n m, n + m = 8 → ∀ x3, Z 4 [some (.inl (nI a)), some (.inl (nI (bk a m))), some (.inl (nI m)), x3] [] w := by
    intro n
    induction n with
    | zero =>
      intro m hm x3
      have hm8 : m = 8 := by omega
      subst hm8
      refine z_iload_n hZ gCd_inverse_4 rfl ?_
      refine z_bipush hZ gCd_inverse_5 _ i7 ?_
      refine z_cmpgt hZ gCd_inverse_7 (fun c7 => ?_) (fun c7 => absurd (show nI 7 < nI 8 by decide +kernel) c7)
      refine z_iload_n hZ gCd_inverse_39 rfl ?_
      refine z_iret hZ gCd_inverse_40 ?_
      exact ⟨rfl, rfl⟩
    | succ n ih =>
      intro m hm x3
      have hm8 : m < 8 := by omega
      have hd := dg_lt a m
      refine z_iload_n hZ gCd_inverse_4 rfl ?_
      refine z_bipush hZ gCd_inverse_5 _ i7 ?_
      refine z_cmpgt hZ gCd_inverse_7 (fun c7 => absurd c7 (nI_nlt (by omega) (by decide))) (fun c7 => ?_)
      refine z_iload_n hZ gCd_inverse_10 rfl ?_
      refine z_bipush hZ gCd_inverse_11 _ rfl ?_
      refine z_iconst hZ gCd_inverse_13 _ rfl ?_
      refine z_iload_n hZ gCd_inverse_14 rfl ?_
      refine z_imul hZ gCd_inverse_15 _ rfl ?_
      refine z_isub hZ gCd_inverse_16 _ (sh_t _ hm8) ?_
      refine z_ishr hZ gCd_inverse_17 _ rfl ?_
      refine z_bipush hZ gCd_inverse_18 _ rfl ?_
      refine z_iand hZ gCd_inverse_20 _ (dg_sh ha.1 hm8) ?_
      refine z_istore_n hZ gCd_inverse_21 rfl ?_
      refine z_iload_n hZ gCd_inverse_22 rfl ?_
      refine z_iload_n hZ gCd_inverse_23 rfl ?_
      refine z_bipush hZ gCd_inverse_24 _ rfl ?_
      refine z_iconst hZ gCd_inverse_26 _ rfl ?_
      refine z_iload_n hZ gCd_inverse_27 rfl ?_
      refine z_imul hZ gCd_inverse_28 _ rfl ?_
      refine z_isub hZ gCd_inverse_29 _ (sh_t _ hd) ?_
      refine z_ishl hZ gCd_inverse_30 _ (sh_2 m hm8 _ hd) ?_
      refine z_ior hZ gCd_inverse_31 _ (bk_s a hm8) ?_
      refine z_istore_n hZ gCd_inverse_32 rfl ?_
      refine z_iinc hZ gCd_inverse_33 rfl _ (i1 m) rfl ?_
      refine z_goto hZ gCd_inverse_36 ?_
      exact ih (m + 1) (by omega) _
  refine z_iconst hZ gCd_inverse_0 _ rfl ?_
  refine z_istore_n hZ gCd_inverse_1 rfl ?_
  refine z_iconst hZ gCd_inverse_2 _ rfl ?_
  refine z_istore_n hZ gCd_inverse_3 rfl ?_
  exact loop 8 0 rfl _
