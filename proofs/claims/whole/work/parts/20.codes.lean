-- ClassCharacters$Codes
def sh (m : Nat) : Int32 := Int32.ofInt (21 - 3 * (m : Int))
theorem sh_0 : (Int8.ofInt 21).toInt32 = sh 0 := by decide +kernel
theorem sh_s : ∀ m, m < 8 → sh m + Int32.ofInt (-3) = sh (m + 1) := by decide +kernel
theorem sh_n : ∀ m, m < 8 → ¬ sh m < 0 := by decide +kernel
theorem sh_8 : sh 8 < 0 := by decide +kernel
theorem sh_k : ∀ m, m < 8 → ((sh m &&& 31).toBitVec.smod 32).toNat = 21 - 3 * m := by decide +kernel
theorem sh_p : ∀ m, m < 8 → 2 ^ (21 - 3 * m) = 8 ^ (7 - m) := by decide +kernel
theorem sh_t : ∀ m, m < 8 → (Int8.ofInt 21).toInt32 - (Int32.ofInt 3) * nI m = sh m := by decide +kernel
theorem b7 : ((Int8.ofInt 7).toInt32).toBitVec.toNat = 2 ^ 3 - 1 := by decide +kernel
theorem dg_sh {a m : Nat} (ha : a < 8 ^ 8) (hm : m < 8) : (nI a >>> (sh m &&& 31)) &&& (Int8.ofInt 7).toInt32 = nI (dg a m) := by
  have h1 : a < 2 ^ 31 := Nat.lt_trans ha (by decide)
  rw [pk_shrN h1 _ _ (sh_k m hm), pk_andN (Nat.lt_of_le_of_lt (Nat.div_le_self _ _) (Nat.lt_trans h1 (by decide))) 3 b7, sh_p m hm]
  rfl
theorem or8 {c d : Nat} (hc : c < 8 ^ 7) (hd : d < 8) : (nI c <<< (Int32.ofInt 3 &&& 31)) ||| nI d = nI (c * 8 + d) := by
  have h0 : ((Int32.ofInt 3 &&& 31).toBitVec.smod 32).toNat = 3 := by decide +kernel
  have h1 : nI c <<< (Int32.ofInt 3 &&& 31) = nI (c * 2 ^ 3) := pk_shlN _ 3 h0 (by omega)
  rw [h1]
  have h2 : nI (c * 2 ^ 3) ||| nI d = nI (c * 2 ^ 3 ||| d) := by
    apply Int32.toBitVec_inj.mp
    apply BitVec.eq_of_toNat_eq
    rw [Int32.toBitVec_or, BitVec.toNat_or, pk_tn (by omega), pk_tn (by omega), pk_tn (Nat.or_lt_two_pow (by omega) (by omega))]
  rw [h2, Nat.mul_comm c, ← Nat.two_pow_add_eq_or_of_lt (show d < 2 ^ 3 from hd), Nat.mul_comm]
set_option maxHeartbeats 4000000 in
abbrev noCalls : Nat → sx_S := fun _ => (0, fun _ _ => False, fun _ _ _ _ => True)
theorem enc_small {g : Nat → Nat} (hg : ∀ x, g x < 8) {m : Nat} (hm : m < 8) : encf g m < 8 ^ 7 := Nat.lt_of_lt_of_le (enc_lt hg m) (Nat.pow_le_pow_right (by decide) (by omega))
set_option maxHeartbeats 4000000 in
set_option maxRecDepth 100000 in
theorem c_Cd_product (l : Launch) (D : va_G) (E : sx_E) (B : Nat) (A : Nat → Prop) {a b : Nat} (ha : a < 8 ^ 8) (hb : b < 8 ^ 8) (w : sx_M) : sM l D E B A yCd_product prog_3_method_3_code 6 (some .int) 0 0 [.inl (nI a), .inl (nI b)] w (fun r w' => r = some (.inl (nI (pm a b))) ∧ w' = w) := by
  refine sx_m0 (ls := lCd_product) (cs := noCalls) (by decide) kCd_product (fun pc i h1 h2 => sx_nc (ls := lCd_product) (by decide) pc i h1 h2) (by simp) (fun w' h => by cases h.1) ?_
  intro Z hZ
  have loop : ∀ n m, n + m = 8 → ∀ x4 x5, Z 5 [some (.inl (nI a)), some (.inl (nI b)), some (.inl (nI (encf (fun x => dg b (dg a x)) m))), some (.inl (sh m)), x4, x5] [] w := by
    intro n
    induction n with
    | zero =>
      intro m hm x4 x5
      have hm8 : m = 8 := by omega
      subst hm8
      refine z_iload_n hZ gCd_product_5 rfl ?_
      refine z_iflt hZ gCd_product_6 (fun c6 => ?_) (fun c6 => absurd sh_8 c6)
      refine z_iload_n hZ gCd_product_44 rfl ?_
      refine z_iret hZ gCd_product_45 ?_
      exact ⟨rfl, rfl⟩
    | succ n ih =>
      intro m hm x4 x5
      have hm8 : m < 8 := by omega
      have hd := dg_lt a m
      refine z_iload_n hZ gCd_product_5 rfl ?_
      refine z_iflt hZ gCd_product_6 (fun c6 => absurd c6 (sh_n m hm8)) (fun c6 => ?_)
      refine z_iload_n hZ gCd_product_9 rfl ?_
      refine z_iload_n hZ gCd_product_10 rfl ?_
      refine z_ishr hZ gCd_product_11 _ rfl ?_
      refine z_bipush hZ gCd_product_12 _ rfl ?_
      refine z_iand hZ gCd_product_14 _ (dg_sh ha hm8) ?_
      refine z_istore hZ gCd_product_15 rfl ?_
      refine z_iload_n hZ gCd_product_17 rfl ?_
      refine z_bipush hZ gCd_product_18 _ rfl ?_
      refine z_iconst hZ gCd_product_20 _ rfl ?_
      refine z_iload hZ gCd_product_21 rfl ?_
      refine z_imul hZ gCd_product_23 _ rfl ?_
      refine z_isub hZ gCd_product_24 _ (sh_t _ hd) ?_
      refine z_ishr hZ gCd_product_25 _ rfl ?_
      refine z_bipush hZ gCd_product_26 _ rfl ?_
      refine z_iand hZ gCd_product_28 _ (dg_sh hb hd) ?_
      refine z_istore hZ gCd_product_29 rfl ?_
      refine z_iload_n hZ gCd_product_31 rfl ?_
      refine z_iconst hZ gCd_product_32 _ rfl ?_
      refine z_ishl hZ gCd_product_33 _ rfl ?_
      refine z_iload hZ gCd_product_34 rfl ?_
      refine z_ior hZ gCd_product_36 _ (or8 (enc_small (fun _ => dg_lt _ _) hm8) (dg_lt _ _)) ?_
      refine z_istore_n hZ gCd_product_37 rfl ?_
      refine z_iinc hZ gCd_product_38 rfl _ (sh_s m hm8) rfl ?_
      refine z_goto hZ gCd_product_41 ?_
      exact ih (m + 1) (by omega) _ _
  refine z_iconst hZ gCd_product_0 _ rfl ?_
  refine z_istore_n hZ gCd_product_1 rfl ?_
  refine z_bipush hZ gCd_product_2 _ sh_0 ?_
  refine z_istore_n hZ gCd_product_4 rfl ?_
  exact loop 8 0 rfl _ _
