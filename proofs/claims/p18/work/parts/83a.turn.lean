-- the law: one turn of its loop
section LTU
variable {p : Program} {l : Launch} {e : Env} {s : State} {m : MethodId} {below : List Frame} {meth : Method} {c : Code} {b L : Nat} {xs : Nat → Int32} {D : va_G} {E1 E2 : sx_E} {A0 A1 A2 : Nat → Prop} {N0 M0 : Nat}
variable {gen : Nat → Nat} {gc : Nat} {a : sA} {g : sG} {i a' i' : sA} {s9 : Nat → Nat} {n9 k9 : Nat} {kl re : Nat → Nat} {e9 p9 z9 : Nat} {W9 : Nat → Nat → Nat} {pl : Nat → Nat}
def cmpO (k : Nat) (a : sA) (g : sG) (_i a' : sA) (pl : Nat → Nat) : Prop := rwE k a g a' pl
theorem and31 (x : Int32) : ∃ v, v < 32 ∧ x &&& nI 31 = nI v := by
  have h31 : (nI 31).toBitVec.toNat = 31 := pk_tn (by decide)
  have hlt : (x &&& nI 31).toBitVec.toNat < 32 := by
    rw [Int32.toBitVec_and, BitVec.toNat_and, h31]
    exact Nat.lt_succ_of_le Nat.and_le_right
  refine ⟨(x &&& nI 31).toBitVec.toNat, hlt, ?_⟩
  apply Int32.toBitVec_inj.mp
  apply BitVec.eq_of_toNat_eq
  rw [pk_tn (by omega)]

set_option maxHeartbeats 4000000 in
set_option maxRecDepth 100000 in
theorem law_sw (hC : LC p s m meth c b L xs D E1 E2 A0 A1 A2 N0 M0) (hL : L ≤ 2048) {t : Nat} (ht : t + 3 < L) (hR : relO gen gc a g i a' i') (hq : ∀ (s9 : Nat → Nat) (n9 k9 : Nat) (kl re : Nat → Nat) (e9 p9 z9 : Nat) (W9 : Nat → Nat → Nat) (pl : Nat → Nat), rdO gen gc a g i a' i' s9 n9 k9 kl re e9 p9 z9 W9 pl → i 0 2 = 0 → cmpO k9 a g i a' pl) (kk : ∀ (gen : Nat → Nat) (gc : Nat) (a : sA) (g : sG) (i a' i' : sA), relO gen gc a g i a' i' → LW p l e s m below meth c b D E1 E2 A0 A1 A2 N0 M0 566 [] t (cW a g i) (mW a' i')) : LW p l e s m below meth c b D E1 E2 A0 A1 A2 N0 M0 26 [] t (cW a g i) (mW a' i') := by
  intro H locs ls hl h1 h2 h3 h4 h5
  have hx := hC.1.1
  have hb := hC.1.2.1
  have hR0 := hR
  obtain ⟨hG, hO, s9, n9, k9, kl, re, e9, p9, z9, W9, pl, hR⟩ := hR
  refine lv_aload_n hx hb dL_26 rfl (lv_at hl 3 rfl) ?_
  refine lv_iload_n hx hb dL_27 rfl (lv_at hl 0 rfl) ?_
  refine va_sld (A := A0) hx hb hC.1.2.2.2.2.2.2.1 hC.1.2.2.2.2.2.2.2.1 (fun h9 => by
    have := hC.2.2.2.2.1 b h9
    have h8 := hC.1.2.2.2.2.2.2.2.1
    omega) h5 (vp_in_nI (by omega) (by omega)) dL_28 ?_
  rw [nI_clamp (by omega)]
  refine lv_bipush hx hb dL_29 (show (Int8.ofInt 31).toInt32 = nI 31 by decide +kernel) ?_
  refine lv_iand hx hb dL_31 ?_
  obtain ⟨v, hv, ev⟩ := and31 (xs t)
  rw [ev]
  by_cases h20 : v < 20
  · have hor : v = 0 ∨ v = 1 ∨ v = 2 ∨ v = 3 ∨ v = 4 ∨ v = 5 ∨ v = 6 ∨ v = 7 ∨ v = 8 ∨ v = 9 ∨ v = 10 ∨ v = 11 ∨ v = 12 ∨ v = 13 ∨ v = 14 ∨ v = 15 ∨ v = 16 ∨ v = 17 ∨ v = 18 ∨ v = 19 := by omega
    rcases hor with rfl | rfl | rfl | rfl | rfl | rfl | rfl | rfl | rfl | rfl | rfl | rfl | rfl | rfl | rfl | rfl | rfl | rfl | rfl | rfl
    · exact lv_tableIn hx hb (tgt := 128) (off := 96) dL_32 (by decide +kernel) (by decide +kernel) (by decide +kernel) (by decide) (lc_add hC hL ht hG hO hR kk H locs ls hl h1 h2 h3 h4 h5)
    · exact lv_tableIn hx hb (tgt := 151) (off := 119) dL_32 (by decide +kernel) (by decide +kernel) (by decide +kernel) (by decide) (lc_clear hC hL ht hG hO hR kk H locs ls hl h1 h2 h3 h4 h5)
    · exact lv_tableIn hx hb (tgt := 162) (off := 130) dL_32 (by decide +kernel) (by decide +kernel) (by decide +kernel) (by decide) (lc_build hC hL ht hG hO hR kk H locs ls hl h1 h2 h3 h4 h5)
    · exact lv_tableIn hx hb (tgt := 175) (off := 143) dL_32 (by decide +kernel) (by decide +kernel) (by decide +kernel) (by decide) (lc_order hC hL ht hG hO hR kk H locs ls hl h1 h2 h3 h4 h5)
    · exact lv_tableIn hx hb (tgt := 188) (off := 156) dL_32 (by decide +kernel) (by decide +kernel) (by decide +kernel) (by decide) (lc_element hC hL ht hG hO hR kk H locs ls hl h1 h2 h3 h4 h5)
    · exact lv_tableIn hx hb (tgt := 211) (off := 179) dL_32 (by decide +kernel) (by decide +kernel) (by decide +kernel) (by decide) (lc_classOf hC hL ht hG hO hR kk H locs ls hl h1 h2 h3 h4 h5)
    · exact lv_tableIn hx hb (tgt := 234) (off := 202) dL_32 (by decide +kernel) (by decide +kernel) (by decide +kernel) (by decide) (lc_classes hC hL ht hG hO hR kk H locs ls hl h1 h2 h3 h4 h5)
    · exact lv_tableIn hx hb (tgt := 247) (off := 215) dL_32 (by decide +kernel) (by decide +kernel) (by decide +kernel) (by decide) (lc_size hC hL ht hG hO hR kk H locs ls hl h1 h2 h3 h4 h5)
    · exact lv_tableIn hx hb (tgt := 270) (off := 238) dL_32 (by decide +kernel) (by decide +kernel) (by decide +kernel) (by decide) (lc_least hC hL ht hG hO hR kk H locs ls hl h1 h2 h3 h4 h5)
    · exact lv_tableIn hx hb (tgt := 293) (off := 261) dL_32 (by decide +kernel) (by decide +kernel) (by decide +kernel) (by decide) (lc_power hC hL ht hG hO hR kk H locs ls hl h1 h2 h3 h4 h5)
    · exact lv_tableIn hx hb (tgt := 326) (off := 294) dL_32 (by decide +kernel) (by decide +kernel) (by decide +kernel) (by decide) (lc_constant hC hL ht hG hO hR kk H locs ls hl h1 h2 h3 h4 h5)
    · exact lv_tableIn hx hb (tgt := 369) (off := 337) dL_32 (by decide +kernel) (by decide +kernel) (by decide +kernel) (by decide) (lc_exponent hC hL ht hG hO hR kk H locs ls hl h1 h2 h3 h4 h5)
    · exact lv_tableIn hx hb (tgt := 382) (off := 350) dL_32 (by decide +kernel) (by decide +kernel) (by decide +kernel) (by decide) (lc_prime hC hL ht hG hO hR kk H locs ls hl h1 h2 h3 h4 h5)
    · exact lv_tableIn hx hb (tgt := 395) (off := 363) dL_32 (by decide +kernel) (by decide +kernel) (by decide +kernel) (by decide) (lc_root hC hL ht hG hO hR kk H locs ls hl h1 h2 h3 h4 h5)
    · exact lv_tableIn hx hb (tgt := 408) (off := 376) dL_32 (by decide +kernel) (by decide +kernel) (by decide +kernel) (by decide) (lc_degree hC hL ht hG hO hR kk H locs ls hl h1 h2 h3 h4 h5)
    · exact lv_tableIn hx hb (tgt := 431) (off := 399) dL_32 (by decide +kernel) (by decide +kernel) (by decide +kernel) (by decide) (lc_value hC hL ht hG hO hR kk H locs ls hl h1 h2 h3 h4 h5)
    · exact lv_tableIn hx hb (tgt := 464) (off := 432) dL_32 (by decide +kernel) (by decide +kernel) (by decide +kernel) (by decide) (lc_multiplicity hC hL ht hG hO hR (fun h9 => hq _ _ _ _ _ _ _ _ _ _ hR h9) kk H locs ls hl h1 h2 h3 h4 h5)
    · exact lv_tableIn hx hb (tgt := 507) (off := 475) dL_32 (by decide +kernel) (by decide +kernel) (by decide +kernel) (by decide) (lc_indicator hC hL ht hG hO hR kk H locs ls hl h1 h2 h3 h4 h5)
    · exact lv_tableIn hx hb (tgt := 530) (off := 498) dL_32 (by decide +kernel) (by decide +kernel) (by decide +kernel) (by decide) (lc_kernel hC hL ht hG hO hR kk H locs ls hl h1 h2 h3 h4 h5)
    · exact lv_tableIn hx hb (tgt := 553) (off := 521) dL_32 (by decide +kernel) (by decide +kernel) (by decide +kernel) (by decide) (lc_normals hC hL ht hG hO hR kk H locs ls hl h1 h2 h3 h4 h5)
  · refine lv_tableOut hx hb (tgt := 566) dL_32 (Or.inr ?_) (by decide) (kk _ _ _ _ _ _ _ hR0 H locs ls hl h1 h2 h3 h4 h5)
    rw [nI_toInt (by omega)]
    omega

theorem law_head (hC : LC p s m meth c b L xs D E1 E2 A0 A1 A2 N0 M0) (hL : L ≤ 2048) {t : Nat} (ht : t < 3000) {w1 w2 : sx_M} (k1 : t + 3 < L → LW p l e s m below meth c b D E1 E2 A0 A1 A2 N0 M0 26 [] t w1 w2) (k2 : LW p l e s m below meth c b D E1 E2 A0 A1 A2 N0 M0 572 [] t w1 w2) : LW p l e s m below meth c b D E1 E2 A0 A1 A2 N0 M0 18 [] t w1 w2 := by
  intro H locs ls hl h1 h2 h3 h4 h5
  have hx := hC.1.1
  have hb := hC.1.2.1
  refine lv_iload_n hx hb dL_18 rfl (lv_at hl 0 rfl) ?_
  refine lv_aload_n hx hb dL_19 rfl (lv_at hl 3 rfl) ?_
  refine va_slen (A := A0) hx hb hC.1.2.2.2.2.2.2.1 hC.1.2.2.2.2.2.2.2.1 (fun h9 => by
    have := hC.2.2.2.2.1 b h9
    have h8 := hC.1.2.2.2.2.2.2.2.1
    omega) h5 dL_20 ?_
  refine lv_iconst hx hb dL_21 ic4 ?_
  refine lv_isub hx hb dL_22 ?_
  have hs : (nI L - nI 4).toInt = (L : Int) - 4 := sub_int (by omega) (by decide)
  refine lv_icmp_gt hx hb (tgt := 572) dL_23 (by decide) (fun c9 => k2 H locs ls hl h1 h2 h3 h4 h5) (fun c9 => k1 ?_ H locs ls hl h1 h2 h3 h4 h5)
  refine Nat.lt_of_not_le fun h9 => c9 ?_
  rw [Int32.lt_iff_toInt_lt]
  show (nI L - nI 4).toInt < (nI t).toInt
  rw [hs, nI_toInt (by omega)]
  omega
theorem law_inc (hC : LC p s m meth c b L xs D E1 E2 A0 A1 A2 N0 M0) {t : Nat} {w1 w2 : sx_M} (k1 : LW p l e s m below meth c b D E1 E2 A0 A1 A2 N0 M0 18 [] (t + 4) w1 w2) : LW p l e s m below meth c b D E1 E2 A0 A1 A2 N0 M0 566 [] t w1 w2 := by
  intro H locs ls hl h1 h2 h3 h4 h5
  have hx := hC.1.1
  have hb := hC.1.2.1
  refine lv_iinc (k := 0) hx hb dL_566 hl rfl (show nI t + Int32.ofInt 4 = nI (t + 4) by rw [ic4, nI_add]) (by decide) rfl (fun ls' hl' => ?_)
  exact lv_goto hx hb (tgt := 18) dL_569 (by decide) (k1 H locs ls' hl' h1 h2 h3 h4 h5)
theorem law_end (hC : LC p s m meth c b L xs D E1 E2 A0 A1 A2 N0 M0) {t : Nat} {w1 w2 : sx_M} : LW p l e s m below meth c b D E1 E2 A0 A1 A2 N0 M0 572 [] t w1 w2 := by
  intro H locs ls hl h1 h2 h3 h4 h5
  have hx := hC.1.1
  have hb := hC.1.2.1
  refine va_forget (fun q hq => hC.2.2.2.2.1 _ (h5.2.2 q hq)) ?_
  refine W.widen (k := 600000) (n := 7302250) hC.2.2.2.2.2.2.2.2.1 hC.2.2.2.2.2.2.2.2.2 ?_
  refine lv_iconst hx hb dL_572 (show Int32.ofInt 1 = 1 by decide) ?_
  exact lw_ret hx hb hC.1.2.2.1 hC.1.2.2.2.2.2.2.2.2.1 dL_573
end LTU
