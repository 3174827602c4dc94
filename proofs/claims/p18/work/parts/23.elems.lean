set_option maxHeartbeats 4000000 in
set_option maxRecDepth 100000 in
theorem c_El_firstNotBelow (l : Launch) (D : va_G) (E : sx_E) (B : Nat) (A : Nat → Prop) (hB : 29 ≤ B) {a : sA} {g : sG} {i : sA} {cnt : Nat} (hc : i 2 2 = nI cnt) (hcn : cnt ≤ 120) (hs : inc (a 3) cnt) (x : Int32) : sM l D E B A yEl_firstNotBelow prog_5_method_5_code 4 (some .int) 0 0 [.inr (2, 0), .inl x] (cW a g i) (fun r w' => r = some (.inl (nI (kf (a 3) x cnt))) ∧ w' = cW a g i) := by
  refine sx_m0 (ls := lEl_firstNotBelow) (cs := noCalls) (by decide +kernel) kEl_firstNotBelow (fun pc i h1 h2 => sx_nc (ls := lEl_firstNotBelow) (by decide) pc i h1 h2) (by simp) (fun w' h => by cases h.1) ?_
  intro Z hZ
  have hK := kf_le (a 3) x cnt
  generalize hKe : kf (a 3) x cnt = K at hK
  have h1 : ∀ j, j < K → a 3 j < x := by rw [← hKe]; exact kf_lo x cnt hs
  have h2 : ∀ j, K ≤ j → j < cnt → ¬ a 3 j < x := by rw [← hKe]; exact kf_hi x cnt
  have loop : ∀ n m b, n + m = 7 → b ≤ K → K < b + 128 / 2 ^ m → Z 5 [some (.inr (2, 0)), some (.inl x), some (.inl (nI b)), some (.inl (nI (64 / 2 ^ m)))] [] (cW a g i) := by
    intro n
    induction n with
    | zero =>
      intro m b hm hb hb2
      have e : m = 7 := by omega
      subst e
      have e2 : b = K := by
        have : (128 : Nat) / 2 ^ 7 = 1 := by decide
        omega
      subst e2
      refine z_iload_n hZ gEl_firstNotBelow_5 rfl ?_
      refine z_ifle hZ gEl_firstNotBelow_6 (fun c6 => ?_) (fun c6 => absurd (show nI (64 / 2 ^ 7) ≤ 0 by decide +kernel) c6)
      refine z_iload_n hZ gEl_firstNotBelow_44 rfl ?_
      refine z_iret hZ gEl_firstNotBelow_45 ?_
      exact ⟨by rw [hKe], rfl⟩
    | succ n ih =>
      intro m b hm hb hb2
      have hm7 : m < 7 := by omega
      have hp : ∀ m, m < 7 → 0 < 64 / 2 ^ m ∧ 64 / 2 ^ m ≤ 64 ∧ 128 / 2 ^ m = 2 * (64 / 2 ^ m) ∧ 64 / 2 ^ m / 2 = 64 / 2 ^ (m + 1) ∧ 128 / 2 ^ (m + 1) = 64 / 2 ^ m := by decide
      obtain ⟨p1, p2, p3, p4, p5⟩ := hp m hm7
      generalize 64 / 2 ^ m = t at *
      have hd : nI t / Int32.ofInt 2 = nI (64 / 2 ^ (m + 1)) := by rw [ic2, pk_div (by omega) (by decide) (by decide), p4]
      refine z_iload_n hZ gEl_firstNotBelow_5 rfl ?_
      refine z_ifle hZ gEl_firstNotBelow_6 (fun c6 => absurd c6 (nI_nle p1 (by omega))) (fun c6 => ?_)
      refine z_iload_n hZ gEl_firstNotBelow_9 rfl ?_
      refine z_iload_n hZ gEl_firstNotBelow_10 rfl ?_
      refine z_iadd hZ gEl_firstNotBelow_11 _ (nI_add b t) ?_
      refine z_aload_n hZ gEl_firstNotBelow_12 rfl ?_
      refine z_get hZ gEl_firstNotBelow_13 (by omega) rfl (by rw [hc]; rfl) ?_
      refine z_cmpgt hZ gEl_firstNotBelow_16 (fun c16 => ?_) (fun c16 => ?_)
      · have ct16 := c16
        have hgt : cnt < b + t := (nI_ltI (by omega) (by omega)).mp ct16
        refine z_iload_n hZ gEl_firstNotBelow_37 rfl ?_
        refine z_iconst hZ gEl_firstNotBelow_38 _ rfl ?_
        refine z_idiv hZ gEl_firstNotBelow_39 (by decide) _ hd ?_
        refine z_istore_n hZ gEl_firstNotBelow_40 rfl ?_
        refine z_goto hZ gEl_firstNotBelow_41 ?_
        first | exact ih (m + 1) b (by omega) hb (by omega) | exact ih (m + 1) (b + t) (by omega) hlt (by omega)
      · have cf16 := c16
        have hle : b + t ≤ cnt := Nat.not_lt.mp fun h9 => cf16 ((nI_ltI (by omega) (by omega)).mpr h9)
        refine z_aload_n hZ gEl_firstNotBelow_19 rfl ?_
        refine z_get hZ gEl_firstNotBelow_20 (by omega) rfl rfl ?_
        refine z_iload_n hZ gEl_firstNotBelow_23 rfl ?_
        refine z_iload_n hZ gEl_firstNotBelow_24 rfl ?_
        refine z_iadd hZ gEl_firstNotBelow_25 _ (nI_add b t) ?_
        refine z_iconst hZ gEl_firstNotBelow_26 _ rfl ?_
        refine z_isub hZ gEl_firstNotBelow_27 _ (nI_sub1 (by omega)) ?_
        refine z_iald hZ gEl_firstNotBelow_28 (by omega) rfl (vp_in_nI (by omega) (by decide)) ?_
        refine z_iload_n hZ gEl_firstNotBelow_29 rfl ?_
        refine z_cmpge hZ gEl_firstNotBelow_30 (fun c30 => ?_) (fun c30 => ?_)
        · have ct30 := c30
          have hge : K ≤ b + t - 1 := Nat.not_lt.mp fun h9 => by
            have := h1 _ h9
            rw [nI_clamp (by omega)] at ct30
            rw [Int32.le_iff_toInt_le] at ct30
            rw [Int32.lt_iff_toInt_lt] at this
            omega
          refine z_iload_n hZ gEl_firstNotBelow_37 rfl ?_
          refine z_iconst hZ gEl_firstNotBelow_38 _ rfl ?_
          refine z_idiv hZ gEl_firstNotBelow_39 (by decide) _ hd ?_
          refine z_istore_n hZ gEl_firstNotBelow_40 rfl ?_
          refine z_goto hZ gEl_firstNotBelow_41 ?_
          first | exact ih (m + 1) b (by omega) hb (by omega) | exact ih (m + 1) (b + t) (by omega) hlt (by omega)
        · have cf30 := c30
          have hlt : b + t ≤ K := Nat.not_lt.mp fun h9 => by
            rw [nI_clamp (by omega)] at cf30
            exact h2 (b + t - 1) (by omega) (by omega) (by
              rw [Int32.lt_iff_toInt_lt]
              rw [Int32.le_iff_toInt_le] at cf30
              omega)
          refine z_iload_n hZ gEl_firstNotBelow_33 rfl ?_
          refine z_iload_n hZ gEl_firstNotBelow_34 rfl ?_
          refine z_iadd hZ gEl_firstNotBelow_35 _ (nI_add b t) ?_
          refine z_istore_n hZ gEl_firstNotBelow_36 rfl ?_
          refine z_iload_n hZ gEl_firstNotBelow_37 rfl ?_
          refine z_iconst hZ gEl_firstNotBelow_38 _ rfl ?_
          refine z_idiv hZ gEl_firstNotBelow_39 (by decide) _ hd ?_
          refine z_istore_n hZ gEl_firstNotBelow_40 rfl ?_
          refine z_goto hZ gEl_firstNotBelow_41 ?_
          first | exact ih (m + 1) b (by omega) hb (by omega) | exact ih (m + 1) (b + t) (by omega) hlt (by omega)
  refine z_iconst hZ gEl_firstNotBelow_0 _ rfl ?_
  refine z_istore_n hZ gEl_firstNotBelow_1 rfl ?_
  refine z_bipush hZ gEl_firstNotBelow_2 _ i64 ?_
  refine z_istore_n hZ gEl_firstNotBelow_4 rfl ?_
  exact loop 7 0 0 rfl (Nat.zero_le _) (by omega)

