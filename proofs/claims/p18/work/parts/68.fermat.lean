-- the reference: powers in the centre
def mdO (p k : Nat) (Am : Nat → Nat → Nat → Nat) (a i : sA) : Prop := isPr p ∧ p < 1092 ∧ k ≤ 16 ∧ i 0 11 = nI p ∧ i 0 6 = nI k ∧ (∀ x y l, Am x y l ≤ 120) ∧ ∀ x y l, x < 16 → y < 16 → l < 16 → a 6 ((x * 16 + y) * 16 + l) = nI (if l < k then Am x y l else 0)
theorem mdO_7 {p k : Nat} {Am : Nat → Nat → Nat → Nat} {a i : sA} (h : mdO p k Am a i) (f : Nat → Int32) : mdO p k Am (va_up a 7 f) i := by
  obtain ⟨h1, h2, h3, h4, h5, h6, h7⟩ := h
  exact ⟨h1, h2, h3, h4, h5, h6, by rw [va_up_ne _ _ (by decide)]; exact h7⟩
theorem i32 : (Int8.ofInt 32).toInt32 = nI 32 := by decide +kernel
theorem i33 : (Int8.ofInt 33).toInt32 = nI 33 := by decide +kernel
theorem i34 : (Int8.ofInt 34).toInt32 = nI 34 := by decide +kernel
theorem i35 : (Int8.ofInt 35).toInt32 = nI 35 := by decide +kernel
theorem i36 : (Int8.ofInt 36).toInt32 = nI 36 := by decide +kernel
theorem vc_cp {p k u v : Nat} {f f' : Nat → Int32} {x : Nat → Nat} (h : vcO p k f v x) (hc : ∀ i, i < 16 → f' (16 * u + i) = f (16 * v + i)) : vcO p k f' u x := fun i hi => by rw [hc i hi]; exact h i hi
theorem hp_mul {p k r : Nat} {W : Nat → Nat → Nat} {x y z : Nat → Nat} {h : Int} {m w : Nat} (hz : (p : Int) ∣ ht k W z r - ht k W x r * ht k W y r) (hx : (p : Int) ∣ ht k W x r - h ^ m) (hy : (p : Int) ∣ ht k W y r - h ^ w) : (p : Int) ∣ ht k W z r - h ^ (m + w) := by
  refine dv_tr hz ?_
  rw [Int.pow_add]
  obtain ⟨u, hu⟩ := hx
  obtain ⟨v, hv⟩ := hy
  exact ⟨u * ht k W y r + h ^ m * v, by
    have e1 : ht k W x r = h ^ m + p * u := by omega
    have e2 : ht k W y r = h ^ w + p * v := by omega
    rw [e1, e2]; grind⟩
theorem wd_odd {w e : Nat} (h : e % 2 = 1) : w + (w + w) * (e / 2) = w * e := by
  have e1 : e = 2 * (e / 2) + 1 := by omega
  have e2 : w * e = w * (2 * (e / 2) + 1) := by rw [← e1]
  rw [e2]; grind
theorem wd_even {w e : Nat} (h : ¬ e % 2 = 1) : (w + w) * (e / 2) = w * e := by
  have e1 : e = 2 * (e / 2) := by omega
  have e2 : w * e = w * (2 * (e / 2)) := by rw [← e1]
  rw [e2]; grind

theorem hlf (e : Nat) (h : e < 2 ^ 31) : nI e / nI 2 = nI (e / 2) := pk_div h (by decide) (by decide)

set_option maxHeartbeats 4000000 in
set_option maxRecDepth 100000 in
theorem c_Mo_fermat (l : Launch) (D : va_G) (E : sx_E) (B : Nat) (A : Nat → Prop) (hB : 11 ≤ B) {a : sA} {i : sA} {p k : Nat} {Am : Nat → Nat → Nat → Nat} {W : Nat → Nat → Nat} {b : Nat → Nat} (hmd : mdO p k Am a i) (hcm : cmO p k Am W) (hb : vcO p k (a 7) 34 b) : sM l D E B A yMo_fermat prog_9_method_22_code 3 none 1 28 [.inr (0, 0)] (mW a i) (fun r w' => r = none ∧ ∃ (f : Nat → Int32) (z : Nat → Nat), w' = mW (va_up a 7 f) i ∧ vcO p k f 35 z ∧ frC [32, 33, 35] (a 7) f ∧ ∀ r, r < k → (p : Int) ∣ ht k W z r - ht k W b r ^ (p - 1)) := by
  refine sx_m0 (ls := lMo_fermat) (cs := csAll) (by decide +kernel) kMo_fermat (hMo_fermat l D E B A hB) (by simp) (fun x w' h => by cases h.1) ?_
  intro Z hZ
  have hpr := hmd.1
  have hp1 := hpr.1
  have hp92 := hmd.2.1
  have h11 := hmd.2.2.2.1
  have loop : ∀ e, e < 2 ^ 31 → ∀ (v : Int32) (f : Nat → Int32) (y : Nat → Nat) (w : Nat) , vcO p k f 33 y → (∀ r, r < k → (p : Int) ∣ ht k W y r - ht k W b r ^ w) → frC [32, 33, 35] (a 7) f → ((v = 0 ∧ w * e = p - 1) ∨ (v = 1 ∧ ∃ (z : Nat → Nat) (m : Nat), vcO p k f 35 z ∧ (∀ r, r < k → (p : Int) ∣ ht k W z r - ht k W b r ^ m) ∧ m + w * e = p - 1)) → Z 17 [some (.inr (0, 0)), some (.inl v), some (.inl (nI e))] [] (mW (va_up a 7 f) i) := by
    intro e
    induction e using Nat.strongRecOn with
    | _ e ih0 =>
    intro he31 v f y w hy hyh hf hv
    have ih : ∀ e', e' < e → ∀ (v : Int32) (f : Nat → Int32) (y : Nat → Nat) (w : Nat) (_ : Unit), vcO p k f 33 y → (∀ r, r < k → (p : Int) ∣ ht k W y r - ht k W b r ^ w) → frC [32, 33, 35] (a 7) f → ((v = 0 ∧ w * e' = p - 1) ∨ (v = 1 ∧ ∃ (z : Nat → Nat) (m : Nat), vcO p k f 35 z ∧ (∀ r, r < k → (p : Int) ∣ ht k W z r - ht k W b r ^ m) ∧ m + w * e' = p - 1)) → Z 17 [some (.inr (0, 0)), some (.inl v), some (.inl (nI e'))] [] (mW (va_up a 7 f) i) := fun e' h v f y w _ => ih0 e' h (by omega) v f y w
    by_cases h0 : e = 0
    · subst h0
      refine z_iload_n hZ gMo_fermat_17 rfl ?_
      refine z_ifle hZ gMo_fermat_18 (fun c18 => ?_) (fun c18 => absurd (show nI 0 ≤ 0 by decide) c18)
      refine z_vret hZ gMo_fermat_88 ?_
      rcases hv with ⟨_, hv⟩ | ⟨_, z, m, q1, q2, q3⟩
      · rw [Nat.mul_zero] at hv; omega
      · rw [Nat.mul_zero, Nat.add_zero] at q3
        rw [q3] at q2
        exact ⟨rfl, f, z, rfl, q1, hf, q2⟩
    · have sqr : ∀ (v : Int32) (f : Nat → Int32), vcO p k f 33 y → frC [32, 33, 35] (a 7) f → ((v = 0 ∧ (w + w) * (e / 2) = p - 1) ∨ (v = 1 ∧ ∃ (z : Nat → Nat) (m : Nat), vcO p k f 35 z ∧ (∀ r, r < k → (p : Int) ∣ ht k W z r - ht k W b r ^ m) ∧ m + (w + w) * (e / 2) = p - 1)) → Z 63 [some (.inr (0, 0)), some (.inl v), some (.inl (nI e))] [] (mW (va_up a 7 f) i) := by
        intro v f hy hf hv
        refine z_aload_n hZ gMo_fermat_63 rfl ?_
        refine z_bipush hZ gMo_fermat_64 _ i32 ?_
        refine z_bipush hZ gMo_fermat_66 _ i33 ?_
        refine z_bipush hZ gMo_fermat_68 _ i33 ?_
        have hmd1 := mdO_7 hmd f
        refine z_cv hZ gMo_fermat_70 rfl rfl (Nat.le_of_ble_eq_true rfl) (Nat.le_of_ble_eq_true rfl) ⟨⟨0, _, _, rfl, by decide, rfl⟩, fun l9 D E B A hB => c_Mo_multiply l9 D E B A hB (to := 32) (u := 33) (v := 33) (x := y) (y := y) (Am := Am) (by decide) (by decide) (by decide) (by decide) (by decide) hmd1.1.1 hmd1.2.1 hmd1.2.2.1 hmd1.2.2.2.1 hmd1.2.2.2.2.1 (by rw [va_up_self]; exact hy) (by rw [va_up_self]; exact hy) hmd1.2.2.2.2.2.1 hmd1.2.2.2.2.2.2⟩ (fun r70 w70 p70 => ?_)
        obtain ⟨rfl, f1, z1, rfl, hz1, hf1, hz2⟩ := p70
        rw [va_up_self] at hf1
        rw [va_uu]
        show Z (70 + 3) _ [] _
        refine z_aload_n hZ gMo_fermat_73 rfl ?_
        refine z_bipush hZ gMo_fermat_74 _ i33 ?_
        refine z_bipush hZ gMo_fermat_76 _ i32 ?_
        refine z_cv hZ gMo_fermat_78 rfl rfl (Nat.le_of_ble_eq_true rfl) (Nat.le_of_ble_eq_true rfl) ⟨⟨0, _, _, rfl, by decide, rfl⟩, fun l9 D E B A hB => c_Mo_copy l9 D E B A hB (to := 33) (fr := 32) (by decide) (by decide)⟩ (fun r78 w78 p78 => ?_)
        obtain ⟨rfl, f2, rfl, hc2, hf2⟩ := p78
        rw [va_up_self] at hc2 hf2
        rw [va_uu]
        show Z (78 + 3) _ [] _
        refine z_iload_n hZ gMo_fermat_81 rfl ?_
        refine z_iconst hZ gMo_fermat_82 _ ic2 ?_
        refine z_idiv hZ gMo_fermat_83 (by decide) _ (hlf e he31) ?_
        refine z_istore_n hZ gMo_fermat_84 rfl ?_
        refine z_goto hZ gMo_fermat_85 ?_
        have hz3 : vcO p k f2 33 z1 := vc_cp hz1 hc2
        have hf3 : frC [32, 33, 35] (a 7) f2 := frC_tr hf (frC_tr (frC_mono hf1 (by simp)) (frC_mono hf2 (by simp)))
        have hy3 : ∀ r, r < k → (p : Int) ∣ ht k W z1 r - ht k W b r ^ (w + w) := fun r hr => hp_mul (mul_hat hcm hz2 hr) (hyh r hr) (hyh r hr)
        refine ih (e / 2) (by omega) v f2 z1 (w + w) () hz3 hy3 hf3 ?_
        rcases hv with ⟨rfl, hv⟩ | ⟨rfl, z, m, q1, q2, q3⟩
        · exact Or.inl ⟨rfl, hv⟩
        · exact Or.inr ⟨rfl, z, m, vcO_fr (vcO_fr q1 hf1 (by decide)) hf2 (by decide), q2, q3⟩
      refine z_iload_n hZ gMo_fermat_17 rfl ?_
      refine z_ifle hZ gMo_fermat_18 (fun c18 => absurd c18 (nI_nle (by omega) he31)) (fun c18 => ?_)
      refine z_iload_n hZ gMo_fermat_21 rfl ?_
      refine z_iconst hZ gMo_fermat_22 _ ic2 ?_
      refine z_irem hZ gMo_fermat_23 (by decide) _ (pk_rem he31 (by decide) (by decide)) ?_
      refine z_iconst hZ gMo_fermat_24 _ ic1 ?_
      refine z_cmpne hZ gMo_fermat_25 (fun c25 => ?_) (fun c25 => ?_)
      · have ct25 := c25
        have ho : ¬ e % 2 = 1 := fun h9 => c25 (by rw [h9])
        first
        | exact sqr v f hy hf (by
            rcases hv with ⟨h1, h2⟩ | ⟨h1, z, m, q1, q2, q3⟩
            · exact Or.inl ⟨h1, by rw [wd_even ho]; exact h2⟩
            · exact Or.inr ⟨h1, z, m, q1, q2, by rw [wd_even ho]; exact q3⟩)
        | exact sqr _ f2 (vcO_fr (vcO_fr hy hf1 (by decide)) hf2 (by decide)) (frC_tr hf (frC_tr (frC_mono hf1 (by simp)) (frC_mono hf2 (by simp)))) (Or.inr ⟨rfl, z1, m + w, vc_cp hz1 hc2, fun r hr => hp_mul (mul_hat hcm hz2 hr) (q2 r hr) (hyh r hr), by have := wd_odd (w := w) ho; omega⟩)
        | exact sqr _ f2 (vcO_fr hy hf2 (by decide)) (frC_tr hf (frC_mono hf2 (by simp))) (Or.inr ⟨rfl, y, w, vc_cp hy hc2, hyh, by rw [wd_odd ho]; exact h9⟩)
      · have cf25 := c25
        have ho : e % 2 = 1 := (nI_eq (by omega) (by decide)).mp c25
        refine z_iload_n hZ gMo_fermat_28 rfl ?_
        refine z_ifeq hZ gMo_fermat_29 (fun c29 => ?_) (fun c29 => ?_)
        · have ct29 := c29
          have h9 : w * e = p - 1 := by
            rcases hv with ⟨_, h9⟩ | ⟨h9, _⟩
            · exact h9
            · rw [h9] at c29; exact absurd c29 (by decide)
          refine z_aload_n hZ gMo_fermat_53 rfl ?_
          refine z_bipush hZ gMo_fermat_54 _ i35 ?_
          refine z_bipush hZ gMo_fermat_56 _ i33 ?_
          refine z_cv hZ gMo_fermat_58 rfl rfl (Nat.le_of_ble_eq_true rfl) (Nat.le_of_ble_eq_true rfl) ⟨⟨0, _, _, rfl, by decide, rfl⟩, fun l9 D E B A hB => c_Mo_copy l9 D E B A hB (to := 35) (fr := 33) (by decide) (by decide)⟩ (fun r58 w58 p58 => ?_)
          obtain ⟨rfl, f2, rfl, hc2, hf2⟩ := p58
          rw [va_up_self] at hc2 hf2
          rw [va_uu]
          show Z (58 + 3) _ [] _
          refine z_iconst hZ gMo_fermat_61 _ rfl ?_
          refine z_istore_n hZ gMo_fermat_62 rfl ?_
          first
          | exact sqr v f hy hf (by
              rcases hv with ⟨h1, h2⟩ | ⟨h1, z, m, q1, q2, q3⟩
              · exact Or.inl ⟨h1, by rw [wd_even ho]; exact h2⟩
              · exact Or.inr ⟨h1, z, m, q1, q2, by rw [wd_even ho]; exact q3⟩)
          | exact sqr _ f2 (vcO_fr (vcO_fr hy hf1 (by decide)) hf2 (by decide)) (frC_tr hf (frC_tr (frC_mono hf1 (by simp)) (frC_mono hf2 (by simp)))) (Or.inr ⟨rfl, z1, m + w, vc_cp hz1 hc2, fun r hr => hp_mul (mul_hat hcm hz2 hr) (q2 r hr) (hyh r hr), by have := wd_odd (w := w) ho; omega⟩)
          | exact sqr _ f2 (vcO_fr hy hf2 (by decide)) (frC_tr hf (frC_mono hf2 (by simp))) (Or.inr ⟨rfl, y, w, vc_cp hy hc2, hyh, by rw [wd_odd ho]; exact h9⟩)
        · have cf29 := c29
          obtain ⟨z, m, q1, q2, q3⟩ : ∃ (z : Nat → Nat) (m : Nat), vcO p k f 35 z ∧ (∀ r, r < k → (p : Int) ∣ ht k W z r - ht k W b r ^ m) ∧ m + w * e = p - 1 := by
            rcases hv with ⟨h9, _⟩ | ⟨_, h9⟩
            · exact absurd h9 c29
            · exact h9
          refine z_aload_n hZ gMo_fermat_32 rfl ?_
          refine z_bipush hZ gMo_fermat_33 _ i32 ?_
          refine z_bipush hZ gMo_fermat_35 _ i35 ?_
          refine z_bipush hZ gMo_fermat_37 _ i33 ?_
          have hmd1 := mdO_7 hmd f
          refine z_cv hZ gMo_fermat_39 rfl rfl (Nat.le_of_ble_eq_true rfl) (Nat.le_of_ble_eq_true rfl) ⟨⟨0, _, _, rfl, by decide, rfl⟩, fun l9 D E B A hB => c_Mo_multiply l9 D E B A hB (to := 32) (u := 35) (v := 33) (x := z) (y := y) (Am := Am) (by decide) (by decide) (by decide) (by decide) (by decide) hmd1.1.1 hmd1.2.1 hmd1.2.2.1 hmd1.2.2.2.1 hmd1.2.2.2.2.1 (by rw [va_up_self]; exact q1) (by rw [va_up_self]; exact hy) hmd1.2.2.2.2.2.1 hmd1.2.2.2.2.2.2⟩ (fun r39 w39 p39 => ?_)
          obtain ⟨rfl, f1, z1, rfl, hz1, hf1, hz2⟩ := p39
          rw [va_up_self] at hf1
          rw [va_uu]
          show Z (39 + 3) _ [] _
          refine z_aload_n hZ gMo_fermat_42 rfl ?_
          refine z_bipush hZ gMo_fermat_43 _ i35 ?_
          refine z_bipush hZ gMo_fermat_45 _ i32 ?_
          refine z_cv hZ gMo_fermat_47 rfl rfl (Nat.le_of_ble_eq_true rfl) (Nat.le_of_ble_eq_true rfl) ⟨⟨0, _, _, rfl, by decide, rfl⟩, fun l9 D E B A hB => c_Mo_copy l9 D E B A hB (to := 35) (fr := 32) (by decide) (by decide)⟩ (fun r47 w47 p47 => ?_)
          obtain ⟨rfl, f2, rfl, hc2, hf2⟩ := p47
          rw [va_up_self] at hc2 hf2
          rw [va_uu]
          show Z (47 + 3) _ [] _
          refine z_goto hZ gMo_fermat_50 ?_
          refine z_iconst hZ gMo_fermat_61 _ rfl ?_
          refine z_istore_n hZ gMo_fermat_62 rfl ?_
          first
          | exact sqr v f hy hf (by
              rcases hv with ⟨h1, h2⟩ | ⟨h1, z, m, q1, q2, q3⟩
              · exact Or.inl ⟨h1, by rw [wd_even ho]; exact h2⟩
              · exact Or.inr ⟨h1, z, m, q1, q2, by rw [wd_even ho]; exact q3⟩)
          | exact sqr _ f2 (vcO_fr (vcO_fr hy hf1 (by decide)) hf2 (by decide)) (frC_tr hf (frC_tr (frC_mono hf1 (by simp)) (frC_mono hf2 (by simp)))) (Or.inr ⟨rfl, z1, m + w, vc_cp hz1 hc2, fun r hr => hp_mul (mul_hat hcm hz2 hr) (q2 r hr) (hyh r hr), by have := wd_odd (w := w) ho; omega⟩)
          | exact sqr _ f2 (vcO_fr hy hf2 (by decide)) (frC_tr hf (frC_mono hf2 (by simp))) (Or.inr ⟨rfl, y, w, vc_cp hy hc2, hyh, by rw [wd_odd ho]; exact h9⟩)
  refine z_aload_n hZ gMo_fermat_0 rfl ?_
  refine z_bipush hZ gMo_fermat_1 _ i33 ?_
  refine z_bipush hZ gMo_fermat_3 _ i34 ?_
  refine z_cv hZ gMo_fermat_5 rfl rfl (Nat.le_of_ble_eq_true rfl) (Nat.le_of_ble_eq_true rfl) ⟨⟨0, _, _, rfl, by decide, rfl⟩, fun l9 D E B A hB => c_Mo_copy l9 D E B A hB (to := 33) (fr := 34) (by decide) (by decide)⟩ (fun r5 w5 p5 => ?_)
  obtain ⟨rfl, f2, rfl, hc2, hf2⟩ := p5
  show Z (5 + 3) _ [] _
  refine z_iconst hZ gMo_fermat_8 _ rfl ?_
  refine z_istore_n hZ gMo_fermat_9 rfl ?_
  refine z_aload_n hZ gMo_fermat_10 rfl ?_
  refine z_get hZ gMo_fermat_11 (by omega) rfl (by rw [h11]; rfl) ?_
  refine z_iconst hZ gMo_fermat_14 _ rfl ?_
  refine z_isub hZ gMo_fermat_15 _ (nI_sub1 (by omega)) ?_
  refine z_istore_n hZ gMo_fermat_16 rfl ?_
  exact loop (p - 1) (by omega) _ f2 b 1 (vc_cp hb hc2) (fun r _ => by rw [Int.pow_succ, Int.pow_zero, Int.one_mul, Int.sub_self]; exact Int.dvd_zero _) (frC_mono hf2 (by simp)) (Or.inl ⟨rfl, Nat.one_mul _⟩)

