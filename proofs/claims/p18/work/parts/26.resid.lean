theorem pp_lt {p : Nat} (h : p * p < 2 ^ 31) : p < 2 ^ 16 := Nat.lt_of_not_le fun h9 => by
  have := Nat.mul_le_mul h9 h9
  omega
theorem mm_lt {p a b : Nat} (hpp : p * p < 2 ^ 31) (ha : a ≤ p) (hb : b ≤ p) : a * b ≤ p * p := Nat.mul_le_mul ha hb

set_option maxHeartbeats 4000000 in
set_option maxRecDepth 100000 in
theorem c_Re_times (l : Launch) (D : va_G) (E : sx_E) (B : Nat) (A : Nat → Prop) (hB : 29 ≤ B) {a : sA} {g : sG} {i : sA} {p : Nat} (hm : i 12 0 = nI p) (hp0 : 0 < p) (hpp : p * p < 2 ^ 31) {x y : Nat} (hxy : x * y < 2 ^ 31) : sM l D E B A yRe_times prog_6_method_6_code 3 (some .int) 0 0 [.inr (12, 0), .inl (nI x), .inl (nI y)] (cW a g i) (fun r w' => r = some (.inl (nI (x * y % p))) ∧ w' = cW a g i) := by
  refine sx_m0 (ls := lRe_times) (cs := noCalls) (by decide +kernel) kRe_times (fun pc i h1 h2 => sx_nc (ls := lRe_times) (by decide) pc i h1 h2) (by simp) (fun w' h => by cases h.1) ?_
  intro Z hZ
  have hp2 := pp_lt hpp
  refine z_iload_n hZ gRe_times_0 rfl ?_
  refine z_iload_n hZ gRe_times_1 rfl ?_
  refine z_imul hZ gRe_times_2 _ (pk_mul x y) ?_
  refine z_aload_n hZ gRe_times_3 rfl ?_
  refine z_get hZ gRe_times_4 (by omega) rfl (by rw [hm]; rfl) ?_
  refine z_irem hZ gRe_times_7 (nI_ne0 hp0 (by omega)) _ (pk_rem hxy hp0 (by omega)) ?_
  refine z_iret hZ gRe_times_8 ?_
  exact ⟨rfl, rfl⟩

set_option maxHeartbeats 4000000 in
set_option maxRecDepth 100000 in
theorem c_Re_plusTimes (l : Launch) (D : va_G) (E : sx_E) (B : Nat) (A : Nat → Prop) (hB : 29 ≤ B) {a : sA} {g : sG} {i : sA} {p : Nat} (hm : i 12 0 = nI p) (hp0 : 0 < p) (hpp : p * p < 2 ^ 31) {s x y : Nat} (hxy : s + x * y < 2 ^ 31) : sM l D E B A yRe_plusTimes prog_6_method_7_code 4 (some .int) 0 0 [.inr (12, 0), .inl (nI s), .inl (nI x), .inl (nI y)] (cW a g i) (fun r w' => r = some (.inl (nI ((s + x * y) % p))) ∧ w' = cW a g i) := by
  refine sx_m0 (ls := lRe_plusTimes) (cs := noCalls) (by decide +kernel) kRe_plusTimes (fun pc i h1 h2 => sx_nc (ls := lRe_plusTimes) (by decide) pc i h1 h2) (by simp) (fun w' h => by cases h.1) ?_
  intro Z hZ
  have hp2 := pp_lt hpp
  refine z_iload_n hZ gRe_plusTimes_0 rfl ?_
  refine z_iload_n hZ gRe_plusTimes_1 rfl ?_
  refine z_iload_n hZ gRe_plusTimes_2 rfl ?_
  refine z_imul hZ gRe_plusTimes_3 _ (pk_mul x y) ?_
  refine z_iadd hZ gRe_plusTimes_4 _ (nI_add s (x * y)) ?_
  refine z_aload_n hZ gRe_plusTimes_5 rfl ?_
  refine z_get hZ gRe_plusTimes_6 (by omega) rfl (by rw [hm]; rfl) ?_
  refine z_irem hZ gRe_plusTimes_9 (nI_ne0 hp0 (by omega)) _ (pk_rem hxy hp0 (by omega)) ?_
  refine z_iret hZ gRe_plusTimes_10 ?_
  exact ⟨rfl, rfl⟩

set_option maxHeartbeats 4000000 in
set_option maxRecDepth 100000 in
theorem c_Re_minusTimes (l : Launch) (D : va_G) (E : sx_E) (B : Nat) (A : Nat → Prop) (hB : 29 ≤ B) {a : sA} {g : sG} {i : sA} {p : Nat} (hm : i 12 0 = nI p) (hp0 : 0 < p) (hpp : p * p < 2 ^ 31) {s x y : Nat} (hx : x ≤ p) (hxy : s + (p - x) * y < 2 ^ 31) : sM l D E B A yRe_minusTimes prog_6_method_8_code 4 (some .int) 0 0 [.inr (12, 0), .inl (nI s), .inl (nI x), .inl (nI y)] (cW a g i) (fun r w' => r = some (.inl (nI ((s + (p - x) * y) % p))) ∧ w' = cW a g i) := by
  refine sx_m0 (ls := lRe_minusTimes) (cs := noCalls) (by decide +kernel) kRe_minusTimes (fun pc i h1 h2 => sx_nc (ls := lRe_minusTimes) (by decide) pc i h1 h2) (by simp) (fun w' h => by cases h.1) ?_
  intro Z hZ
  have hp2 := pp_lt hpp
  refine z_iload_n hZ gRe_minusTimes_0 rfl ?_
  refine z_aload_n hZ gRe_minusTimes_1 rfl ?_
  refine z_get hZ gRe_minusTimes_2 (by omega) rfl (by rw [hm]; rfl) ?_
  refine z_iload_n hZ gRe_minusTimes_5 rfl ?_
  refine z_isub hZ gRe_minusTimes_6 _ (pk_sub hx) ?_
  refine z_iload_n hZ gRe_minusTimes_7 rfl ?_
  refine z_imul hZ gRe_minusTimes_8 _ (pk_mul (p - x) y) ?_
  refine z_iadd hZ gRe_minusTimes_9 _ (nI_add s ((p - x) * y)) ?_
  refine z_aload_n hZ gRe_minusTimes_10 rfl ?_
  refine z_get hZ gRe_minusTimes_11 (by omega) rfl (by rw [hm]; rfl) ?_
  refine z_irem hZ gRe_minusTimes_14 (nI_ne0 hp0 (by omega)) _ (pk_rem hxy hp0 (by omega)) ?_
  refine z_iret hZ gRe_minusTimes_15 ?_
  exact ⟨rfl, rfl⟩

set_option maxHeartbeats 4000000 in
set_option maxRecDepth 100000 in
theorem c_Re_reduce (l : Launch) (D : va_G) (E : sx_E) (B : Nat) (A : Nat → Prop) (hB : 29 ≤ B) {a : sA} {g : sG} {i : sA} {p : Nat} (hm : i 12 0 = nI p) (hp0 : 0 < p) (hpp : p * p < 2 ^ 31) (x : Int32) : sM l D E B A yRe_reduce prog_6_method_5_code 2 (some .int) 1 22 [.inr (12, 0), .inl x] (cW a g i) (fun r w' => r = some (.inl (nI (x.toInt % (p : Int)).toNat)) ∧ w' = cW a g i) := by
  refine sx_m0 (ls := lRe_reduce) (cs := csAll) (by decide +kernel) kRe_reduce (hRe_reduce l D E B A hB) (by simp) (fun w' h => by cases h.1) ?_
  intro Z hZ
  have hp2 := pp_lt hpp
  refine z_iload_n hZ gRe_reduce_0 rfl ?_
  refine z_aload_n hZ gRe_reduce_1 rfl ?_
  refine z_get hZ gRe_reduce_2 (by omega) rfl (by rw [hm]; rfl) ?_
  refine z_cs hZ gRe_reduce_5 rfl rfl (Nat.le_of_ble_eq_true rfl) (Nat.le_of_ble_eq_true rfl) (fun l D E B A hB => c_Ma_floorMod l D E B A x hp0 (by omega) _) (fun r5 w5 p5 => ?_)
  obtain ⟨rfl, rfl⟩ := p5
  show Z (5 + 3) _ (.inl (nI (x.toInt % (p : Int)).toNat) :: []) _
  refine z_iret hZ gRe_reduce_8 ?_
  exact ⟨rfl, rfl⟩

-- numbers with a sign
def zI (z : Int) : Int32 := Int32.ofInt z
def sg (b : Bool) (n : Nat) : Int := if b = true then -(n : Int) else (n : Int)
theorem zI_n (n : Nat) : nI n = zI (n : Int) := Int32.ofInt_eq_ofNat.symm
theorem zI_t {z : Int} (h1 : -(2 ^ 31) ≤ z) (h2 : z < 2 ^ 31) : (zI z).toInt = z := by
  exact Int32.toInt_ofInt_of_le h1 h2
theorem zI_step (b : Bool) (f0 f1 q : Nat) : zI (sg b f0) - nI q * zI (sg (!b) f1) = zI (sg b (f0 + q * f1)) := by
  have h1 : sg b (f0 + q * f1) = sg b f0 - (q : Int) * sg (!b) f1 := by
    cases b
    · simp [sg]; grind
    · simp [sg]; grind
  rw [h1, zI_n q]
  unfold zI
  rw [Int32.ofInt_sub, Int32.ofInt_mul]
theorem sg_b (b : Bool) (n : Nat) : sg b n ≤ n ∧ -(n : Int) ≤ sg b n := by cases b <;> simp [sg] <;> omega

set_option maxHeartbeats 4000000 in
set_option maxRecDepth 100000 in
theorem c_Re_reciprocal (l : Launch) (D : va_G) (E : sx_E) (B : Nat) (A : Nat → Prop) (hB : 29 ≤ B) {a : sA} {g : sG} {i : sA} {p : Nat} (hm : i 12 0 = nI p) (hp0 : 0 < p) (hpp : p * p < 2 ^ 31) {num : Nat} (hnum : num < 2 ^ 31) : sM l D E B A yRe_reciprocal prog_6_method_10_code 10 (some .int) 0 0 [.inr (12, 0), .inl (nI num)] (cW a g i) (fun r w' => ∃ q : Nat, r = some (.inl (nI q)) ∧ q < p ∧ (p ∣ num → q = 0) ∧ ((∀ m, m ∣ p → m = 1 ∨ m = p) → 1 < p → ¬ p ∣ num → (p : Int) ∣ (q : Int) * (num : Int) - 1) ∧ w' = cW a g i) := by
  refine sx_m0 (ls := lRe_reciprocal) (cs := noCalls) (by decide +kernel) kRe_reciprocal (fun pc i h1 h2 => sx_nc (ls := lRe_reciprocal) (by decide) pc i h1 h2) (by simp) (fun w' h => (by obtain ⟨_, h, _⟩ := h; cases h)) ?_
  intro Z hZ
  have hp2 := pp_lt hpp
  have fin : ∀ R0 f0 b x3 x5 x6 x7 x8 x9, R0 ≤ p → (p : Int) ∣ sg b f0 * (num : Int) - (R0 : Int) → (∃ f1, f1 * R0 = p) → 2 * f0 ≤ p → (R0 = p → f0 = 0 ∧ num % p = 0) → (p ∣ num → f0 = 0) → Z 74 [some (.inr (12, 0)), some (.inl (nI num)), some (.inl (nI R0)), x3, some (.inl (zI (sg b f0))), x5, x6, x7, x8, x9] [] (cW a g i) := by
    intro R0 f0 b x3 x5 x6 x7 x8 x9 hR hd hf h2 hR0 hpn
    have hb := sg_b b f0
    have ht : (zI (sg b f0)).toInt = sg b f0 := zI_t (by omega) (by omega)
    have key : ∀ q : Nat, q < p → (p : Int) ∣ (q : Int) - sg b f0 → (f0 = 0 → q = 0) → ((∀ m, m ∣ p → m = 1 ∨ m = p) → 1 < p → ¬ p ∣ num → (p : Int) ∣ (q : Int) * (num : Int) - 1) := fun q hq hqd _ hpr h1p hnd => by
      obtain ⟨f1, hf1⟩ := hf
      have hR1 : R0 = 1 := by
        rcases hpr R0 ⟨f1, by rw [Nat.mul_comm]; exact hf1.symm⟩ with e | e
        · exact e
        · exact absurd (Nat.dvd_of_mod_eq_zero (hR0 e).2) hnd
      rw [hR1] at hd
      obtain ⟨c1, hc1⟩ := hd
      obtain ⟨c2, hc2⟩ := hqd
      exact ⟨c1 + c2 * num, by grind⟩
    refine z_iload hZ gRe_reciprocal_74 rfl ?_
    refine z_ifge hZ gRe_reciprocal_76 (fun c76 => ?_) (fun c76 => ?_)
    · have ct76 := c76
      have hs : 0 ≤ sg b f0 := by
        rw [Int32.le_iff_toInt_le, Int32.toInt_zero, ht] at ct76
        exact ct76
      have hq : ∃ q : Nat, (q : Int) = sg b f0 := ⟨(sg b f0).toNat, by omega⟩
      obtain ⟨q, hq⟩ := hq
      rw [← hq, ← zI_n]
      refine z_iload hZ gRe_reciprocal_89 rfl ?_
      refine z_iret hZ gRe_reciprocal_91 ?_
      first
        | (refine ⟨q, rfl, by omega, fun h9 => ?_, key q (by omega) ⟨0, by omega⟩ (fun h9 => by omega), rfl⟩
           have := hpn h9
           subst this
           cases b <;> simp [sg] at hq <;> omega)
        | (refine ⟨q, rfl, by omega, fun h9 => ?_, key q (by omega) ⟨1, by omega⟩ (fun h9 => ?_), rfl⟩
           · have := hpn h9
             subst this
             cases b <;> simp [sg] at hs
           · subst h9
             cases b <;> simp [sg] at hs)
    · have cf76 := c76
      have hs : sg b f0 < 0 := by
        rw [Int32.le_iff_toInt_le, Int32.toInt_zero, ht] at cf76
        omega
      have hq : ∃ q : Nat, (q : Int) = sg b f0 + (p : Int) := ⟨(sg b f0 + (p : Int)).toNat, by omega⟩
      obtain ⟨q, hq⟩ := hq
      have hadd : zI (sg b f0) + nI p = nI q := by
        rw [zI_n p, zI_n q, hq]
        unfold zI
        rw [Int32.ofInt_add]
      refine z_iload hZ gRe_reciprocal_79 rfl ?_
      refine z_aload_n hZ gRe_reciprocal_81 rfl ?_
      refine z_get hZ gRe_reciprocal_82 (by omega) rfl (by rw [hm]; rfl) ?_
      refine z_iadd hZ gRe_reciprocal_85 _ hadd ?_
      refine z_goto hZ gRe_reciprocal_86 ?_
      refine z_iret hZ gRe_reciprocal_91 ?_
      first
        | (refine ⟨q, rfl, by omega, fun h9 => ?_, key q (by omega) ⟨0, by omega⟩ (fun h9 => by omega), rfl⟩
           have := hpn h9
           subst this
           cases b <;> simp [sg] at hq <;> omega)
        | (refine ⟨q, rfl, by omega, fun h9 => ?_, key q (by omega) ⟨1, by omega⟩ (fun h9 => ?_), rfl⟩
           · have := hpn h9
             subst this
             cases b <;> simp [sg] at hs
           · subst h9
             cases b <;> simp [sg] at hs)
  have loop : ∀ n st, n + st = 64 → ∀ R0 R1 f0 f1 b c x7 x8 x9, c = !b → R1 < R0 → R0 ≤ p → (p : Int) ∣ sg b f0 * (num : Int) - (R0 : Int) → (p : Int) ∣ sg c f1 * (num : Int) - (R1 : Int) → f0 * R1 + f1 * R0 = p → 2 * f0 ≤ p → R0 * R1 * 2 ^ st ≤ p * p → (R0 = p → f0 = 0 ∧ R1 = num % p) → (p ∣ num → f0 = 0 ∧ R1 = 0) → Z 21 [some (.inr (12, 0)), some (.inl (nI num)), some (.inl (nI R0)), some (.inl (nI R1)), some (.inl (zI (sg b f0))), some (.inl (zI (sg c f1))), some (.inl (nI st)), x7, x8, x9] [] (cW a g i) := by
    intro n
    induction n with
    | zero =>
      intro st hst R0 R1 f0 f1 b c x7 x8 x9 hcb h1 h2 h3 h4 h5 h6 h7 h8 h9
      subst hcb
      have e64 : st = 64 := by omega
      subst e64
      have hR1 : R1 = 0 := by
        refine Classical.byContradiction fun hne => ?_
        have hR01 : 1 ≤ R0 * R1 := Nat.mul_pos (by omega) (by omega)
        have : 1 * 2 ^ 64 ≤ R0 * R1 * 2 ^ 64 := Nat.mul_le_mul_right _ hR01
        omega
      subst hR1
      refine z_iload hZ gRe_reciprocal_21 rfl ?_
      refine z_bipush hZ gRe_reciprocal_23 _ i64 ?_
      refine z_cmpge hZ gRe_reciprocal_25 (fun c25 => ?_) (fun c25 => absurd (nI_le (Nat.le_refl 64) (by decide)) c25)
      exact fin R0 f0 b _ _ _ _ _ _ h2 h3 ⟨f1, by omega⟩ h6 (fun e => ⟨(h8 e).1, (h8 e).2.symm⟩) (fun h => (h9 h).1)
    | succ n ih =>
      intro st hst R0 R1 f0 f1 b c x7 x8 x9 hcb h1 h2 h3 h4 h5 h6 h7 h8 h9
      subst hcb
      refine z_iload hZ gRe_reciprocal_21 rfl ?_
      refine z_bipush hZ gRe_reciprocal_23 _ i64 ?_
      refine z_cmpge hZ gRe_reciprocal_25 (fun c25 => absurd c25 (nI_ge (by omega) (by decide))) (fun c25 => ?_)
      refine z_iload_n hZ gRe_reciprocal_28 rfl ?_
      refine z_ifle hZ gRe_reciprocal_29 (fun c29 => ?_) (fun c29 => ?_)
      · have ct29 := c29
        have hR1 : R1 = 0 := Nat.eq_zero_of_not_pos fun h => nI_nle h (by omega) ct29
        subst hR1
        exact fin R0 f0 b _ _ _ _ _ _ h2 h3 ⟨f1, by omega⟩ h6 (fun e => ⟨(h8 e).1, (h8 e).2.symm⟩) (fun h => (h9 h).1)
      · have cf29 := c29
        have hR1 : 0 < R1 := Nat.pos_of_ne_zero fun h => cf29 (by rw [h]; exact Int32.le_refl _)
        have hq1 : R0 / R1 * R1 ≤ R0 := Nat.div_mul_le_self R0 R1
        have hmod : R0 - R0 / R1 * R1 = R0 % R1 := by
          have := Nat.mod_add_div R0 R1
          rw [Nat.mul_comm R1] at this
          omega
        have hml := Nat.mod_lt R0 hR1
        have hda := Nat.mod_add_div R0 R1
        have hqp : 1 ≤ R0 / R1 := (Nat.one_le_div_iff hR1).mpr (by omega)
        generalize hqe : R0 / R1 = q at *
        have hqR : q ≤ R0 := by
          have : q * 1 ≤ q * R1 := Nat.mul_le_mul_left q hR1
          omega
        refine z_iload_n hZ gRe_reciprocal_32 rfl ?_
        refine z_iload_n hZ gRe_reciprocal_33 rfl ?_
        refine z_idiv hZ gRe_reciprocal_34 (nI_ne0 hR1 (by omega)) _ (by rw [pk_div (by omega) hR1 (by omega), hqe]) ?_
        refine z_istore hZ gRe_reciprocal_35 rfl ?_
        refine z_iload_n hZ gRe_reciprocal_37 rfl ?_
        refine z_iload hZ gRe_reciprocal_38 rfl ?_
        refine z_iload_n hZ gRe_reciprocal_40 rfl ?_
        refine z_imul hZ gRe_reciprocal_41 _ (pk_mul q R1) ?_
        refine z_isub hZ gRe_reciprocal_42 _ (by rw [pk_sub hq1, hmod]) ?_
        refine z_istore hZ gRe_reciprocal_43 rfl ?_
        refine z_iload hZ gRe_reciprocal_45 rfl ?_
        refine z_iload hZ gRe_reciprocal_47 rfl ?_
        refine z_iload hZ gRe_reciprocal_49 rfl ?_
        refine z_imul hZ gRe_reciprocal_51 _ rfl ?_
        refine z_isub hZ gRe_reciprocal_52 _ rfl ?_
        rw [zI_step b f0 f1 q]
        refine z_istore hZ gRe_reciprocal_53 rfl ?_
        refine z_iload_n hZ gRe_reciprocal_55 rfl ?_
        refine z_istore_n hZ gRe_reciprocal_56 rfl ?_
        refine z_iload hZ gRe_reciprocal_57 rfl ?_
        refine z_istore hZ gRe_reciprocal_59 rfl ?_
        refine z_iload hZ gRe_reciprocal_61 rfl ?_
        refine z_istore_n hZ gRe_reciprocal_63 rfl ?_
        refine z_iload hZ gRe_reciprocal_64 rfl ?_
        refine z_istore hZ gRe_reciprocal_66 rfl ?_
        refine z_iinc hZ gRe_reciprocal_68 rfl _ (i1 st) rfl ?_
        refine z_goto hZ gRe_reciprocal_71 ?_
        have h9' : ¬ p ∣ num := fun h => by have := (h9 h).2; omega
        have hB1 : f1 * (R0 % R1) + (f0 + q * f1) * R1 = p := by
          rw [Nat.add_mul, ← h5]
          have e1 : f1 * R0 = f1 * (R0 % R1) + f1 * (R1 * q) := by rw [← Nat.mul_add, hda]
          rw [e1, Nat.mul_comm q f1, Nat.mul_assoc, Nat.mul_comm q R1]
          omega
        have hf1 : f1 * R0 ≤ p := by omega
        have hf2 : 2 * f1 ≤ p := by
          have : f1 * 2 ≤ f1 * R0 := Nat.mul_le_mul_left f1 (by omega)
          omega
        refine ih (st + 1) (by omega) R1 (R0 % R1) f1 (f0 + q * f1) (!b) b _ _ _ (by cases b <;> rfl) hml (by omega) h4 ?_ hB1 hf2 ?_ (fun e => absurd e (by omega)) (fun h => absurd h h9')
        · have e2 : sg b (f0 + q * f1) = sg b f0 - (q : Int) * sg (!b) f1 := by
            cases b
            · simp [sg]; grind
            · simp [sg]; grind
          rw [e2]
          obtain ⟨c1, hc1⟩ := h3
          obtain ⟨c2, hc2⟩ := h4
          have e3 : ((R0 % R1 : Nat) : Int) = (R0 : Int) - (q : Int) * (R1 : Int) := by
            have : (R0 : Int) = ((R0 % R1 : Nat) : Int) + (R1 : Int) * (q : Int) := by
              rw [← Int.natCast_mul, ← Int.natCast_add, hda]
            rw [this, Int.mul_comm (q : Int)]
            omega
          rw [e3]
          exact ⟨c1 - q * c2, by grind⟩
        · have e4 : R1 * (R0 % R1) * 2 ≤ R0 * R1 := by
            have e5 : R1 + R0 % R1 ≤ R0 := by
              have : R1 * 1 ≤ R1 * q := Nat.mul_le_mul_left R1 hqp
              omega
            have e6 : (R1 + R0 % R1) * R1 ≤ R0 * R1 := Nat.mul_le_mul_right _ e5
            have e7 : R0 % R1 * (R0 % R1) ≤ R0 % R1 * R1 := Nat.mul_le_mul_left _ (by omega)
            have e8 : R1 * (R0 % R1) ≤ R1 * R1 := Nat.mul_le_mul_left _ (by omega)
            rw [Nat.add_mul, Nat.mul_comm (R0 % R1) R1] at e6
            omega
          have e9 : R1 * (R0 % R1) * 2 ^ (st + 1) = R1 * (R0 % R1) * 2 * 2 ^ st := by rw [Nat.pow_succ, Nat.mul_comm (2 ^ st) 2, ← Nat.mul_assoc]
          rw [e9]
          exact Nat.le_trans (Nat.mul_le_mul_right _ e4) h7
  have hrm : nI num - nI num / nI p * nI p = nI (num % p) := pk_rem hnum hp0 (by omega)
  have hml := Nat.mod_lt num hp0
  refine z_aload_n hZ gRe_reciprocal_0 rfl ?_
  refine z_get hZ gRe_reciprocal_1 (by omega) rfl (by rw [hm]; rfl) ?_
  refine z_istore_n hZ gRe_reciprocal_4 rfl ?_
  refine z_iload_n hZ gRe_reciprocal_5 rfl ?_
  refine z_aload_n hZ gRe_reciprocal_6 rfl ?_
  refine z_get hZ gRe_reciprocal_7 (by omega) rfl (by rw [hm]; rfl) ?_
  refine z_irem hZ gRe_reciprocal_10 (nI_ne0 hp0 (by omega)) _ hrm ?_
  refine z_istore_n hZ gRe_reciprocal_11 rfl ?_
  refine z_iconst hZ gRe_reciprocal_12 _ (show Int32.ofInt 0 = zI (sg true 0) from rfl) ?_
  refine z_istore hZ gRe_reciprocal_13 rfl ?_
  refine z_iconst hZ gRe_reciprocal_15 _ (show Int32.ofInt 1 = zI (sg (!true) 1) from rfl) ?_
  refine z_istore hZ gRe_reciprocal_16 rfl ?_
  refine z_iconst hZ gRe_reciprocal_18 _ i0 ?_
  refine z_istore hZ gRe_reciprocal_19 rfl ?_
  refine loop 64 0 rfl p (num % p) 0 1 true false _ _ _ rfl hml (Nat.le_refl p) ⟨-1, by simp [sg]⟩ ?_ (by omega) (by omega) ?_ (fun _ => ⟨rfl, rfl⟩) (fun h => ⟨rfl, Nat.mod_eq_zero_of_dvd h⟩)
  · refine ⟨((num / p : Nat) : Int), ?_⟩
    have : (num : Int) = ((num % p : Nat) : Int) + (p : Int) * ((num / p : Nat) : Int) := by rw [← Int.natCast_mul, ← Int.natCast_add, Nat.mod_add_div]
    have e1 : sg false 1 = 1 := rfl
    rw [e1, Int.one_mul]
    omega
  · rw [Nat.pow_zero, Nat.mul_one]
    exact Nat.mul_le_mul_left _ (by omega)

theorem ov_ok {p x q num : Nat} (h : (p : Int) ∣ (q : Int) * (num : Int) - 1) : (p : Int) ∣ ((x * q % p : Nat) : Int) * (num : Int) - (x : Int) := by
  obtain ⟨c, hc⟩ := h
  have h1 : ((x * q : Nat) : Int) = ((x * q % p : Nat) : Int) + (p : Int) * ((x * q / p : Nat) : Int) := by rw [← Int.natCast_mul, ← Int.natCast_add, Nat.mod_add_div]
  rw [Int.natCast_mul] at h1
  exact ⟨x * c - ((x * q / p : Nat) : Int) * num, by grind⟩

set_option maxHeartbeats 4000000 in
set_option maxRecDepth 100000 in
theorem c_Re_over (l : Launch) (D : va_G) (E : sx_E) (B : Nat) (A : Nat → Prop) (hB : 29 ≤ B) {a : sA} {g : sG} {i : sA} {p : Nat} (hm : i 12 0 = nI p) (hp0 : 0 < p) (hpp : p * p < 2 ^ 31) {x num : Nat} (hx : x ≤ p) (hnum : num < 2 ^ 31) : sM l D E B A yRe_over prog_6_method_9_code 3 (some .int) 1 29 [.inr (12, 0), .inl (nI x), .inl (nI num)] (cW a g i) (fun r w' => ∃ v : Nat, r = some (.inl (nI v)) ∧ v < p ∧ (p ∣ num → v = 0) ∧ ((∀ m, m ∣ p → m = 1 ∨ m = p) → 1 < p → ¬ p ∣ num → (p : Int) ∣ (v : Int) * (num : Int) - (x : Int)) ∧ w' = cW a g i) := by
  refine sx_m0 (ls := lRe_over) (cs := csAll) (by decide +kernel) kRe_over (hRe_over l D E B A hB) (by simp) (fun w' h => (by obtain ⟨_, h, _⟩ := h; cases h)) ?_
  intro Z hZ
  have hp2 := pp_lt hpp
  refine z_aload_n hZ gRe_over_0 rfl ?_
  refine z_iload_n hZ gRe_over_1 rfl ?_
  refine z_aload_n hZ gRe_over_2 rfl ?_
  refine z_iload_n hZ gRe_over_3 rfl ?_
  refine z_cv hZ gRe_over_4 rfl rfl (Nat.le_of_ble_eq_true rfl) (Nat.le_of_ble_eq_true rfl) ⟨⟨12, _, _, rfl, by decide, rfl⟩, fun l D E B A hB => c_Re_reciprocal l D E B A hB hm hp0 hpp hnum⟩ (fun r4 w4 p4 => ?_)
  obtain ⟨q, rfl, hq, hq0, hqi, rfl⟩ := p4
  show Z (4 + 3) _ (.inl (nI q) :: .inl (nI x) :: .inr (12, 0) :: []) _
  have hxq : x * q < 2 ^ 31 := Nat.lt_of_le_of_lt (Nat.mul_le_mul hx (Nat.le_of_lt hq)) hpp
  refine z_cv hZ gRe_over_7 rfl rfl (Nat.le_of_ble_eq_true rfl) (Nat.le_of_ble_eq_true rfl) ⟨⟨12, _, _, rfl, by decide, rfl⟩, fun l D E B A hB => c_Re_times l D E B A hB hm hp0 hpp hxq⟩ (fun r7 w7 p7 => ?_)
  obtain ⟨rfl, rfl⟩ := p7
  show Z (7 + 3) _ (.inl (nI (x * q % p)) :: []) _
  refine z_iret hZ gRe_over_10 ?_
  exact ⟨x * q % p, rfl, Nat.mod_lt _ hp0, fun h => by rw [hq0 h, Nat.mul_zero, Nat.zero_mod], fun h1 h2 h3 => ov_ok (hqi h1 h2 h3), rfl⟩

set_option maxHeartbeats 4000000 in
set_option maxRecDepth 100000 in
theorem c_Re_raised (l : Launch) (D : va_G) (E : sx_E) (B : Nat) (A : Nat → Prop) (hB : 29 ≤ B) {a : sA} {g : sG} {i : sA} {p : Nat} (hm : i 12 0 = nI p) (hp0 : 0 < p) (hpp : p * p < 2 ^ 31) (hp1 : 1 < p) {b m : Nat} (hb : b ≤ p) (hm2 : m < 2 ^ 31) : sM l D E B A yRe_raised prog_6_method_11_code 5 (some .int) 1 22 [.inr (12, 0), .inl (nI b), .inl (nI m)] (cW a g i) (fun r w' => r = some (.inl (nI (b ^ m % p))) ∧ w' = cW a g i) := by
  refine sx_m0 (ls := lRe_raised) (cs := csAll) (by decide +kernel) kRe_raised (hRe_raised l D E B A hB) (by simp) (fun w' h => by cases h.1) ?_
  intro Z hZ
  have hp2 := pp_lt hpp
  have loop : ∀ n k, n + k = m → Z 5 [some (.inr (12, 0)), some (.inl (nI b)), some (.inl (nI m)), some (.inl (nI (b ^ k % p))), some (.inl (nI k))] [] (cW a g i) := by
    intro n
    induction n with
    | zero =>
      intro k hk
      have e : k = m := by omega
      subst e
      refine z_iload hZ gRe_raised_5 rfl ?_
      refine z_iload_n hZ gRe_raised_7 rfl ?_
      refine z_cmpge hZ gRe_raised_8 (fun c8 => ?_) (fun c8 => absurd (nI_le (Nat.le_refl k) hm2) c8)
      refine z_iload_n hZ gRe_raised_24 rfl ?_
      refine z_iret hZ gRe_raised_25 ?_
      exact ⟨rfl, rfl⟩
    | succ n ih =>
      intro k hk
      have h1 : b ^ k % p * b < 2 ^ 31 := Nat.lt_of_le_of_lt (Nat.mul_le_mul (Nat.le_of_lt (Nat.mod_lt _ hp0)) hb) hpp
      have h2 : b ^ k % p * b % p = b ^ (k + 1) % p := by rw [Nat.pow_succ, Nat.mod_mul_mod]
      refine z_iload hZ gRe_raised_5 rfl ?_
      refine z_iload_n hZ gRe_raised_7 rfl ?_
      refine z_cmpge hZ gRe_raised_8 (fun c8 => absurd c8 (nI_ge (by omega) hm2)) (fun c8 => ?_)
      refine z_aload_n hZ gRe_raised_11 rfl ?_
      refine z_iload_n hZ gRe_raised_12 rfl ?_
      refine z_iload_n hZ gRe_raised_13 rfl ?_
      refine z_cv hZ gRe_raised_14 rfl rfl (Nat.le_of_ble_eq_true rfl) (Nat.le_of_ble_eq_true rfl) ⟨⟨12, _, _, rfl, by decide, rfl⟩, fun l D E B A hB => c_Re_times l D E B A hB hm hp0 hpp h1⟩ (fun r14 w14 p14 => ?_)
      obtain ⟨rfl, rfl⟩ := p14
      rw [h2]
      show Z (14 + 3) _ (.inl (nI (b ^ (k + 1) % p)) :: []) _
      refine z_istore_n hZ gRe_raised_17 rfl ?_
      refine z_iinc hZ gRe_raised_18 rfl _ (i1 k) rfl ?_
      refine z_goto hZ gRe_raised_21 ?_
      exact ih (k + 1) (by omega)
  refine z_iconst hZ gRe_raised_0 _ (show Int32.ofInt 1 = nI (b ^ 0 % p) by rw [Nat.pow_zero, Nat.mod_eq_of_lt hp1]; exact ic1) ?_
  refine z_istore_n hZ gRe_raised_1 rfl ?_
  refine z_iconst hZ gRe_raised_2 _ i0 ?_
  refine z_istore hZ gRe_raised_3 rfl ?_
  exact loop m 0 rfl

set_option maxHeartbeats 4000000 in
set_option maxRecDepth 100000 in
theorem c_Re_orderOf (l : Launch) (D : va_G) (E : sx_E) (B : Nat) (A : Nat → Prop) (hB : 29 ≤ B) {a : sA} {g : sG} {i : sA} {p : Nat} (hm : i 12 0 = nI p) (hp0 : 0 < p) (hpp : p * p < 2 ^ 31) {b : Nat} (hbl : b < p) : sM l D E B A yRe_orderOf prog_6_method_4_code 4 (some .int) 1 22 [.inr (12, 0), .inl (nI b)] (cW a g i) (fun r w' => ∃ k : Nat, r = some (.inl (nI k)) ∧ 1 ≤ k ∧ k ≤ p ∧ (∀ j, 1 ≤ j → j < k → b ^ j % p ≠ 1) ∧ (b ^ k % p = 1 ∨ k = p) ∧ w' = cW a g i) := by
  refine sx_m0 (ls := lRe_orderOf) (cs := csAll) (by decide +kernel) kRe_orderOf (hRe_orderOf l D E B A hB) (by simp) (fun w' h => (by obtain ⟨_, h, _⟩ := h; cases h)) ?_
  intro Z hZ
  have hb : b ≤ p := Nat.le_of_lt hbl
  have hp2 := pp_lt hpp
  have loop : ∀ n k, n + k = p → 1 ≤ k → (∀ j, 1 ≤ j → j < k → b ^ j % p ≠ 1) → Z 4 [some (.inr (12, 0)), some (.inl (nI b)), some (.inl (nI (b ^ k % p))), some (.inl (nI k))] [] (cW a g i) := by
    intro n
    induction n with
    | zero =>
      intro k hk hk1 hn
      have e : k = p := by omega
      subst e
      refine z_iload_n hZ gRe_orderOf_4 rfl ?_
      refine z_iconst hZ gRe_orderOf_5 _ ic1 ?_
      refine z_cmpeq hZ gRe_orderOf_6 (fun c6 => ?_) (fun c6 => ?_)
      · have ct6 := c6
        refine z_iload_n hZ gRe_orderOf_30 rfl ?_
        refine z_iret hZ gRe_orderOf_31 ?_
        exact ⟨k, rfl, hk1, Nat.le_refl _, hn, Or.inr rfl, rfl⟩
      · have cf6 := c6
        refine z_iload_n hZ gRe_orderOf_9 rfl ?_
        refine z_aload_n hZ gRe_orderOf_10 rfl ?_
        refine z_get hZ gRe_orderOf_11 (by omega) rfl (by rw [hm]; rfl) ?_
        refine z_cmpge hZ gRe_orderOf_14 (fun c14 => ?_) (fun c14 => absurd (nI_le (Nat.le_refl k) (by omega)) c14)
        refine z_iload_n hZ gRe_orderOf_30 rfl ?_
        refine z_iret hZ gRe_orderOf_31 ?_
        exact ⟨k, rfl, hk1, Nat.le_refl _, hn, Or.inr rfl, rfl⟩
    | succ n ih =>
      intro k hk hk1 hn
      have hmk := Nat.mod_lt (b ^ k) hp0
      have h1 : b ^ k % p * b < 2 ^ 31 := Nat.lt_of_le_of_lt (Nat.mul_le_mul (Nat.le_of_lt hmk) hb) hpp
      have h2 : b ^ k % p * b % p = b ^ (k + 1) % p := by rw [Nat.pow_succ, Nat.mod_mul_mod]
      refine z_iload_n hZ gRe_orderOf_4 rfl ?_
      refine z_iconst hZ gRe_orderOf_5 _ ic1 ?_
      refine z_cmpeq hZ gRe_orderOf_6 (fun c6 => ?_) (fun c6 => ?_)
      · have ct6 := c6
        have e1 : b ^ k % p = 1 := (nI_eq (by omega) (by decide)).mp ct6
        refine z_iload_n hZ gRe_orderOf_30 rfl ?_
        refine z_iret hZ gRe_orderOf_31 ?_
        exact ⟨k, rfl, hk1, by omega, hn, Or.inl e1, rfl⟩
      · have cf6 := c6
        have e1 : b ^ k % p ≠ 1 := fun h => cf6 (by rw [h])
        refine z_iload_n hZ gRe_orderOf_9 rfl ?_
        refine z_aload_n hZ gRe_orderOf_10 rfl ?_
        refine z_get hZ gRe_orderOf_11 (by omega) rfl (by rw [hm]; rfl) ?_
        refine z_cmpge hZ gRe_orderOf_14 (fun c14 => absurd c14 (nI_ge (by omega) (by omega))) (fun c14 => ?_)
        refine z_aload_n hZ gRe_orderOf_17 rfl ?_
        refine z_iload_n hZ gRe_orderOf_18 rfl ?_
        refine z_iload_n hZ gRe_orderOf_19 rfl ?_
        refine z_cv hZ gRe_orderOf_20 rfl rfl (Nat.le_of_ble_eq_true rfl) (Nat.le_of_ble_eq_true rfl) ⟨⟨12, _, _, rfl, by decide, rfl⟩, fun l D E B A hB => c_Re_times l D E B A hB hm hp0 hpp h1⟩ (fun r20 w20 p20 => ?_)
        obtain ⟨rfl, rfl⟩ := p20
        rw [h2]
        show Z (20 + 3) _ (.inl (nI (b ^ (k + 1) % p)) :: []) _
        refine z_istore_n hZ gRe_orderOf_23 rfl ?_
        refine z_iinc hZ gRe_orderOf_24 rfl _ (i1 k) rfl ?_
        refine z_goto hZ gRe_orderOf_27 ?_
        refine ih (k + 1) (by omega) (by omega) (fun j hj1 hj2 => ?_)
        by_cases e9 : j = k
        · subst e9; exact e1
        · exact hn j hj1 (by omega)
  refine z_iload_n hZ gRe_orderOf_0 rfl ?_
  refine z_istore_n hZ gRe_orderOf_1 rfl ?_
  refine z_iconst hZ gRe_orderOf_2 _ ic1 ?_
  refine z_istore_n hZ gRe_orderOf_3 rfl ?_
  have h9 := loop (p - 1) 1 (by omega) (Nat.le_refl 1) (fun j h1 h2 => absurd h1 (by omega))
  rw [Nat.pow_one, Nat.mod_eq_of_lt hbl] at h9
  exact h9

def isPr (p : Nat) : Prop := 1 < p ∧ ∀ m, m ∣ p → m = 1 ∨ m = p
theorem isPr_no {n f : Nat} (h1 : 2 ≤ f) (h2 : f * f ≤ n) (h3 : n % f = 0) : ¬ isPr n := fun h => by
  rcases h.2 f (Nat.dvd_of_mod_eq_zero h3) with e | e
  · omega
  · subst e
    have : f * 2 ≤ f * f := Nat.mul_le_mul_left f h1
    omega
theorem isPr_yes {n f : Nat} (h1 : 1 < n) (h2 : n < f * f) (h3 : ∀ k, 2 ≤ k → k < f → n % k ≠ 0) : isPr n := by
  refine ⟨h1, fun m hm => ?_⟩
  obtain ⟨k, hk⟩ := hm
  have h0 : ∀ u v : Nat, n = u * v → u ≠ 1 → u < f → False := fun u v huv hu1 huf => by
    have hu0 : u ≠ 0 := fun e => by rw [e, Nat.zero_mul] at huv; omega
    exact h3 u (by omega) huf (by rw [huv]; exact Nat.mul_mod_right u v)
  by_cases hm1 : m = 1
  · exact Or.inl hm1
  · by_cases hk1 : k = 1
    · right; rw [hk, hk1, Nat.mul_one]
    · exfalso
      by_cases hmf : m < f
      · exact h0 m k hk hm1 hmf
      · by_cases hkf : k < f
        · exact h0 k m (by rw [hk, Nat.mul_comm]) hk1 hkf
        · have : f * f ≤ m * k := Nat.mul_le_mul (by omega) (by omega)
          omega

set_option maxHeartbeats 4000000 in
set_option maxRecDepth 100000 in
theorem c_Re_isPrime (l : Launch) (D : va_G) (E : sx_E) (B : Nat) (A : Nat → Prop) {n : Nat} (hn : n < 4000000) (w : sx_M) : sM l D E B A yRe_isPrime prog_6_method_3_code 2 (some .boolean) 0 0 [.inl (nI n)] w (fun r w' => ans r (isPr n) ∧ w' = w) := by
  refine sx_m0 (ls := lRe_isPrime) (cs := noCalls) (by decide +kernel) kRe_isPrime (fun pc i h1 h2 => sx_nc (ls := lRe_isPrime) (by decide) pc i h1 h2) (by simp) ans_rt ?_
  intro Z hZ
  have loop : ∀ d f, f + d = 2000 → 2 ≤ f → (∀ k, 2 ≤ k → k < f → n % k ≠ 0) → Z 2 [some (.inl (nI n)), some (.inl (nI f))] [] w := by
    intro d
    induction d with
    | zero =>
      intro f hf hf2 hk
      have e : f = 2000 := by omega
      subst e
      have hfin : ans (if 1 < n then some (.inl 1) else some (.inl 0)) (isPr n) := by
        by_cases h1 : 1 < n
        · rw [if_pos h1]; exact Or.inl ⟨rfl, isPr_yes h1 (f := 2000) (by omega) hk⟩
        · rw [if_neg h1]; exact Or.inr ⟨rfl, fun h => h1 h.1⟩
      refine z_iload_n hZ gRe_isPrime_2 rfl ?_
      refine z_iload_n hZ gRe_isPrime_3 rfl ?_
      refine z_imul hZ gRe_isPrime_4 _ (pk_mul 2000 2000) ?_
      refine z_iload_n hZ gRe_isPrime_5 rfl ?_
      refine z_cmpgt hZ gRe_isPrime_6 (fun c6 => ?_) (fun c6 => absurd (nI_lt (by omega) (by decide)) c6)
      refine z_iload_n hZ gRe_isPrime_23 rfl ?_
      refine z_iconst hZ gRe_isPrime_24 _ ic1 ?_
      refine z_cmple hZ gRe_isPrime_25 (fun c25 => ?_) (fun c25 => ?_)
      · have ct25 := c25
        have h1 : ¬ 1 < n := Nat.not_lt.mpr ((nI_leI (by omega) (by decide)).mp ct25)
        refine z_iconst hZ gRe_isPrime_32 _ rfl ?_
        refine z_iret hZ gRe_isPrime_33 ?_
        first | (rw [if_neg h1] at hfin; exact ⟨hfin, rfl⟩) | (rw [if_pos h1] at hfin; exact ⟨hfin, rfl⟩)
      · have cf25 := c25
        have h1 : 1 < n := Nat.not_le.mp fun h9 => cf25 ((nI_leI (by omega) (by decide)).mpr h9)
        refine z_iconst hZ gRe_isPrime_28 _ rfl ?_
        refine z_goto hZ gRe_isPrime_29 ?_
        refine z_iret hZ gRe_isPrime_33 ?_
        first | (rw [if_neg h1] at hfin; exact ⟨hfin, rfl⟩) | (rw [if_pos h1] at hfin; exact ⟨hfin, rfl⟩)
    | succ d ih =>
      intro f hf hf2 hk
      have hff : f * f ≤ 2000 * 2000 := Nat.mul_le_mul (by omega) (by omega)
      refine z_iload_n hZ gRe_isPrime_2 rfl ?_
      refine z_iload_n hZ gRe_isPrime_3 rfl ?_
      refine z_imul hZ gRe_isPrime_4 _ (pk_mul f f) ?_
      refine z_iload_n hZ gRe_isPrime_5 rfl ?_
      refine z_cmpgt hZ gRe_isPrime_6 (fun c6 => ?_) (fun c6 => ?_)
      · have ct6 := c6
        have hlt : n < f * f := (nI_ltI (by omega) (by omega)).mp ct6
        have hfin : ans (if 1 < n then some (.inl 1) else some (.inl 0)) (isPr n) := by
          by_cases h1 : 1 < n
          · rw [if_pos h1]; exact Or.inl ⟨rfl, isPr_yes h1 hlt hk⟩
          · rw [if_neg h1]; exact Or.inr ⟨rfl, fun h => h1 h.1⟩
        refine z_iload_n hZ gRe_isPrime_23 rfl ?_
        refine z_iconst hZ gRe_isPrime_24 _ ic1 ?_
        refine z_cmple hZ gRe_isPrime_25 (fun c25 => ?_) (fun c25 => ?_)
        · have ct25 := c25
          have h1 : ¬ 1 < n := Nat.not_lt.mpr ((nI_leI (by omega) (by decide)).mp ct25)
          refine z_iconst hZ gRe_isPrime_32 _ rfl ?_
          refine z_iret hZ gRe_isPrime_33 ?_
          first | (rw [if_neg h1] at hfin; exact ⟨hfin, rfl⟩) | (rw [if_pos h1] at hfin; exact ⟨hfin, rfl⟩)
        · have cf25 := c25
          have h1 : 1 < n := Nat.not_le.mp fun h9 => cf25 ((nI_leI (by omega) (by decide)).mpr h9)
          refine z_iconst hZ gRe_isPrime_28 _ rfl ?_
          refine z_goto hZ gRe_isPrime_29 ?_
          refine z_iret hZ gRe_isPrime_33 ?_
          first | (rw [if_neg h1] at hfin; exact ⟨hfin, rfl⟩) | (rw [if_pos h1] at hfin; exact ⟨hfin, rfl⟩)
      · have cf6 := c6
        have hle : f * f ≤ n := Nat.not_lt.mp fun h9 => cf6 ((nI_ltI (by omega) (by omega)).mpr h9)
        refine z_iload_n hZ gRe_isPrime_9 rfl ?_
        refine z_iload_n hZ gRe_isPrime_10 rfl ?_
        refine z_irem hZ gRe_isPrime_11 (nI_ne0 (by omega) (by omega)) _ (pk_rem (by omega) (by omega) (by omega)) ?_
        refine z_ifne hZ gRe_isPrime_12 (fun c12 => ?_) (fun c12 => ?_)
        · have ct12 := c12
          have hne : n % f ≠ 0 := fun h => ct12 (by rw [h]; rfl)
          refine z_iinc hZ gRe_isPrime_17 rfl _ (i1 f) rfl ?_
          refine z_goto hZ gRe_isPrime_20 ?_
          refine ih (f + 1) (by omega) (by omega) (fun k h1 h2 => ?_)
          by_cases e9 : k = f
          · subst e9; exact hne
          · exact hk k h1 (by omega)
        · have cf12 := c12
          have he : n % f = 0 := by
            have h9 : nI (n % f) = nI 0 := cf12
            exact (nI_eq (Nat.lt_of_le_of_lt (Nat.mod_le _ _) (by omega)) (by decide)).mp h9
          refine z_iconst hZ gRe_isPrime_15 _ rfl ?_
          refine z_iret hZ gRe_isPrime_16 ?_
          exact ⟨Or.inr ⟨rfl, isPr_no hf2 hle he⟩, rfl⟩
  refine z_iconst hZ gRe_isPrime_0 _ ic2 ?_
  refine z_istore_n hZ gRe_isPrime_1 rfl ?_
  exact loop 1998 2 rfl (Nat.le_refl 2) (fun k h1 h2 => absurd h1 (by omega))

