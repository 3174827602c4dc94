-- the reference: by which number a class multiplies an idempotent
theorem i544 : (Int16.ofInt 544).toInt32 = nI 544 := by decide +kernel
theorem i560 : (Int16.ofInt 560).toInt32 = nI 560 := by decide +kernel
theorem i576 : (Int16.ofInt 576).toInt32 = nI 576 := by decide +kernel
theorem ht_e {k : Nat} {W : Nat → Nat → Nat} {r ci : Nat} (hi : ci < k) : ht k W (fun l => if l = ci then 1 else 0) r = (W r ci : Int) := by
  rw [← si_one (fun l => (W r l : Int)) ci List.nodup_range (List.mem_range.mpr hi)]
  refine si_congr fun l _ => ?_
  show ((if l = ci then 1 else 0 : Nat) : Int) * (W r l : Int) = ib (decide (l = ci)) * (W r l : Int)
  by_cases e : l = ci
  · rw [if_pos e, decide_eq_true e]; rfl
  · rw [if_neg e, decide_eq_false e]; rfl
theorem ht_m {k : Nat} {W : Nat → Nat → Nat} {r : Nat} (c : Nat) (x : Nat → Nat) : ht k W (fun l => c * x l) r = (c : Int) * ht k W x r := by
  unfold ht
  rw [← si_mul]
  exact si_congr fun l _ => by rw [Int.natCast_mul, Int.mul_assoc]
theorem ht_cg {p k : Nat} {W : Nat → Nat → Nat} {r : Nat} {x y : Nat → Nat} (h : ∀ l, l < k → (p : Int) ∣ (x l : Int) - (y l : Int)) : (p : Int) ∣ ht k W x r - ht k W y r := si_cong fun l hl => by
  rw [← Int.sub_mul]
  exact Int.dvd_mul_of_dvd_left (h l (List.mem_range.mp hl))
theorem ht_nz {p k : Nat} (hp : 1 < p) {W : Nat → Nat → Nat} {r : Nat} {x : Nat → Nat} (h : (p : Int) ∣ ht k W x r - 1) : ∃ t, t < k ∧ x t ≠ 0 := Classical.byContradiction fun hn => by
  have h0 : ht k W x r = 0 := si_z fun l hl => by
    have : x l = 0 := Classical.byContradiction fun h9 => hn ⟨l, List.mem_range.mp hl, h9⟩
    rw [this, Int.natCast_zero, Int.zero_mul]
  rw [h0] at h
  have h1 : (p : Int) ∣ 1 := by
    have := Int.dvd_neg.mpr h
    exact this
  have := Int.le_of_dvd (by decide) h1
  omega
theorem pm_eq {p x y : Nat} (hx : x < p) (h : (p : Int) ∣ (x : Int) - (y : Int)) : x = y % p := by
  have h1 : (p : Int) ∣ (x : Int) - ((y % p : Nat) : Int) := by
    refine dv_tr h ?_
    rw [Int.natCast_emod, Int.emod_def]
    exact ⟨(y : Int) / (p : Int), by omega⟩
  have h2 : y % p < p := Nat.mod_lt _ (by omega)
  have := dv_0 h1 (by omega) (by omega)
  omega
theorem md_dv {p y : Nat} : (p : Int) ∣ ((y % p : Nat) : Int) - (y : Int) := by
  rw [Int.natCast_emod, Int.emod_def]
  exact ⟨-((y : Int) / (p : Int)), by rw [Int.mul_neg]; omega⟩
-- the ratio, pure
theorem ra_yes {p k ci c : Nat} {W : Nat → Nat → Nat} {x z : Nat → Nat} {S : Nat → Bool} (hx : ∀ r, r < k → (p : Int) ∣ ht k W x r - ib (S r)) (hz : ∀ r, r < k → (p : Int) ∣ ht k W z r - (W r ci : Int) * ib (S r)) (h : ∀ l, l < k → z l = c * x l % p) : ∀ r, r < k → S r = true → (p : Int) ∣ (W r ci : Int) - (c : Int) := fun r hr hs => by
  have h1 : (p : Int) ∣ ht k W z r - ht k W (fun l => c * x l) r := ht_cg fun l hl => by rw [h l hl]; exact md_dv
  rw [ht_m] at h1
  have h2 := hz r hr
  have h3 := dv_ml (c : Int) (hx r hr)
  have e : ib (S r) = 1 := by rw [hs]; rfl
  rw [e, Int.mul_one] at h2 h3
  exact dv_tr (dv_sy h2) (dv_tr h1 h3)
theorem ra_no {p k ci c t : Nat} (hp : isPr p) {W : Nat → Nat → Nat} (hW : ∀ v, sp p k k (bV W) v) {x z : Nat → Nat} {S : Nat → Bool} (hx : ∀ r, r < k → (p : Int) ∣ ht k W x r - ib (S r)) (hz : ∀ r, r < k → (p : Int) ∣ ht k W z r - (W r ci : Int) * ib (S r)) (hzp : ∀ l, l < k → z l < p) (ht9 : t < k) (hxt : ¬ p ∣ x t) (hc : (p : Int) ∣ (c : Int) * (x t : Int) - (z t : Int)) {c0 : Nat} (h0 : ∀ r, r < k → S r = true → (p : Int) ∣ (W r ci : Int) - (c0 : Int)) : ∀ l, l < k → z l = c * x l % p := by
  have h1 : ∀ r, r < k → (p : Int) ∣ ht k W z r - ht k W (fun l => c0 * x l) r := fun r hr => by
    rw [ht_m]
    refine dv_tr (hz r hr) (dv_tr (b := (c0 : Int) * ib (S r)) ?_ (dv_sy (dv_ml _ (hx r hr))))
    by_cases hs : S r = true
    · rw [← Int.sub_mul]; exact Int.dvd_mul_of_dvd_left (h0 r hr hs)
    · have e : S r = false := by cases h9 : S r with
        | true => exact absurd h9 hs
        | false => rfl
      rw [e]
      show (p : Int) ∣ (W r ci : Int) * 0 - (c0 : Int) * 0
      rw [Int.mul_zero, Int.mul_zero]; exact Int.dvd_zero _
  have h2 : ∀ l, l < k → (p : Int) ∣ (z l : Int) - ((c0 * x l : Nat) : Int) := fun l hl => ht_inj hW h1 hl
  have h3 : (p : Int) ∣ (x t : Int) * ((c : Int) - (c0 : Int)) := by
    have := dv_tr hc (h2 t ht9)
    rw [Int.natCast_mul, ← Int.sub_mul, Int.mul_comm] at this
    exact this
  have h4 := nt_euclid hp.2 hxt h3
  intro l hl
  refine pm_eq (hzp l hl) (dv_tr (h2 l hl) ?_)
  rw [Int.natCast_mul, Int.natCast_mul, ← Int.sub_mul]
  exact Int.dvd_mul_of_dvd_left (dv_sy h4)

set_option maxHeartbeats 4000000 in
set_option maxRecDepth 100000 in
theorem c_Mo_ratio (l : Launch) (D : va_G) (E : sx_E) (B : Nat) (A : Nat → Prop) (hB : 11 ≤ B) {a : sA} {i : sA} {p k ci u : Nat} {Am : Nat → Nat → Nat → Nat} {W : Nat → Nat → Nat} {x : Nat → Nat} {S : Nat → Bool} (hmd : mdO p k Am a i) (hcm : cmO p k Am W) (hci : ci < k) (hu : u < 32) (hx : vcO p k (a 7) u x) (hxh : ∀ r, r < k → (p : Int) ∣ ht k W x r - ib (S r)) (hS : ∃ r, r < k ∧ S r = true) : sM l D E B A yMo_ratio prog_9_method_23_code 7 (some .int) 2 46 [.inr (0, 0), .inl (nI ci), .inl (nI u)] (mW a i) (fun r w' => ∃ (f : Nat → Int32) (z : Nat → Nat), w' = mW (va_up a 7 f) i ∧ frC [34, 36] (a 7) f ∧ vcO p k f 36 z ∧ (∀ r, r < k → (p : Int) ∣ ht k W z r - (W r ci : Int) * ib (S r)) ∧ ((∃ c, c < p ∧ r = some (.inl (nI c)) ∧ ∀ r, r < k → S r = true → (p : Int) ∣ (W r ci : Int) - (c : Int)) ∨ (r = some (.inl (-1)) ∧ ¬ ∃ c : Nat, ∀ r, r < k → S r = true → (p : Int) ∣ (W r ci : Int) - (c : Int)))) := by
  refine sx_m0 (ls := lMo_ratio) (cs := csAll) (by decide +kernel) kMo_ratio (hMo_ratio l D E B A hB) (by simp) (fun w' h => (by obtain ⟨_, _, _, _, _, _, ⟨_, _, h, _⟩ | ⟨h, _⟩⟩ := h <;> cases h)) ?_
  intro Z hZ
  have hpr := hmd.1
  have hp1 := hpr.1
  have hp92 := hmd.2.1
  have hk16 := hmd.2.2.1
  have h11 := hmd.2.2.2.1
  have h6 := hmd.2.2.2.2.1
  have hpp : p * p ≤ 1092 * 1092 := Nat.mul_le_mul (by omega) (by omega)
  obtain ⟨r0, hr0, hs0⟩ := hS
  have hnz : ∃ t, t < k ∧ x t ≠ 0 := ht_nz hp1 (by have := hxh r0 hr0; rw [hs0] at this; exact this)
  have rest : ∀ (f : Nat → Int32) (z : Nat → Nat), frC [34, 36] (a 7) f → vcO p k f 36 z → (∀ r, r < k → (p : Int) ∣ ht k W z r - (W r ci : Int) * ib (S r)) → ∀ x3 x4 x5 x6, Z 43 [some (.inr (0, 0)), some (.inl (nI ci)), some (.inl (nI u)), x3, x4, x5, x6] [] (mW (va_up a 7 f) i) := by
    intro f z hf hz hzh x3 x4 x5 x6
    have hxu : vcO p k f u x := vcO_fr hx hf (by simp; omega)
    obtain ⟨t0, ht0, hxt0⟩ := hnz
    obtain ⟨t, ht1, ht2, ht3⟩ := least (P := fun t => x t ≠ 0) t0 hxt0
    have htk : t < k := by omega
    have hxt : ¬ p ∣ x t := fun h9 => ht2 (Nat.eq_zero_of_dvd_of_lt h9 (hxu t (by omega)).2.1)
    have same : ∀ c, c < p → (p : Int) ∣ (c : Int) * (x t : Int) - (z t : Int) → ∀ m l (v : Int32), m + l = k → ((v = 1 ∧ ∀ j, j < l → z j = c * x j % p) ∨ (v = 0 ∧ ∃ j, j < k ∧ z j ≠ c * x j % p)) → Z 98 [some (.inr (0, 0)), some (.inl (nI ci)), some (.inl (nI u)), some (.inl (nI t)), some (.inl (nI c)), some (.inl v), some (.inl (nI l))] [] (mW (va_up a 7 f) i) := by
      intro c hc hct m
      induction m with
      | zero =>
        intro l v hm hv
        have e9 : l = k := by omega
        rw [e9]
        refine z_iload hZ gMo_ratio_98 rfl ?_
        refine z_aload_n hZ gMo_ratio_100 rfl ?_
        refine z_get hZ gMo_ratio_101 (by omega) rfl (by rw [h6]; rfl) ?_
        refine z_cmpge hZ gMo_ratio_104 (fun c104 => ?_) (fun c104 => absurd (nI_le (Nat.le_refl k) (by omega)) c104)
        refine z_iload hZ gMo_ratio_159 rfl ?_
        refine z_ifeq hZ gMo_ratio_161 (fun c161 => ?_) (fun c161 => ?_)
        · have ct161 := c161
          obtain ⟨j, hj, hjz⟩ : ∃ j, j < k ∧ z j ≠ c * x j % p := by
            rcases hv with ⟨h9, _⟩ | ⟨_, h9⟩
            · rw [h9] at c161; exact absurd c161 (by decide)
            · exact h9
          refine z_iconst hZ gMo_ratio_169 _ rfl ?_
          refine z_iret hZ gMo_ratio_170 ?_
          first
          | exact ⟨f, z, rfl, hf, hz, hzh, Or.inl ⟨c, hc, rfl, ra_yes hxh hzh hall⟩⟩
          | exact ⟨f, z, rfl, hf, hz, hzh, Or.inr ⟨rfl, fun ⟨c0, h0⟩ => hjz (ra_no hpr hcm.2 hxh hzh (fun l hl => (hz l (by omega)).2.1) htk hxt hct h0 j hj)⟩⟩
        · have cf161 := c161
          have hall : ∀ j, j < k → z j = c * x j % p := by
            rcases hv with ⟨_, h9⟩ | ⟨h9, _⟩
            · rw [← e9]; exact h9
            · exact absurd h9 c161
          refine z_iload hZ gMo_ratio_164 rfl ?_
          refine z_goto hZ gMo_ratio_166 ?_
          refine z_iret hZ gMo_ratio_170 ?_
          first
          | exact ⟨f, z, rfl, hf, hz, hzh, Or.inl ⟨c, hc, rfl, ra_yes hxh hzh hall⟩⟩
          | exact ⟨f, z, rfl, hf, hz, hzh, Or.inr ⟨rfl, fun ⟨c0, h0⟩ => hjz (ra_no hpr hcm.2 hxh hzh (fun l hl => (hz l (by omega)).2.1) htk hxt hct h0 j hj)⟩⟩
      | succ m ih =>
        intro l v hm hv
        have hl : l < k := by omega
        obtain ⟨hz1, hz2, -⟩ := hz l (by omega)
        obtain ⟨hx1, hx2, -⟩ := hxu l (by omega)
        have e36 := nI_clamp (n := 16 * 36 + l) (by omega)
        have eul := nI_clamp (n := 16 * u + l) (by omega)
        have hmu : c * x l ≤ p * p := Nat.mul_le_mul (by omega) (by omega)
        have hmod : c * x l % p < p := Nat.mod_lt _ (by omega)
        refine z_iload hZ gMo_ratio_98 rfl ?_
        refine z_aload_n hZ gMo_ratio_100 rfl ?_
        refine z_get hZ gMo_ratio_101 (by omega) rfl (by rw [h6]; rfl) ?_
        refine z_cmpge hZ gMo_ratio_104 (fun c104 => absurd c104 (nI_ge (by omega) (by omega))) (fun c104 => ?_)
        refine z_iload hZ gMo_ratio_107 rfl ?_
        refine z_ifeq hZ gMo_ratio_109 (fun c109 => ?_) (fun c109 => ?_)
        · have ct109 := c109
          have hno : ∃ j, j < k ∧ z j ≠ c * x j % p := by
            rcases hv with ⟨h9, _⟩ | ⟨_, h9⟩
            · rw [h9] at c109; exact absurd c109 (by decide)
            · exact h9
          refine z_iconst hZ gMo_ratio_150 _ rfl ?_
          refine z_istore hZ gMo_ratio_151 rfl ?_
          refine z_iinc hZ gMo_ratio_153 rfl _ (i1 l) rfl ?_
          refine z_goto hZ gMo_ratio_156 ?_
          first | exact ih (l + 1) _ (by omega) (Or.inr ⟨rfl, hno⟩) | exact ih (l + 1) _ (by omega) (Or.inl ⟨rfl, hyes1⟩)
        · have cf109 := c109
          have hyes : ∀ j, j < l → z j = c * x j % p := by
            rcases hv with ⟨_, h9⟩ | ⟨h9, _⟩
            · exact h9
            · exact absurd h9 c109
          refine z_aload_n hZ gMo_ratio_112 rfl ?_
          refine z_get hZ gMo_ratio_113 (by omega) rfl rfl ?_
          refine z_sipush hZ gMo_ratio_116 _ i576 ?_
          refine z_iload hZ gMo_ratio_119 rfl ?_
          refine z_iadd hZ gMo_ratio_121 _ (nI_add 576 l) ?_
          refine z_iald hZ gMo_ratio_122 (by omega) rfl (vp_in_nI (by omega) (by decide)) ?_
          rw [show (nI (576 + l)).toNatClampNeg = 16 * 36 + l from e36, va_up_self, hz1]
          refine z_iload hZ gMo_ratio_123 rfl ?_
          refine z_aload_n hZ gMo_ratio_125 rfl ?_
          refine z_get hZ gMo_ratio_126 (by omega) rfl rfl ?_
          refine z_bipush hZ gMo_ratio_129 _ i16 ?_
          refine z_iload_n hZ gMo_ratio_131 rfl ?_
          refine z_imul hZ gMo_ratio_132 _ rfl ?_
          refine z_iload hZ gMo_ratio_133 rfl ?_
          refine z_iadd hZ gMo_ratio_135 _ (ix2 u l) ?_
          refine z_iald hZ gMo_ratio_136 (by omega) rfl (vp_in_nI (by omega) (by decide)) ?_
          rw [eul, va_up_self, hx1]
          refine z_imul hZ gMo_ratio_137 _ (pk_mul c (x l)) ?_
          refine z_aload_n hZ gMo_ratio_138 rfl ?_
          refine z_get hZ gMo_ratio_139 (by omega) rfl (by rw [h11]; rfl) ?_
          refine z_irem hZ gMo_ratio_142 (nI_ne0 (by omega) (by omega)) _ (pk_rem (by omega) (by omega) (by omega)) ?_
          refine z_cmpne hZ gMo_ratio_143 (fun c143 => ?_) (fun c143 => ?_)
          · have ct143 := c143
            have hno : ∃ j, j < k ∧ z j ≠ c * x j % p := ⟨l, hl, fun h9 => c143 (by rw [h9])⟩
            refine z_iconst hZ gMo_ratio_150 _ rfl ?_
            refine z_istore hZ gMo_ratio_151 rfl ?_
            refine z_iinc hZ gMo_ratio_153 rfl _ (i1 l) rfl ?_
            refine z_goto hZ gMo_ratio_156 ?_
            first | exact ih (l + 1) _ (by omega) (Or.inr ⟨rfl, hno⟩) | exact ih (l + 1) _ (by omega) (Or.inl ⟨rfl, hyes1⟩)
          · have cf143 := c143
            have hyes1 : ∀ j, j < l + 1 → z j = c * x j % p := fun j hj => by
              by_cases e9 : j = l
              · subst e9; exact (nI_eq (by omega) (by omega)).mp c143
              · exact hyes j (by omega)
            refine z_iconst hZ gMo_ratio_146 _ rfl ?_
            refine z_goto hZ gMo_ratio_147 ?_
            refine z_istore hZ gMo_ratio_151 rfl ?_
            refine z_iinc hZ gMo_ratio_153 rfl _ (i1 l) rfl ?_
            refine z_goto hZ gMo_ratio_156 ?_
            first | exact ih (l + 1) _ (by omega) (Or.inr ⟨rfl, hno⟩) | exact ih (l + 1) _ (by omega) (Or.inl ⟨rfl, hyes1⟩)
    have found : ∀ x4 x5 x6, Z 65 [some (.inr (0, 0)), some (.inl (nI ci)), some (.inl (nI u)), some (.inl (nI t)), x4, x5, x6] [] (mW (va_up a 7 f) i) := by
      intro x4 x5 x6
      obtain ⟨hz1, hz2, -⟩ := hz t (by omega)
      obtain ⟨hx1, hx2, -⟩ := hxu t (by omega)
      have e36 := nI_clamp (n := 16 * 36 + t) (by omega)
      have eut := nI_clamp (n := 16 * u + t) (by omega)
      refine z_aload_n hZ gMo_ratio_65 rfl ?_
      refine z_aload_n hZ gMo_ratio_66 rfl ?_
      refine z_get hZ gMo_ratio_67 (by omega) rfl rfl ?_
      refine z_sipush hZ gMo_ratio_70 _ i576 ?_
      refine z_iload_n hZ gMo_ratio_73 rfl ?_
      refine z_iadd hZ gMo_ratio_74 _ (nI_add 576 t) ?_
      refine z_iald hZ gMo_ratio_75 (by omega) rfl (vp_in_nI (by omega) (by decide)) ?_
      rw [show (nI (576 + t)).toNatClampNeg = 16 * 36 + t from e36, va_up_self, hz1]
      refine z_aload_n hZ gMo_ratio_76 rfl ?_
      refine z_get hZ gMo_ratio_77 (by omega) rfl rfl ?_
      refine z_bipush hZ gMo_ratio_80 _ i16 ?_
      refine z_iload_n hZ gMo_ratio_82 rfl ?_
      refine z_imul hZ gMo_ratio_83 _ rfl ?_
      refine z_iload_n hZ gMo_ratio_84 rfl ?_
      refine z_iadd hZ gMo_ratio_85 _ (ix2 u t) ?_
      refine z_iald hZ gMo_ratio_86 (by omega) rfl (vp_in_nI (by omega) (by decide)) ?_
      rw [eut, va_up_self, hx1]
      refine z_cv hZ gMo_ratio_87 rfl rfl (Nat.le_of_ble_eq_true rfl) (Nat.le_of_ble_eq_true rfl) ⟨⟨0, _, _, rfl, by decide, rfl⟩, fun l9 D E B A hB => c_Mo_over l9 D E B A hB (p := p) (x := z t) (num := x t) hpr hp92 (by omega) (by omega) h11⟩ (fun r87 w87 p87 => ?_)
      obtain ⟨c, rfl, hc1, hc2, rfl⟩ := p87
      have hc3 := hc2 hxt
      show Z (87 + 3) _ (.inl (nI c) :: []) _
      refine z_istore hZ gMo_ratio_90 rfl ?_
      refine z_iconst hZ gMo_ratio_92 _ ic1 ?_
      refine z_istore hZ gMo_ratio_93 rfl ?_
      refine z_iconst hZ gMo_ratio_95 _ i0 ?_
      refine z_istore hZ gMo_ratio_96 rfl ?_
      exact same c hc1 hc3 k 0 _ (by omega) (Or.inl ⟨rfl, fun j hj => absurd hj (Nat.not_lt_zero j)⟩)
    have seek : ∀ m q x4 x5 x6, m + q = t → Z 45 [some (.inr (0, 0)), some (.inl (nI ci)), some (.inl (nI u)), some (.inl (nI q)), x4, x5, x6] [] (mW (va_up a 7 f) i) := by
      intro m
      induction m with
      | zero =>
        intro q x4 x5 x6 hm
        have e9 : q = t := by omega
        subst e9
        obtain ⟨hx1, hx2, -⟩ := hxu q (by omega)
        have euq := nI_clamp (n := 16 * u + q) (by omega)
        refine z_aload_n hZ gMo_ratio_45 rfl ?_
        refine z_get hZ gMo_ratio_46 (by omega) rfl rfl ?_
        refine z_bipush hZ gMo_ratio_49 _ i16 ?_
        refine z_iload_n hZ gMo_ratio_51 rfl ?_
        refine z_imul hZ gMo_ratio_52 _ rfl ?_
        refine z_iload_n hZ gMo_ratio_53 rfl ?_
        refine z_iadd hZ gMo_ratio_54 _ (ix2 u q) ?_
        refine z_iald hZ gMo_ratio_55 (by omega) rfl (vp_in_nI (by omega) (by decide)) ?_
        rw [euq, va_up_self, hx1]
        refine z_ifne hZ gMo_ratio_56 (fun c56 => ?_) (fun c56 => absurd ((nI_eq (b := 0) (by omega) (by decide)).mp c56) ht2)
        exact found _ _ _
      | succ m ih =>
        intro q x4 x5 x6 hm
        obtain ⟨hx1, hx2, -⟩ := hxu q (by omega)
        have euq := nI_clamp (n := 16 * u + q) (by omega)
        have hq0 : x q = 0 := Classical.byContradiction fun h9 => ht3 q (by omega) h9
        refine z_aload_n hZ gMo_ratio_45 rfl ?_
        refine z_get hZ gMo_ratio_46 (by omega) rfl rfl ?_
        refine z_bipush hZ gMo_ratio_49 _ i16 ?_
        refine z_iload_n hZ gMo_ratio_51 rfl ?_
        refine z_imul hZ gMo_ratio_52 _ rfl ?_
        refine z_iload_n hZ gMo_ratio_53 rfl ?_
        refine z_iadd hZ gMo_ratio_54 _ (ix2 u q) ?_
        refine z_iald hZ gMo_ratio_55 (by omega) rfl (vp_in_nI (by omega) (by decide)) ?_
        rw [euq, va_up_self, hx1, hq0]
        refine z_ifne hZ gMo_ratio_56 (fun c56 => absurd rfl c56) (fun c56 => ?_)
        refine z_iinc hZ gMo_ratio_59 rfl _ (i1 q) rfl ?_
        refine z_goto hZ gMo_ratio_62 ?_
        exact ih (q + 1) _ _ _ (by omega)
    refine z_iconst hZ gMo_ratio_43 _ i0 ?_
    refine z_istore_n hZ gMo_ratio_44 rfl ?_
    exact seek t 0 _ _ _ (by omega)
  have base : ∀ m l (f : Nat → Int32) x4 x5 x6, m + l = 16 → (∀ j, j < l → f (16 * 34 + j) = nI (if j = ci then 1 else 0)) → frC [34] (a 7) f → Z 2 [some (.inr (0, 0)), some (.inl (nI ci)), some (.inl (nI u)), some (.inl (nI l)), x4, x5, x6] [] (mW (va_up a 7 f) i) := by
    intro m
    induction m with
    | zero =>
      intro l f x4 x5 x6 hm h1 h2
      have e9 : l = 16 := by omega
      subst e9
      have hbv : vcO p k f 34 (fun j => if j = ci then 1 else 0) := fun j hj => ⟨h1 j hj, by show (if j = ci then 1 else 0) < p; split <;> omega, fun h9 => if_neg (by omega)⟩
      have hmd1 := mdO_7 hmd f
      refine z_iload_n hZ gMo_ratio_2 rfl ?_
      refine z_bipush hZ gMo_ratio_3 _ i16 ?_
      refine z_cmpge hZ gMo_ratio_5 (fun c5 => ?_) (fun c5 => absurd (nI_le (Nat.le_refl 16) (by decide)) c5)
      refine z_aload_n hZ gMo_ratio_34 rfl ?_
      refine z_bipush hZ gMo_ratio_35 _ i36 ?_
      refine z_bipush hZ gMo_ratio_37 _ i34 ?_
      refine z_iload_n hZ gMo_ratio_39 rfl ?_
      refine z_cv hZ gMo_ratio_40 rfl rfl (Nat.le_of_ble_eq_true rfl) (Nat.le_of_ble_eq_true rfl) ⟨⟨0, _, _, rfl, by decide, rfl⟩, fun l9 D E B A hB => c_Mo_multiply l9 D E B A hB (to := 36) (u := 34) (v := u) (x := fun j => if j = ci then 1 else 0) (y := x) (Am := Am) (by decide) (by decide) (by omega) (by decide) (by omega) hp1 hp92 hk16 h11 h6 (by rw [va_up_self]; exact hbv) (by rw [va_up_self]; exact vcO_fr hx h2 (by simp; omega)) hmd1.2.2.2.2.2.1 hmd1.2.2.2.2.2.2⟩ (fun r40 w40 p40 => ?_)
      obtain ⟨rfl, f1, z1, rfl, hz1, hf1, hz2⟩ := p40
      rw [va_up_self] at hf1
      rw [va_uu]
      show Z (40 + 3) _ [] _
      refine rest f1 z1 (frC_tr (frC_mono h2 (by simp)) (frC_mono hf1 (by simp))) hz1 (fun r hr => ?_) _ _ _ _
      have h9 := mul_hat hcm hz2 hr
      rw [ht_e hci] at h9
      exact dv_tr h9 (dv_ml _ (hxh r hr))
    | succ m ih =>
      intro l f x4 x5 x6 hm h1 h2
      have e34 := nI_clamp (n := 16 * 34 + l) (by omega)
      have next : ∀ v : Nat, v = (if l = ci then 1 else 0) → Z 27 [some (.inr (0, 0)), some (.inl (nI ci)), some (.inl (nI u)), some (.inl (nI l)), x4, x5, x6] [.inl (nI v), .inl (nI (544 + l)), .inr (7, 0)] (mW (va_up a 7 f) i) := by
        intro v hv
        refine z_iastW hZ gMo_ratio_27 (by omega) rfl (vp_in_nI (by omega) (by decide)) mW_a7 ?_
        rw [show (nI (544 + l)).toNatClampNeg = 16 * 34 + l from e34, va_up_self, va_uu]
        refine z_iinc hZ gMo_ratio_28 rfl _ (i1 l) rfl ?_
        refine z_goto hZ gMo_ratio_31 ?_
        refine ih (l + 1) _ _ _ _ (by omega) (fun j hj => ?_) (fun u9 j hj hu9 => ?_)
        · by_cases e9 : j = l
          · subst e9; rw [pk_us, hv]
          · rw [pk_un (by omega)]; exact h1 j (by omega)
        · rw [pk_un (by simp at hu9; omega)]; exact h2 u9 j hj hu9
      refine z_iload_n hZ gMo_ratio_2 rfl ?_
      refine z_bipush hZ gMo_ratio_3 _ i16 ?_
      refine z_cmpge hZ gMo_ratio_5 (fun c5 => absurd c5 (nI_ge (by omega) (by decide))) (fun c5 => ?_)
      refine z_aload_n hZ gMo_ratio_8 rfl ?_
      refine z_get hZ gMo_ratio_9 (by omega) rfl rfl ?_
      refine z_sipush hZ gMo_ratio_12 _ i544 ?_
      refine z_iload_n hZ gMo_ratio_15 rfl ?_
      refine z_iadd hZ gMo_ratio_16 _ (nI_add 544 l) ?_
      refine z_iload_n hZ gMo_ratio_17 rfl ?_
      refine z_iload_n hZ gMo_ratio_18 rfl ?_
      refine z_cmpne hZ gMo_ratio_19 (fun c19 => ?_) (fun c19 => ?_)
      · have ct19 := c19
        have hv : 0 = (if l = ci then 1 else 0) := (if_neg (fun h9 => c19 (by rw [h9]))).symm
        refine z_iconst hZ gMo_ratio_26 _ i0 ?_
        exact next _ hv
      · have cf19 := c19
        have hv : 1 = (if l = ci then 1 else 0) := (if_pos ((nI_eq (by omega) (by omega)).mp c19)).symm
        refine z_iconst hZ gMo_ratio_22 _ ic1 ?_
        refine z_goto hZ gMo_ratio_23 ?_
        exact next _ hv
  refine z_iconst hZ gMo_ratio_0 _ i0 ?_
  refine z_istore_n hZ gMo_ratio_1 rfl ?_
  have h9 := base 16 0 (a 7) none none none rfl (fun q hq => absurd hq (Nat.not_lt_zero q)) (fun _ _ _ _ => rfl)
  rw [va_id a (k := 7) rfl] at h9
  exact h9

