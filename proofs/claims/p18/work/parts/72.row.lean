-- the reference: a row
-- the tables of the elements and classes as the reference holds them
def mtO (a i : sA) (s : Nat → Nat) (n k : Nat) (kl re : Nat → Nat) : Prop := elM a i s n ∧ n ≤ 120 ∧ (∀ j k, j < k → k < n → s j < s k) ∧ clS s n k kl re ∧ (∀ x, x ∈ Gl s n → isP x) ∧ k ≤ 16 ∧ i 0 6 = nI k ∧ (∀ j, j < n → a 3 j = nI (kl (s j))) ∧ ∀ l, l < k → a 5 l = nI (re l) ∧ a 4 l = nI (kc_s (Gl s n) kl l)
theorem mt_fr {a a' i i' : sA} {s : Nat → Nat} {n k : Nat} {kl re : Nat → Nat} (h : mtO a i s n k kl re) (h2 : a' 2 = a 2) (h3 : a' 3 = a 3) (h4 : a' 4 = a 4) (h5 : a' 5 = a 5) (i3 : i' 0 3 = i 0 3) (i6 : i' 0 6 = i 0 6) : mtO a' i' s n k kl re := by
  obtain ⟨⟨q1, q2, q3⟩, q4, q5, q6, q7, q8, q9, q10, q11⟩ := h
  exact ⟨⟨by rw [i3]; exact q1, by rw [h2]; exact q2, q3⟩, q4, q5, q6, q7, q8, by rw [i6]; exact q9, by rw [h3]; exact q10, by rw [h4, h5]; exact q11⟩
abbrev ivM (kl re : Nat → Nat) (c : Nat) : Nat := kl (piv (re c))

set_option maxHeartbeats 4000000 in
set_option maxRecDepth 100000 in
theorem c_Mo_inverseOf (l : Launch) (D : va_G) (E : sx_E) (B : Nat) (A : Nat → Prop) (hB : 11 ≤ B) {a : sA} {i : sA} {s : Nat → Nat} {n k c : Nat} {kl re : Nat → Nat} (hm : mtO a i s n k kl re) (hc : c < k) : sM l D E B A yMo_inverseOf prog_9_method_26_code 3 (some .int) 2 44 [.inr (0, 0), .inl (nI c)] (mW a i) (fun r w' => r = some (.inl (nI (ivM kl re c))) ∧ w' = mW a i) := by
  refine sx_m0 (ls := lMo_inverseOf) (cs := csAll) (by decide +kernel) kMo_inverseOf (hMo_inverseOf l D E B A hB) (by simp) (fun w' h => by cases h.1) ?_
  intro Z hZ
  have hG := kc_g hm.2.2.2.1.1
  have hrG := kc_re hm.2.2.2.1.1 hc
  have hvG : piv (re c) ∈ Gl s n := gg_i hG hrG
  have hk16 := hm.2.2.2.2.2.1
  have hn := hm.2.1
  have ec := nI_clamp (n := c) (by omega)
  refine z_aload_n hZ gMo_inverseOf_0 rfl ?_
  refine z_get hZ gMo_inverseOf_1 (by omega) rfl rfl ?_
  refine z_iload_n hZ gMo_inverseOf_4 rfl ?_
  refine z_iald hZ gMo_inverseOf_5 (by omega) rfl (vp_in_nI (by omega) (by decide)) ?_
  rw [ec, (hm.2.2.2.2.2.2.2.2 c hc).1]
  refine z_cs hZ gMo_inverseOf_6 rfl rfl (Nat.le_of_ble_eq_true rfl) (Nat.le_of_ble_eq_true rfl) (fun l9 D E B A hB => c_Mo_inverted l9 D E B A hB (hm.2.2.2.2.1 _ hrG) _) (fun r6 w6 p6 => ?_)
  obtain ⟨rfl, rfl⟩ := p6
  show Z (6 + 3) _ (.inl (nI (piv (re c))) :: []) _
  refine z_istore_n hZ gMo_inverseOf_9 rfl ?_
  refine z_aload_n hZ gMo_inverseOf_10 rfl ?_
  refine z_get hZ gMo_inverseOf_11 (by omega) rfl rfl ?_
  refine z_aload_n hZ gMo_inverseOf_14 rfl ?_
  refine z_iload_n hZ gMo_inverseOf_15 rfl ?_
  refine z_cv hZ gMo_inverseOf_16 rfl rfl (Nat.le_of_ble_eq_true rfl) (Nat.le_of_ble_eq_true rfl) ⟨⟨0, _, _, rfl, by decide, rfl⟩, fun l9 D E B A hB => c_Mo_find l9 D E B A hB (cnt := n) (x := nI (piv (re c))) hm.1.1 hm.2.1⟩ (fun r16 w16 p16 => ?_)
  obtain ⟨h16, rfl⟩ := p16
  obtain ⟨j9, hj9, hj8, hj7, rfl⟩ := elM_fp hm.1 hm.2.2.1 hvG h16
  have ej9 : (nI j9).toNatClampNeg = j9 := nI_clamp (by omega)
  show Z (16 + 3) _ (.inl (nI j9) :: .inr (3, 0) :: []) _
  refine z_iald hZ gMo_inverseOf_19 (by omega) rfl (vp_in_nI (by omega) (by decide)) ?_
  rw [ej9, hm.2.2.2.2.2.2.2.1 j9 hj9, hj8]
  refine z_iret hZ gMo_inverseOf_20 ?_
  exact ⟨rfl, rfl⟩

def dgM (p ord sum d : Nat) : Prop := 1 ≤ d ∧ d ≤ p ∧ (∀ j, 1 ≤ j → j < d → j * j % p * sum % p ≠ ord % p) ∧ (d < p → d * d % p * sum % p = ord % p)
def rmO (p k ord : Nat) (sz iv Wr : Nat → Nat) (dg : Int32) (V : Nat → Int32) : Prop := ∃ (ov : Nat → Nat) (d : Nat) (vv : Nat → Nat), (∀ c, c < k → ov c < p ∧ (p : Int) ∣ (ov c : Int) * (sz c : Int) - (Wr c : Int) * (Wr (iv c) : Int)) ∧ dgM p ord (acS p ov (fun _ => 1) k) d ∧ dg = nI d ∧ ∀ c, c < k → V c = nI (vv c) ∧ vv c < p ∧ (p : Int) ∣ (vv c : Int) * (sz c : Int) - (d : Int) * (Wr c : Int)

set_option maxHeartbeats 4000000 in
set_option maxRecDepth 100000 in
theorem c_Mo_makeRow (l : Launch) (D : va_G) (E : sx_E) (B : Nat) (A : Nat → Prop) (hB : 11 ≤ B) {a : sA} {i : sA} {p k u su n : Nat} {Am : Nat → Nat → Nat → Nat} {W : Nat → Nat → Nat} {s kl re x : Nat → Nat} (hmd : mdO p k Am a i) (hcm : cmO p k Am W) (hWp : ∀ r q, r < k → q < k → W r q < p) (hm : mtO a i s n k kl re) (hnd : ∀ c, c < k → ¬ p ∣ kc_s (Gl s n) kl c) (hu : u < 16) (hsu : su < k) (hx : vcO p k (a 7) u x) (hxh : ∀ r, r < k → (p : Int) ∣ ht k W x r - ib (decide (r = su))) : sM l D E B A yMo_makeRow prog_9_method_27_code 6 none 3 72 [.inr (0, 0), .inl (nI u)] (mW a i) (fun r w' => r = none ∧ ∃ f f9 f8 : Nat → Int32, w' = mW (va_up (va_up (va_up a 7 f) 8 f8) 9 f9) i ∧ frC [16, 34, 36] (a 7) f ∧ (∀ w, w ≠ u → f8 w = a 8 w) ∧ (∀ w j, j < 16 → w ≠ u → f9 (16 * w + j) = a 9 (16 * w + j)) ∧ rmO p k n (kc_s (Gl s n) kl) (ivM kl re) (W su) (f8 u) (fun c => f9 (16 * u + c))) := by
  refine sx_m0 (ls := lMo_makeRow) (cs := csAll) (by decide +kernel) kMo_makeRow (hMo_makeRow l D E B A hB) (by simp) (fun x w' h => by cases h.1) ?_
  intro Z hZ
  have hpr := hmd.1
  have hp1 := hpr.1
  have hp92 := hmd.2.1
  have hk16 := hmd.2.2.1
  have h11 := hmd.2.2.2.1
  have h6 := hmd.2.2.2.2.1
  have hn120 := hm.2.1
  have hpp : p * p ≤ 1092 * 1092 := Nat.mul_le_mul (by omega) (by omega)
  have hWb : ∀ c, c < k → W su c < p := fun c hc => hWp su c hsu hc
  have hivk : ∀ c, c < k → ivM kl re c < k := fun c hc => kc_lt hm.2.2.2.1.1 (gg_i (kc_g hm.2.2.2.1.1) (kc_re hm.2.2.2.1.1 hc))
  have hszb : ∀ c, kc_s (Gl s n) kl c ≤ 120 := fun c => Nat.le_trans (sz_le c) hn120
  have hsz4 : ∀ c, c < k → a 4 c = nI (kc_s (Gl s n) kl c) := fun c hc => (hm.2.2.2.2.2.2.2.2 c hc).2
  have vals : ∀ (f : Nat → Int32) (ov : Nat → Nat) (d : Nat), frC [16, 34, 36] (a 7) f → (∀ c, c < k → f (16 * 16 + c) = nI (W su c)) → (∀ c, c < k → ov c < p ∧ (p : Int) ∣ (ov c : Int) * (kc_s (Gl s n) kl c : Int) - (W su c : Int) * (W su (ivM kl re c) : Int)) → dgM p n (acS p ov (fun _ => 1) k) d → ∀ x2 n9 c (f9 : Nat → Int32) (vv : Nat → Nat) x5, n9 + c = k → (∀ j, j < c → f9 (16 * u + j) = nI (vv j) ∧ vv j < p ∧ (p : Int) ∣ (vv j : Int) * (kc_s (Gl s n) kl j : Int) - (d : Int) * (W su j : Int)) → (∀ w j, j < 16 → w ≠ u → f9 (16 * w + j) = a 9 (16 * w + j)) → Z 155 [some (.inr (0, 0)), some (.inl (nI u)), x2, some (.inl (nI d)), some (.inl (nI c)), x5] [] (mW (va_up (va_up (va_up a 7 f) 8 (upd (a 8) u (nI d))) 9 f9) i) := by
    intro f ov d hf hf16 hov hdg x2 n9
    have hdp := hdg.2.1
    induction n9 with
    | zero =>
      intro c f9 vv x5 hn hvv hw
      have e9 : c = k := by omega
      subst e9
      refine z_iload hZ gMo_makeRow_155 rfl ?_
      refine z_aload_n hZ gMo_makeRow_157 rfl ?_
      refine z_get hZ gMo_makeRow_158 (by omega) rfl (by rw [h6]; rfl) ?_
      refine z_cmpge hZ gMo_makeRow_161 (fun c161 => ?_) (fun c161 => absurd (nI_le (Nat.le_refl c) (by omega)) c161)
      refine z_vret hZ gMo_makeRow_215 ?_
      refine ⟨rfl, f, f9, upd (a 8) u (nI d), rfl, hf, fun w hw9 => pk_un hw9, hw, ?_⟩
      rw [pk_us]
      exact ⟨ov, d, vv, hov, hdg, rfl, hvv⟩
    | succ n9 ih =>
      intro c f9 vv x5 hn hvv hw
      have hc : c < k := by omega
      have ec := nI_clamp (n := c) (by omega)
      have e16 := nI_clamp (n := 16 * 16 + c) (by omega)
      have euc := nI_clamp (n := 16 * u + c) (by omega)
      have hW9 := hWb c hc
      have hmu : d * W su c ≤ p * p := Nat.mul_le_mul hdp (by omega)
      have hmod : d * W su c % p < p := Nat.mod_lt _ (by omega)
      have hsb := hszb c
      have hgf : va_up (va_up (va_up a 7 f) 8 (upd (a 8) u (nI d))) 9 f9 7 (16 * 16 + c) = nI (W su c) := by rw [va_up_ne _ _ (by decide), va_up_ne _ _ (by decide), va_up_self]; exact hf16 c hc
      have hg4 : va_up (va_up (va_up a 7 f) 8 (upd (a 8) u (nI d))) 9 f9 4 c = nI (kc_s (Gl s n) kl c) := by rw [va_up_ne _ _ (by decide), va_up_ne _ _ (by decide), va_up_ne _ _ (by decide)]; exact hsz4 c hc
      refine z_iload hZ gMo_makeRow_155 rfl ?_
      refine z_aload_n hZ gMo_makeRow_157 rfl ?_
      refine z_get hZ gMo_makeRow_158 (by omega) rfl (by rw [h6]; rfl) ?_
      refine z_cmpge hZ gMo_makeRow_161 (fun c161 => absurd c161 (nI_ge (by omega) (by omega))) (fun c161 => ?_)
      refine z_iload_n hZ gMo_makeRow_164 rfl ?_
      refine z_aload_n hZ gMo_makeRow_165 rfl ?_
      refine z_get hZ gMo_makeRow_166 (by omega) rfl rfl ?_
      refine z_sipush hZ gMo_makeRow_169 _ i256 ?_
      refine z_iload hZ gMo_makeRow_172 rfl ?_
      refine z_iadd hZ gMo_makeRow_174 _ (nI_add 256 c) ?_
      refine z_iald hZ gMo_makeRow_175 (by omega) rfl (vp_in_nI (by omega) (by decide)) ?_
      rw [show (nI (256 + c)).toNatClampNeg = 16 * 16 + c from e16, hgf]
      refine z_imul hZ gMo_makeRow_176 _ (pk_mul d (W su c)) ?_
      refine z_aload_n hZ gMo_makeRow_177 rfl ?_
      refine z_get hZ gMo_makeRow_178 (by omega) rfl (by rw [h11]; rfl) ?_
      refine z_irem hZ gMo_makeRow_181 (nI_ne0 (by omega) (by omega)) _ (pk_rem (by omega) (by omega) (by omega)) ?_
      refine z_istore hZ gMo_makeRow_182 rfl ?_
      refine z_aload_n hZ gMo_makeRow_184 rfl ?_
      refine z_get hZ gMo_makeRow_185 (by omega) rfl rfl ?_
      refine z_bipush hZ gMo_makeRow_188 _ i16 ?_
      refine z_iload_n hZ gMo_makeRow_190 rfl ?_
      refine z_imul hZ gMo_makeRow_191 _ rfl ?_
      refine z_iload hZ gMo_makeRow_192 rfl ?_
      refine z_iadd hZ gMo_makeRow_194 _ (ix2 u c) ?_
      refine z_aload_n hZ gMo_makeRow_195 rfl ?_
      refine z_iload hZ gMo_makeRow_196 rfl ?_
      refine z_aload_n hZ gMo_makeRow_198 rfl ?_
      refine z_get hZ gMo_makeRow_199 (by omega) rfl rfl ?_
      refine z_iload hZ gMo_makeRow_202 rfl ?_
      refine z_iald hZ gMo_makeRow_204 (by omega) rfl (vp_in_nI (by omega) (by decide)) ?_
      rw [ec, hg4]
      refine z_cv hZ gMo_makeRow_205 rfl rfl (Nat.le_of_ble_eq_true rfl) (Nat.le_of_ble_eq_true rfl) ⟨⟨0, _, _, rfl, by decide, rfl⟩, fun l9 D E B A hB => c_Mo_over l9 D E B A hB (p := p) (x := d * W su c % p) (num := kc_s (Gl s n) kl c) hpr hp92 (by omega) (by omega) h11⟩ (fun r205 w205 p205 => ?_)
      obtain ⟨v9, rfl, hv1, hv2, rfl⟩ := p205
      have hv3 := hv2 (hnd c hc)
      show Z (205 + 3) _ (.inl (nI v9) :: .inl (nI (16 * u + c)) :: .inr (9, 0) :: []) _
      refine z_iastW hZ gMo_makeRow_208 (by omega) rfl (vp_in_nI (by omega) (by decide)) mW_a9 ?_
      rw [euc, va_up_self, va_uu]
      refine z_iinc hZ gMo_makeRow_209 rfl _ (i1 c) rfl ?_
      refine z_goto hZ gMo_makeRow_212 ?_
      refine ih (c + 1) _ (va_up vv c v9) _ (by omega) (fun j hj => ?_) (fun w j hj hw9 => ?_)
      · by_cases e9 : j = c
        · subst e9
          rw [pk_us, va_up_self]
          refine ⟨rfl, hv1, dv_tr hv3 ?_⟩
          have := md_dv (p := p) (y := d * W su j)
          rw [Int.natCast_mul] at this
          exact this
        · rw [pk_un (by omega), va_up_ne _ _ e9]; exact hvv j (by omega)
      · rw [pk_un (by omega)]; exact hw w j hj hw9
  have degs : ∀ (f : Nat → Int32) (ov : Nat → Nat), frC [16, 34, 36] (a 7) f → (∀ c, c < k → f (16 * 16 + c) = nI (W su c)) → (∀ c, c < k → ov c < p ∧ (p : Int) ∣ (ov c : Int) * (kc_s (Gl s n) kl c : Int) - (W su c : Int) * (W su (ivM kl re c) : Int)) → ∀ n9 d x4 x5, n9 + d = p → 1 ≤ d → (∀ j, 1 ≤ j → j < d → j * j % p * acS p ov (fun _ => 1) k % p ≠ n % p) → Z 104 [some (.inr (0, 0)), some (.inl (nI u)), some (.inl (nI (acS p ov (fun _ => 1) k))), some (.inl (nI d)), x4, x5] [] (mW (va_up a 7 f) i) := by
    intro f ov hf hf16 hov
    have hs := acS_lt (show 0 < p by omega) ov (fun _ => 1) k
    have fin : ∀ d x4 x5, dgM p n (acS p ov (fun _ => 1) k) d → Z 145 [some (.inr (0, 0)), some (.inl (nI u)), some (.inl (nI (acS p ov (fun _ => 1) k))), some (.inl (nI d)), x4, x5] [] (mW (va_up a 7 f) i) := by
      intro d x4 x5 hdg
      have eu := nI_clamp (n := u) (by omega)
      refine z_aload_n hZ gMo_makeRow_145 rfl ?_
      refine z_get hZ gMo_makeRow_146 (by omega) rfl rfl ?_
      refine z_iload_n hZ gMo_makeRow_149 rfl ?_
      refine z_iload_n hZ gMo_makeRow_150 rfl ?_
      refine z_iastW hZ gMo_makeRow_151 (by omega) rfl (vp_in_nI (by omega) (by decide)) mW_a8 ?_
      rw [eu, va_up_ne _ _ (show (8 : Nat) ≠ 7 by decide)]
      refine z_iconst hZ gMo_makeRow_152 _ i0 ?_
      refine z_istore hZ gMo_makeRow_153 rfl ?_
      have h9 := vals f ov d hf hf16 hov hdg (some (.inl (nI (acS p ov (fun _ => 1) k)))) k 0 (a 9) (fun _ => 0) x5 (by omega) (fun j hj => absurd hj (Nat.not_lt_zero j)) (fun _ _ _ _ => rfl)
      rw [va_id (va_up (va_up a 7 f) 8 (upd (a 8) u (nI d))) (k := 9) (by rw [va_up_ne _ _ (by decide), va_up_ne _ _ (by decide)])] at h9
      exact h9
    intro n9
    induction n9 with
    | zero =>
      intro d x4 x5 hn hd hno
      have e9 : d = p := by omega
      subst e9
      refine z_iload_n hZ gMo_makeRow_104 rfl ?_
      refine z_aload_n hZ gMo_makeRow_105 rfl ?_
      refine z_get hZ gMo_makeRow_106 (by omega) rfl (by rw [h11]; rfl) ?_
      refine z_cmpge hZ gMo_makeRow_109 (fun c109 => ?_) (fun c109 => absurd (nI_le (Nat.le_refl d) (by omega)) c109)
      exact fin d _ _ ⟨hd, Nat.le_refl d, hno, fun h9 => absurd h9 (Nat.lt_irrefl d)⟩
    | succ n9 ih =>
      intro d x4 x5 hn hd hno
      have hdd : d * d ≤ p * p := Nat.mul_le_mul (by omega) (by omega)
      have hm1 : d * d % p < p := Nat.mod_lt _ (by omega)
      have hmu : d * d % p * acS p ov (fun _ => 1) k ≤ p * p := Nat.mul_le_mul (by omega) (by omega)
      have hm2 : d * d % p * acS p ov (fun _ => 1) k % p < p := Nat.mod_lt _ (by omega)
      have hm3 : n % p < p := Nat.mod_lt _ (by omega)
      refine z_iload_n hZ gMo_makeRow_104 rfl ?_
      refine z_aload_n hZ gMo_makeRow_105 rfl ?_
      refine z_get hZ gMo_makeRow_106 (by omega) rfl (by rw [h11]; rfl) ?_
      refine z_cmpge hZ gMo_makeRow_109 (fun c109 => absurd c109 (nI_ge (by omega) (by omega))) (fun c109 => ?_)
      refine z_iload_n hZ gMo_makeRow_112 rfl ?_
      refine z_iload_n hZ gMo_makeRow_113 rfl ?_
      refine z_imul hZ gMo_makeRow_114 _ (pk_mul d d) ?_
      refine z_aload_n hZ gMo_makeRow_115 rfl ?_
      refine z_get hZ gMo_makeRow_116 (by omega) rfl (by rw [h11]; rfl) ?_
      refine z_irem hZ gMo_makeRow_119 (nI_ne0 (by omega) (by omega)) _ (pk_rem (by omega) (by omega) (by omega)) ?_
      refine z_iload_n hZ gMo_makeRow_120 rfl ?_
      refine z_imul hZ gMo_makeRow_121 _ (pk_mul _ _) ?_
      refine z_aload_n hZ gMo_makeRow_122 rfl ?_
      refine z_get hZ gMo_makeRow_123 (by omega) rfl (by rw [h11]; rfl) ?_
      refine z_irem hZ gMo_makeRow_126 (nI_ne0 (by omega) (by omega)) _ (pk_rem (by omega) (by omega) (by omega)) ?_
      refine z_aload_n hZ gMo_makeRow_127 rfl ?_
      refine z_get hZ gMo_makeRow_128 (by omega) rfl (by rw [hm.1.1]; rfl) ?_
      refine z_aload_n hZ gMo_makeRow_131 rfl ?_
      refine z_get hZ gMo_makeRow_132 (by omega) rfl (by rw [h11]; rfl) ?_
      refine z_irem hZ gMo_makeRow_135 (nI_ne0 (by omega) (by omega)) _ (pk_rem (by omega) (by omega) (by omega)) ?_
      refine z_cmpeq hZ gMo_makeRow_136 (fun c136 => ?_) (fun c136 => ?_)
      · have ct136 := c136
        have hyes : d * d % p * acS p ov (fun _ => 1) k % p = n % p := (nI_eq (by omega) (by omega)).mp c136
        exact fin d _ _ ⟨hd, by omega, hno, fun _ => hyes⟩
      · have cf136 := c136
        have hnew : d * d % p * acS p ov (fun _ => 1) k % p ≠ n % p := fun h9 => c136 (by rw [h9])
        refine z_iinc hZ gMo_makeRow_139 rfl _ (i1 d) rfl ?_
        refine z_goto hZ gMo_makeRow_142 ?_
        exact ih (d + 1) _ _ (by omega) (by omega) (fun j h1 h2 => by
          by_cases e9 : j = d
          · subst e9; exact hnew
          · exact hno j h1 (by omega))
  have sums : ∀ (f : Nat → Int32), frC [16, 34, 36] (a 7) f → (∀ c, c < k → f (16 * 16 + c) = nI (W su c)) → ∀ n9 c (ov : Nat → Nat) x4 x5, n9 + c = k → (∀ j, j < c → ov j < p ∧ (p : Int) ∣ (ov j : Int) * (kc_s (Gl s n) kl j : Int) - (W su j : Int) * (W su (ivM kl re j) : Int)) → Z 36 [some (.inr (0, 0)), some (.inl (nI u)), some (.inl (nI (acS p ov (fun _ => 1) c))), some (.inl (nI c)), x4, x5] [] (mW (va_up a 7 f) i) := by
    intro f hf hf16 n9
    have hm7 : mtO (va_up a 7 f) i s n k kl re := mt_fr hm (va_up_ne _ _ (by decide)) (va_up_ne _ _ (by decide)) (va_up_ne _ _ (by decide)) (va_up_ne _ _ (by decide)) rfl rfl
    induction n9 with
    | zero =>
      intro c ov x4 x5 hn hov
      have e9 : c = k := by omega
      subst e9
      refine z_iload_n hZ gMo_makeRow_36 rfl ?_
      refine z_aload_n hZ gMo_makeRow_37 rfl ?_
      refine z_get hZ gMo_makeRow_38 (by omega) rfl (by rw [h6]; rfl) ?_
      refine z_cmpge hZ gMo_makeRow_41 (fun c41 => ?_) (fun c41 => absurd (nI_le (Nat.le_refl c) (by omega)) c41)
      refine z_iconst hZ gMo_makeRow_102 _ ic1 ?_
      refine z_istore_n hZ gMo_makeRow_103 rfl ?_
      exact degs f ov hf hf16 hov (p - 1) 1 _ _ (by omega) (Nat.le_refl 1) (fun j h1 h2 => by omega)
    | succ n9 ih =>
      intro c ov x4 x5 hn hov
      have hc : c < k := by omega
      have hik := hivk c hc
      have ec := nI_clamp (n := c) (by omega)
      have e16 := nI_clamp (n := 16 * 16 + c) (by omega)
      have e16i := nI_clamp (n := 16 * 16 + ivM kl re c) (by omega)
      have hW1 := hWb c hc
      have hW2 := hWb _ hik
      have hs := acS_lt (show 0 < p by omega) ov (fun _ => 1) c
      have hmu : W su c * W su (ivM kl re c) ≤ p * p := Nat.mul_le_mul (by omega) (by omega)
      have hmod : W su c * W su (ivM kl re c) % p < p := Nat.mod_lt _ (by omega)
      have hsb := hszb c
      refine z_iload_n hZ gMo_makeRow_36 rfl ?_
      refine z_aload_n hZ gMo_makeRow_37 rfl ?_
      refine z_get hZ gMo_makeRow_38 (by omega) rfl (by rw [h6]; rfl) ?_
      refine z_cmpge hZ gMo_makeRow_41 (fun c41 => absurd c41 (nI_ge (by omega) (by omega))) (fun c41 => ?_)
      refine z_aload_n hZ gMo_makeRow_44 rfl ?_
      refine z_get hZ gMo_makeRow_45 (by omega) rfl rfl ?_
      refine z_sipush hZ gMo_makeRow_48 _ i256 ?_
      refine z_iload_n hZ gMo_makeRow_51 rfl ?_
      refine z_iadd hZ gMo_makeRow_52 _ (nI_add 256 c) ?_
      refine z_iald hZ gMo_makeRow_53 (by omega) rfl (vp_in_nI (by omega) (by decide)) ?_
      rw [show (nI (256 + c)).toNatClampNeg = 16 * 16 + c from e16, va_up_self, hf16 c hc]
      refine z_aload_n hZ gMo_makeRow_54 rfl ?_
      refine z_get hZ gMo_makeRow_55 (by omega) rfl rfl ?_
      refine z_sipush hZ gMo_makeRow_58 _ i256 ?_
      refine z_aload_n hZ gMo_makeRow_61 rfl ?_
      refine z_iload_n hZ gMo_makeRow_62 rfl ?_
      refine z_cv hZ gMo_makeRow_63 rfl rfl (Nat.le_of_ble_eq_true rfl) (Nat.le_of_ble_eq_true rfl) ⟨⟨0, _, _, rfl, by decide, rfl⟩, fun l9 D E B A hB => c_Mo_inverseOf l9 D E B A hB hm7 hc⟩ (fun r63 w63 p63 => ?_)
      obtain ⟨rfl, rfl⟩ := p63
      show Z (63 + 3) _ (.inl (nI (ivM kl re c)) :: .inl (nI 256) :: .inr (7, 0) :: .inl (nI (W su c)) :: []) _
      refine z_iadd hZ gMo_makeRow_66 _ (nI_add 256 (ivM kl re c)) ?_
      refine z_iald hZ gMo_makeRow_67 (by omega) rfl (vp_in_nI (by omega) (by decide)) ?_
      rw [show (nI (256 + ivM kl re c)).toNatClampNeg = 16 * 16 + ivM kl re c from e16i, va_up_self, hf16 _ hik]
      refine z_imul hZ gMo_makeRow_68 _ (pk_mul _ _) ?_
      refine z_aload_n hZ gMo_makeRow_69 rfl ?_
      refine z_get hZ gMo_makeRow_70 (by omega) rfl (by rw [h11]; rfl) ?_
      refine z_irem hZ gMo_makeRow_73 (nI_ne0 (by omega) (by omega)) _ (pk_rem (by omega) (by omega) (by omega)) ?_
      refine z_istore hZ gMo_makeRow_74 rfl ?_
      refine z_iload_n hZ gMo_makeRow_76 rfl ?_
      refine z_aload_n hZ gMo_makeRow_77 rfl ?_
      refine z_iload hZ gMo_makeRow_78 rfl ?_
      refine z_aload_n hZ gMo_makeRow_80 rfl ?_
      refine z_get hZ gMo_makeRow_81 (by omega) rfl rfl ?_
      refine z_iload_n hZ gMo_makeRow_84 rfl ?_
      refine z_iald hZ gMo_makeRow_85 (by omega) rfl (vp_in_nI (by omega) (by decide)) ?_
      rw [ec, va_up_ne _ _ (show (4 : Nat) ≠ 7 by decide), hsz4 c hc]
      refine z_cv hZ gMo_makeRow_86 rfl rfl (Nat.le_of_ble_eq_true rfl) (Nat.le_of_ble_eq_true rfl) ⟨⟨0, _, _, rfl, by decide, rfl⟩, fun l9 D E B A hB => c_Mo_over l9 D E B A hB (p := p) (x := W su c * W su (ivM kl re c) % p) (num := kc_s (Gl s n) kl c) hpr hp92 (by omega) (by omega) h11⟩ (fun r86 w86 p86 => ?_)
      obtain ⟨v9, rfl, hv1, hv2, rfl⟩ := p86
      have hv3 := hv2 (hnd c hc)
      show Z (86 + 3) _ (.inl (nI v9) :: .inl (nI (acS p ov (fun _ => 1) c)) :: []) _
      refine z_iadd hZ gMo_makeRow_89 _ (nI_add _ _) ?_
      refine z_aload_n hZ gMo_makeRow_90 rfl ?_
      refine z_get hZ gMo_makeRow_91 (by omega) rfl (by rw [h11]; rfl) ?_
      refine z_irem hZ gMo_makeRow_94 (nI_ne0 (by omega) (by omega)) _ (pk_rem (by omega) (by omega) (by omega)) ?_
      refine z_istore_n hZ gMo_makeRow_95 rfl ?_
      refine z_iinc hZ gMo_makeRow_96 rfl _ (i1 c) rfl ?_
      refine z_goto hZ gMo_makeRow_99 ?_
      have h9 := ih (c + 1) (va_up ov c v9) (some (.inl (nI (W su c * W su (ivM kl re c) % p)))) x5 (by omega) (fun j hj => by
        by_cases e9 : j = c
        · subst e9
          rw [va_up_self]
          refine ⟨hv1, dv_tr hv3 ?_⟩
          have := md_dv (p := p) (y := W su j * W su (ivM kl re j))
          rw [Int.natCast_mul] at this
          exact this
        · rw [va_up_ne _ _ e9]; exact hov j (by omega))
      have e8 : acS p (va_up ov c v9) (fun _ => 1) (c + 1) = (acS p ov (fun _ => 1) c + v9) % p := by
        show (acS p (va_up ov c v9) (fun _ => 1) c + va_up ov c v9 c * 1) % p = _
        rw [va_up_self, Nat.mul_one, acS_cg (u' := ov) c (fun j hj => va_up_ne _ _ (by omega))]
      rw [e8] at h9
      exact h9
  have rat : ∀ n9 c (f : Nat → Int32) x4 x5, n9 + c = k → frC [16, 34, 36] (a 7) f → (∀ j, j < c → f (16 * 16 + j) = nI (W su j)) → Z 4 [some (.inr (0, 0)), some (.inl (nI u)), some (.inl (nI 0)), some (.inl (nI c)), x4, x5] [] (mW (va_up a 7 f) i) := by
    intro n9
    induction n9 with
    | zero =>
      intro c f x4 x5 hn hf hf16
      have e9 : c = k := by omega
      subst e9
      refine z_iload_n hZ gMo_makeRow_4 rfl ?_
      refine z_aload_n hZ gMo_makeRow_5 rfl ?_
      refine z_get hZ gMo_makeRow_6 (by omega) rfl (by rw [h6]; rfl) ?_
      refine z_cmpge hZ gMo_makeRow_9 (fun c9 => ?_) (fun c9 => absurd (nI_le (Nat.le_refl c) (by omega)) c9)
      refine z_iconst hZ gMo_makeRow_34 _ i0 ?_
      refine z_istore_n hZ gMo_makeRow_35 rfl ?_
      exact sums f hf hf16 c 0 (fun _ => 0) _ _ (by omega) (fun j hj => absurd hj (Nat.not_lt_zero j))
    | succ n9 ih =>
      intro c f x4 x5 hn hf hf16
      have hc : c < k := by omega
      have e16 := nI_clamp (n := 16 * 16 + c) (by omega)
      have hmd1 := mdO_7 hmd f
      refine z_iload_n hZ gMo_makeRow_4 rfl ?_
      refine z_aload_n hZ gMo_makeRow_5 rfl ?_
      refine z_get hZ gMo_makeRow_6 (by omega) rfl (by rw [h6]; rfl) ?_
      refine z_cmpge hZ gMo_makeRow_9 (fun c9 => absurd c9 (nI_ge (by omega) (by omega))) (fun c9 => ?_)
      refine z_aload_n hZ gMo_makeRow_12 rfl ?_
      refine z_get hZ gMo_makeRow_13 (by omega) rfl rfl ?_
      refine z_sipush hZ gMo_makeRow_16 _ i256 ?_
      refine z_iload_n hZ gMo_makeRow_19 rfl ?_
      refine z_iadd hZ gMo_makeRow_20 _ (nI_add 256 c) ?_
      refine z_aload_n hZ gMo_makeRow_21 rfl ?_
      refine z_iload_n hZ gMo_makeRow_22 rfl ?_
      refine z_iload_n hZ gMo_makeRow_23 rfl ?_
      refine z_cv hZ gMo_makeRow_24 rfl rfl (Nat.le_of_ble_eq_true rfl) (Nat.le_of_ble_eq_true rfl) ⟨⟨0, _, _, rfl, by decide, rfl⟩, fun l9 D E B A hB => c_Mo_ratio l9 D E B A hB (p := p) (k := k) (ci := c) (u := u) (W := W) (x := x) (S := fun r => decide (r = su)) hmd1 hcm hc (by omega) (by rw [va_up_self]; exact vcO_fr hx hf (by simp; omega)) hxh ⟨su, hsu, decide_eq_true rfl⟩⟩ (fun r24 w24 p24 => ?_)
      obtain ⟨f2, z2, rfl, hf2, hz2, hzh2, p24⟩ := p24
      rw [va_up_self] at hf2
      rw [va_uu]
      have hr24 : r24 = some (.inl (nI (W su c))) := by
        rcases p24 with ⟨c9, hc9, hr9, hcon⟩ | ⟨_, hcon⟩
        · have h1 := hcon su hsu (decide_eq_true rfl)
          have h2 := hWb c hc
          have h3 := dv_0 h1 (by omega) (by omega)
          have h4 : c9 = W su c := by omega
          rw [hr9, h4]
        · exact absurd ⟨W su c, fun r hr hs => by rw [of_decide_eq_true hs, Int.sub_self]; exact Int.dvd_zero _⟩ hcon
      subst hr24
      show Z (24 + 3) _ (.inl (nI (W su c)) :: .inl (nI (256 + c)) :: .inr (7, 0) :: []) _
      refine z_iastW hZ gMo_makeRow_27 (by omega) rfl (vp_in_nI (by omega) (by decide)) mW_a7 ?_
      rw [show (nI (256 + c)).toNatClampNeg = 16 * 16 + c from e16, va_up_self, va_uu]
      refine z_iinc hZ gMo_makeRow_28 rfl _ (i1 c) rfl ?_
      refine z_goto hZ gMo_makeRow_31 ?_
      refine ih (c + 1) _ _ _ (by omega) (frC_up (frC_tr hf (frC_mono hf2 (fun w hw => by simp at hw; rcases hw with rfl | rfl <;> decide))) (by decide) (by omega)) (fun j hj => ?_)
      by_cases e9 : j = c
      · subst e9; rw [pk_us]
      · rw [pk_un (by omega), hf2 16 j (by omega) (by decide)]; exact hf16 j (by omega)
  refine z_iconst hZ gMo_makeRow_0 _ i0 ?_
  refine z_istore_n hZ gMo_makeRow_1 rfl ?_
  refine z_iconst hZ gMo_makeRow_2 _ i0 ?_
  refine z_istore_n hZ gMo_makeRow_3 rfl ?_
  have h9 := rat k 0 (a 7) none none (by omega) (fun _ _ _ _ => rfl) (fun j hj => absurd hj (Nat.not_lt_zero j))
  rw [va_id a (k := 7) rfl] at h9
  exact h9

