-- the reference: an idempotent is split
theorem frC_up {L : List Nat} {f0 f : Nat → Int32} {u l : Nat} {v : Int32} (h : frC L f0 f) (hu : u ∈ L) (hl : l < 16) : frC L f0 (upd f (16 * u + l) v) := fun w j hj hw => by
  have hne : w ≠ u := fun e => hw (by rw [e]; exact hu)
  rw [pk_un (by omega)]
  exact h w j hj hw
abbrev spL : List Nat := [16, 17, 18, 19, 20, 21, 22, 23, 24, 25, 26, 27, 28, 29, 30, 31, 32, 33, 34, 35, 36]
theorem spL_m {q : Nat} (h1 : 16 ≤ q) (h2 : q ≤ 36) : q ∈ spL := by
  have : ∀ q, q ≤ 36 → 16 ≤ q → q ∈ spL := by decide
  exact this q h2 h1
theorem spL_n {u : Nat} (h : u < 16) : u ∉ spL := by
  have : ∀ q, q < 16 → q ∉ spL := by decide
  exact this u h

set_option maxHeartbeats 4000000 in
set_option maxRecDepth 100000 in
theorem c_Mo_split (l : Launch) (D : va_G) (E : sx_E) (B : Nat) (A : Nat → Prop) (hB : 11 ≤ B) {a : sA} {i : sA} {p k ci u num : Nat} {Am : Nat → Nat → Nat → Nat} {W : Nat → Nat → Nat} {cl : Nat → Nat} (hmd : mdO p k Am a i) (hcm : cmO p k Am W) (hWp : ∀ r q, r < k → q < k → W r q < p) (hci : ci < k) (hu : u < num) (h14 : i 0 14 = nI num) (hid : idO p k W (a 7) num cl) : sM l D E B A yMo_split prog_9_method_24_code 7 none 3 72 [.inr (0, 0), .inl (nI ci), .inl (nI u)] (mW a i) (fun r w' => r = none ∧ ∃ (f : Nat → Int32) (i' : sA) (num' : Nat) (cl' : Nat → Nat), w' = mW (va_up a 7 f) i' ∧ frM [14] i i' ∧ i' 0 14 = nI num' ∧ idO p k W f num' cl' ∧ num ≤ num' ∧ spO k W ci u num cl cl') := by
  refine sx_m0 (ls := lMo_split) (cs := csAll) (by decide +kernel) kMo_split (hMo_split l D E B A hB) (by simp) (fun x w' h => by cases h.1) ?_
  intro Z hZ
  have hpr := hmd.1
  have hp1 := hpr.1
  have hp92 := hmd.2.1
  have hk16 := hmd.2.2.1
  have h11 := hmd.2.2.2.1
  have hnum : num ≤ k := pg_on hid.2.1
  have hpp : p * p ≤ 1092 * 1092 := Nat.mul_le_mul (by omega) (by omega)
  obtain ⟨x, hx, hxh⟩ := hid.2.2 u hu
  obtain ⟨r0, hr0, hc0⟩ := hid.2.1 u hu
  have go : ∀ z : Nat → Nat, (∀ r, r < k → (p : Int) ∣ ht k W z r - (W r ci : Int) * ib (decide (cl r = u))) → ∀ n9 v m pv (f : Nat → Int32) x5 x6, n9 + v = p → frC spL (a 7) f → vcO p k f 36 z → ptO p k W cl u ci f v m pv → Z 16 [some (.inr (0, 0)), some (.inl (nI ci)), some (.inl (nI u)), some (.inl (nI m)), some (.inl (nI v)), x5, x6] [] (mW (va_up a 7 f) i) := by
    intro z hzh n9
    induction n9 with
    | zero =>
      intro v m pv f x5 x6 hn hf hz hpt
      have e9 : v = p := by omega
      subst e9
      have hmk := pt_le hpt
      have hxf : ∀ w y, w < num → vcO v k (a 7) w y → vcO v k f w y := fun w y hw h => vcO_fr h hf (spL_n (by omega))
      obtain ⟨Q, hQ⟩ : ∃ Q : Nat → Nat, ∀ r, r < k → cl r = u → Q r < m ∧ pv (Q r) = W r ci := by
        refine ⟨fun r => if h : ∃ q, q < m ∧ pv q = W r ci then h.choose else 0, fun r hr hc => ?_⟩
        have h : ∃ q, q < m ∧ pv q = W r ci := hpt.2.2.1 r hr hc (hWp r ci hr hci)
        show (if h : ∃ q, q < m ∧ pv q = W r ci then h.choose else 0) < m ∧ pv (if h : ∃ q, q < m ∧ pv q = W r ci then h.choose else 0) = W r ci
        rw [dif_pos h]
        exact h.choose_spec
      have hm1 : 1 ≤ m := by have := (hQ r0 hr0 hc0).1; omega
      have hid1 : idO v k W f num cl := ⟨hid.1, hid.2.1, fun w hw => by
        obtain ⟨y, hy, hyh⟩ := hid.2.2 w hw
        exact ⟨y, hxf w y hw hy, hyh⟩⟩
      have hbound : num + m - 1 ≤ k := by
        refine pg_on (g := ncl cl Q u num) (fun w hw => ?_)
        have hid2 : idO v k W (fun j => if j / 16 = u then f (16 * 16 + j % 16) else if num ≤ j / 16 then f (16 * (16 + (j / 16 - num + 1)) + j % 16) else f j) (num + m - 1) (ncl cl Q u num) := by
          refine ncl_id hid1 hu hpt hQ (fun y hy j hj => ?_) (fun q y hq1 hq2 hy j hj => ?_) (fun w9 y hw9 hne hy j hj => ?_)
          · show (if (16 * u + j) / 16 = u then _ else _) = nI (y j) ∧ _
            rw [if_pos (by omega), show (16 * u + j) % 16 = j by omega]
            exact hy j hj
          · show (if (16 * (num + q - 1) + j) / 16 = u then _ else _) = nI (y j) ∧ _
            rw [if_neg (by omega), if_pos (by omega), show (16 * (num + q - 1) + j) / 16 - num + 1 = q by omega, show (16 * (num + q - 1) + j) % 16 = j by omega]
            exact hy j hj
          · show (if (16 * w9 + j) / 16 = u then _ else _) = nI (y j) ∧ _
            rw [if_neg (by omega), if_neg (by omega)]
            exact hy j hj
        exact hid2.2.1 w hw
      have copies : ∀ n8 q (f' : Nat → Int32) (i' : sA) x5 x6, n8 + q = m → 1 ≤ q → frM [14] i i' → i' 0 14 = nI (num + q - 1) → (∀ y, vcO v k f 16 y → vcO v k f' u y) → (∀ t y, 1 ≤ t → t < q → vcO v k f (16 + t) y → vcO v k f' (num + t - 1) y) → (∀ w y, w < num → w ≠ u → vcO v k f w y → vcO v k f' w y) → (∀ t y, t < m → vcO v k f (16 + t) y → vcO v k f' (16 + t) y) → Z 236 [some (.inr (0, 0)), some (.inl (nI ci)), some (.inl (nI u)), some (.inl (nI m)), some (.inl (nI q)), x5, x6] [] (mW (va_up a 7 f') i') := by
        intro n8
        induction n8 with
        | zero =>
          intro q f' i' x5 x6 hq hq1 hfi h14 g1 g2 g3 g4
          have e9 : q = m := by omega
          subst e9
          refine z_iload hZ gMo_split_236 rfl ?_
          refine z_iload_n hZ gMo_split_238 rfl ?_
          refine z_cmpge hZ gMo_split_239 (fun c239 => ?_) (fun c239 => absurd (nI_le (Nat.le_refl q) (by omega)) c239)
          refine z_vret hZ gMo_split_271 ?_
          exact ⟨rfl, f', i', num + q - 1, ncl cl Q u num, rfl, hfi, h14, ncl_id hid1 hu hpt hQ g1 g2 g3, by omega, ncl_sp hu hQ⟩
        | succ n8 ih8 =>
          intro q f' i' x5 x6 hq hq1 hfi h14 g1 g2 g3 g4
          refine z_iload hZ gMo_split_236 rfl ?_
          refine z_iload_n hZ gMo_split_238 rfl ?_
          refine z_cmpge hZ gMo_split_239 (fun c239 => absurd c239 (nI_ge (by omega) (by omega))) (fun c239 => ?_)
          refine z_aload_n hZ gMo_split_242 rfl ?_
          refine z_aload_n hZ gMo_split_243 rfl ?_
          refine z_get hZ gMo_split_244 (by omega) rfl (by rw [h14]; rfl) ?_
          refine z_bipush hZ gMo_split_247 _ i16 ?_
          refine z_iload hZ gMo_split_249 rfl ?_
          refine z_iadd hZ gMo_split_251 _ (nI_add 16 q) ?_
          refine z_cv hZ gMo_split_252 rfl rfl (Nat.le_of_ble_eq_true rfl) (Nat.le_of_ble_eq_true rfl) ⟨⟨0, _, _, rfl, by decide, rfl⟩, fun l9 D E B A hB => c_Mo_copy l9 D E B A hB (to := num + q - 1) (fr := 16 + q) (by omega) (by omega)⟩ (fun r252 w252 p252 => ?_)
          obtain ⟨rfl, f2, rfl, hc2, hf2⟩ := p252
          rw [va_up_self] at hc2 hf2
          rw [va_uu]
          show Z (252 + 3) _ [] _
          refine z_aload_n hZ gMo_split_255 rfl ?_
          refine z_dup hZ gMo_split_256 ?_
          refine z_get hZ gMo_split_257 (by omega) rfl (by rw [h14]; rfl) ?_
          refine z_iconst hZ gMo_split_260 _ rfl ?_
          refine z_iadd hZ gMo_split_261 _ (i1 _) ?_
          refine z_putW hZ gMo_split_262 (by omega) rfl (Or.inl (by decide)) (Nat.le_of_ble_eq_true rfl) mW_i0_14 ?_
          refine z_iinc hZ gMo_split_265 rfl _ (i1 q) rfl ?_
          refine z_goto hZ gMo_split_268 ?_
          have keep : ∀ w y, w ≠ num + q - 1 → vcO v k f' w y → vcO v k f2 w y := fun w y hw h => vcO_fr h hf2 (by simp; exact hw)
          refine ih8 (q + 1) f2 _ _ _ (by omega) (by omega) (frM_up hfi (by decide)) (by rw [va_up_self, va_up_self]; congr 1; omega) (fun y h => keep _ y (by omega) (g1 y h)) (fun t y ht1 ht2 h => ?_) (fun w y hw hne h => keep w y (by omega) (g3 w y hw hne h)) (fun t y ht h => keep _ y (by omega) (g4 t y ht h))
          by_cases e9 : t = q
          · subst e9
            exact vc_cp (g4 t y (by omega) h) hc2
          · exact keep _ y (by omega) (g2 t y ht1 (by omega) h)
      refine z_iload hZ gMo_split_16 rfl ?_
      refine z_aload_n hZ gMo_split_18 rfl ?_
      refine z_get hZ gMo_split_19 (by omega) rfl (by rw [h11]; rfl) ?_
      refine z_cmpge hZ gMo_split_22 (fun c22 => ?_) (fun c22 => absurd (nI_le (Nat.le_refl v) (by omega)) c22)
      refine z_aload_n hZ gMo_split_226 rfl ?_
      refine z_iload_n hZ gMo_split_227 rfl ?_
      refine z_bipush hZ gMo_split_228 _ i16 ?_
      refine z_cv hZ gMo_split_230 rfl rfl (Nat.le_of_ble_eq_true rfl) (Nat.le_of_ble_eq_true rfl) ⟨⟨0, _, _, rfl, by decide, rfl⟩, fun l9 D E B A hB => c_Mo_copy l9 D E B A hB (to := u) (fr := 16) (by omega) (by decide)⟩ (fun r230 w230 p230 => ?_)
      obtain ⟨rfl, f2, rfl, hc2, hf2⟩ := p230
      rw [va_up_self] at hc2 hf2
      rw [va_uu]
      show Z (230 + 3) _ [] _
      refine z_iconst hZ gMo_split_233 _ ic1 ?_
      refine z_istore hZ gMo_split_234 rfl ?_
      exact copies (m - 1) 1 f2 i _ _ (by omega) (Nat.le_refl 1) (fun _ _ => rfl) (by rw [h14]; congr 1) (fun y h => vc_cp h hc2) (fun t y ht1 ht2 h => by omega) (fun w y hw hne h => vcO_fr h hf2 (by simp; exact hne)) (fun t y ht h => vcO_fr h hf2 (by simp; omega))
    | succ n9 ih =>
      intro v m pv f x5 x6 hn hf hz hpt
      have hv : v < p := by omega
      have hmk := pt_le hpt
      have hxf : vcO p k f u x := vcO_fr hx hf (spL_n (by omega))
      have hvx : ∀ l, l < 16 → v * x l ≤ p * p := fun l hl => Nat.mul_le_mul (by omega) (by have := (hxf l hl).2.1; omega)
      -- the parts are written
      have write : ∀ (y : Nat → Nat), (∀ r, r < k → (p : Int) ∣ ht k W y r - ib (decide (cl r = u) && decide (W r ci ≠ v))) → (∃ r, r < k ∧ cl r = u ∧ W r ci = v) → ∀ n8 l (f' : Nat → Int32) x5, n8 + l = 16 → frC spL (a 7) f' → vcO p k f' 36 z → vcO p k f' 35 y → ptO p k W cl u ci f' v m pv → (∀ j, j < l → f' (16 * (16 + m) + j) = nI ((((x j : Int) - (y j : Int)) % (p : Int)).toNat)) → Z 161 [some (.inr (0, 0)), some (.inl (nI ci)), some (.inl (nI u)), some (.inl (nI m)), some (.inl (nI v)), x5, some (.inl (nI l))] [] (mW (va_up a 7 f') i) := by
        intro y hyh hex n8
        have hm16 : m < 16 := by have := pt_lt hpt hex; omega
        induction n8 with
        | zero =>
          intro l f' x5 hl hf' hz' hy' hpt' hw
          have e9 : l = 16 := by omega
          subst e9
          refine z_iload hZ gMo_split_161 rfl ?_
          refine z_bipush hZ gMo_split_163 _ i16 ?_
          refine z_cmpge hZ gMo_split_165 (fun c165 => ?_) (fun c165 => absurd (nI_le (Nat.le_refl 16) (by decide)) c165)
          refine z_iinc hZ gMo_split_217 rfl _ (i1 m) rfl ?_
          refine z_iinc hZ gMo_split_220 rfl _ (i1 v) rfl ?_
          refine z_goto hZ gMo_split_223 ?_
          refine ih (v + 1) (m + 1) (va_up pv m v) f' _ _ (by omega) hf' hz' (pt_new hpt' hex (fun _ _ _ _ => rfl) (y := fun j => (((x j : Int) - (y j : Int)) % (p : Int)).toNat) (fun j hj => ⟨hw j hj, (md_int (by omega) _).1, fun hk => ?_⟩) (fun r hr => ?_))
          · show (((x j : Int) - (y j : Int)) % (p : Int)).toNat = 0
            rw [(hxf j hj).2.2 hk, (hy' j hj).2.2 hk]
            rfl
          · have h9 := ht_sub (W := W) (r := r) (v := 1) (b := fun j => (((x j : Int) - (y j : Int)) % (p : Int)).toNat) (z := x) (x := y) (k := k) (p := p) (fun l hl => by rw [Int.one_mul]; exact (md_int (by omega) _).2)
            rw [Int.one_mul] at h9
            refine dv_tr h9 ?_
            have h8 := Int.dvd_sub (hxh r hr) (hyh r hr)
            have e8 : ht k W x r - ib (decide (cl r = u)) - (ht k W y r - ib (decide (cl r = u) && decide (W r ci ≠ v))) = ht k W x r - ht k W y r - ib (decide (cl r = u ∧ W r ci = v)) := by
              have : ib (decide (cl r = u)) - ib (decide (cl r = u) && decide (W r ci ≠ v)) = ib (decide (cl r = u ∧ W r ci = v)) := by
                by_cases h1 : cl r = u <;> by_cases h2 : W r ci = v <;> simp [h1, h2, ib]
              omega
            rw [e8] at h8
            exact h8
        | succ n8 ih8 =>
          intro l f' x5 hl hf' hz' hy' hpt' hw
          have hl16 : l < 16 := by omega
          have hx9 : f' (16 * u + l) = nI (x l) := by rw [hf' u l hl16 (spL_n (by omega))]; exact (hx l hl16).1
          have hxb := (hx l hl16).2.1
          obtain ⟨hy9, hyb, -⟩ := hy' l hl16
          have eu := nI_clamp (n := 16 * u + l) (by omega)
          have e35 := nI_clamp (n := 16 * 35 + l) (by omega)
          have ew := nI_clamp (n := 16 * (16 + m) + l) (by omega)
          refine z_iload hZ gMo_split_161 rfl ?_
          refine z_bipush hZ gMo_split_163 _ i16 ?_
          refine z_cmpge hZ gMo_split_165 (fun c165 => absurd c165 (nI_ge (by omega) (by decide))) (fun c165 => ?_)
          refine z_aload_n hZ gMo_split_168 rfl ?_
          refine z_get hZ gMo_split_169 (by omega) rfl rfl ?_
          refine z_bipush hZ gMo_split_172 _ i16 ?_
          refine z_bipush hZ gMo_split_174 _ i16 ?_
          refine z_iload_n hZ gMo_split_176 rfl ?_
          refine z_iadd hZ gMo_split_177 _ (nI_add 16 m) ?_
          refine z_imul hZ gMo_split_178 _ rfl ?_
          refine z_iload hZ gMo_split_179 rfl ?_
          refine z_iadd hZ gMo_split_181 _ (ix2 (16 + m) l) ?_
          refine z_aload_n hZ gMo_split_182 rfl ?_
          refine z_aload_n hZ gMo_split_183 rfl ?_
          refine z_get hZ gMo_split_184 (by omega) rfl rfl ?_
          refine z_bipush hZ gMo_split_187 _ i16 ?_
          refine z_iload_n hZ gMo_split_189 rfl ?_
          refine z_imul hZ gMo_split_190 _ rfl ?_
          refine z_iload hZ gMo_split_191 rfl ?_
          refine z_iadd hZ gMo_split_193 _ (ix2 u l) ?_
          refine z_iald hZ gMo_split_194 (by omega) rfl (vp_in_nI (by omega) (by decide)) ?_
          rw [eu, va_up_self, hx9]
          refine z_aload_n hZ gMo_split_195 rfl ?_
          refine z_get hZ gMo_split_196 (by omega) rfl rfl ?_
          refine z_sipush hZ gMo_split_199 _ i560 ?_
          refine z_iload hZ gMo_split_202 rfl ?_
          refine z_iadd hZ gMo_split_204 _ (nI_add 560 l) ?_
          refine z_iald hZ gMo_split_205 (by omega) rfl (vp_in_nI (by omega) (by decide)) ?_
          rw [show (nI (560 + l)).toNatClampNeg = 16 * 35 + l from e35, va_up_self, hy9]
          refine z_isub hZ gMo_split_206 _ rfl ?_
          refine z_cv hZ gMo_split_207 rfl rfl (Nat.le_of_ble_eq_true rfl) (Nat.le_of_ble_eq_true rfl) ⟨⟨0, _, _, rfl, by decide, rfl⟩, fun l9 D E B A hB => c_Mo_mod l9 D E B A hB (p := p) (x := nI (x l) - nI (y l)) (by omega) hp92 h11⟩ (fun r207 w207 p207 => ?_)
          obtain ⟨rfl, rfl⟩ := p207
          rw [sub_int (by omega) (by omega)]
          show Z (207 + 3) _ (.inl (nI (((x l : Int) - (y l : Int)) % (p : Int)).toNat) :: .inl (nI (16 * (16 + m) + l)) :: .inr (7, 0) :: []) _
          refine z_iastW hZ gMo_split_210 (by omega) rfl (vp_in_nI (by omega) (by decide)) mW_a7 ?_
          rw [ew, va_up_self, va_uu]
          refine z_iinc hZ gMo_split_211 rfl _ (i1 l) rfl ?_
          refine z_goto hZ gMo_split_214 ?_
          have keep : ∀ w y9, w ≠ 16 + m → vcO p k f' w y9 → vcO p k (upd f' (16 * (16 + m) + l) (nI (((x l : Int) - (y l : Int)) % (p : Int)).toNat)) w y9 := fun w y9 hw9 h j hj => by
            rw [pk_un (by omega)]; exact h j hj
          refine ih8 (l + 1) _ _ (by omega) (frC_up hf' (spL_m (by omega) (by omega)) hl16) (keep 36 z (by omega) hz') (keep 35 y (by omega) hy') (pt_fr (L := [16 + m]) hpt' (frC_up (fun _ _ _ _ => rfl) (by simp) hl16) (fun q hq => by simp; omega)) (fun j hj => ?_)
          by_cases e9 : j = l
          · subst e9; rw [pk_us]
          · rw [pk_un (by omega)]; exact hw j (by omega)
      -- is there something new
      have look : ∀ (y : Nat → Nat) (f' : Nat → Int32), (∀ r, r < k → (p : Int) ∣ ht k W y r - ib (decide (cl r = u) && decide (W r ci ≠ v))) → frC spL (a 7) f' → vcO p k f' 36 z → vcO p k f' 35 y → ptO p k W cl u ci f' v m pv → ∀ n8 l (sv : Int32), n8 + l = 16 → ((sv = 0 ∧ ∀ j, j < l → x j = y j) ∨ (sv = 1 ∧ ∃ j, j < 16 ∧ x j ≠ y j)) → Z 93 [some (.inr (0, 0)), some (.inl (nI ci)), some (.inl (nI u)), some (.inl (nI m)), some (.inl (nI v)), some (.inl sv), some (.inl (nI l))] [] (mW (va_up a 7 f') i) := by
        intro y f' hyh hf' hz' hy' hpt' n8
        have hx' : vcO p k f' u x := vcO_fr hx hf' (spL_n (by omega))
        induction n8 with
        | zero =>
          intro l sv hl hs
          have e9 : l = 16 := by omega
          subst e9
          have hno : (∀ j, j < 16 → x j = y j) → ¬ ∃ r, r < k ∧ cl r = u ∧ W r ci = v := fun heq ⟨r, hr, hc, hw⟩ => by
            have e8 : ht k W x r = ht k W y r := si_congr fun j hj => by rw [heq j (by have := List.mem_range.mp hj; omega)]
            have h1 := hxh r hr
            have h2 := hyh r hr
            rw [← e8] at h2
            rw [ib_t (decide_eq_true hc)] at h1
            rw [ib_f (by rw [decide_eq_false (p := W r ci ≠ v) (fun h9 => h9 hw), Bool.and_false]; exact Bool.false_ne_true), Int.sub_zero] at h2
            have h3 : (p : Int) ∣ 1 := by
              have := Int.dvd_sub h2 h1
              rwa [show ht k W x r - (ht k W x r - 1) = 1 by omega] at this
            have := Int.le_of_dvd (by decide) h3
            omega
          have hyes : (∃ j, j < 16 ∧ x j ≠ y j) → ∃ r, r < k ∧ cl r = u ∧ W r ci = v := fun ⟨j, hj, hne⟩ => Classical.byContradiction fun hn9 => by
            by_cases hjk : j < k
            · have h1 : ∀ r, r < k → (p : Int) ∣ ht k W x r - ht k W y r := fun r hr => by
                refine dv_tr (hxh r hr) (dv_sy ?_)
                have h2 := hyh r hr
                have e8 : (decide (cl r = u) && decide (W r ci ≠ v)) = decide (cl r = u) := by
                  by_cases hc : cl r = u
                  · rw [decide_eq_true (p := W r ci ≠ v) (fun hw => hn9 ⟨r, hr, hc, hw⟩), Bool.and_true]
                  · rw [decide_eq_false hc, Bool.false_and]
                rw [e8] at h2
                exact h2
              have h2 := ht_inj hcm.2 h1 hjk
              have h3 := (hx' j hj).2.1
              have h4 := (hy' j hj).2.1
              have := dv_0 h2 (by omega) (by omega)
              omega
            · exact hne (by rw [(hx' j hj).2.2 (by omega), (hy' j hj).2.2 (by omega)])
          refine z_iload hZ gMo_split_93 rfl ?_
          refine z_bipush hZ gMo_split_95 _ i16 ?_
          refine z_cmpge hZ gMo_split_97 (fun c97 => ?_) (fun c97 => absurd (nI_le (Nat.le_refl 16) (by decide)) c97)
          refine z_iload hZ gMo_split_144 rfl ?_
          refine z_ifeq hZ gMo_split_146 (fun c146 => ?_) (fun c146 => ?_)
          · have ct146 := c146
            have hn9 : ¬ ∃ r, r < k ∧ cl r = u ∧ W r ci = v := by
              rcases hs with ⟨_, h9⟩ | ⟨h9, _⟩
              · exact hno h9
              · rw [h9] at c146; exact absurd c146 (by decide)
            refine z_iinc hZ gMo_split_220 rfl _ (i1 v) rfl ?_
            refine z_goto hZ gMo_split_223 ?_
            exact ih (v + 1) m pv f' _ _ (by omega) hf' hz' (pt_skip hpt' hn9)
          · have cf146 := c146
            have hex : ∃ r, r < k ∧ cl r = u ∧ W r ci = v := by
              rcases hs with ⟨h9, _⟩ | ⟨_, h9⟩
              · exact absurd h9 c146
              · exact hyes h9
            have hm16 : m < 16 := by have := pt_lt hpt hex; omega
            refine z_iload_n hZ gMo_split_149 rfl ?_
            refine z_bipush hZ gMo_split_150 _ i16 ?_
            refine z_cmpne hZ gMo_split_152 (fun c152 => ?_) (fun c152 => absurd ((nI_eq (by omega) (by decide)).mp c152) (by omega))
            refine z_iconst hZ gMo_split_158 _ i0 ?_
            refine z_istore hZ gMo_split_159 rfl ?_
            exact write y hyh hex 16 0 f' _ (by omega) hf' hz' hy' hpt' (fun j hj => absurd hj (Nat.not_lt_zero j))
        | succ n8 ih8 =>
          intro l sv hl hs
          have hl16 : l < 16 := by omega
          obtain ⟨hx9, hxb, -⟩ := hx' l hl16
          obtain ⟨hy9, hyb, -⟩ := hy' l hl16
          have eu := nI_clamp (n := 16 * u + l) (by omega)
          have e35 := nI_clamp (n := 16 * 35 + l) (by omega)
          refine z_iload hZ gMo_split_93 rfl ?_
          refine z_bipush hZ gMo_split_95 _ i16 ?_
          refine z_cmpge hZ gMo_split_97 (fun c97 => absurd c97 (nI_ge (by omega) (by decide))) (fun c97 => ?_)
          refine z_iload hZ gMo_split_100 rfl ?_
          refine z_ifne hZ gMo_split_102 (fun c102 => ?_) (fun c102 => ?_)
          · have ct102 := c102
            have hdf : ∃ j, j < 16 ∧ x j ≠ y j := by
              rcases hs with ⟨h9, _⟩ | ⟨_, h9⟩
              · exact absurd h9 c102
              · exact h9
            refine z_iconst hZ gMo_split_131 _ rfl ?_
            refine z_goto hZ gMo_split_132 ?_
            refine z_istore hZ gMo_split_136 rfl ?_
            refine z_iinc hZ gMo_split_138 rfl _ (i1 l) rfl ?_
            refine z_goto hZ gMo_split_141 ?_
            first | exact ih8 (l + 1) _ (by omega) (Or.inr ⟨rfl, hdf⟩) | exact ih8 (l + 1) _ (by omega) (Or.inl ⟨rfl, heq1⟩)
          · have cf102 := c102
            have heq : ∀ j, j < l → x j = y j := by
              rcases hs with ⟨_, h9⟩ | ⟨h9, _⟩
              · exact h9
              · rw [h9] at c102; exact absurd c102 (by decide)
            refine z_aload_n hZ gMo_split_105 rfl ?_
            refine z_get hZ gMo_split_106 (by omega) rfl rfl ?_
            refine z_bipush hZ gMo_split_109 _ i16 ?_
            refine z_iload_n hZ gMo_split_111 rfl ?_
            refine z_imul hZ gMo_split_112 _ rfl ?_
            refine z_iload hZ gMo_split_113 rfl ?_
            refine z_iadd hZ gMo_split_115 _ (ix2 u l) ?_
            refine z_iald hZ gMo_split_116 (by omega) rfl (vp_in_nI (by omega) (by decide)) ?_
            rw [eu, va_up_self, hx9]
            refine z_aload_n hZ gMo_split_117 rfl ?_
            refine z_get hZ gMo_split_118 (by omega) rfl rfl ?_
            refine z_sipush hZ gMo_split_121 _ i560 ?_
            refine z_iload hZ gMo_split_124 rfl ?_
            refine z_iadd hZ gMo_split_126 _ (nI_add 560 l) ?_
            refine z_iald hZ gMo_split_127 (by omega) rfl (vp_in_nI (by omega) (by decide)) ?_
            rw [show (nI (560 + l)).toNatClampNeg = 16 * 35 + l from e35, va_up_self, hy9]
            refine z_cmpeq hZ gMo_split_128 (fun c128 => ?_) (fun c128 => ?_)
            · have ct128 := c128
              have heq1 : ∀ j, j < l + 1 → x j = y j := fun j hj => by
                by_cases e9 : j = l
                · subst e9; exact (nI_eq (by omega) (by omega)).mp c128
                · exact heq j (by omega)
              refine z_iconst hZ gMo_split_135 _ rfl ?_
              refine z_istore hZ gMo_split_136 rfl ?_
              refine z_iinc hZ gMo_split_138 rfl _ (i1 l) rfl ?_
              refine z_goto hZ gMo_split_141 ?_
              first | exact ih8 (l + 1) _ (by omega) (Or.inr ⟨rfl, hdf⟩) | exact ih8 (l + 1) _ (by omega) (Or.inl ⟨rfl, heq1⟩)
            · have cf128 := c128
              have hdf : ∃ j, j < 16 ∧ x j ≠ y j := ⟨l, hl16, fun h9 => c128 (by rw [h9])⟩
              refine z_iconst hZ gMo_split_131 _ rfl ?_
              refine z_goto hZ gMo_split_132 ?_
              refine z_istore hZ gMo_split_136 rfl ?_
              refine z_iinc hZ gMo_split_138 rfl _ (i1 l) rfl ?_
              refine z_goto hZ gMo_split_141 ?_
              first | exact ih8 (l + 1) _ (by omega) (Or.inr ⟨rfl, hdf⟩) | exact ih8 (l + 1) _ (by omega) (Or.inl ⟨rfl, heq1⟩)
      -- the base
      have base : ∀ n8 l (f' : Nat → Int32) x6, n8 + l = 16 → frC spL (a 7) f' → vcO p k f' 36 z → ptO p k W cl u ci f' v m pv → (∀ j, j < l → f' (16 * 34 + j) = nI ((((z j : Int) - ((v * x j : Nat) : Int)) % (p : Int)).toNat)) → Z 28 [some (.inr (0, 0)), some (.inl (nI ci)), some (.inl (nI u)), some (.inl (nI m)), some (.inl (nI v)), some (.inl (nI l)), x6] [] (mW (va_up a 7 f') i) := by
        intro n8
        induction n8 with
        | zero =>
          intro l f' x6 hl hf' hz' hpt' hw
          have e9 : l = 16 := by omega
          subst e9
          have hmd1 := mdO_7 hmd f'
          have hbv : vcO p k f' 34 (fun j => (((z j : Int) - ((v * x j : Nat) : Int)) % (p : Int)).toNat) := fun j hj => ⟨hw j hj, (md_int (by omega) _).1, fun hk => by
            show (((z j : Int) - ((v * x j : Nat) : Int)) % (p : Int)).toNat = 0
            rw [(hz' j hj).2.2 hk, (hxf j hj).2.2 hk, Nat.mul_zero]
            rfl⟩
          have hbh : ∀ r, r < k → (p : Int) ∣ ht k W (fun j => (((z j : Int) - ((v * x j : Nat) : Int)) % (p : Int)).toNat) r - ((W r ci : Int) - (v : Int)) * ib (decide (cl r = u)) := fun r hr => by
            have h9 := ht_sub (W := W) (r := r) (v := (v : Int)) (b := fun j => (((z j : Int) - ((v * x j : Nat) : Int)) % (p : Int)).toNat) (z := z) (x := x) (k := k) (p := p) (fun l hl => by
              have := (md_int (p := p) (by omega) ((z l : Int) - ((v * x l : Nat) : Int))).2
              rw [Int.natCast_mul] at this
              exact this)
            refine dv_tr h9 ?_
            rw [Int.sub_mul]
            have h8 := Int.dvd_sub (hzh r hr) (dv_ml (v : Int) (hxh r hr))
            rwa [show ht k W z r - (W r ci : Int) * ib (decide (cl r = u)) - ((v : Int) * ht k W x r - (v : Int) * ib (decide (cl r = u))) = ht k W z r - (v : Int) * ht k W x r - ((W r ci : Int) * ib (decide (cl r = u)) - (v : Int) * ib (decide (cl r = u))) by omega] at h8
          refine z_iload hZ gMo_split_28 rfl ?_
          refine z_bipush hZ gMo_split_30 _ i16 ?_
          refine z_cmpge hZ gMo_split_32 (fun c32 => ?_) (fun c32 => absurd (nI_le (Nat.le_refl 16) (by decide)) c32)
          refine z_aload_n hZ gMo_split_83 rfl ?_
          refine z_cv hZ gMo_split_84 rfl rfl (Nat.le_of_ble_eq_true rfl) (Nat.le_of_ble_eq_true rfl) ⟨⟨0, _, _, rfl, by decide, rfl⟩, fun l9 D E B A hB => c_Mo_fermat l9 D E B A hB hmd1 hcm (by rw [va_up_self]; exact hbv)⟩ (fun r84 w84 p84 => ?_)
          obtain ⟨rfl, f2, y2, rfl, hy2, hf2, hyh2⟩ := p84
          rw [va_up_self] at hf2
          rw [va_uu]
          show Z (84 + 3) _ [] _
          refine z_iconst hZ gMo_split_87 _ rfl ?_
          refine z_istore hZ gMo_split_88 rfl ?_
          refine z_iconst hZ gMo_split_90 _ i0 ?_
          refine z_istore hZ gMo_split_91 rfl ?_
          exact look y2 f2 (fun r hr => res_hat hpr (hWp r ci hr hci) hv (hbh r hr) (hyh2 r hr)) (frC_tr hf' (frC_mono hf2 (fun w hw => by simp at hw; rcases hw with rfl | rfl | rfl <;> decide))) (vcO_fr hz' hf2 (by decide)) hy2 (pt_fr hpt' hf2 (fun q hq => by simp; omega)) 16 0 _ rfl (Or.inl ⟨rfl, fun j hj => absurd hj (Nat.not_lt_zero j)⟩)
        | succ n8 ih8 =>
          intro l f' x6 hl hf' hz' hpt' hw
          have hl16 : l < 16 := by omega
          obtain ⟨hz9, hzb, -⟩ := hz' l hl16
          have hx9 : f' (16 * u + l) = nI (x l) := by rw [hf' u l hl16 (spL_n (by omega))]; exact (hx l hl16).1
          have hvx9 := hvx l hl16
          have eu := nI_clamp (n := 16 * u + l) (by omega)
          have e36 := nI_clamp (n := 16 * 36 + l) (by omega)
          have e34 := nI_clamp (n := 16 * 34 + l) (by omega)
          refine z_iload hZ gMo_split_28 rfl ?_
          refine z_bipush hZ gMo_split_30 _ i16 ?_
          refine z_cmpge hZ gMo_split_32 (fun c32 => absurd c32 (nI_ge (by omega) (by decide))) (fun c32 => ?_)
          refine z_aload_n hZ gMo_split_35 rfl ?_
          refine z_get hZ gMo_split_36 (by omega) rfl rfl ?_
          refine z_sipush hZ gMo_split_39 _ i544 ?_
          refine z_iload hZ gMo_split_42 rfl ?_
          refine z_iadd hZ gMo_split_44 _ (nI_add 544 l) ?_
          refine z_aload_n hZ gMo_split_45 rfl ?_
          refine z_aload_n hZ gMo_split_46 rfl ?_
          refine z_get hZ gMo_split_47 (by omega) rfl rfl ?_
          refine z_sipush hZ gMo_split_50 _ i576 ?_
          refine z_iload hZ gMo_split_53 rfl ?_
          refine z_iadd hZ gMo_split_55 _ (nI_add 576 l) ?_
          refine z_iald hZ gMo_split_56 (by omega) rfl (vp_in_nI (by omega) (by decide)) ?_
          rw [show (nI (576 + l)).toNatClampNeg = 16 * 36 + l from e36, va_up_self, hz9]
          refine z_iload hZ gMo_split_57 rfl ?_
          refine z_aload_n hZ gMo_split_59 rfl ?_
          refine z_get hZ gMo_split_60 (by omega) rfl rfl ?_
          refine z_bipush hZ gMo_split_63 _ i16 ?_
          refine z_iload_n hZ gMo_split_65 rfl ?_
          refine z_imul hZ gMo_split_66 _ rfl ?_
          refine z_iload hZ gMo_split_67 rfl ?_
          refine z_iadd hZ gMo_split_69 _ (ix2 u l) ?_
          refine z_iald hZ gMo_split_70 (by omega) rfl (vp_in_nI (by omega) (by decide)) ?_
          rw [eu, va_up_self, hx9]
          refine z_imul hZ gMo_split_71 _ (pk_mul v (x l)) ?_
          refine z_isub hZ gMo_split_72 _ rfl ?_
          refine z_cv hZ gMo_split_73 rfl rfl (Nat.le_of_ble_eq_true rfl) (Nat.le_of_ble_eq_true rfl) ⟨⟨0, _, _, rfl, by decide, rfl⟩, fun l9 D E B A hB => c_Mo_mod l9 D E B A hB (p := p) (x := nI (z l) - nI (v * x l)) (by omega) hp92 h11⟩ (fun r73 w73 p73 => ?_)
          obtain ⟨rfl, rfl⟩ := p73
          rw [sub_int (by omega) (by omega)]
          show Z (73 + 3) _ (.inl (nI (((z l : Int) - ((v * x l : Nat) : Int)) % (p : Int)).toNat) :: .inl (nI (544 + l)) :: .inr (7, 0) :: []) _
          refine z_iastW hZ gMo_split_76 (by omega) rfl (vp_in_nI (by omega) (by decide)) mW_a7 ?_
          rw [show (nI (544 + l)).toNatClampNeg = 16 * 34 + l from e34, va_up_self, va_uu]
          refine z_iinc hZ gMo_split_77 rfl _ (i1 l) rfl ?_
          refine z_goto hZ gMo_split_80 ?_
          refine ih8 (l + 1) _ _ (by omega) (frC_up hf' (by decide) hl16) (fun j hj => by rw [pk_un (by omega)]; exact hz' j hj) (pt_fr (L := [34]) hpt' (frC_up (fun _ _ _ _ => rfl) (by simp) hl16) (fun q hq => by simp; omega)) (fun j hj => ?_)
          by_cases e9 : j = l
          · subst e9; rw [pk_us]
          · rw [pk_un (by omega)]; exact hw j (by omega)
      refine z_iload hZ gMo_split_16 rfl ?_
      refine z_aload_n hZ gMo_split_18 rfl ?_
      refine z_get hZ gMo_split_19 (by omega) rfl (by rw [h11]; rfl) ?_
      refine z_cmpge hZ gMo_split_22 (fun c22 => absurd c22 (nI_ge (by omega) (by omega))) (fun c22 => ?_)
      refine z_iconst hZ gMo_split_25 _ i0 ?_
      refine z_istore hZ gMo_split_26 rfl ?_
      exact base 16 0 f _ rfl hf hz hpt (fun j hj => absurd hj (Nat.not_lt_zero j))
  refine z_aload_n hZ gMo_split_0 rfl ?_
  refine z_iload_n hZ gMo_split_1 rfl ?_
  refine z_iload_n hZ gMo_split_2 rfl ?_
  refine z_cv hZ gMo_split_3 rfl rfl (Nat.le_of_ble_eq_true rfl) (Nat.le_of_ble_eq_true rfl) ⟨⟨0, _, _, rfl, by decide, rfl⟩, fun l9 D E B A hB => c_Mo_ratio l9 D E B A hB (p := p) (k := k) (ci := ci) (u := u) (W := W) (x := x) (S := fun r => decide (cl r = u)) hmd hcm hci (by omega) hx hxh ⟨r0, hr0, decide_eq_true hc0⟩⟩ (fun r3 w3 p3 => ?_)
  obtain ⟨f1, z, rfl, hf1, hz1, hzh, p3⟩ := p3
  have hf1s : frC spL (a 7) f1 := frC_mono hf1 (fun w hw => by simp at hw; rcases hw with rfl | rfl <;> decide)
  rcases p3 with ⟨c, hc, rfl, hcon⟩ | ⟨rfl, hcon⟩
  · show Z 6 _ (.inl (nI c) :: []) _
    refine z_iconst hZ gMo_split_6 _ rfl ?_
    refine z_cmpeq hZ gMo_split_7 (fun c7 => absurd c7 (nI_nm1 (by omega))) (fun c7 => ?_)
    refine z_vret hZ gMo_split_10 ?_
    refine ⟨rfl, f1, i, num, cl, rfl, fun _ _ => rfl, h14, ⟨hid.1, hid.2.1, fun w hw => ?_⟩, Nat.le_refl _, fun _ _ _ => rfl, fun r hr hc => Or.inl hc, fun r r' hr hr' hc hc' _ => ?_⟩
    · obtain ⟨y, hy, hyh⟩ := hid.2.2 w hw
      exact ⟨y, vcO_fr hy hf1s (spL_n (by omega)), hyh⟩
    · have h1 := hcon r hr (decide_eq_true hc)
      have h2 := hcon r' hr' (decide_eq_true hc')
      have h3 := hWp r ci hr hci
      have h4 := hWp r' ci hr' hci
      have := dv_0 (dv_tr h1 (dv_sy h2)) (by omega) (by omega)
      omega
  · show Z 6 _ (.inl (-1) :: []) _
    refine z_iconst hZ gMo_split_6 _ rfl ?_
    refine z_cmpeq hZ gMo_split_7 (fun c7 => ?_) (fun c7 => absurd im1.symm c7)
    refine z_iconst hZ gMo_split_11 _ i0 ?_
    refine z_istore_n hZ gMo_split_12 rfl ?_
    refine z_iconst hZ gMo_split_13 _ i0 ?_
    refine z_istore hZ gMo_split_14 rfl ?_
    exact go z hzh p 0 0 (fun _ => 0) f1 _ _ (by omega) hf1s hz1 ⟨fun q q' _ h9 => absurd h9 (Nat.not_lt_zero q'), fun q hq => absurd hq (Nat.not_lt_zero q), fun r _ _ h9 => absurd h9 (Nat.not_lt_zero _), fun q hq => absurd hq (Nat.not_lt_zero q)⟩

