-- the reference: vectors
theorem ix2 (u l : Nat) : nI 16 * nI u + nI l = nI (16 * u + l) := by
  rw [pk_mul, nI_add]
def frC (L : List Nat) (f f' : Nat → Int32) : Prop := ∀ u i, i < 16 → u ∉ L → f' (16 * u + i) = f (16 * u + i)
def vcO (p k : Nat) (f : Nat → Int32) (u : Nat) (x : Nat → Nat) : Prop := ∀ i, i < 16 → f (16 * u + i) = nI (x i) ∧ x i < p ∧ (k ≤ i → x i = 0)
theorem frC_tr {L : List Nat} {f f' f'' : Nat → Int32} (h1 : frC L f f') (h2 : frC L f' f'') : frC L f f'' := fun u i hi hu => by rw [h2 u i hi hu, h1 u i hi hu]
theorem frC_mono {L L' : List Nat} {f f' : Nat → Int32} (h : frC L f f') (hs : ∀ u, u ∈ L → u ∈ L') : frC L' f f' := fun u i hi hu => h u i hi (fun h9 => hu (hs u h9))
theorem vcO_fr {p k : Nat} {L : List Nat} {f f' : Nat → Int32} {u : Nat} {x : Nat → Nat} (h : vcO p k f u x) (hf : frC L f f') (hu : u ∉ L) : vcO p k f' u x := fun i hi => by rw [hf u i hi hu]; exact h i hi
theorem acS_z {p : Nat} {u v : Nat → Nat} : ∀ n, (∀ j, j < n → v j = 0) → acS p u v n = 0
  | 0, _ => rfl
  | n + 1, h => by
    show (acS p u v n + u n * v n) % p = 0
    rw [acS_z n (fun j hj => h j (by omega)), h n (Nat.lt_succ_self n), Nat.mul_zero]
    exact Nat.zero_mod p

set_option maxHeartbeats 4000000 in
set_option maxRecDepth 100000 in
theorem c_Mo_copy (l : Launch) (D : va_G) (E : sx_E) (B : Nat) (A : Nat → Prop) (hB : 11 ≤ B) {a : sA} {i : sA} {to fr : Nat} (hto : to < 40) (hfr0 : fr < 40) : sM l D E B A yMo_copy prog_9_method_21_code 4 none 0 0 [.inr (0, 0), .inl (nI to), .inl (nI fr)] (mW a i) (fun r w' => r = none ∧ ∃ f : Nat → Int32, w' = mW (va_up a 7 f) i ∧ (∀ i, i < 16 → f (16 * to + i) = a 7 (16 * fr + i)) ∧ frC [to] (a 7) f) := by
  refine sx_m0 (ls := lMo_copy) (cs := noCalls) (by decide +kernel) kMo_copy (fun pc i h1 h2 => sx_nc (ls := lMo_copy) (by decide) pc i h1 h2) (by simp) (fun x w' h => by cases h.1) ?_
  intro Z hZ
  have loop : ∀ m l (f : Nat → Int32), m + l = 16 → (∀ i, i < l → f (16 * to + i) = a 7 (16 * fr + i)) → (∀ j, (∀ i, i < l → j ≠ 16 * to + i) → f j = a 7 j) → Z 2 [some (.inr (0, 0)), some (.inl (nI to)), some (.inl (nI fr)), some (.inl (nI l))] [] (mW (va_up a 7 f) i) := by
    intro m
    induction m with
    | zero =>
      intro l f hm h1 h2
      have e9 : l = 16 := by omega
      subst e9
      refine z_iload_n hZ gMo_copy_2 rfl ?_
      refine z_bipush hZ gMo_copy_3 _ i16 ?_
      refine z_cmpge hZ gMo_copy_5 (fun c5 => ?_) (fun c5 => absurd (nI_le (Nat.le_refl 16) (by decide)) c5)
      refine z_vret hZ gMo_copy_36 ?_
      exact ⟨rfl, f, rfl, h1, fun u q hq hu => h2 _ (fun q9 hq9 => by simp at hu; omega)⟩
    | succ m ih =>
      intro l f hm h1 h2
      have e1 := nI_clamp (n := 16 * to + l) (by omega)
      have e2 := nI_clamp (n := 16 * fr + l) (by omega)
      have hfr : f (16 * fr + l) = a 7 (16 * fr + l) := h2 _ (fun q hq => by omega)
      refine z_iload_n hZ gMo_copy_2 rfl ?_
      refine z_bipush hZ gMo_copy_3 _ i16 ?_
      refine z_cmpge hZ gMo_copy_5 (fun c5 => absurd c5 (nI_ge (by omega) (by decide))) (fun c5 => ?_)
      refine z_aload_n hZ gMo_copy_8 rfl ?_
      refine z_get hZ gMo_copy_9 (by omega) rfl rfl ?_
      refine z_bipush hZ gMo_copy_12 _ i16 ?_
      refine z_iload_n hZ gMo_copy_14 rfl ?_
      refine z_imul hZ gMo_copy_15 _ rfl ?_
      refine z_iload_n hZ gMo_copy_16 rfl ?_
      refine z_iadd hZ gMo_copy_17 _ (ix2 to l) ?_
      refine z_aload_n hZ gMo_copy_18 rfl ?_
      refine z_get hZ gMo_copy_19 (by omega) rfl rfl ?_
      refine z_bipush hZ gMo_copy_22 _ i16 ?_
      refine z_iload_n hZ gMo_copy_24 rfl ?_
      refine z_imul hZ gMo_copy_25 _ rfl ?_
      refine z_iload_n hZ gMo_copy_26 rfl ?_
      refine z_iadd hZ gMo_copy_27 _ (ix2 fr l) ?_
      refine z_iald hZ gMo_copy_28 (by omega) rfl (vp_in_nI (by omega) (by decide)) ?_
      rw [e2, va_up_self, hfr]
      refine z_iastW hZ gMo_copy_29 (by omega) rfl (vp_in_nI (by omega) (by decide)) mW_a7 ?_
      rw [e1, va_up_self, va_uu]
      refine z_iinc hZ gMo_copy_30 rfl _ (i1 l) rfl ?_
      refine z_goto hZ gMo_copy_33 ?_
      refine ih (l + 1) _ (by omega) (fun q hq => ?_) (fun j hj => ?_)
      · by_cases e9 : q = l
        · subst e9; rw [pk_us]
        · rw [pk_un (by omega)]; exact h1 q (by omega)
      · rw [pk_un (hj l (by omega))]; exact h2 j (fun q hq => hj q (by omega))
  refine z_iconst hZ gMo_copy_0 _ i0 ?_
  refine z_istore_n hZ gMo_copy_1 rfl ?_
  have h9 := loop 16 0 (a 7) rfl (fun q hq => absurd hq (Nat.not_lt_zero q)) (fun j _ => rfl)
  rw [va_id a (k := 7) rfl] at h9
  exact h9

set_option maxHeartbeats 4000000 in
set_option maxRecDepth 100000 in
theorem c_Mo_multiply (l : Launch) (D : va_G) (E : sx_E) (B : Nat) (A : Nat → Prop) (hB : 11 ≤ B) {a : sA} {i : sA} {p k to u v : Nat} {x y : Nat → Nat} {Am : Nat → Nat → Nat → Nat} (hto : to < 40) (hu : u < 40) (hv : v < 40) (htu : to ≠ u) (htv : to ≠ v) (hp1 : 1 < p) (hp : p < 1092) (hk16 : k ≤ 16) (hp11 : i 0 11 = nI p) (hi6 : i 0 6 = nI k) (hx : vcO p k (a 7) u x) (hy : vcO p k (a 7) v y) (hA : ∀ x y l, Am x y l ≤ 120) (hco : ∀ x y l, x < 16 → y < 16 → l < 16 → a 6 ((x * 16 + y) * 16 + l) = nI (if l < k then Am x y l else 0)) : sM l D E B A yMo_multiply prog_9_method_20_code 9 none 0 0 [.inr (0, 0), .inl (nI to), .inl (nI u), .inl (nI v)] (mW a i) (fun r w' => r = none ∧ ∃ (f : Nat → Int32) (z : Nat → Nat), w' = mW (va_up a 7 f) i ∧ vcO p k f to z ∧ frC [to] (a 7) f ∧ ∀ l, l < k → (p : Int) ∣ (z l : Int) - si (fun i => (x i : Int) * si (fun j => (y j : Int) * (Am i j l : Int)) (List.range k)) (List.range k)) := by
  refine sx_m0 (ls := lMo_multiply) (cs := noCalls) (by decide +kernel) kMo_multiply (fun pc i h1 h2 => sx_nc (ls := lMo_multiply) (by decide) pc i h1 h2) (by simp) (fun x w' h => by cases h.1) ?_
  intro Z hZ
  have hp0 : 0 < p := by omega
  have hpp : p * p ≤ 1092 * 1092 := Nat.mul_le_mul (by omega) (by omega)
  have outer : ∀ m l (f : Nat → Int32) (z : Nat → Nat) x5 x6 x7 x8, m + l = 16 → (∀ i, i < l → f (16 * to + i) = nI (z i) ∧ z i < p ∧ (k ≤ i → z i = 0) ∧ (i < k → (p : Int) ∣ (z i : Int) - si (fun q => (x q : Int) * si (fun j => (y j : Int) * (Am q j i : Int)) (List.range k)) (List.range k))) → frC [to] (a 7) f → Z 3 [some (.inr (0, 0)), some (.inl (nI to)), some (.inl (nI u)), some (.inl (nI v)), some (.inl (nI l)), x5, x6, x7, x8] [] (mW (va_up a 7 f) i) := by
    intro m
    induction m with
    | zero =>
      intro l f z x5 x6 x7 x8 hm h1 h2
      have e9 : l = 16 := by omega
      subst e9
      refine z_iload hZ gMo_multiply_3 rfl ?_
      refine z_bipush hZ gMo_multiply_5 _ i16 ?_
      refine z_cmpge hZ gMo_multiply_7 (fun c7 => ?_) (fun c7 => absurd (nI_le (Nat.le_refl 16) (by decide)) c7)
      refine z_vret hZ gMo_multiply_155 ?_
      exact ⟨rfl, f, z, rfl, fun q hq => ⟨(h1 q hq).1, (h1 q hq).2.1, (h1 q hq).2.2.1⟩, h2, fun q hq => (h1 q (by omega)).2.2.2 hq⟩
    | succ m ih =>
      intro l f z x5 x6 x7 x8 hm h1 h2
      have hl : l < 16 := by omega
      have e1 := nI_clamp (n := 16 * to + l) (by omega)
      have hcl : ∀ q j, (if l < k then Am q j l else 0) ≤ 120 := fun q j => by
        split
        · exact hA q j l
        · exact Nat.zero_le _
      have mid : ∀ m2 q x7 x8, m2 + q = k → Z 16 [some (.inr (0, 0)), some (.inl (nI to)), some (.inl (nI u)), some (.inl (nI v)), some (.inl (nI l)), some (.inl (nI (acS p x (fun i => if x i = 0 then 0 else acS p y (fun j => if l < k then Am i j l else 0) k) q))), some (.inl (nI q)), x7, x8] [] (mW (va_up a 7 f) i) := by
        intro m2
        induction m2 with
        | zero =>
          intro q x7 x8 hm2
          have e9 : q = k := by omega
          rw [e9]
          have hs := acS_lt hp0 x (fun i => if x i = 0 then 0 else acS p y (fun j => if l < k then Am i j l else 0) k) k
          refine z_iload hZ gMo_multiply_16 rfl ?_
          refine z_aload_n hZ gMo_multiply_18 rfl ?_
          refine z_get hZ gMo_multiply_19 (by omega) rfl (by rw [hi6]; rfl) ?_
          refine z_cmpge hZ gMo_multiply_22 (fun c22 => ?_) (fun c22 => absurd (nI_le (Nat.le_refl k) (by omega)) c22)
          refine z_aload_n hZ gMo_multiply_135 rfl ?_
          refine z_get hZ gMo_multiply_136 (by omega) rfl rfl ?_
          refine z_bipush hZ gMo_multiply_139 _ i16 ?_
          refine z_iload_n hZ gMo_multiply_141 rfl ?_
          refine z_imul hZ gMo_multiply_142 _ rfl ?_
          refine z_iload hZ gMo_multiply_143 rfl ?_
          refine z_iadd hZ gMo_multiply_145 _ (ix2 to l) ?_
          refine z_iload hZ gMo_multiply_146 rfl ?_
          refine z_iastW hZ gMo_multiply_148 (by omega) rfl (vp_in_nI (by omega) (by decide)) mW_a7 ?_
          rw [e1, va_up_self, va_uu]
          refine z_iinc hZ gMo_multiply_149 rfl _ (i1 l) rfl ?_
          refine z_goto hZ gMo_multiply_152 ?_
          refine ih (l + 1) _ (va_up z l (acS p x (fun i => if x i = 0 then 0 else acS p y (fun j => if l < k then Am i j l else 0) k) k)) _ _ _ _ (by omega) (fun t ht => ?_) (fun u9 t ht hu9 => ?_)
          · by_cases e9 : t = l
            · subst e9
              rw [pk_us, va_up_self]
              refine ⟨rfl, hs, fun hk => acS_z k (fun j hj => ?_), fun hk => ?_⟩
              · show (if x j = 0 then 0 else _) = 0
                split
                · rfl
                · exact acS_z k (fun j9 _ => if_neg (by omega))
              · refine dv_tr (acS_ok p x (fun i => if x i = 0 then 0 else acS p y (fun j => if t < k then Am i j t else 0) k) k) (si_cong fun j _ => ?_)
                show (p : Int) ∣ (x j : Int) * ((if x j = 0 then 0 else acS p y (fun j9 => if t < k then Am j j9 t else 0) k : Nat) : Int) - _
                by_cases h0 : x j = 0
                · rw [h0, Int.natCast_zero, Int.zero_mul, Int.zero_mul]
                  exact Int.dvd_zero _
                · rw [if_neg h0]
                  refine dv_ml _ ?_
                  have h8 := acS_ok p y (fun j9 => if t < k then Am j j9 t else 0) k
                  rw [si_congr (g := fun j9 => (y j9 : Int) * (Am j j9 t : Int)) (fun j9 _ => by rw [if_pos hk])] at h8
                  exact h8
            · rw [pk_un (by omega), va_up_ne _ _ e9]; exact h1 t (by omega)
          · rw [pk_un (by simp at hu9; omega)]; exact h2 u9 t ht hu9
        | succ m2 ih2 =>
          intro q x7 x8 hm2
          have hq : q < k := by omega
          obtain ⟨hx1, hx2, -⟩ := hx q (by omega)
          have hfu : f (16 * u + q) = nI (x q) := by rw [h2 u q (by omega) (by simp; exact fun h => htu h.symm)]; exact hx1
          have eu := nI_clamp (n := 16 * u + q) (by omega)
          have hs := acS_lt hp0 x (fun i => if x i = 0 then 0 else acS p y (fun j => if l < k then Am i j l else 0) k) q
          have fin : ∀ x8, Z 104 [some (.inr (0, 0)), some (.inl (nI to)), some (.inl (nI u)), some (.inl (nI v)), some (.inl (nI l)), some (.inl (nI (acS p x (fun i => if x i = 0 then 0 else acS p y (fun j => if l < k then Am i j l else 0) k) q))), some (.inl (nI q)), some (.inl (nI ((fun i => if x i = 0 then 0 else acS p y (fun j => if l < k then Am i j l else 0) k) q))), x8] [] (mW (va_up a 7 f) i) := by
            intro x8
            have hi9 : (fun i => if x i = 0 then 0 else acS p y (fun j => if l < k then Am i j l else 0) k) q < p := by
              show (if x q = 0 then 0 else _) < p
              split
              · exact hp0
              · exact acS_lt hp0 _ _ _
            have hmu : x q * (fun i => if x i = 0 then 0 else acS p y (fun j => if l < k then Am i j l else 0) k) q ≤ p * p := Nat.mul_le_mul (Nat.le_of_lt hx2) (Nat.le_of_lt hi9)
            generalize hg9 : (fun i => if x i = 0 then 0 else acS p y (fun j => if l < k then Am i j l else 0) k) q = iq at hi9 hmu ⊢
            have es : (acS p x (fun i => if x i = 0 then 0 else acS p y (fun j => if l < k then Am i j l else 0) k) q + x q * iq) % p = acS p x (fun i => if x i = 0 then 0 else acS p y (fun j => if l < k then Am i j l else 0) k) (q + 1) := by rw [← hg9]; rfl
            refine z_iload hZ gMo_multiply_104 rfl ?_
            refine z_aload_n hZ gMo_multiply_106 rfl ?_
            refine z_get hZ gMo_multiply_107 (by omega) rfl rfl ?_
            refine z_bipush hZ gMo_multiply_110 _ i16 ?_
            refine z_iload_n hZ gMo_multiply_112 rfl ?_
            refine z_imul hZ gMo_multiply_113 _ rfl ?_
            refine z_iload hZ gMo_multiply_114 rfl ?_
            refine z_iadd hZ gMo_multiply_116 _ (ix2 u q) ?_
            refine z_iald hZ gMo_multiply_117 (by omega) rfl (vp_in_nI (by omega) (by decide)) ?_
            rw [eu, va_up_self, hfu]
            refine z_iload hZ gMo_multiply_118 rfl ?_
            refine z_imul hZ gMo_multiply_120 _ (pk_mul (x q) iq) ?_
            refine z_iadd hZ gMo_multiply_121 _ (nI_add _ _) ?_
            refine z_aload_n hZ gMo_multiply_122 rfl ?_
            refine z_get hZ gMo_multiply_123 (by omega) rfl (by rw [hp11]; rfl) ?_
            refine z_irem hZ gMo_multiply_126 (nI_ne0 (by omega) (by omega)) _ (pk_rem (by omega) (by omega) (by omega)) ?_
            rw [es]
            refine z_istore hZ gMo_multiply_127 rfl ?_
            refine z_iinc hZ gMo_multiply_129 rfl _ (i1 q) rfl ?_
            refine z_goto hZ gMo_multiply_132 ?_
            exact ih2 (q + 1) _ _ (by omega)
          have inner : ∀ m3 j, m3 + j = k → ¬ x q = 0 → Z 31 [some (.inr (0, 0)), some (.inl (nI to)), some (.inl (nI u)), some (.inl (nI v)), some (.inl (nI l)), some (.inl (nI (acS p x (fun i => if x i = 0 then 0 else acS p y (fun j => if l < k then Am i j l else 0) k) q))), some (.inl (nI q)), some (.inl (nI (acS p y (fun j => if l < k then Am q j l else 0) j))), some (.inl (nI j))] [] (mW (va_up a 7 f) i) := by
            intro m3
            induction m3 with
            | zero =>
              intro j hm3 hx0
              have e9 : j = k := by omega
              rw [e9]
              have fin9 : ∀ x8, Z 104 [some (.inr (0, 0)), some (.inl (nI to)), some (.inl (nI u)), some (.inl (nI v)), some (.inl (nI l)), some (.inl (nI (acS p x (fun i => if x i = 0 then 0 else acS p y (fun j => if l < k then Am i j l else 0) k) q))), some (.inl (nI q)), some (.inl (nI (acS p y (fun j => if l < k then Am q j l else 0) k))), x8] [] (mW (va_up a 7 f) i) := fun x8 => by
                have h9 := fin x8
                have e8 : (fun i => if x i = 0 then 0 else acS p y (fun j => if l < k then Am i j l else 0) k) q = acS p y (fun j => if l < k then Am q j l else 0) k := if_neg hx0
                rw [e8] at h9
                exact h9
              refine z_iload hZ gMo_multiply_31 rfl ?_
              refine z_aload_n hZ gMo_multiply_33 rfl ?_
              refine z_get hZ gMo_multiply_34 (by omega) rfl (by rw [hi6]; rfl) ?_
              refine z_cmpge hZ gMo_multiply_37 (fun c37 => ?_) (fun c37 => absurd (nI_le (Nat.le_refl k) (by omega)) c37)
              exact fin9 _
            | succ m3 ih3 =>
              intro j hm3 hx0
              obtain ⟨hy1, hy2, -⟩ := hy j (by omega)
              have hfv : f (16 * v + j) = nI (y j) := by rw [h2 v j (by omega) (by simp; exact fun h => htv h.symm)]; exact hy1
              have ev := nI_clamp (n := 16 * v + j) (by omega)
              have hidx : (q * 16 + j) * 16 + l < 4096 := by omega
              have eidx := nI_clamp (n := (q * 16 + j) * 16 + l) (by omega)
              have hci := hco q j l (by omega) (by omega) hl
              have hc2 := hcl q j
              have hsj := acS_lt hp0 y (fun j => if l < k then Am q j l else 0) j
              have hmu : y j * (if l < k then Am q j l else 0) ≤ 1092 * 120 := Nat.mul_le_mul (by omega) hc2
              have es : (acS p y (fun j => if l < k then Am q j l else 0) j + y j * (if l < k then Am q j l else 0)) % p = acS p y (fun j => if l < k then Am q j l else 0) (j + 1) := rfl
              refine z_iload hZ gMo_multiply_31 rfl ?_
              refine z_aload_n hZ gMo_multiply_33 rfl ?_
              refine z_get hZ gMo_multiply_34 (by omega) rfl (by rw [hi6]; rfl) ?_
              refine z_cmpge hZ gMo_multiply_37 (fun c37 => absurd c37 (nI_ge (by omega) (by omega))) (fun c37 => ?_)
              refine z_aload_n hZ gMo_multiply_40 rfl ?_
              refine z_get hZ gMo_multiply_41 (by omega) rfl rfl ?_
              refine z_bipush hZ gMo_multiply_44 _ i16 ?_
              refine z_iload_n hZ gMo_multiply_46 rfl ?_
              refine z_imul hZ gMo_multiply_47 _ rfl ?_
              refine z_iload hZ gMo_multiply_48 rfl ?_
              refine z_iadd hZ gMo_multiply_50 _ (ix2 u q) ?_
              refine z_iald hZ gMo_multiply_51 (by omega) rfl (vp_in_nI (by omega) (by decide)) ?_
              rw [eu, va_up_self, hfu]
              refine z_ifeq hZ gMo_multiply_52 (fun c52 => absurd ((nI_eq (b := 0) (by omega) (by decide)).mp c52) hx0) (fun c52 => ?_)
              refine z_iload hZ gMo_multiply_55 rfl ?_
              refine z_aload_n hZ gMo_multiply_57 rfl ?_
              refine z_get hZ gMo_multiply_58 (by omega) rfl rfl ?_
              refine z_bipush hZ gMo_multiply_61 _ i16 ?_
              refine z_iload_n hZ gMo_multiply_63 rfl ?_
              refine z_imul hZ gMo_multiply_64 _ rfl ?_
              refine z_iload hZ gMo_multiply_65 rfl ?_
              refine z_iadd hZ gMo_multiply_67 _ (ix2 v j) ?_
              refine z_iald hZ gMo_multiply_68 (by omega) rfl (vp_in_nI (by omega) (by decide)) ?_
              rw [ev, va_up_self, hfv]
              refine z_aload_n hZ gMo_multiply_69 rfl ?_
              refine z_get hZ gMo_multiply_70 (by omega) rfl rfl ?_
              refine z_sipush hZ gMo_multiply_73 _ i256 ?_
              refine z_iload hZ gMo_multiply_76 rfl ?_
              refine z_imul hZ gMo_multiply_78 _ rfl ?_
              refine z_bipush hZ gMo_multiply_79 _ i16 ?_
              refine z_iload hZ gMo_multiply_81 rfl ?_
              refine z_imul hZ gMo_multiply_83 _ rfl ?_
              refine z_iadd hZ gMo_multiply_84 _ rfl ?_
              refine z_iload hZ gMo_multiply_85 rfl ?_
              refine z_iadd hZ gMo_multiply_87 _ (ix3 q j l) ?_
              refine z_iald hZ gMo_multiply_88 (by omega) rfl (vp_in_nI hidx (by decide)) ?_
              rw [eidx, va_up_ne _ _ (by decide), hci]
              refine z_imul hZ gMo_multiply_89 _ (pk_mul _ _) ?_
              refine z_iadd hZ gMo_multiply_90 _ (nI_add _ _) ?_
              refine z_aload_n hZ gMo_multiply_91 rfl ?_
              refine z_get hZ gMo_multiply_92 (by omega) rfl (by rw [hp11]; rfl) ?_
              refine z_irem hZ gMo_multiply_95 (nI_ne0 (by omega) (by omega)) _ (pk_rem (by omega) (by omega) (by omega)) ?_
              rw [es]
              refine z_istore hZ gMo_multiply_96 rfl ?_
              refine z_iinc hZ gMo_multiply_98 rfl _ (i1 j) rfl ?_
              refine z_goto hZ gMo_multiply_101 ?_
              exact ih3 (j + 1) (by omega) hx0
          have zero : x q = 0 → Z 31 [some (.inr (0, 0)), some (.inl (nI to)), some (.inl (nI u)), some (.inl (nI v)), some (.inl (nI l)), some (.inl (nI (acS p x (fun i => if x i = 0 then 0 else acS p y (fun j => if l < k then Am i j l else 0) k) q))), some (.inl (nI q)), some (.inl (nI 0)), some (.inl (nI 0))] [] (mW (va_up a 7 f) i) := fun hx0 => by
            have fin9 : ∀ x8, Z 104 [some (.inr (0, 0)), some (.inl (nI to)), some (.inl (nI u)), some (.inl (nI v)), some (.inl (nI l)), some (.inl (nI (acS p x (fun i => if x i = 0 then 0 else acS p y (fun j => if l < k then Am i j l else 0) k) q))), some (.inl (nI q)), some (.inl (nI 0)), x8] [] (mW (va_up a 7 f) i) := fun x8 => by
              have h9 := fin x8
              have e8 : (fun i => if x i = 0 then 0 else acS p y (fun j => if l < k then Am i j l else 0) k) q = 0 := if_pos hx0
              rw [e8] at h9
              exact h9
            refine z_iload hZ gMo_multiply_31 rfl ?_
            refine z_aload_n hZ gMo_multiply_33 rfl ?_
            refine z_get hZ gMo_multiply_34 (by omega) rfl (by rw [hi6]; rfl) ?_
            refine z_cmpge hZ gMo_multiply_37 (fun c37 => absurd c37 (nI_ge (by omega) (by omega))) (fun c37 => ?_)
            refine z_aload_n hZ gMo_multiply_40 rfl ?_
            refine z_get hZ gMo_multiply_41 (by omega) rfl rfl ?_
            refine z_bipush hZ gMo_multiply_44 _ i16 ?_
            refine z_iload_n hZ gMo_multiply_46 rfl ?_
            refine z_imul hZ gMo_multiply_47 _ rfl ?_
            refine z_iload hZ gMo_multiply_48 rfl ?_
            refine z_iadd hZ gMo_multiply_50 _ (ix2 u q) ?_
            refine z_iald hZ gMo_multiply_51 (by omega) rfl (vp_in_nI (by omega) (by decide)) ?_
            rw [eu, va_up_self, hfu, hx0]
            refine z_ifeq hZ gMo_multiply_52 (fun c52 => ?_) (fun c52 => absurd rfl c52)
            exact fin9 _
          refine z_iload hZ gMo_multiply_16 rfl ?_
          refine z_aload_n hZ gMo_multiply_18 rfl ?_
          refine z_get hZ gMo_multiply_19 (by omega) rfl (by rw [hi6]; rfl) ?_
          refine z_cmpge hZ gMo_multiply_22 (fun c22 => absurd c22 (nI_ge (by omega) (by omega))) (fun c22 => ?_)
          refine z_iconst hZ gMo_multiply_25 _ i0 ?_
          refine z_istore hZ gMo_multiply_26 rfl ?_
          refine z_iconst hZ gMo_multiply_28 _ i0 ?_
          refine z_istore hZ gMo_multiply_29 rfl ?_
          by_cases hx0 : x q = 0
          · exact zero hx0
          · exact inner k 0 (by omega) hx0
      refine z_iload hZ gMo_multiply_3 rfl ?_
      refine z_bipush hZ gMo_multiply_5 _ i16 ?_
      refine z_cmpge hZ gMo_multiply_7 (fun c7 => absurd c7 (nI_ge hl (by decide))) (fun c7 => ?_)
      refine z_iconst hZ gMo_multiply_10 _ i0 ?_
      refine z_istore hZ gMo_multiply_11 rfl ?_
      refine z_iconst hZ gMo_multiply_13 _ i0 ?_
      refine z_istore hZ gMo_multiply_14 rfl ?_
      exact mid k 0 _ _ (by omega)
  refine z_iconst hZ gMo_multiply_0 _ i0 ?_
  refine z_istore hZ gMo_multiply_1 rfl ?_
  have h9 := outer 16 0 (a 7) (fun _ => 0) none none none none rfl (fun q hq => absurd hq (Nat.not_lt_zero q)) (fun _ _ _ _ => rfl)
  rw [va_id a (k := 7) rfl] at h9
  exact h9

