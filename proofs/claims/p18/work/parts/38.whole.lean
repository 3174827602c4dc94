-- the whole space
abbrev bW (a : sA) (g : sG) (i : sA) (f h : Nat → Int32) (M : Nat → Nat → Int32) : sx_M := cW (va_up (va_up a 15 f) 16 h) (va_up g 14 M) i
theorem bW_g (a : sA) (g : sG) (i : sA) (M R : Nat → Nat → Int32) : cW a (va_up (va_up g 14 M) 14 R) i = cW a (va_up g 14 R) i := by rw [va_uu]
theorem bW_f (a : sA) (g : sG) (i : sA) (f h f' : Nat → Int32) : cW (va_up (va_up (va_up a 15 f) 16 h) 15 f') g i = cW (va_up (va_up a 15 f') 16 h) g i := by
  have e : va_up (va_up (va_up a 15 f) 16 h) 15 f' = va_up (va_up a 15 f') 16 h := by
    funext x
    by_cases e1 : x = 15
    · subst e1; rw [va_up_self, va_up_ne _ _ (by decide : (15 : Nat) ≠ 16), va_up_self]
    · rw [va_up_ne _ _ e1]
      by_cases e2 : x = 16
      · subst e2; rw [va_up_self, va_up_self]
      · rw [va_up_ne _ _ e2, va_up_ne _ _ e2, va_up_ne _ _ e1, va_up_ne _ _ e1]
  rw [e]
theorem bW_h (a : sA) (g : sG) (i : sA) (f h h' : Nat → Int32) : cW (va_up (va_up (va_up a 15 f) 16 h) 16 h') g i = cW (va_up (va_up a 15 f) 16 h') g i := by rw [va_uu]

set_option maxHeartbeats 4000000 in
set_option maxRecDepth 100000 in
theorem c_Cm_startWhole (l : Launch) (D : va_G) (E : sx_E) (B : Nat) (A : Nat → Prop) (hB : 29 ≤ B) {a : sA} {g : sG} {i : sA} {k : Nat} (h13 : i 13 0 = nI k) (hk : k ≤ 16) : sM l D E B A yCm_startWhole prog_2_method_3_code 2 none 1 23 [.inr (13, 0)] (cW a g i) (fun r w' => r = none ∧ ∃ (f h : Nat → Int32) (M : Nat → Nat → Int32), w' = bW a g i f h M ∧ ∀ c, c < k → f c = nI c ∧ h c = nI (if c = 0 then k else c + 1) ∧ ∀ l, l < 16 → M c l = nI (if c = l then 1 else 0)) := by
  refine sx_m0 (ls := lCm_startWhole) (cs := csAll) (by decide +kernel) kCm_startWhole (hCm_startWhole l D E B A hB) (by simp) (fun x w' h => by cases h.1) ?_
  intro Z hZ
  have loop : ∀ n j f h M, n + j = k → (∀ c, c < j → f c = nI c ∧ h c = nI (c + 1) ∧ ∀ l, l < 16 → M c l = nI (if c = l then 1 else 0)) → Z 2 [some (.inr (13, 0)), some (.inl (nI j))] [] (bW a g i f h M) := by
    intro n
    induction n with
    | zero =>
      intro j f h M hn h1
      have e : j = k := by omega
      subst e
      refine z_iload_n hZ gCm_startWhole_2 rfl ?_
      refine z_aload_n hZ gCm_startWhole_3 rfl ?_
      refine z_get hZ gCm_startWhole_4 (by omega) rfl (by rw [h13]; rfl) ?_
      refine z_cmpge hZ gCm_startWhole_7 (fun c7 => ?_) (fun c7 => absurd (nI_le (Nat.le_refl j) (by omega)) c7)
      refine z_aload_n hZ gCm_startWhole_51 rfl ?_
      refine z_get hZ gCm_startWhole_52 (by omega) rfl rfl ?_
      refine z_iconst hZ gCm_startWhole_55 _ i0 ?_
      refine z_aload_n hZ gCm_startWhole_56 rfl ?_
      refine z_get hZ gCm_startWhole_57 (by omega) rfl (by rw [h13]; rfl) ?_
      refine z_iastW hZ gCm_startWhole_60 (by omega) rfl (vp_in_nI (by omega) (by decide)) cW_a16 ?_
      rw [nI_clamp (by decide), va_up_self, bW_h]
      refine z_vret hZ gCm_startWhole_61 ?_
      refine ⟨rfl, f, _, M, rfl, fun c hc => ⟨(h1 c hc).1, ?_, (h1 c hc).2.2⟩⟩
      by_cases e : c = 0
      · subst e; rw [pk_us, if_pos rfl]
      · rw [pk_un e, if_neg e]; exact (h1 c hc).2.1
    | succ n ih =>
      intro j f h M hn h1
      have hj : j < k := by omega
      have ej : (nI j).toNatClampNeg = j := nI_clamp (by omega)
      refine z_iload_n hZ gCm_startWhole_2 rfl ?_
      refine z_aload_n hZ gCm_startWhole_3 rfl ?_
      refine z_get hZ gCm_startWhole_4 (by omega) rfl (by rw [h13]; rfl) ?_
      refine z_cmpge hZ gCm_startWhole_7 (fun c7 => absurd c7 (nI_ge (by omega) (by omega))) (fun c7 => ?_)
      refine z_aload_n hZ gCm_startWhole_10 rfl ?_
      refine z_get hZ gCm_startWhole_11 (by omega) rfl rfl ?_
      refine z_iload_n hZ gCm_startWhole_14 rfl ?_
      refine z_aald hZ gCm_startWhole_15 (by omega) rfl (vp_in_nI (by omega) (by decide)) ?_
      rw [ej]
      refine z_iconst hZ gCm_startWhole_16 _ i0 ?_
      refine z_cs hZ gCm_startWhole_17 rfl rfl (Nat.le_of_ble_eq_true rfl) (Nat.le_of_ble_eq_true rfl) (fun l D E B A hB => c_Ar_fillg l D E B A (n := 14) (N := 16) (K := 16) (j := j) (f := M) (by omega) (by decide) (by omega) (nI 0) _ rfl) (fun r17 w17 p17 => ?_)
      obtain ⟨rfl, rfl⟩ := p17
      rw [cW_g14, bW_g]
      show Z (17 + 3) _ [] _
      refine z_aload_n hZ gCm_startWhole_20 rfl ?_
      refine z_get hZ gCm_startWhole_21 (by omega) rfl rfl ?_
      refine z_iload_n hZ gCm_startWhole_24 rfl ?_
      refine z_aald hZ gCm_startWhole_25 (by omega) rfl (vp_in_nI (by omega) (by decide)) ?_
      rw [ej]
      refine z_iload_n hZ gCm_startWhole_26 rfl ?_
      refine z_iconst hZ gCm_startWhole_27 _ ic1 ?_
      refine z_iasgW hZ gCm_startWhole_28 (by omega) rfl (by omega) (vp_in_nI (by omega) (by decide)) cW_g14 ?_
      rw [ej, va_up_self, bW_g]
      refine z_aload_n hZ gCm_startWhole_29 rfl ?_
      refine z_get hZ gCm_startWhole_30 (by omega) rfl rfl ?_
      refine z_iload_n hZ gCm_startWhole_33 rfl ?_
      refine z_iload_n hZ gCm_startWhole_34 rfl ?_
      refine z_iastW hZ gCm_startWhole_35 (by omega) rfl (vp_in_nI (by omega) (by decide)) cW_a15 ?_
      rw [ej, va_up_ne _ _ (by decide : (15 : Nat) ≠ 16), va_up_self, bW_f]
      refine z_aload_n hZ gCm_startWhole_36 rfl ?_
      refine z_get hZ gCm_startWhole_37 (by omega) rfl rfl ?_
      refine z_iload_n hZ gCm_startWhole_40 rfl ?_
      refine z_iload_n hZ gCm_startWhole_41 rfl ?_
      refine z_iconst hZ gCm_startWhole_42 _ rfl ?_
      refine z_iadd hZ gCm_startWhole_43 _ (i1 j) ?_
      refine z_iastW hZ gCm_startWhole_44 (by omega) rfl (vp_in_nI (by omega) (by decide)) cW_a16 ?_
      rw [ej, va_up_self, bW_h]
      refine z_iinc hZ gCm_startWhole_45 rfl _ (i1 j) rfl ?_
      refine z_goto hZ gCm_startWhole_48 ?_
      refine ih (j + 1) _ _ _ (by omega) (fun c hc => ?_)
      by_cases e : c = j
      · subst e
        refine ⟨pk_us, pk_us, fun l hl => ?_⟩
        rw [va_up_self, va_up_self]
        by_cases e2 : l = c
        · subst e2; rw [pk_us, if_pos rfl]
        · rw [pk_un e2, if_neg (Ne.symm e2)]
          exact if_pos hl
      · rw [pk_un e, pk_un e, va_up_ne _ _ e, va_up_ne _ _ e]
        exact h1 c (by omega)
  refine z_iconst hZ gCm_startWhole_0 _ i0 ?_
  refine z_istore_n hZ gCm_startWhole_1 rfl ?_
  have h9 := loop k 0 (a 15) (a 16) (g 14) (by omega) (fun c hc => absurd hc (Nat.not_lt_zero c))
  have e1 : bW a g i (a 15) (a 16) (g 14) = cW a g i := by
    show cW _ _ _ = cW _ _ _
    rw [va_id g (k := 14) rfl, va_id a (k := 15) rfl, va_id a (k := 16) rfl]
  rw [e1] at h9
  exact h9

abbrev eW14 (a : sA) (g : sG) (i : sA) (M : Nat → Nat → Int32) : sx_M := cW a (va_up g 14 M) i

set_option maxHeartbeats 4000000 in
set_option maxRecDepth 100000 in
theorem c_Cm_scale (l : Launch) (D : va_G) (E : sx_E) (B : Nat) (A : Nat → Prop) (hB : 29 ≤ B) {a : sA} {g : sG} {i : sA} {p k : Nat} {bs : Nat → Nat → Nat} (hm : i 12 0 = nI p) (hpr : isPr p) (hp : p < 1092) (h13 : i 13 0 = nI k) (hk : k ≤ 16) (hb : gM p k (g 14) bs) (hnz : ∀ j, j < k → bs j 0 ≠ 0) : sM l D E B A yCm_scale prog_2_method_11_code 5 none 1 29 [.inr (13, 0), .inr (12, 0)] (cW a g i) (fun r w' => r = none ∧ ∃ (v : Nat → Nat) (M : Nat → Nat → Int32), w' = eW14 a g i M ∧ (∀ r, r < k → v r < p ∧ (p : Int) ∣ (v r : Int) * (bs r 0 : Int) - 1) ∧ gM p k M (fun r c => bs r c * v r % p)) := by
  refine sx_m0 (ls := lCm_scale) (cs := csAll) (by decide +kernel) kCm_scale (hCm_scale l D E B A hB) (by simp) (fun x w' h => by cases h.1) ?_
  intro Z hZ
  have hp1 : 1 < p := hpr.1
  have hp0 : 0 < p := by omega
  have rows : ∀ n j (v : Nat → Nat) M x3 x4, n + j = k → (∀ r, r < j → v r < p ∧ (p : Int) ∣ (v r : Int) * (bs r 0 : Int) - 1) → (∀ r c, r < k → c < k → M r c = nI (if r < j then bs r c * v r % p else bs r c)) → Z 2 [some (.inr (13, 0)), some (.inr (12, 0)), some (.inl (nI j)), x3, x4] [] (eW14 a g i M) := by
    intro n
    induction n with
    | zero =>
      intro j v M x3 x4 hn hv hM
      have e : j = k := by omega
      subst e
      refine z_iload_n hZ gCm_scale_2 rfl ?_
      refine z_aload_n hZ gCm_scale_3 rfl ?_
      refine z_get hZ gCm_scale_4 (by omega) rfl (by rw [h13]; rfl) ?_
      refine z_cmpge hZ gCm_scale_7 (fun c7 => ?_) (fun c7 => absurd (nI_le (Nat.le_refl j) (by omega)) c7)
      refine z_vret hZ gCm_scale_70 ?_
      exact ⟨rfl, v, M, rfl, hv, fun r c hr hc => ⟨by rw [hM r c hr hc, if_pos hr], Nat.mod_lt _ hp0⟩⟩
    | succ n ih =>
      intro j v M x3 x4 hn hv hM
      have hj : j < k := by omega
      have ej : (nI j).toNatClampNeg = j := nI_clamp (by omega)
      have h00 : (nI 0).toNatClampNeg = 0 := nI_clamp (by decide)
      have hq0 := hM j 0 hj (by omega)
      rw [if_neg (Nat.lt_irrefl j)] at hq0
      have hb0 := (hb j 0 hj (by omega)).2
      have inner : ∀ w, w < p → (p : Int) ∣ (w : Int) * (bs j 0 : Int) - 1 → ∀ m l M, m + l = k → (∀ r c, r < k → c < k → M r c = nI (if r < j then bs r c * v r % p else if r = j ∧ c < l then bs r c * w % p else bs r c)) → Z 26 [some (.inr (13, 0)), some (.inr (12, 0)), some (.inl (nI j)), some (.inl (nI w)), some (.inl (nI l))] [] (eW14 a g i M) := by
        intro w hw hwi m
        induction m with
        | zero =>
          intro l M hml hM
          have e : l = k := by omega
          subst e
          refine z_iload hZ gCm_scale_26 rfl ?_
          refine z_aload_n hZ gCm_scale_28 rfl ?_
          refine z_get hZ gCm_scale_29 (by omega) rfl (by rw [h13]; rfl) ?_
          refine z_cmpge hZ gCm_scale_32 (fun c32 => ?_) (fun c32 => absurd (nI_le (Nat.le_refl l) (by omega)) c32)
          refine z_iinc hZ gCm_scale_64 rfl _ (i1 j) rfl ?_
          refine z_goto hZ gCm_scale_67 ?_
          refine ih (j + 1) (va_up v j w) M _ _ (by omega) (fun r hr => ?_) (fun r c hr hc => ?_)
          · by_cases e : r = j
            · subst e; rw [va_up_self]; exact ⟨hw, hwi⟩
            · rw [va_up_ne _ _ e]; exact hv r (by omega)
          · rw [hM r c hr hc]
            by_cases e : r = j
            · subst e; rw [va_up_self, if_neg (Nat.lt_irrefl r), if_pos ⟨rfl, hc⟩, if_pos (Nat.lt_succ_self r)]
            · rw [va_up_ne _ _ e]
              by_cases h9 : r < j
              · rw [if_pos h9, if_pos (by omega)]
              · rw [if_neg h9, if_neg (fun h => e h.1), if_neg (by omega)]
        | succ m ihm =>
          intro l M hml hM
          have hl : l < k := by omega
          have el : (nI l).toNatClampNeg = l := nI_clamp (by omega)
          have hq := hM j l hj hl
          rw [if_neg (Nat.lt_irrefl j), if_neg (fun h => Nat.lt_irrefl l h.2)] at hq
          have hbl := (hb j l hj hl).2
          refine z_iload hZ gCm_scale_26 rfl ?_
          refine z_aload_n hZ gCm_scale_28 rfl ?_
          refine z_get hZ gCm_scale_29 (by omega) rfl (by rw [h13]; rfl) ?_
          refine z_cmpge hZ gCm_scale_32 (fun c32 => absurd c32 (nI_ge (by omega) (by omega))) (fun c32 => ?_)
          refine z_aload_n hZ gCm_scale_35 rfl ?_
          refine z_get hZ gCm_scale_36 (by omega) rfl rfl ?_
          refine z_iload_n hZ gCm_scale_39 rfl ?_
          refine z_aald hZ gCm_scale_40 (by omega) rfl (vp_in_nI (by omega) (by decide)) ?_
          rw [ej]
          refine z_iload hZ gCm_scale_41 rfl ?_
          refine z_aload_n hZ gCm_scale_43 rfl ?_
          refine z_aload_n hZ gCm_scale_44 rfl ?_
          refine z_get hZ gCm_scale_45 (by omega) rfl rfl ?_
          refine z_iload_n hZ gCm_scale_48 rfl ?_
          refine z_aald hZ gCm_scale_49 (by omega) rfl (vp_in_nI (by omega) (by decide)) ?_
          rw [ej]
          refine z_iload hZ gCm_scale_50 rfl ?_
          refine z_ialg hZ gCm_scale_52 (by omega) rfl (by omega) (vp_in_nI (by omega) (by decide)) ?_
          rw [el, va_up_self, hq]
          refine z_iload_n hZ gCm_scale_53 rfl ?_
          refine z_cv hZ gCm_scale_54 rfl rfl (Nat.le_of_ble_eq_true rfl) (Nat.le_of_ble_eq_true rfl) ⟨⟨12, _, _, rfl, by decide, rfl⟩, fun l9 D E B A hB => c_Re_times l9 D E B A hB hm hp0 (pp92 hp) (x := bs j l) (y := w) (bd1 hp hbl hw)⟩ (fun r54 w54 p54 => ?_)
          obtain ⟨rfl, rfl⟩ := p54
          show Z (54 + 3) _ (.inl (nI (bs j l * w % p)) :: .inl (nI l) :: .inr (14, j + 1) :: []) _
          refine z_iasgW hZ gCm_scale_57 (by omega) rfl (by omega) (vp_in_nI (by omega) (by decide)) cW_g14 ?_
          rw [el, va_up_self, bW_g]
          refine z_iinc hZ gCm_scale_58 rfl _ (i1 l) rfl ?_
          refine z_goto hZ gCm_scale_61 ?_
          refine ihm (l + 1) _ (by omega) (fun r c hr hc => ?_)
          by_cases e : r = j
          · subst e
            rw [va_up_self, if_neg (Nat.lt_irrefl r)]
            by_cases e2 : c = l
            · subst e2; rw [pk_us, if_pos ⟨rfl, Nat.lt_succ_self c⟩]
            · rw [pk_un e2, hM r c hr hc, if_neg (Nat.lt_irrefl r)]
              by_cases h9 : c < l
              · rw [if_pos ⟨rfl, h9⟩, if_pos ⟨rfl, by omega⟩]
              · rw [if_neg (fun h => h9 h.2), if_neg (fun h => h9 (by omega))]
          · rw [va_up_ne _ _ e, hM r c hr hc]
            by_cases h9 : r < j
            · rw [if_pos h9, if_pos h9]
            · rw [if_neg h9, if_neg h9, if_neg (fun h => e h.1), if_neg (fun h => e h.1)]
      refine z_iload_n hZ gCm_scale_2 rfl ?_
      refine z_aload_n hZ gCm_scale_3 rfl ?_
      refine z_get hZ gCm_scale_4 (by omega) rfl (by rw [h13]; rfl) ?_
      refine z_cmpge hZ gCm_scale_7 (fun c7 => absurd c7 (nI_ge (by omega) (by omega))) (fun c7 => ?_)
      refine z_aload_n hZ gCm_scale_10 rfl ?_
      refine z_aload_n hZ gCm_scale_11 rfl ?_
      refine z_get hZ gCm_scale_12 (by omega) rfl rfl ?_
      refine z_iload_n hZ gCm_scale_15 rfl ?_
      refine z_aald hZ gCm_scale_16 (by omega) rfl (vp_in_nI (by omega) (by decide)) ?_
      rw [ej]
      refine z_iconst hZ gCm_scale_17 _ i0 ?_
      refine z_ialg hZ gCm_scale_18 (by omega) rfl (by omega) (vp_in_nI (by omega) (by decide)) ?_
      rw [h00, va_up_self, hq0]
      refine z_cv hZ gCm_scale_19 rfl rfl (Nat.le_of_ble_eq_true rfl) (Nat.le_of_ble_eq_true rfl) ⟨⟨12, _, _, rfl, by decide, rfl⟩, fun l9 D E B A hB => c_Re_reciprocal l9 D E B A hB hm hp0 (pp92 hp) (num := bs j 0) (by omega)⟩ (fun r19 w19 p19 => ?_)
      obtain ⟨w, rfl, hw, _, hwi, rfl⟩ := p19
      have hwi := hwi hpr.2 hp1 (fun h9 => by have := Nat.le_of_dvd (Nat.pos_of_ne_zero (hnz j hj)) h9; omega)
      show Z (19 + 3) _ (.inl (nI w) :: []) _
      refine z_istore_n hZ gCm_scale_22 rfl ?_
      refine z_iconst hZ gCm_scale_23 _ i0 ?_
      refine z_istore hZ gCm_scale_24 rfl ?_
      refine inner w hw hwi k 0 M (by omega) (fun r c hr hc => ?_)
      rw [hM r c hr hc]
      by_cases h9 : r < j
      · rw [if_pos h9, if_pos h9]
      · rw [if_neg h9, if_neg h9, if_neg (fun h => Nat.not_lt_zero c h.2)]
  refine z_iconst hZ gCm_scale_0 _ i0 ?_
  refine z_istore_n hZ gCm_scale_1 rfl ?_
  have h9 := rows k 0 (fun _ => 0) (g 14) none none (by omega) (fun c hc => absurd hc (Nat.not_lt_zero c)) (fun r c hr hc => by rw [if_neg (Nat.not_lt_zero r)]; exact (hb r c hr hc).1)
  have e1 : eW14 a g i (g 14) = cW a g i := by
    show cW _ _ _ = cW _ _ _
    rw [va_id g (k := 14) rfl]
  rw [e1] at h9
  exact h9

