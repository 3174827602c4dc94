-- a row's values
theorem acS_cg {p : Nat} {u u' v : Nat → Nat} : ∀ n, (∀ j, j < n → u j = u' j) → acS p u v n = acS p u' v n
  | 0, _ => rfl
  | n + 1, h => by
    show (acS p u v n + u n * v n) % p = (acS p u' v n + u' n * v n) % p
    rw [acS_cg n (fun j hj => h j (by omega)), h n (Nat.lt_succ_self n)]
theorem vlW_g (a : sA) (g : sG) (i : sA) (M R : Nat → Nat → Int32) : cW a (va_up (va_up g 24 M) 24 R) i = cW a (va_up g 24 R) i := by rw [va_uu]

set_option maxHeartbeats 4000000 in
set_option maxRecDepth 100000 in
theorem c_Ro_setValues (l : Launch) (D : va_G) (E : sx_E) (B : Nat) (A : Nat → Prop) (hB : 29 ≤ B) {a : sA} {g : sG} {i : sA} {p k r mr ord e : Nat} {sz iv W : Nat → Nat} (hm : i 12 0 = nI p) (hpr : isPr p) (hp : p < 1092) (h22 : i 22 0 = nI k) (hk : k ≤ 16) (hr : r < 16) (hmr : mr < 16) (ho : ord ≤ 120) (he : i 5 6 = nI e) (he0 : 0 < e) (he1 : e ≤ 120) (hsz : ∀ q, q < k → a 7 q = nI (sz q) ∧ sz q ≤ 120 ∧ ¬ p ∣ sz q) (hiv : ∀ q, q < k → g 9 q (e - 1) = nI (iv q) ∧ iv q < k) (hW : ∀ q, q < k → g 14 mr q = nI (W q) ∧ W q < p) : sM l D E B A yRo_setValues prog_7_method_3_code 9 none 3 68 [.inr (22, 0), .inl (nI r), .inl (nI ord), .inr (14, mr + 1), .inr (5, 0), .inr (12, 0)] (cW a g i) (fun r9 w' => r9 = none ∧ ∃ (sh : Nat → Nat) (d : Nat) (M : Nat → Nat → Int32), w' = cW (va_up a 23 (upd (a 23) r (nI d))) (va_up g 24 M) i ∧ (∀ j, j < k → sh j < p ∧ (p : Int) ∣ (sh j : Int) * (sz j : Int) - (W j : Int)) ∧ dgO p ord (acS p sh (fun q => W (iv q)) k) d ∧ (∀ c, c ≠ r → M c = g 24 c) ∧ ∀ j, j < k → M r j = nI (sh j * d % p)) := by
  refine sx_m0 (ls := lRo_setValues) (cs := csAll) (by decide +kernel) kRo_setValues (hRo_setValues l D E B A hB) (by simp) (fun x w' h => by cases h.1) ?_
  intro Z hZ
  have hp0 : 0 < p := by have := hpr.1; omega
  have hp1 : 1 < p := hpr.1
  have er : (nI r).toNatClampNeg = r := nI_clamp (by omega)
  have second : ∀ (sh : Nat → Nat) (d : Nat), (∀ j, j < k → sh j < p ∧ (p : Int) ∣ (sh j : Int) * (sz j : Int) - (W j : Int)) → dgO p ord (acS p sh (fun q => W (iv q)) k) d → ∀ n q (M : Nat → Nat → Int32) x6 x8, n + q = k → (∀ c, c ≠ r → M c = g 24 c) → (∀ j, j < k → M r j = nI (if j < q then sh j * d % p else sh j)) → Z 88 [some (.inr (22, 0)), some (.inl (nI r)), some (.inl (nI ord)), some (.inr (14, mr + 1)), some (.inr (5, 0)), some (.inr (12, 0)), x6, some (.inl (nI q)), x8] [] (cW (va_up a 23 (upd (a 23) r (nI d))) (va_up g 24 M) i) := by
    intro sh d hsh hdg n
    have hdp : d < p := by
      have h1 := hdg.1
      have h2 := hdg.2.1
      omega
    induction n with
    | zero =>
      intro q M x6 x8 hn h1 h2
      have e : q = k := by omega
      subst e
      refine z_iload hZ gRo_setValues_88 rfl ?_
      refine z_aload_n hZ gRo_setValues_90 rfl ?_
      refine z_get hZ gRo_setValues_91 (by omega) rfl (by rw [h22]; rfl) ?_
      refine z_cmpge hZ gRo_setValues_94 (fun c94 => ?_) (fun c94 => absurd (nI_le (Nat.le_refl q) (by omega)) c94)
      refine z_vret hZ gRo_setValues_132 ?_
      exact ⟨rfl, sh, d, M, rfl, hsh, hdg, h1, fun j hj => by rw [h2 j hj, if_pos hj]⟩
    | succ n ih =>
      intro q M x6 x8 hn h1 h2
      have hq : q < k := by omega
      have eq0 : (nI q).toNatClampNeg = q := nI_clamp (by omega)
      have hMq := h2 q hq
      rw [if_neg (Nat.lt_irrefl q)] at hMq
      refine z_iload hZ gRo_setValues_88 rfl ?_
      refine z_aload_n hZ gRo_setValues_90 rfl ?_
      refine z_get hZ gRo_setValues_91 (by omega) rfl (by rw [h22]; rfl) ?_
      refine z_cmpge hZ gRo_setValues_94 (fun c94 => absurd c94 (nI_ge (by omega) (by omega))) (fun c94 => ?_)
      refine z_aload_n hZ gRo_setValues_97 rfl ?_
      refine z_get hZ gRo_setValues_98 (by omega) rfl rfl ?_
      refine z_iload_n hZ gRo_setValues_101 rfl ?_
      refine z_aald hZ gRo_setValues_102 (by omega) rfl (vp_in_nI (by omega) (by decide)) ?_
      rw [er]
      refine z_iload hZ gRo_setValues_103 rfl ?_
      refine z_aload hZ gRo_setValues_105 rfl ?_
      refine z_aload_n hZ gRo_setValues_107 rfl ?_
      refine z_get hZ gRo_setValues_108 (by omega) rfl rfl ?_
      refine z_iload_n hZ gRo_setValues_111 rfl ?_
      refine z_aald hZ gRo_setValues_112 (by omega) rfl (vp_in_nI (by omega) (by decide)) ?_
      rw [er]
      refine z_iload hZ gRo_setValues_113 rfl ?_
      refine z_ialg hZ gRo_setValues_115 (by omega) rfl (by omega) (vp_in_nI (by omega) (by decide)) ?_
      rw [eq0, va_up_self, hMq]
      refine z_aload_n hZ gRo_setValues_116 rfl ?_
      refine z_get hZ gRo_setValues_117 (by omega) rfl rfl ?_
      refine z_iload_n hZ gRo_setValues_120 rfl ?_
      refine z_iald hZ gRo_setValues_121 (by omega) rfl (vp_in_nI (by omega) (by decide)) ?_
      rw [er, va_up_self, pk_us]
      refine z_cv hZ gRo_setValues_122 rfl rfl (Nat.le_of_ble_eq_true rfl) (Nat.le_of_ble_eq_true rfl) ⟨⟨12, _, _, rfl, by decide, rfl⟩, fun l9 D E B A hB => c_Re_times l9 D E B A hB hm hp0 (pp92 hp) (x := sh q) (y := d) (bd1 hp (hsh q hq).1 hdp)⟩ (fun r122 w122 p122 => ?_)
      obtain ⟨rfl, rfl⟩ := p122
      show Z (122 + 3) _ (.inl (nI (sh q * d % p)) :: .inl (nI q) :: .inr (24, r + 1) :: []) _
      refine z_iasgW hZ gRo_setValues_125 (by omega) rfl (by omega) (vp_in_nI (by omega) (by decide)) cW_g24 ?_
      rw [eq0, va_up_self, vlW_g]
      refine z_iinc hZ gRo_setValues_126 rfl _ (i1 q) rfl ?_
      refine z_goto hZ gRo_setValues_129 ?_
      refine ih (q + 1) _ _ _ (by omega) (fun c hc => by rw [va_up_ne _ _ hc]; exact h1 c hc) (fun j hj => ?_)
      rw [va_up_self]
      by_cases e : j = q
      · subst e; rw [pk_us, if_pos (Nat.lt_succ_self j)]
      · rw [pk_un e, h2 j hj]
        by_cases h9 : j < q
        · rw [if_pos h9, if_pos (by omega)]
        · rw [if_neg h9, if_neg (by omega)]
  have first1 : ∀ n q (sh : Nat → Nat) (M : Nat → Nat → Int32) x8, n + q = k → (∀ j, j < q → sh j < p ∧ (p : Int) ∣ (sh j : Int) * (sz j : Int) - (W j : Int)) → (∀ c, c ≠ r → M c = g 24 c) → (∀ j, j < q → M r j = nI (sh j)) → Z 6 [some (.inr (22, 0)), some (.inl (nI r)), some (.inl (nI ord)), some (.inr (14, mr + 1)), some (.inr (5, 0)), some (.inr (12, 0)), some (.inl (nI (acS p sh (fun q => W (iv q)) q))), some (.inl (nI q)), x8] [] (cW a (va_up g 24 M) i) := by
    intro n
    induction n with
    | zero =>
      intro q sh M x8 hn hsh h1 h2
      have e : q = k := by omega
      subst e
      refine z_iload hZ gRo_setValues_6 rfl ?_
      refine z_aload_n hZ gRo_setValues_8 rfl ?_
      refine z_get hZ gRo_setValues_9 (by omega) rfl (by rw [h22]; rfl) ?_
      refine z_cmpge hZ gRo_setValues_12 (fun c12 => ?_) (fun c12 => absurd (nI_le (Nat.le_refl q) (by omega)) c12)
      refine z_aload_n hZ gRo_setValues_71 rfl ?_
      refine z_get hZ gRo_setValues_72 (by omega) rfl rfl ?_
      refine z_iload_n hZ gRo_setValues_75 rfl ?_
      refine z_iload hZ gRo_setValues_76 rfl ?_
      refine z_iload_n hZ gRo_setValues_78 rfl ?_
      refine z_aload hZ gRo_setValues_79 rfl ?_
      refine z_cs hZ gRo_setValues_81 rfl rfl (Nat.le_of_ble_eq_true rfl) (Nat.le_of_ble_eq_true rfl) (fun l9 D E B A hB => c_Ro_degreeFor l9 D E B A hB (ord := ord) (sum := acS p sh (fun q => W (iv q)) q) hm hp1 hp ho (acS_lt hp0 _ _ _)) (fun r81 w81 p81 => ?_)
      obtain ⟨d, rfl, hdg, rfl⟩ := p81
      show Z (81 + 3) _ (.inl (nI d) :: .inl (nI r) :: .inr (23, 0) :: []) _
      refine z_iastW hZ gRo_setValues_84 (by omega) rfl (vp_in_nI (by omega) (by decide)) cW_a23 ?_
      rw [er]
      refine z_iconst hZ gRo_setValues_85 _ i0 ?_
      refine z_istore hZ gRo_setValues_86 rfl ?_
      exact second sh d hsh hdg q 0 M _ _ (by omega) h1 (fun j hj => by rw [if_neg (Nat.not_lt_zero j)]; exact h2 j hj)
    | succ n ih =>
      intro q sh M x8 hn hsh h1 h2
      have hq : q < k := by omega
      have eq0 : (nI q).toNatClampNeg = q := nI_clamp (by omega)
      obtain ⟨hs1, hs2, hs3⟩ := hsz q hq
      obtain ⟨hi1, hi2⟩ := hiv q hq
      obtain ⟨hw1, hw2⟩ := hW q hq
      obtain ⟨hw3, hw4⟩ := hW (iv q) hi2
      have eiv : (nI (iv q)).toNatClampNeg = iv q := nI_clamp (by omega)
      have e14 : ∀ M, va_up g 24 M 14 = g 14 := fun M => va_up_ne _ _ (by decide)
      have e9 : ∀ M, va_up g 24 M 9 = g 9 := fun M => va_up_ne _ _ (by decide)
      refine z_iload hZ gRo_setValues_6 rfl ?_
      refine z_aload_n hZ gRo_setValues_8 rfl ?_
      refine z_get hZ gRo_setValues_9 (by omega) rfl (by rw [h22]; rfl) ?_
      refine z_cmpge hZ gRo_setValues_12 (fun c12 => absurd c12 (nI_ge (by omega) (by omega))) (fun c12 => ?_)
      refine z_aload hZ gRo_setValues_15 rfl ?_
      refine z_aload_n hZ gRo_setValues_17 rfl ?_
      refine z_iload hZ gRo_setValues_18 rfl ?_
      refine z_ialg hZ gRo_setValues_20 (by omega) rfl (by omega) (vp_in_nI (by omega) (by decide)) ?_
      rw [eq0, e14, hw1]
      refine z_aload hZ gRo_setValues_21 rfl ?_
      refine z_get hZ gRo_setValues_23 (by omega) rfl rfl ?_
      refine z_iload hZ gRo_setValues_26 rfl ?_
      refine z_iald hZ gRo_setValues_28 (by omega) rfl (vp_in_nI (by omega) (by decide)) ?_
      rw [eq0, hs1]
      refine z_cv hZ gRo_setValues_29 rfl rfl (Nat.le_of_ble_eq_true rfl) (Nat.le_of_ble_eq_true rfl) ⟨⟨12, _, _, rfl, by decide, rfl⟩, fun l9 D E B A hB => c_Re_over l9 D E B A hB hm hp0 (pp92 hp) (x := W q) (num := sz q) (Nat.le_of_lt hw2) (by omega)⟩ (fun r29 w29 p29 => ?_)
      obtain ⟨v, rfl, hv, _, hvo, rfl⟩ := p29
      have hvo := hvo hpr.2 hpr.1 hs3
      show Z (29 + 3) _ (.inl (nI v) :: []) _
      refine z_istore hZ gRo_setValues_32 rfl ?_
      refine z_aload_n hZ gRo_setValues_34 rfl ?_
      refine z_get hZ gRo_setValues_35 (by omega) rfl rfl ?_
      refine z_iload_n hZ gRo_setValues_38 rfl ?_
      refine z_aald hZ gRo_setValues_39 (by omega) rfl (vp_in_nI (by omega) (by decide)) ?_
      rw [er]
      refine z_iload hZ gRo_setValues_40 rfl ?_
      refine z_iload hZ gRo_setValues_42 rfl ?_
      refine z_iasgW hZ gRo_setValues_44 (by omega) rfl (by omega) (vp_in_nI (by omega) (by decide)) cW_g24 ?_
      rw [eq0, va_up_self, vlW_g]
      refine z_aload hZ gRo_setValues_45 rfl ?_
      refine z_iload hZ gRo_setValues_47 rfl ?_
      refine z_iload hZ gRo_setValues_49 rfl ?_
      refine z_aload_n hZ gRo_setValues_51 rfl ?_
      refine z_aload hZ gRo_setValues_52 rfl ?_
      refine z_iload hZ gRo_setValues_54 rfl ?_
      refine z_cv hZ gRo_setValues_56 rfl rfl (Nat.le_of_ble_eq_true rfl) (Nat.le_of_ble_eq_true rfl) ⟨⟨5, _, _, rfl, by decide, rfl⟩, fun l9 D E B A hB => c_Co_inverseOf l9 D E B A hB (c := q) he he0 he1 (by omega)⟩ (fun r56 w56 p56 => ?_)
      obtain ⟨rfl, rfl⟩ := p56
      rw [e9, hi1]
      show Z (56 + 3) _ (.inl (nI (iv q)) :: .inr (14, mr + 1) :: .inl (nI v) :: .inl (nI (acS p sh (fun q => W (iv q)) q)) :: .inr (12, 0) :: []) _
      refine z_ialg hZ gRo_setValues_59 (by omega) rfl (by omega) (vp_in_nI (by omega) (by decide)) ?_
      rw [eiv, e14, hw3]
      refine z_cv hZ gRo_setValues_60 rfl rfl (Nat.le_of_ble_eq_true rfl) (Nat.le_of_ble_eq_true rfl) ⟨⟨12, _, _, rfl, by decide, rfl⟩, fun l9 D E B A hB => c_Re_plusTimes l9 D E B A hB hm hp0 (pp92 hp) (s := acS p sh (fun q => W (iv q)) q) (x := v) (y := W (iv q)) (by have h9 := bd1 hp hv hw4; have h10 := acS_lt hp0 sh (fun q => W (iv q)) q; have h11 : v * W (iv q) ≤ 1092 * 1092 := Nat.mul_le_mul (by omega) (by omega); omega)⟩ (fun r60 w60 p60 => ?_)
      obtain ⟨rfl, rfl⟩ := p60
      show Z (60 + 3) _ (.inl (nI ((acS p sh (fun q => W (iv q)) q + v * W (iv q)) % p)) :: []) _
      refine z_istore hZ gRo_setValues_63 rfl ?_
      refine z_iinc hZ gRo_setValues_65 rfl _ (i1 q) rfl ?_
      refine z_goto hZ gRo_setValues_68 ?_
      have h9 := ih (q + 1) (va_up sh q v) (va_up M r (upd (M r) q (nI v))) (some (.inl (nI v))) (by omega) (fun j hj => ?_) (fun c hc => by rw [va_up_ne _ _ hc]; exact h1 c hc) (fun j hj => ?_)
      · have e1 : acS p (va_up sh q v) (fun q => W (iv q)) (q + 1) = (acS p sh (fun q => W (iv q)) q + v * W (iv q)) % p := by
          show (acS p (va_up sh q v) (fun q => W (iv q)) q + va_up sh q v q * W (iv q)) % p = _
          rw [va_up_self, acS_cg (u' := sh) q (fun j hj => va_up_ne _ _ (by omega))]
        rw [e1] at h9
        exact h9
      · by_cases e : j = q
        · subst e; rw [va_up_self]; exact ⟨hv, hvo⟩
        · rw [va_up_ne _ _ e]; exact hsh j (by omega)
      · rw [va_up_self]
        by_cases e : j = q
        · subst e; rw [pk_us, va_up_self]
        · rw [pk_un e, va_up_ne _ _ e]; exact h2 j (by omega)
  refine z_iconst hZ gRo_setValues_0 _ i0 ?_
  refine z_istore hZ gRo_setValues_1 rfl ?_
  refine z_iconst hZ gRo_setValues_3 _ i0 ?_
  refine z_istore hZ gRo_setValues_4 rfl ?_
  have h9 := first1 k 0 (fun _ => 0) (g 24) none (by omega) (fun j hj => absurd hj (Nat.not_lt_zero j)) (fun _ _ => rfl) (fun j hj => absurd hj (Nat.not_lt_zero j))
  rw [va_id g (k := 24) rfl] at h9
  exact h9

