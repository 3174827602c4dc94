-- a row's indicator
def inV (p v : Nat) : Int32 := if v = p - 1 then -1 else nI v

set_option maxHeartbeats 4000000 in
set_option maxRecDepth 100000 in
theorem c_Ro_setIndicator (l : Launch) (D : va_G) (E : sx_E) (B : Nat) (A : Nat → Prop) (hB : 29 ≤ B) {a : sA} {g : sG} {i : sA} {p k r ord e : Nat} {sz sq V : Nat → Nat} (hm : i 12 0 = nI p) (hpr : isPr p) (hp : p < 1092) (h22 : i 22 0 = nI k) (hk : k ≤ 16) (hr : r < 16) (ho : ord ≤ 120) (hnd : ¬ p ∣ ord) (he : i 5 6 = nI e) (he0 : 0 < e) (he1 : e ≤ 120) (hsz : ∀ q, q < k → a 7 q = nI (sz q) ∧ sz q ≤ 120) (hsq : ∀ q, q < k → g 9 q (2 % e) = nI (sq q) ∧ sq q < k) (hV : ∀ q, q < k → g 24 r q = nI (V q) ∧ V q < p) : sM l D E B A yRo_setIndicator prog_7_method_5_code 8 none 2 51 [.inr (22, 0), .inl (nI r), .inl (nI ord), .inr (5, 0), .inr (12, 0)] (cW a g i) (fun r9 w' => r9 = none ∧ ∃ v : Nat, v < p ∧ (p : Int) ∣ (v : Int) * (ord : Int) - (acS p sz (fun q => V (sq q)) k : Int) ∧ w' = cW (va_up a 25 (upd (a 25) r (inV p v))) g i) := by
  refine sx_m0 (ls := lRo_setIndicator) (cs := csAll) (by decide +kernel) kRo_setIndicator (hRo_setIndicator l D E B A hB) (by simp) (fun x w' h => by cases h.1) ?_
  intro Z hZ
  have hp0 : 0 < p := by have := hpr.1; omega
  have er : (nI r).toNatClampNeg = r := nI_clamp (by omega)
  have loop : ∀ n q x7, n + q = k → Z 6 [some (.inr (22, 0)), some (.inl (nI r)), some (.inl (nI ord)), some (.inr (5, 0)), some (.inr (12, 0)), some (.inl (nI (acS p sz (fun q => V (sq q)) q))), some (.inl (nI q)), x7] [] (cW a g i) := by
    intro n
    induction n with
    | zero =>
      intro q x7 hn
      have e : q = k := by omega
      subst e
      have hlt := acS_lt hp0 sz (fun q => V (sq q)) q
      refine z_iload hZ gRo_setIndicator_6 rfl ?_
      refine z_aload_n hZ gRo_setIndicator_8 rfl ?_
      refine z_get hZ gRo_setIndicator_9 (by omega) rfl (by rw [h22]; rfl) ?_
      refine z_cmpge hZ gRo_setIndicator_12 (fun c12 => ?_) (fun c12 => absurd (nI_le (Nat.le_refl q) (by omega)) c12)
      refine z_aload hZ gRo_setIndicator_55 rfl ?_
      refine z_iload hZ gRo_setIndicator_57 rfl ?_
      refine z_iload_n hZ gRo_setIndicator_59 rfl ?_
      refine z_cv hZ gRo_setIndicator_60 rfl rfl (Nat.le_of_ble_eq_true rfl) (Nat.le_of_ble_eq_true rfl) ⟨⟨12, _, _, rfl, by decide, rfl⟩, fun l9 D E B A hB => c_Re_over l9 D E B A hB hm hp0 (pp92 hp) (x := acS p sz (fun q => V (sq q)) q) (num := ord) (Nat.le_of_lt hlt) (by omega)⟩ (fun r60 w60 p60 => ?_)
      obtain ⟨v, rfl, hv, _, hvo, rfl⟩ := p60
      have hvo := hvo hpr.2 hpr.1 hnd
      show Z (60 + 3) _ (.inl (nI v) :: []) _
      refine z_istore hZ gRo_setIndicator_63 rfl ?_
      refine z_aload_n hZ gRo_setIndicator_65 rfl ?_
      refine z_get hZ gRo_setIndicator_66 (by omega) rfl rfl ?_
      refine z_iload_n hZ gRo_setIndicator_69 rfl ?_
      refine z_iload hZ gRo_setIndicator_70 rfl ?_
      refine z_aload hZ gRo_setIndicator_72 rfl ?_
      refine z_get hZ gRo_setIndicator_74 (by omega) rfl (by rw [hm]; rfl) ?_
      refine z_iconst hZ gRo_setIndicator_77 _ rfl ?_
      refine z_isub hZ gRo_setIndicator_78 _ (nI_sub1 hp0) ?_
      refine z_cmpne hZ gRo_setIndicator_79 (fun c79 => ?_) (fun c79 => ?_)
      · have ct79 := c79
        have hi : inV p v = nI v := if_neg (fun h9 => ct79 (by rw [h9]))
        refine z_iload hZ gRo_setIndicator_86 rfl ?_
        rw [← hi]
        refine z_iastW hZ gRo_setIndicator_88 (by omega) rfl (vp_in_nI (by omega) (by decide)) cW_a25 ?_
        rw [er]
        refine z_vret hZ gRo_setIndicator_89 ?_
        exact ⟨rfl, v, hv, hvo, rfl⟩
      · have cf79 := c79
        have hi : inV p v = -1 := if_pos ((nI_eq (by omega) (by omega)).mp cf79)
        refine z_iconst hZ gRo_setIndicator_82 _ im1 ?_
        refine z_goto hZ gRo_setIndicator_83 ?_
        rw [← hi]
        refine z_iastW hZ gRo_setIndicator_88 (by omega) rfl (vp_in_nI (by omega) (by decide)) cW_a25 ?_
        rw [er]
        refine z_vret hZ gRo_setIndicator_89 ?_
        exact ⟨rfl, v, hv, hvo, rfl⟩
    | succ n ih =>
      intro q x7 hn
      have hq : q < k := by omega
      have eq0 : (nI q).toNatClampNeg = q := nI_clamp (by omega)
      obtain ⟨hs1, hs2⟩ := hsz q hq
      obtain ⟨hq1, hq2⟩ := hsq q hq
      obtain ⟨hv1, hv2⟩ := hV (sq q) hq2
      have esq : (nI (sq q)).toNatClampNeg = sq q := nI_clamp (by omega)
      refine z_iload hZ gRo_setIndicator_6 rfl ?_
      refine z_aload_n hZ gRo_setIndicator_8 rfl ?_
      refine z_get hZ gRo_setIndicator_9 (by omega) rfl (by rw [h22]; rfl) ?_
      refine z_cmpge hZ gRo_setIndicator_12 (fun c12 => absurd c12 (nI_ge (by omega) (by omega))) (fun c12 => ?_)
      refine z_aload_n hZ gRo_setIndicator_15 rfl ?_
      refine z_iload hZ gRo_setIndicator_16 rfl ?_
      refine z_iconst hZ gRo_setIndicator_18 _ ic2 ?_
      refine z_cv hZ gRo_setIndicator_19 rfl rfl (Nat.le_of_ble_eq_true rfl) (Nat.le_of_ble_eq_true rfl) ⟨⟨5, _, _, rfl, by decide, rfl⟩, fun l9 D E B A hB => c_Co_classRaised l9 D E B A hB (c := q) (m := 2) he he0 he1 (by omega) (by decide)⟩ (fun r19 w19 p19 => ?_)
      obtain ⟨rfl, rfl⟩ := p19
      rw [hq1]
      show Z (19 + 3) _ (.inl (nI (sq q)) :: []) _
      refine z_istore hZ gRo_setIndicator_22 rfl ?_
      refine z_aload hZ gRo_setIndicator_24 rfl ?_
      refine z_iload hZ gRo_setIndicator_26 rfl ?_
      refine z_aload_n hZ gRo_setIndicator_28 rfl ?_
      refine z_get hZ gRo_setIndicator_29 (by omega) rfl rfl ?_
      refine z_iload hZ gRo_setIndicator_32 rfl ?_
      refine z_iald hZ gRo_setIndicator_34 (by omega) rfl (vp_in_nI (by omega) (by decide)) ?_
      rw [eq0, hs1]
      refine z_aload_n hZ gRo_setIndicator_35 rfl ?_
      refine z_get hZ gRo_setIndicator_36 (by omega) rfl rfl ?_
      refine z_iload_n hZ gRo_setIndicator_39 rfl ?_
      refine z_aald hZ gRo_setIndicator_40 (by omega) rfl (vp_in_nI (by omega) (by decide)) ?_
      rw [er]
      refine z_iload hZ gRo_setIndicator_41 rfl ?_
      refine z_ialg hZ gRo_setIndicator_43 (by omega) rfl (by omega) (vp_in_nI (by omega) (by decide)) ?_
      rw [esq, hv1]
      refine z_cv hZ gRo_setIndicator_44 rfl rfl (Nat.le_of_ble_eq_true rfl) (Nat.le_of_ble_eq_true rfl) ⟨⟨12, _, _, rfl, by decide, rfl⟩, fun l9 D E B A hB => c_Re_plusTimes l9 D E B A hB hm hp0 (pp92 hp) (s := acS p sz (fun q => V (sq q)) q) (x := sz q) (y := V (sq q)) (bd3 hp (acS_lt hp0 _ _ q) hs2 hv2)⟩ (fun r44 w44 p44 => ?_)
      obtain ⟨rfl, rfl⟩ := p44
      show Z (44 + 3) _ (.inl (nI (acS p sz (fun q => V (sq q)) (q + 1))) :: []) _
      refine z_istore hZ gRo_setIndicator_47 rfl ?_
      refine z_iinc hZ gRo_setIndicator_49 rfl _ (i1 q) rfl ?_
      refine z_goto hZ gRo_setIndicator_52 ?_
      exact ih (q + 1) _ (by omega)
  refine z_iconst hZ gRo_setIndicator_0 _ i0 ?_
  refine z_istore hZ gRo_setIndicator_1 rfl ?_
  refine z_iconst hZ gRo_setIndicator_3 _ i0 ?_
  refine z_istore hZ gRo_setIndicator_4 rfl ?_
  exact loop k 0 _ (by omega)

