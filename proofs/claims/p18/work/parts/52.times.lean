-- how often a root is in a value
def fcS (p s : Nat) : Nat → Nat
  | 0 => 1
  | t + 1 => fcS p s t * s % p
theorem fcS_lt {p : Nat} (hp : 1 < p) (s : Nat) : ∀ t, fcS p s t < p
  | 0 => hp
  | _ + 1 => Nat.mod_lt _ (by omega)
theorem bd4 {p s x y : Nat} (hp : p < 1092) (hs : s < p) (hx : x < p) (hy : y < p) : s + x * y < 2 ^ 31 := by
  have : x * y ≤ 1092 * 1092 := Nat.mul_le_mul (by omega) (by omega)
  omega

set_option maxHeartbeats 4000000 in
set_option maxRecDepth 100000 in
theorem c_Ro_timesOfRoot (l : Launch) (D : va_G) (E : sx_E) (B : Nat) (A : Nat → Prop) (hB : 29 ≤ B) {a : sA} {g : sG} {i : sA} {p k r c kk e z : Nat} {pc V : Nat → Nat} (hm : i 12 0 = nI p) (hz : i 12 1 = nI z) (hzp : z ≤ p) (hpr : isPr p) (hp : p < 1092) (hk : k ≤ 16) (hr : r < 16) (hc : c < 16) (hkk : kk ≤ e) (he : i 5 6 = nI e) (he0 : 0 < e) (he1 : e ≤ 120) (hnd : ¬ p ∣ e) (hpc : ∀ t, t < e → g 9 c t = nI (pc t) ∧ pc t < k) (hV : ∀ q, q < k → g 24 r q = nI (V q) ∧ V q < p) : sM l D E B A yRo_timesOfRoot prog_7_method_11_code 11 (some .int) 2 51 [.inr (22, 0), .inl (nI r), .inl (nI c), .inl (nI kk), .inr (5, 0), .inr (12, 0)] (cW a g i) (fun r9 w' => ∃ v : Nat, r9 = some (.inl (nI v)) ∧ v < p ∧ (p : Int) ∣ (v : Int) * (e : Int) - (acS p (fun t => V (pc t)) (fcS p (z ^ (e - kk) % p)) e : Int) ∧ w' = cW a g i) := by
  refine sx_m0 (ls := lRo_timesOfRoot) (cs := csAll) (by decide +kernel) kRo_timesOfRoot (hRo_timesOfRoot l D E B A hB) (by simp) (fun w' h => (by obtain ⟨_, h, _⟩ := h; cases h)) ?_
  intro Z hZ
  have hp1 : 1 < p := hpr.1
  have hp0 : 0 < p := by omega
  have er : (nI r).toNatClampNeg = r := nI_clamp (by omega)
  have hst := Nat.mod_lt (z ^ (e - kk)) hp0
  have loop : ∀ n t, n + t = e → Z 32 [some (.inr (22, 0)), some (.inl (nI r)), some (.inl (nI c)), some (.inl (nI kk)), some (.inr (5, 0)), some (.inr (12, 0)), some (.inl (nI e)), some (.inl (nI (z ^ (e - kk) % p))), some (.inl (nI (fcS p (z ^ (e - kk) % p) t))), some (.inl (nI (acS p (fun t => V (pc t)) (fcS p (z ^ (e - kk) % p)) t))), some (.inl (nI t))] [] (cW a g i) := by
    intro n
    induction n with
    | zero =>
      intro t hn
      have e9 : e = t := by omega
      subst e9
      have hlt := acS_lt hp0 (fun t => V (pc t)) (fcS p (z ^ (e - kk) % p)) e
      refine z_iload hZ gRo_timesOfRoot_32 rfl ?_
      refine z_iload hZ gRo_timesOfRoot_34 rfl ?_
      refine z_cmpge hZ gRo_timesOfRoot_36 (fun c36 => ?_) (fun c36 => absurd (nI_le (Nat.le_refl e) (by omega)) c36)
      refine z_aload hZ gRo_timesOfRoot_82 rfl ?_
      refine z_iload hZ gRo_timesOfRoot_84 rfl ?_
      refine z_iload hZ gRo_timesOfRoot_86 rfl ?_
      refine z_cv hZ gRo_timesOfRoot_88 rfl rfl (Nat.le_of_ble_eq_true rfl) (Nat.le_of_ble_eq_true rfl) ⟨⟨12, _, _, rfl, by decide, rfl⟩, fun l9 D E B A hB => c_Re_over l9 D E B A hB hm hp0 (pp92 hp) (x := acS p (fun t => V (pc t)) (fcS p (z ^ (e - kk) % p)) e) (num := e) (Nat.le_of_lt hlt) (by omega)⟩ (fun r88 w88 p88 => ?_)
      obtain ⟨v, rfl, hv, _, hvo, rfl⟩ := p88
      have hvo := hvo hpr.2 hpr.1 hnd
      show Z (88 + 3) _ (.inl (nI v) :: []) _
      refine z_iret hZ gRo_timesOfRoot_91 ?_
      exact ⟨v, rfl, hv, hvo, rfl⟩
    | succ n ih =>
      intro t hn
      have ht : t < e := by omega
      obtain ⟨hq1, hq2⟩ := hpc t ht
      obtain ⟨hv1, hv2⟩ := hV (pc t) hq2
      have epc : (nI (pc t)).toNatClampNeg = pc t := nI_clamp (by omega)
      have hfl := fcS_lt hp1 (z ^ (e - kk) % p) t
      refine z_iload hZ gRo_timesOfRoot_32 rfl ?_
      refine z_iload hZ gRo_timesOfRoot_34 rfl ?_
      refine z_cmpge hZ gRo_timesOfRoot_36 (fun c36 => absurd c36 (nI_ge (by omega) (by omega))) (fun c36 => ?_)
      refine z_aload hZ gRo_timesOfRoot_39 rfl ?_
      refine z_iload hZ gRo_timesOfRoot_41 rfl ?_
      refine z_aload_n hZ gRo_timesOfRoot_43 rfl ?_
      refine z_get hZ gRo_timesOfRoot_44 (by omega) rfl rfl ?_
      refine z_iload_n hZ gRo_timesOfRoot_47 rfl ?_
      refine z_aald hZ gRo_timesOfRoot_48 (by omega) rfl (vp_in_nI (by omega) (by decide)) ?_
      rw [er]
      refine z_aload hZ gRo_timesOfRoot_49 rfl ?_
      refine z_iload_n hZ gRo_timesOfRoot_51 rfl ?_
      refine z_iload hZ gRo_timesOfRoot_52 rfl ?_
      refine z_cv hZ gRo_timesOfRoot_54 rfl rfl (Nat.le_of_ble_eq_true rfl) (Nat.le_of_ble_eq_true rfl) ⟨⟨5, _, _, rfl, by decide, rfl⟩, fun l9 D E B A hB => c_Co_classRaised l9 D E B A hB (c := c) (m := t) he he0 he1 (by omega) (by omega)⟩ (fun r54 w54 p54 => ?_)
      obtain ⟨rfl, rfl⟩ := p54
      rw [Nat.mod_eq_of_lt ht, hq1]
      show Z (54 + 3) _ (.inl (nI (pc t)) :: .inr (24, r + 1) :: .inl (nI (acS p (fun t => V (pc t)) (fcS p (z ^ (e - kk) % p)) t)) :: .inr (12, 0) :: []) _
      refine z_ialg hZ gRo_timesOfRoot_57 (by omega) rfl (by omega) (vp_in_nI (by omega) (by decide)) ?_
      rw [epc, hv1]
      refine z_iload hZ gRo_timesOfRoot_58 rfl ?_
      refine z_cv hZ gRo_timesOfRoot_60 rfl rfl (Nat.le_of_ble_eq_true rfl) (Nat.le_of_ble_eq_true rfl) ⟨⟨12, _, _, rfl, by decide, rfl⟩, fun l9 D E B A hB => c_Re_plusTimes l9 D E B A hB hm hp0 (pp92 hp) (s := acS p (fun t => V (pc t)) (fcS p (z ^ (e - kk) % p)) t) (x := V (pc t)) (y := fcS p (z ^ (e - kk) % p) t) (bd4 hp (acS_lt hp0 _ _ t) hv2 hfl)⟩ (fun r60 w60 p60 => ?_)
      obtain ⟨rfl, rfl⟩ := p60
      show Z (60 + 3) _ (.inl (nI (acS p (fun t => V (pc t)) (fcS p (z ^ (e - kk) % p)) (t + 1))) :: []) _
      refine z_istore hZ gRo_timesOfRoot_63 rfl ?_
      refine z_aload hZ gRo_timesOfRoot_65 rfl ?_
      refine z_iload hZ gRo_timesOfRoot_67 rfl ?_
      refine z_iload hZ gRo_timesOfRoot_69 rfl ?_
      refine z_cv hZ gRo_timesOfRoot_71 rfl rfl (Nat.le_of_ble_eq_true rfl) (Nat.le_of_ble_eq_true rfl) ⟨⟨12, _, _, rfl, by decide, rfl⟩, fun l9 D E B A hB => c_Re_times l9 D E B A hB hm hp0 (pp92 hp) (x := fcS p (z ^ (e - kk) % p) t) (y := z ^ (e - kk) % p) (bd1 hp hfl hst)⟩ (fun r71 w71 p71 => ?_)
      obtain ⟨rfl, rfl⟩ := p71
      show Z (71 + 3) _ (.inl (nI (fcS p (z ^ (e - kk) % p) (t + 1))) :: []) _
      refine z_istore hZ gRo_timesOfRoot_74 rfl ?_
      refine z_iinc hZ gRo_timesOfRoot_76 rfl _ (i1 t) rfl ?_
      refine z_goto hZ gRo_timesOfRoot_79 ?_
      exact ih (t + 1) (by omega)
  refine z_aload hZ gRo_timesOfRoot_0 rfl ?_
  refine z_get hZ gRo_timesOfRoot_2 (by omega) rfl (by rw [he]; rfl) ?_
  refine z_istore hZ gRo_timesOfRoot_5 rfl ?_
  refine z_aload hZ gRo_timesOfRoot_7 rfl ?_
  refine z_aload hZ gRo_timesOfRoot_9 rfl ?_
  refine z_get hZ gRo_timesOfRoot_11 (by omega) rfl (by rw [hz]; rfl) ?_
  refine z_iload hZ gRo_timesOfRoot_14 rfl ?_
  refine z_iload_n hZ gRo_timesOfRoot_16 rfl ?_
  refine z_isub hZ gRo_timesOfRoot_17 _ (pk_sub hkk) ?_
  refine z_cv hZ gRo_timesOfRoot_18 rfl rfl (Nat.le_of_ble_eq_true rfl) (Nat.le_of_ble_eq_true rfl) ⟨⟨12, _, _, rfl, by decide, rfl⟩, fun l9 D E B A hB => c_Re_raised l9 D E B A hB hm hp0 (pp92 hp) hp1 (b := z) (m := e - kk) hzp (by omega)⟩ (fun r18 w18 p18 => ?_)
  obtain ⟨rfl, rfl⟩ := p18
  show Z (18 + 3) _ (.inl (nI (z ^ (e - kk) % p)) :: []) _
  refine z_istore hZ gRo_timesOfRoot_21 rfl ?_
  refine z_iconst hZ gRo_timesOfRoot_23 _ ic1 ?_
  refine z_istore hZ gRo_timesOfRoot_24 rfl ?_
  refine z_iconst hZ gRo_timesOfRoot_26 _ i0 ?_
  refine z_istore hZ gRo_timesOfRoot_27 rfl ?_
  refine z_iconst hZ gRo_timesOfRoot_29 _ i0 ?_
  refine z_istore hZ gRo_timesOfRoot_30 rfl ?_
  exact loop e 0 (by omega)

