-- the class's matrix on the basis
def acS (p : Nat) (u v : Nat → Nat) : Nat → Nat
  | 0 => 0
  | l + 1 => (acS p u v l + u l * v l) % p
theorem acS_lt {p : Nat} (hp : 0 < p) (u v : Nat → Nat) : ∀ l, acS p u v l < p
  | 0 => hp
  | l + 1 => Nat.mod_lt _ hp
theorem acS_ok (p : Nat) (u v : Nat → Nat) : ∀ l, (p : Int) ∣ (acS p u v l : Int) - si (fun q => (u q : Int) * (v q : Int)) (List.range l)
  | 0 => Int.dvd_zero _
  | l + 1 => by
    obtain ⟨k1, h1⟩ := acS_ok p u v l
    obtain ⟨k2, h2⟩ := md_p p (acS p u v l + u l * v l)
    rw [List.range_succ, si_app, si_cons, si_nil]
    rw [Int.natCast_add, Int.natCast_mul] at h2
    refine ⟨k1 + k2, ?_⟩
    show (((acS p u v l + u l * v l) % p : Nat) : Int) - _ = _
    grind
theorem bd3 {p s x y : Nat} (hp : p < 1092) (hs : s < p) (hx : x ≤ 120) (hy : y < p) : s + x * y < 2 ^ 31 := by
  have : x * y ≤ 120 * 1092 := Nat.mul_le_mul hx (by omega)
  omega
def acM (p k : Nat) (ps : Nat → Nat → Nat) (pv : Nat → Nat) (bs : Nat → Nat → Nat) (fr : Nat) : Nat → Nat → Nat := fun t j => acS p (fun l => ps (pv (fr + t)) l) (fun l => bs (fr + j) l) k
abbrev aW (a : sA) (g : sG) (i : sA) (M : Nat → Nat → Int32) : sx_M := cW a (va_up g 19 M) i
theorem aW_g (a : sA) (g : sG) (i : sA) (M R : Nat → Nat → Int32) : cW a (va_up (va_up g 19 M) 19 R) i = aW a g i R := by rw [va_uu]

set_option maxHeartbeats 4000000 in
set_option maxRecDepth 100000 in
theorem c_Cm_setAction (l : Launch) (D : va_G) (E : sx_E) (B : Nat) (A : Nat → Prop) (hB : 29 ≤ B) {a : sA} {g : sG} {i : sA} {p d k x fr : Nat} {ps : Nat → Nat → Nat} {pv : Nat → Nat} {bs : Nat → Nat → Nat} (hm : i 12 0 = nI p) (hpr : isPr p) (hp : p < 1092) (h13 : i 13 0 = nI k) (hk : k ≤ 16) (hx : x < 16) (hfd : fr + d ≤ k) (hd0 : 0 < d) (h16 : a 16 fr = nI (fr + d)) (hb : gM p k (g 14) bs) (hpv : ∀ c, c < k → a 15 c = nI (pv c) ∧ pv c < k) (hps : ∀ y l, y < k → l < k → a 11 ((x * 16 + y) * 16 + l) = nI (ps y l) ∧ ps y l ≤ 120) : sM l D E B A yCm_setAction prog_2_method_4_code 11 none 2 45 [.inr (13, 0), .inl (nI x), .inl (nI fr), .inr (5, 0), .inr (12, 0)] (cW a g i) (fun r w' => r = none ∧ ∃ M : Nat → Nat → Int32, w' = aW a g i M ∧ gM p d M (acM p k ps pv bs fr)) := by
  refine sx_m0 (ls := lCm_setAction) (cs := csAll) (by decide +kernel) kCm_setAction (hCm_setAction l D E B A hB) (by simp) (fun x w' h => by cases h.1) ?_
  intro Z hZ
  have hp1 : 1 < p := hpr.1
  have hp0 : 0 < p := by omega
  have efr : (nI fr).toNatClampNeg = fr := nI_clamp (by omega)
  have rows : ∀ n t M x7 x8 x9 x10, n + t = d → (∀ r c, r < t → c < d → M r c = nI (acM p k ps pv bs fr r c)) → Z 13 [some (.inr (13, 0)), some (.inl (nI x)), some (.inl (nI fr)), some (.inr (5, 0)), some (.inr (12, 0)), some (.inl (nI d)), some (.inl (nI t)), x7, x8, x9, x10] [] (aW a g i M) := by
    intro n
    induction n with
    | zero =>
      intro t M x7 x8 x9 x10 hn h1
      have e : t = d := by omega
      subst e
      refine z_iload hZ gCm_setAction_13 rfl ?_
      refine z_iload hZ gCm_setAction_15 rfl ?_
      refine z_cmpge hZ gCm_setAction_17 (fun c17 => ?_) (fun c17 => absurd (nI_le (Nat.le_refl t) (by omega)) c17)
      refine z_vret hZ gCm_setAction_116 ?_
      exact ⟨rfl, M, rfl, fun r c hr hc => ⟨h1 r c hr hc, acS_lt hp0 _ _ _⟩⟩
    | succ n ih =>
      intro t M x7 x8 x9 x10 hn h1
      have ht : t < d := by omega
      have et : (nI t).toNatClampNeg = t := nI_clamp (by omega)
      have eft : (nI (fr + t)).toNatClampNeg = fr + t := nI_clamp (by omega)
      obtain ⟨hv1, hv2⟩ := hpv (fr + t) (by omega)
      have cols : ∀ m j M x8 x9 x10, m + j = d → (∀ r c, r < t → c < d → M r c = nI (acM p k ps pv bs fr r c)) → (∀ c, c < j → M t c = nI (acM p k ps pv bs fr t c)) → Z 23 [some (.inr (13, 0)), some (.inl (nI x)), some (.inl (nI fr)), some (.inr (5, 0)), some (.inr (12, 0)), some (.inl (nI d)), some (.inl (nI t)), some (.inl (nI j)), x8, x9, x10] [] (aW a g i M) := by
        intro m
        induction m with
        | zero =>
          intro j M x8 x9 x10 hmj h1 h2
          have e : j = d := by omega
          subst e
          refine z_iload hZ gCm_setAction_23 rfl ?_
          refine z_iload hZ gCm_setAction_25 rfl ?_
          refine z_cmpge hZ gCm_setAction_27 (fun c27 => ?_) (fun c27 => absurd (nI_le (Nat.le_refl j) (by omega)) c27)
          refine z_iinc hZ gCm_setAction_110 rfl _ (i1 t) rfl ?_
          refine z_goto hZ gCm_setAction_113 ?_
          refine ih (t + 1) M _ _ _ _ (by omega) (fun r c hr hc => ?_)
          by_cases e : r = t
          · rw [e]; exact h2 c hc
          · exact h1 r c (by omega) hc
        | succ m ihm =>
          intro j M x8 x9 x10 hmj h1 h2
          have hj : j < d := by omega
          have ej : (nI j).toNatClampNeg = j := nI_clamp (by omega)
          have efj : (nI (fr + j)).toNatClampNeg = fr + j := nI_clamp (by omega)
          have inner : ∀ u q x10, u + q = k → Z 36 [some (.inr (13, 0)), some (.inl (nI x)), some (.inl (nI fr)), some (.inr (5, 0)), some (.inr (12, 0)), some (.inl (nI d)), some (.inl (nI t)), some (.inl (nI j)), some (.inl (nI (acS p (fun l => ps (pv (fr + t)) l) (fun l => bs (fr + j) l) q))), some (.inl (nI q)), x10] [] (aW a g i M) := by
            intro u
            induction u with
            | zero =>
              intro q x10 hu
              have e : q = k := by omega
              subst e
              refine z_iload hZ gCm_setAction_36 rfl ?_
              refine z_aload_n hZ gCm_setAction_38 rfl ?_
              refine z_get hZ gCm_setAction_39 (by omega) rfl (by rw [h13]; rfl) ?_
              refine z_cmpge hZ gCm_setAction_42 (fun c42 => ?_) (fun c42 => absurd (nI_le (Nat.le_refl q) (by omega)) c42)
              refine z_aload_n hZ gCm_setAction_92 rfl ?_
              refine z_get hZ gCm_setAction_93 (by omega) rfl rfl ?_
              refine z_iload hZ gCm_setAction_96 rfl ?_
              refine z_aald hZ gCm_setAction_98 (by omega) rfl (vp_in_nI (by omega) (by decide)) ?_
              rw [et]
              refine z_iload hZ gCm_setAction_99 rfl ?_
              refine z_iload hZ gCm_setAction_101 rfl ?_
              refine z_iasgW hZ gCm_setAction_103 (by omega) rfl (by omega) (vp_in_nI (by omega) (by decide)) cW_g19 ?_
              rw [ej, va_up_self, aW_g]
              refine z_iinc hZ gCm_setAction_104 rfl _ (i1 j) rfl ?_
              refine z_goto hZ gCm_setAction_107 ?_
              refine ihm (j + 1) _ _ _ _ (by omega) (fun r c hr hc => by rw [va_up_ne _ _ (Nat.ne_of_lt hr)]; exact h1 r c hr hc) (fun c hc => ?_)
              rw [va_up_self]
              by_cases e : c = j
              · subst e; rw [pk_us]; rfl
              · rw [pk_un e]; exact h2 c (by omega)
            | succ u ihu =>
              intro q x10 hu
              have hq : q < k := by omega
              have eq0 : (nI q).toNatClampNeg = q := nI_clamp (by omega)
              obtain ⟨hc1, hc2⟩ := hps (pv (fr + t)) q hv2 hq
              have hbl := hb (fr + j) q (by omega) hq
              refine z_iload hZ gCm_setAction_36 rfl ?_
              refine z_aload_n hZ gCm_setAction_38 rfl ?_
              refine z_get hZ gCm_setAction_39 (by omega) rfl (by rw [h13]; rfl) ?_
              refine z_cmpge hZ gCm_setAction_42 (fun c42 => absurd c42 (nI_ge (by omega) (by omega))) (fun c42 => ?_)
              refine z_aload_n hZ gCm_setAction_45 rfl ?_
              refine z_iload_n hZ gCm_setAction_46 rfl ?_
              refine z_aload_n hZ gCm_setAction_47 rfl ?_
              refine z_get hZ gCm_setAction_48 (by omega) rfl rfl ?_
              refine z_iload_n hZ gCm_setAction_51 rfl ?_
              refine z_iload hZ gCm_setAction_52 rfl ?_
              refine z_iadd hZ gCm_setAction_54 _ (nI_add fr t) ?_
              refine z_iald hZ gCm_setAction_55 (by omega) rfl (vp_in_nI (by omega) (by decide)) ?_
              rw [eft, hv1]
              refine z_iload hZ gCm_setAction_56 rfl ?_
              refine z_cv hZ gCm_setAction_58 rfl rfl (Nat.le_of_ble_eq_true rfl) (Nat.le_of_ble_eq_true rfl) ⟨⟨5, _, _, rfl, by decide, rfl⟩, fun l9 D E B A hB => c_Co_pairs l9 D E B A hB (x := x) (y := pv (fr + t)) (z := q) (by omega) (by omega) (by omega)⟩ (fun r58 w58 p58 => ?_)
              obtain ⟨rfl, rfl⟩ := p58
              rw [hc1]
              show Z (58 + 3) _ (.inl (nI (ps (pv (fr + t)) q)) :: []) _
              refine z_istore hZ gCm_setAction_61 rfl ?_
              refine z_aload hZ gCm_setAction_63 rfl ?_
              refine z_iload hZ gCm_setAction_65 rfl ?_
              refine z_iload hZ gCm_setAction_67 rfl ?_
              refine z_aload_n hZ gCm_setAction_69 rfl ?_
              refine z_get hZ gCm_setAction_70 (by omega) rfl rfl ?_
              refine z_iload_n hZ gCm_setAction_73 rfl ?_
              refine z_iload hZ gCm_setAction_74 rfl ?_
              refine z_iadd hZ gCm_setAction_76 _ (nI_add fr j) ?_
              refine z_aald hZ gCm_setAction_77 (by omega) rfl (vp_in_nI (by omega) (by decide)) ?_
              rw [efj]
              refine z_iload hZ gCm_setAction_78 rfl ?_
              refine z_ialg hZ gCm_setAction_80 (by omega) rfl (by omega) (vp_in_nI (by omega) (by decide)) ?_
              rw [eq0, va_up_ne _ _ (by decide : (14 : Nat) ≠ 19), hbl.1]
              refine z_cv hZ gCm_setAction_81 rfl rfl (Nat.le_of_ble_eq_true rfl) (Nat.le_of_ble_eq_true rfl) ⟨⟨12, _, _, rfl, by decide, rfl⟩, fun l9 D E B A hB => c_Re_plusTimes l9 D E B A hB hm hp0 (pp92 hp) (s := acS p (fun l => ps (pv (fr + t)) l) (fun l => bs (fr + j) l) q) (x := ps (pv (fr + t)) q) (y := bs (fr + j) q) (bd3 hp (acS_lt hp0 _ _ q) hc2 hbl.2)⟩ (fun r81 w81 p81 => ?_)
              obtain ⟨rfl, rfl⟩ := p81
              show Z (81 + 3) _ (.inl (nI (acS p (fun l => ps (pv (fr + t)) l) (fun l => bs (fr + j) l) (q + 1))) :: []) _
              refine z_istore hZ gCm_setAction_84 rfl ?_
              refine z_iinc hZ gCm_setAction_86 rfl _ (i1 q) rfl ?_
              refine z_goto hZ gCm_setAction_89 ?_
              exact ihu (q + 1) _ (by omega)
          refine z_iload hZ gCm_setAction_23 rfl ?_
          refine z_iload hZ gCm_setAction_25 rfl ?_
          refine z_cmpge hZ gCm_setAction_27 (fun c27 => absurd c27 (nI_ge (by omega) (by omega))) (fun c27 => ?_)
          refine z_iconst hZ gCm_setAction_30 _ i0 ?_
          refine z_istore hZ gCm_setAction_31 rfl ?_
          refine z_iconst hZ gCm_setAction_33 _ i0 ?_
          refine z_istore hZ gCm_setAction_34 rfl ?_
          exact inner k 0 _ (by omega)
      refine z_iload hZ gCm_setAction_13 rfl ?_
      refine z_iload hZ gCm_setAction_15 rfl ?_
      refine z_cmpge hZ gCm_setAction_17 (fun c17 => absurd c17 (nI_ge (by omega) (by omega))) (fun c17 => ?_)
      refine z_iconst hZ gCm_setAction_20 _ i0 ?_
      refine z_istore hZ gCm_setAction_21 rfl ?_
      exact cols d 0 M _ _ _ (by omega) h1 (fun c hc => absurd hc (Nat.not_lt_zero c))
  refine z_aload_n hZ gCm_setAction_0 rfl ?_
  refine z_get hZ gCm_setAction_1 (by omega) rfl rfl ?_
  refine z_iload_n hZ gCm_setAction_4 rfl ?_
  refine z_iald hZ gCm_setAction_5 (by omega) rfl (vp_in_nI (by omega) (by decide)) ?_
  rw [efr, h16]
  refine z_iload_n hZ gCm_setAction_6 rfl ?_
  refine z_isub hZ gCm_setAction_7 _ (pk_sub (Nat.le_add_right fr d)) ?_
  rw [Nat.add_sub_cancel_left]
  refine z_istore hZ gCm_setAction_8 rfl ?_
  refine z_iconst hZ gCm_setAction_10 _ i0 ?_
  refine z_istore hZ gCm_setAction_11 rfl ?_
  have h9 := rows d 0 (g 19) none none none none (by omega) (fun r c hr _ => absurd hr (Nat.not_lt_zero r))
  have e1 : aW a g i (g 19) = cW a g i := by
    show cW _ _ _ = cW _ _ _
    rw [va_id g (k := 19) rfl]
  rw [e1] at h9
  exact h9

