-- a solution taken
def tk (p : Nat) (S : Nat → Nat → Nat) (sb : Nat → Option Nat) (f : Nat) (bs : Nat → Nat → Nat) (fr l : Nat) : Nat → Nat
  | 0 => bs (fr + f) l
  | j + 1 => match sb j with
    | some r => (tk p S sb f bs fr l j + (p - S r f) * bs (fr + j) l) % p
    | none => tk p S sb f bs fr l j
theorem tk_n {p : Nat} {S : Nat → Nat → Nat} {sb : Nat → Option Nat} {f : Nat} {bs : Nat → Nat → Nat} {fr l j : Nat} (h : sb j = none) : tk p S sb f bs fr l (j + 1) = tk p S sb f bs fr l j := by simp [tk, h]
theorem tk_s {p : Nat} {S : Nat → Nat → Nat} {sb : Nat → Option Nat} {f : Nat} {bs : Nat → Nat → Nat} {fr l j r : Nat} (h : sb j = some r) : tk p S sb f bs fr l (j + 1) = (tk p S sb f bs fr l j + (p - S r f) * bs (fr + j) l) % p := by simp [tk, h]
theorem tk_lt {p : Nat} {S : Nat → Nat → Nat} {sb : Nat → Option Nat} {f : Nat} {bs : Nat → Nat → Nat} {fr l : Nat} (h : bs (fr + f) l < p) : ∀ j, tk p S sb f bs fr l j < p
  | 0 => h
  | j + 1 => by
    cases hs : sb j with
    | none => rw [tk_n hs]; exact tk_lt h j
    | some r => rw [tk_s hs]; exact Nat.mod_lt _ (by omega)
theorem tk_ok {p : Nat} {S : Nat → Nat → Nat} {sb : Nat → Option Nat} {f d : Nat} {bs : Nat → Nat → Nat} {fr l : Nat} (hf : f < d) (hfn : sb f = none) (hS : ∀ j r, j < d → sb j = some r → S r f ≤ p) : (p : Int) ∣ (tk p S sb f bs fr l d : Int) - si (fun j => rr_X (fun r c => (S r c : Int)) sb f j * (bs (fr + j) l : Int)) (List.range d) := by
  have h : ∀ m, m ≤ d → (p : Int) ∣ (tk p S sb f bs fr l m : Int) - (bs (fr + f) l : Int) - si (fun j => ib (decide (j ≠ f)) * (rr_X (fun r c => (S r c : Int)) sb f j * (bs (fr + j) l : Int))) (List.range m) := by
    intro m
    induction m with
    | zero => intro _; show (p : Int) ∣ (bs (fr + f) l : Int) - (bs (fr + f) l : Int) - 0; rw [Int.sub_zero, Int.sub_self]; exact Int.dvd_zero _
    | succ m ih =>
      intro hm
      obtain ⟨k1, h1⟩ := ih (by omega)
      rw [List.range_succ, si_app, si_cons, si_nil]
      cases hs : sb m with
      | none =>
        rw [tk_n hs]
        have e : ib (decide (m ≠ f)) * (rr_X (fun r c => (S r c : Int)) sb f m * (bs (fr + m) l : Int)) = 0 := by
          by_cases e1 : m = f
          · simp [ib, e1]
          · simp [rr_X, e1, hs]
        rw [e]
        exact ⟨k1, by omega⟩
      | some r =>
        have hmf : m ≠ f := fun e => by rw [e, hfn] at hs; cases hs
        rw [tk_s hs]
        have e : ib (decide (m ≠ f)) * (rr_X (fun r c => (S r c : Int)) sb f m * (bs (fr + m) l : Int)) = -(S r f : Int) * (bs (fr + m) l : Int) := by
          simp [ib, hmf, rr_X, hs]
        rw [e]
        obtain ⟨k2, h2⟩ := md_p p (tk p S sb f bs fr l m + (p - S r f) * bs (fr + m) l)
        rw [Int.natCast_add, Int.natCast_mul, Int.natCast_sub (hS m r (by omega) hs)] at h2
        exact ⟨k1 + k2 + bs (fr + m) l, by grind⟩
  obtain ⟨k, h1⟩ := h d (Nat.le_refl d)
  have h2 : si (fun j => rr_X (fun r c => (S r c : Int)) sb f j * (bs (fr + j) l : Int)) (List.range d) = si (fun j => ib (decide (j = f)) * (bs (fr + j) l : Int)) (List.range d) + si (fun j => ib (decide (j ≠ f)) * (rr_X (fun r c => (S r c : Int)) sb f j * (bs (fr + j) l : Int))) (List.range d) := by
    rw [← si_add]
    refine si_congr fun j _ => ?_
    by_cases e : j = f
    · subst e; simp [ib, rr_X]
    · simp [ib, e]
  have h3 : si (fun j => ib (decide (j = f)) * (bs (fr + j) l : Int)) (List.range d) = (bs (fr + f) l : Int) := si_one (fun j => (bs (fr + j) l : Int)) f List.nodup_range (List.mem_range.mpr hf)
  rw [h2, h3]
  exact ⟨k, by omega⟩
abbrev pW (a : sA) (g : sG) (i : sA) (M : Nat → Nat → Int32) : sx_M := cW a (va_up g 17 M) i
theorem pW_g (a : sA) (g : sG) (i : sA) (M R : Nat → Nat → Int32) : cW a (va_up (va_up g 17 M) 17 R) i = pW a g i R := by rw [va_uu]

set_option maxHeartbeats 4000000 in
set_option maxRecDepth 100000 in
theorem c_Cm_takeSolution (l : Launch) (D : va_G) (E : sx_E) (B : Nat) (A : Nat → Prop) (hB : 29 ≤ B) {a : sA} {g : sG} {i : sA} {p d k f fr pl : Nat} {S bs : Nat → Nat → Nat} {sb : Nat → Option Nat} (hm : i 12 0 = nI p) (hpr : isPr p) (hp : p < 1092) (h13 : i 13 0 = nI k) (hk : k ≤ 16) (hfd : fr + d ≤ k) (hf : f < d) (hpl : pl < 16) (hb : gM p k (g 14) bs) (hS : gM p d (g 20) S) (hrd : ∀ j r, j < d → sb j = some r → r < d) (hbv : ∀ c, c < d → a 21 c = obv (sb c)) : sM l D E B A yCm_takeSolution prog_2_method_10_code 10 none 1 40 [.inr (13, 0), .inl (nI f), .inl (nI fr), .inl (nI d), .inl (nI pl), .inr (12, 0)] (cW a g i) (fun r w' => r = none ∧ ∃ M : Nat → Nat → Int32, w' = pW (va_up a 18 (upd (a 18) pl (a 15 (fr + f)))) g i M ∧ (∀ r, r ≠ pl → M r = g 17 r) ∧ ∀ l, l < k → M pl l = nI (tk p S sb f bs fr l d)) := by
  refine sx_m0 (ls := lCm_takeSolution) (cs := csAll) (by decide +kernel) kCm_takeSolution (hCm_takeSolution l D E B A hB) (by simp) (fun x w' h => by cases h.1) ?_
  intro Z hZ
  have hp1 : 1 < p := hpr.1
  have hp0 : 0 < p := by omega
  have ef : (nI f).toNatClampNeg = f := nI_clamp (by omega)
  have epl : (nI pl).toNatClampNeg = pl := nI_clamp (by omega)
  have eff : (nI (fr + f)).toNatClampNeg = fr + f := nI_clamp (by omega)
  have htk : ∀ l, l < k → ∀ j, tk p S sb f bs fr l j < p := fun l hl j => tk_lt (hb (fr + f) l (by omega) hl).2 j
  have loop : ∀ n j M x8 x9, n + j = d → (∀ r, r ≠ pl → M r = g 17 r) → (∀ l, l < k → M pl l = nI (tk p S sb f bs fr l j)) → Z 31 [some (.inr (13, 0)), some (.inl (nI f)), some (.inl (nI fr)), some (.inl (nI d)), some (.inl (nI pl)), some (.inr (12, 0)), some (.inr (17, pl + 1)), some (.inl (nI j)), x8, x9] [] (pW a g i M) := by
    intro n
    induction n with
    | zero =>
      intro j M x8 x9 hn h1 h2
      have e : j = d := by omega
      subst e
      refine z_iload hZ gCm_takeSolution_31 rfl ?_
      refine z_iload_n hZ gCm_takeSolution_33 rfl ?_
      refine z_cmpge hZ gCm_takeSolution_34 (fun c34 => ?_) (fun c34 => absurd (nI_le (Nat.le_refl j) (by omega)) c34)
      refine z_aload_n hZ gCm_takeSolution_117 rfl ?_
      refine z_get hZ gCm_takeSolution_118 (by omega) rfl rfl ?_
      refine z_iload hZ gCm_takeSolution_121 rfl ?_
      refine z_aload_n hZ gCm_takeSolution_123 rfl ?_
      refine z_get hZ gCm_takeSolution_124 (by omega) rfl rfl ?_
      refine z_iload_n hZ gCm_takeSolution_127 rfl ?_
      refine z_iload_n hZ gCm_takeSolution_128 rfl ?_
      refine z_iadd hZ gCm_takeSolution_129 _ (nI_add fr f) ?_
      refine z_iald hZ gCm_takeSolution_130 (by omega) rfl (vp_in_nI (by omega) (by decide)) ?_
      rw [eff]
      refine z_iastW hZ gCm_takeSolution_131 (by omega) rfl (vp_in_nI (by omega) (by decide)) cW_a18 ?_
      rw [epl]
      refine z_vret hZ gCm_takeSolution_132 ?_
      exact ⟨rfl, M, rfl, h1, h2⟩
    | succ n ih =>
      intro j M x8 x9 hn h1 h2
      have hj : j < d := by omega
      have ej : (nI j).toNatClampNeg = j := nI_clamp (by omega)
      have efj : (nI (fr + j)).toNatClampNeg = fr + j := nI_clamp (by omega)
      have h21 := hbv j hj
      have next : ∀ M x8 x9, (∀ r, r ≠ pl → M r = g 17 r) → (∀ l, l < k → M pl l = nI (tk p S sb f bs fr l (j + 1))) → Z 111 [some (.inr (13, 0)), some (.inl (nI f)), some (.inl (nI fr)), some (.inl (nI d)), some (.inl (nI pl)), some (.inr (12, 0)), some (.inr (17, pl + 1)), some (.inl (nI j)), x8, x9] [] (pW a g i M) := by
        intro M x8 x9 h1 h2
        refine z_iinc hZ gCm_takeSolution_111 rfl _ (i1 j) rfl ?_
        refine z_goto hZ gCm_takeSolution_114 ?_
        exact ih (j + 1) M _ _ (by omega) h1 h2
      cases hs : sb j with
      | none =>
        rw [hs] at h21
        have h21 : a 21 j = -1 := h21
        refine z_iload hZ gCm_takeSolution_31 rfl ?_
        refine z_iload_n hZ gCm_takeSolution_33 rfl ?_
        refine z_cmpge hZ gCm_takeSolution_34 (fun c34 => absurd c34 (nI_ge (by omega) (by omega))) (fun c34 => ?_)
        refine z_aload_n hZ gCm_takeSolution_37 rfl ?_
        refine z_get hZ gCm_takeSolution_38 (by omega) rfl rfl ?_
        refine z_iload hZ gCm_takeSolution_41 rfl ?_
        refine z_iald hZ gCm_takeSolution_43 (by omega) rfl (vp_in_nI (by omega) (by decide)) ?_
        rw [ej, h21]
        refine z_iconst hZ gCm_takeSolution_44 _ im1 ?_
        refine z_cmpeq hZ gCm_takeSolution_45 (fun c45 => ?_) (fun c45 => absurd rfl c45)
        exact next M _ _ h1 (fun l hl => by rw [h2 l hl, tk_n hs])
      | some r =>
        rw [hs] at h21
        have h21 : a 21 j = nI r := h21
        have hr : r < d := hrd j r hj hs
        have er : (nI r).toNatClampNeg = r := nI_clamp (by omega)
        have hsr := hS r f hr hf
        have inner : ∀ m l M, m + l = k → (∀ r, r ≠ pl → M r = g 17 r) → (∀ q, q < k → M pl q = nI (if q < l then tk p S sb f bs fr q (j + 1) else tk p S sb f bs fr q j)) → Z 67 [some (.inr (13, 0)), some (.inl (nI f)), some (.inl (nI fr)), some (.inl (nI d)), some (.inl (nI pl)), some (.inr (12, 0)), some (.inr (17, pl + 1)), some (.inl (nI j)), some (.inl (nI (S r f))), some (.inl (nI l))] [] (pW a g i M) := by
          intro m
          induction m with
          | zero =>
            intro l M hml h1 h2
            have e : l = k := by omega
            subst e
            refine z_iload hZ gCm_takeSolution_67 rfl ?_
            refine z_aload_n hZ gCm_takeSolution_69 rfl ?_
            refine z_get hZ gCm_takeSolution_70 (by omega) rfl (by rw [h13]; rfl) ?_
            refine z_cmpge hZ gCm_takeSolution_73 (fun c73 => ?_) (fun c73 => absurd (nI_le (Nat.le_refl l) (by omega)) c73)
            exact next M _ _ h1 (fun q hq => by rw [h2 q hq, if_pos hq])
          | succ m ihm =>
            intro l M hml h1 h2
            have hl : l < k := by omega
            have el : (nI l).toNatClampNeg = l := nI_clamp (by omega)
            have hMl := h2 l hl
            rw [if_neg (Nat.lt_irrefl l)] at hMl
            have hbl := hb (fr + j) l (by omega) hl
            refine z_iload hZ gCm_takeSolution_67 rfl ?_
            refine z_aload_n hZ gCm_takeSolution_69 rfl ?_
            refine z_get hZ gCm_takeSolution_70 (by omega) rfl (by rw [h13]; rfl) ?_
            refine z_cmpge hZ gCm_takeSolution_73 (fun c73 => absurd c73 (nI_ge (by omega) (by omega))) (fun c73 => ?_)
            refine z_aload hZ gCm_takeSolution_76 rfl ?_
            refine z_iload hZ gCm_takeSolution_78 rfl ?_
            refine z_aload hZ gCm_takeSolution_80 rfl ?_
            refine z_aload hZ gCm_takeSolution_82 rfl ?_
            refine z_iload hZ gCm_takeSolution_84 rfl ?_
            refine z_ialg hZ gCm_takeSolution_86 (by omega) rfl (by omega) (vp_in_nI (by omega) (by decide)) ?_
            rw [el, va_up_self, hMl]
            refine z_iload hZ gCm_takeSolution_87 rfl ?_
            refine z_aload_n hZ gCm_takeSolution_89 rfl ?_
            refine z_get hZ gCm_takeSolution_90 (by omega) rfl rfl ?_
            refine z_iload_n hZ gCm_takeSolution_93 rfl ?_
            refine z_iload hZ gCm_takeSolution_94 rfl ?_
            refine z_iadd hZ gCm_takeSolution_96 _ (nI_add fr j) ?_
            refine z_aald hZ gCm_takeSolution_97 (by omega) rfl (vp_in_nI (by omega) (by decide)) ?_
            rw [efj]
            refine z_iload hZ gCm_takeSolution_98 rfl ?_
            refine z_ialg hZ gCm_takeSolution_100 (by omega) rfl (by omega) (vp_in_nI (by omega) (by decide)) ?_
            rw [el, va_up_ne _ _ (by decide : (14 : Nat) ≠ 17), hbl.1]
            refine z_cv hZ gCm_takeSolution_101 rfl rfl (Nat.le_of_ble_eq_true rfl) (Nat.le_of_ble_eq_true rfl) ⟨⟨12, _, _, rfl, by decide, rfl⟩, fun l9 D E B A hB => c_Re_minusTimes l9 D E B A hB hm hp0 (pp92 hp) (s := tk p S sb f bs fr l j) (x := S r f) (y := bs (fr + j) l) (Nat.le_of_lt hsr.2) (bd2 hp (htk l hl j) hbl.2)⟩ (fun r101 w101 p101 => ?_)
            obtain ⟨rfl, rfl⟩ := p101
            rw [← tk_s (fr := fr) (l := l) (bs := bs) hs]
            show Z (101 + 3) _ (.inl (nI (tk p S sb f bs fr l (j + 1))) :: .inl (nI l) :: .inr (17, pl + 1) :: []) _
            refine z_iasgW hZ gCm_takeSolution_104 (by omega) rfl (by omega) (vp_in_nI (by omega) (by decide)) cW_g17 ?_
            rw [el, va_up_self, pW_g]
            refine z_iinc hZ gCm_takeSolution_105 rfl _ (i1 l) rfl ?_
            refine z_goto hZ gCm_takeSolution_108 ?_
            refine ihm (l + 1) _ (by omega) (fun r hr => by rw [va_up_ne _ _ hr]; exact h1 r hr) (fun q hq => ?_)
            rw [va_up_self]
            by_cases e : q = l
            · subst e; rw [pk_us, if_pos (Nat.lt_succ_self q)]
            · rw [pk_un e, h2 q hq]
              by_cases h9 : q < l
              · rw [if_pos h9, if_pos (by omega)]
              · rw [if_neg h9, if_neg (by omega)]
        refine z_iload hZ gCm_takeSolution_31 rfl ?_
        refine z_iload_n hZ gCm_takeSolution_33 rfl ?_
        refine z_cmpge hZ gCm_takeSolution_34 (fun c34 => absurd c34 (nI_ge (by omega) (by omega))) (fun c34 => ?_)
        refine z_aload_n hZ gCm_takeSolution_37 rfl ?_
        refine z_get hZ gCm_takeSolution_38 (by omega) rfl rfl ?_
        refine z_iload hZ gCm_takeSolution_41 rfl ?_
        refine z_iald hZ gCm_takeSolution_43 (by omega) rfl (vp_in_nI (by omega) (by decide)) ?_
        rw [ej, h21]
        refine z_iconst hZ gCm_takeSolution_44 _ im1 ?_
        refine z_cmpeq hZ gCm_takeSolution_45 (fun c45 => absurd c45 (nI_m1 (by omega))) (fun c45 => ?_)
        refine z_aload_n hZ gCm_takeSolution_48 rfl ?_
        refine z_get hZ gCm_takeSolution_49 (by omega) rfl rfl ?_
        refine z_aload_n hZ gCm_takeSolution_52 rfl ?_
        refine z_get hZ gCm_takeSolution_53 (by omega) rfl rfl ?_
        refine z_iload hZ gCm_takeSolution_56 rfl ?_
        refine z_iald hZ gCm_takeSolution_58 (by omega) rfl (vp_in_nI (by omega) (by decide)) ?_
        rw [ej, h21]
        refine z_aald hZ gCm_takeSolution_59 (by omega) rfl (vp_in_nI (by omega) (by decide)) ?_
        rw [er]
        refine z_iload_n hZ gCm_takeSolution_60 rfl ?_
        refine z_ialg hZ gCm_takeSolution_61 (by omega) rfl (by omega) (vp_in_nI (by omega) (by decide)) ?_
        rw [ef, va_up_ne _ _ (by decide : (20 : Nat) ≠ 17), hsr.1]
        refine z_istore hZ gCm_takeSolution_62 rfl ?_
        refine z_iconst hZ gCm_takeSolution_64 _ i0 ?_
        refine z_istore hZ gCm_takeSolution_65 rfl ?_
        exact inner k 0 M (by omega) h1 (fun q hq => by rw [if_neg (Nat.not_lt_zero q)]; exact h2 q hq)
  refine z_aload_n hZ gCm_takeSolution_0 rfl ?_
  refine z_get hZ gCm_takeSolution_1 (by omega) rfl rfl ?_
  refine z_iload hZ gCm_takeSolution_4 rfl ?_
  refine z_aald hZ gCm_takeSolution_6 (by omega) rfl (vp_in_nI (by omega) (by decide)) ?_
  rw [epl]
  refine z_astore hZ gCm_takeSolution_7 rfl ?_
  refine z_aload_n hZ gCm_takeSolution_9 rfl ?_
  refine z_get hZ gCm_takeSolution_10 (by omega) rfl rfl ?_
  refine z_iload_n hZ gCm_takeSolution_13 rfl ?_
  refine z_iload_n hZ gCm_takeSolution_14 rfl ?_
  refine z_iadd hZ gCm_takeSolution_15 _ (nI_add fr f) ?_
  refine z_aald hZ gCm_takeSolution_16 (by omega) rfl (vp_in_nI (by omega) (by decide)) ?_
  rw [eff]
  refine z_iconst hZ gCm_takeSolution_17 _ i0 ?_
  refine z_aload hZ gCm_takeSolution_18 rfl ?_
  refine z_iconst hZ gCm_takeSolution_20 _ i0 ?_
  refine z_aload_n hZ gCm_takeSolution_21 rfl ?_
  refine z_get hZ gCm_takeSolution_22 (by omega) rfl (by rw [h13]; rfl) ?_
  refine z_cs hZ gCm_takeSolution_25 rfl rfl (Nat.le_of_ble_eq_true rfl) (Nat.le_of_ble_eq_true rfl) ⟨14, fr + f, 17, pl, 16, 16, 16, 16, 0, 0, k, g 14, g 17, rfl, by decide, by decide, rfl, rfl, by omega, by omega, by omega, by omega, by decide, by decide, rfl⟩ (fun r25 w25 p25 => ?_)
  obtain ⟨rfl, rfl⟩ := p25
  rw [cW_g17]
  show Z (25 + 3) _ [] _
  refine z_iconst hZ gCm_takeSolution_28 _ i0 ?_
  refine z_istore hZ gCm_takeSolution_29 rfl ?_
  refine loop d 0 _ _ _ (by omega) (fun r hr => va_up_ne _ _ hr) (fun l hl => ?_)
  rw [va_up_self, cpy0, if_pos hl, (hb (fr + f) l (by omega) hl).1]
  rfl

