-- the reference: the constants
theorem i4096 : (Int16.ofInt 4096).toInt32 = nI 4096 := by decide +kernel
theorem i256 : (Int16.ofInt 256).toInt32 = nI 256 := by decide +kernel
theorem ix3 (x y l : Nat) : nI 256 * nI x + nI 16 * nI y + nI l = nI ((x * 16 + y) * 16 + l) := by
  rw [pk_mul, pk_mul, nI_add, nI_add]
  congr 1
  omega
def coF (s kl re : Nat → Nat) (n l q x y l' : Nat) : Nat := if l' < l then cp s kl re n x y l' else if l' = l then cp s kl re q x y l' else 0
theorem co_0 {s kl re : Nat → Nat} {n l x y l' : Nat} : coF s kl re n (l + 1) 0 x y l' = coF s kl re n l n x y l' := by
  unfold coF
  by_cases h1 : l' < l
  · rw [if_pos h1, if_pos (by omega)]
  · by_cases h2 : l' = l
    · rw [if_neg h1, if_pos h2, if_pos (by omega)]
    · rw [if_neg h1, if_neg h2, if_neg (by omega)]
      by_cases h3 : l' = l + 1
      · rw [if_pos h3]; rfl
      · rw [if_neg h3]
theorem co_s {s kl re : Nat → Nat} {n l q x y l' : Nat} : coF s kl re n l (q + 1) x y l' = coF s kl re n l q x y l' + if l' = l ∧ kl (s q) = x ∧ kl (pm (piv (s q)) (re l)) = y then 1 else 0 := by
  unfold coF
  by_cases h1 : l' < l
  · rw [if_pos h1, if_pos h1, if_neg (fun h => by omega), Nat.add_zero]
  · by_cases h2 : l' = l
    · subst h2
      rw [if_neg h1, if_pos rfl, if_neg h1, if_pos rfl, cp_s]
      by_cases h3 : kl (s q) = x ∧ kl (pm (piv (s q)) (re l')) = y
      · rw [if_pos h3, if_pos ⟨rfl, h3⟩]
      · rw [if_neg h3, if_neg (fun h => h3 h.2)]
    · rw [if_neg h1, if_neg h2, if_neg h1, if_neg h2, if_neg (fun h => h2 h.1)]
def coT (s : Nat → Nat) (n k : Nat) (kl re : Nat → Nat) (f : Nat → Int32) : Prop := ∀ x y l, x < 16 → y < 16 → l < 16 → f ((x * 16 + y) * 16 + l) = nI (if l < k then Amo s n kl re x y l else 0)

set_option maxHeartbeats 4000000 in
set_option maxRecDepth 100000 in
theorem c_Mo_count (l : Launch) (D : va_G) (E : sx_E) (B : Nat) (A : Nat → Prop) (hB : 11 ≤ B) {a : sA} {i : sA} {s kl re : Nat → Nat} {n k : Nat} (hel : elM a i s n) (hn : n ≤ 120) (hs : ∀ j k, j < k → k < n → s j < s k) (hcl : clS s n k kl re) (hP : ∀ x, x ∈ Gl s n → isP x) (hk16 : k ≤ 16) (hi6 : i 0 6 = nI k) (h3 : ∀ j, j < n → a 3 j = nI (kl (s j))) (h5 : ∀ l, l < k → a 5 l = nI (re l)) : sM l D E B A yMo_count prog_9_method_11_code 5 none 2 45 [.inr (0, 0)] (mW a i) (fun r w' => r = none ∧ ∃ f : Nat → Int32, w' = mW (va_up a 6 f) i ∧ coT s n k kl re f) := by
  refine sx_m0 (ls := lMo_count) (cs := csAll) (by decide +kernel) kMo_count (hMo_count l D E B A hB) (by simp) (fun x w' h => by cases h.1) ?_
  intro Z hZ
  have hkl : ∀ x, x ∈ Gl s n → kl x < 16 := fun x hx => Nat.lt_of_lt_of_le (kc_lt hcl.1 hx) hk16
  have hG := kc_g hcl.1
  have ne6 : ∀ (f : Nat → Int32) q, q ≠ 6 → va_up a 6 f q = a q := fun f q hq => va_up_ne _ _ hq
  have outer : ∀ m l (f : Nat → Int32) x2 x3 x4, m + l = k → ((∀ x y l', x < 16 → y < 16 → l' < 16 → f ((x * 16 + y) * 16 + l') = nI (coF s kl re n l 0 x y l'))) → Z 24 [some (.inr (0, 0)), some (.inl (nI l)), x2, x3, x4] [] (mW (va_up a 6 f) i) := by
    intro m
    induction m with
    | zero =>
      intro l f x2 x3 x4 hm hf
      have e9 : l = k := by omega
      subst e9
      refine z_iload_n hZ gMo_count_24 rfl ?_
      refine z_aload_n hZ gMo_count_25 rfl ?_
      refine z_get hZ gMo_count_26 (by omega) rfl (by rw [hi6]; rfl) ?_
      refine z_cmpge hZ gMo_count_29 (fun c29 => ?_) (fun c29 => absurd (nI_le (Nat.le_refl l) (by omega)) c29)
      refine z_vret hZ gMo_count_112 ?_
      refine ⟨rfl, f, rfl, fun x y l9 hx hy hl9 => ?_⟩
      rw [hf x y l9 hx hy hl9]
      congr 1
      unfold coF
      by_cases h1 : l9 < l
      · rw [if_pos h1, if_pos h1, Amo, cp_all]
      · rw [if_neg h1, if_neg h1]
        by_cases h2 : l9 = l
        · rw [if_pos h2]; rfl
        · rw [if_neg h2]
    | succ m ih =>
      intro l f x2 x3 x4 hm hf
      have hl : l < k := by omega
      have el : (nI l).toNatClampNeg = l := nI_clamp (by omega)
      have hrG := kc_re hcl.1 hl
      have inner : ∀ m2 q (f : Nat → Int32) x3 x4, m2 + q = n → ((∀ x y l', x < 16 → y < 16 → l' < 16 → f ((x * 16 + y) * 16 + l') = nI (coF s kl re n l q x y l'))) → Z 34 [some (.inr (0, 0)), some (.inl (nI l)), some (.inl (nI q)), x3, x4] [] (mW (va_up a 6 f) i) := by
        intro m2
        induction m2 with
        | zero =>
          intro q f x3 x4 hm2 hf
          have e9 : q = n := by omega
          rw [e9] at hf ⊢
          refine z_iload_n hZ gMo_count_34 rfl ?_
          refine z_aload_n hZ gMo_count_35 rfl ?_
          refine z_get hZ gMo_count_36 (by omega) rfl (by rw [hel.1]; rfl) ?_
          refine z_cmpge hZ gMo_count_39 (fun c39 => ?_) (fun c39 => absurd (nI_le (Nat.le_refl n) (by omega)) c39)
          refine z_iinc hZ gMo_count_106 rfl _ (i1 l) rfl ?_
          refine z_goto hZ gMo_count_109 ?_
          exact ih (l + 1) f _ _ _ (by omega) (fun x y l9 hx hy hl9 => by rw [co_0]; exact hf x y l9 hx hy hl9)
        | succ m2 ih2 =>
          intro q f x3 x4 hm2 hf
          have hq : q < n := by omega
          have eq0 : (nI q).toNatClampNeg = q := nI_clamp (by omega)
          have hqG : s q ∈ Gl s n := Gl_mem.mpr ⟨q, hq, rfl⟩
          have hyG : pm (piv (s q)) (re l) ∈ Gl s n := gg_m hG (gg_i hG hqG) hrG
          have hk1 := hkl _ hqG
          have hk2 := hkl _ hyG
          have hidx : (kl (s q) * 16 + kl (pm (piv (s q)) (re l))) * 16 + l < 4096 := by omega
          have eidx := nI_clamp (n := (kl (s q) * 16 + kl (pm (piv (s q)) (re l))) * 16 + l) (by omega)
          have hfx := hf (kl (s q)) (kl (pm (piv (s q)) (re l))) l hk1 hk2 (by omega)
          refine z_iload_n hZ gMo_count_34 rfl ?_
          refine z_aload_n hZ gMo_count_35 rfl ?_
          refine z_get hZ gMo_count_36 (by omega) rfl (by rw [hel.1]; rfl) ?_
          refine z_cmpge hZ gMo_count_39 (fun c39 => absurd c39 (nI_ge (by omega) (by omega))) (fun c39 => ?_)
          refine z_aload_n hZ gMo_count_42 rfl ?_
          refine z_get hZ gMo_count_43 (by omega) rfl rfl ?_
          refine z_iload_n hZ gMo_count_46 rfl ?_
          refine z_iald hZ gMo_count_47 (by omega) rfl (vp_in_nI (by omega) (by decide)) ?_
          rw [eq0, ne6 _ _ (by decide), hel.2.1 q hq]
          refine z_cs hZ gMo_count_48 rfl rfl (Nat.le_of_ble_eq_true rfl) (Nat.le_of_ble_eq_true rfl) (fun l9 D E B A hB => c_Mo_inverted l9 D E B A hB (hP _ hqG) _) (fun r48 w48 p48 => ?_)
          obtain ⟨rfl, rfl⟩ := p48
          show Z (48 + 3) _ (.inl (nI (piv (s q))) :: []) _
          refine z_istore_n hZ gMo_count_51 rfl ?_
          refine z_iload_n hZ gMo_count_52 rfl ?_
          refine z_aload_n hZ gMo_count_53 rfl ?_
          refine z_get hZ gMo_count_54 (by omega) rfl rfl ?_
          refine z_iload_n hZ gMo_count_57 rfl ?_
          refine z_iald hZ gMo_count_58 (by omega) rfl (vp_in_nI (by omega) (by decide)) ?_
          rw [el, ne6 _ _ (by decide), h5 l hl]
          refine z_cs hZ gMo_count_59 rfl rfl (Nat.le_of_ble_eq_true rfl) (Nat.le_of_ble_eq_true rfl) (fun l9 D E B A hB => c_Mo_product l9 D E B A hB (a := piv (s q)) (b := re l) (piv_ok (hP _ hqG)).1 (hP _ hrG).1 _) (fun r59 w59 p59 => ?_)
          obtain ⟨rfl, rfl⟩ := p59
          show Z (59 + 3) _ (.inl (nI (pm (piv (s q)) (re l))) :: []) _
          refine z_istore hZ gMo_count_62 rfl ?_
          refine z_aload_n hZ gMo_count_64 rfl ?_
          refine z_get hZ gMo_count_65 (by omega) rfl rfl ?_
          refine z_sipush hZ gMo_count_68 _ i256 ?_
          refine z_aload_n hZ gMo_count_71 rfl ?_
          refine z_get hZ gMo_count_72 (by omega) rfl rfl ?_
          refine z_iload_n hZ gMo_count_75 rfl ?_
          refine z_iald hZ gMo_count_76 (by omega) rfl (vp_in_nI (by omega) (by decide)) ?_
          rw [eq0, ne6 _ _ (by decide), h3 q hq]
          refine z_imul hZ gMo_count_77 _ rfl ?_
          refine z_bipush hZ gMo_count_78 _ i16 ?_
          refine z_aload_n hZ gMo_count_80 rfl ?_
          refine z_get hZ gMo_count_81 (by omega) rfl rfl ?_
          refine z_aload_n hZ gMo_count_84 rfl ?_
          refine z_iload hZ gMo_count_85 rfl ?_
          refine z_cv hZ gMo_count_87 rfl rfl (Nat.le_of_ble_eq_true rfl) (Nat.le_of_ble_eq_true rfl) ⟨⟨0, _, _, rfl, by decide, rfl⟩, fun l9 D E B A hB => c_Mo_find l9 D E B A hB (cnt := n) (x := nI (pm (piv (s q)) (re l))) hel.1 hn⟩ (fun r87 w87 p87 => ?_)
          obtain ⟨h87, rfl⟩ := p87
          obtain ⟨j9, hj9, hj8, hj7, rfl⟩ := elM_fp (a := va_up a 6 f) (i := i) ⟨hel.1, by rw [ne6 _ _ (by decide)]; exact hel.2.1, hel.2.2⟩ hs hyG h87
          have ej9 : (nI j9).toNatClampNeg = j9 := nI_clamp (by omega)
          show Z (87 + 3) _ (.inl (nI j9) :: .inr (3, 0) :: .inl (nI 16) :: .inl (nI 256 * nI (kl (s q))) :: .inr (6, 0) :: []) _
          refine z_iald hZ gMo_count_90 (by omega) rfl (vp_in_nI (by omega) (by decide)) ?_
          rw [ej9, ne6 _ _ (by decide), h3 j9 hj9, hj8]
          refine z_imul hZ gMo_count_91 _ rfl ?_
          refine z_iadd hZ gMo_count_92 _ rfl ?_
          refine z_iload_n hZ gMo_count_93 rfl ?_
          refine z_iadd hZ gMo_count_94 _ (ix3 (kl (s q)) (kl (pm (piv (s q)) (re l))) l) ?_
          refine z_dup2 hZ gMo_count_95 ?_
          refine z_iald hZ gMo_count_96 (by omega) rfl (vp_in_nI hidx (by decide)) ?_
          rw [eidx, va_up_self, hfx]
          refine z_iconst hZ gMo_count_97 _ rfl ?_
          refine z_iadd hZ gMo_count_98 _ (i1 _) ?_
          refine z_iastW hZ gMo_count_99 (by omega) rfl (vp_in_nI hidx (by decide)) mW_a6 ?_
          rw [eidx, va_up_self, va_uu]
          refine z_iinc hZ gMo_count_100 rfl _ (i1 q) rfl ?_
          refine z_goto hZ gMo_count_103 ?_
          refine ih2 (q + 1) _ _ _ (by omega) (fun x y l9 hx hy hl9 => ?_)
          rw [co_s]
          by_cases h9 : l9 = l ∧ kl (s q) = x ∧ kl (pm (piv (s q)) (re l)) = y
          · obtain ⟨rfl, rfl, rfl⟩ := h9
            rw [pk_us, if_pos ⟨rfl, rfl, rfl⟩]
          · rw [if_neg h9, Nat.add_zero, pk_un (fun e9 => h9 ?_)]
            · exact hf x y l9 hx hy hl9
            · obtain ⟨q1, q2, q3⟩ := place_inj hy hl9 hk2 (by omega) e9
              exact ⟨q3, q1.symm, q2.symm⟩
      refine z_iload_n hZ gMo_count_24 rfl ?_
      refine z_aload_n hZ gMo_count_25 rfl ?_
      refine z_get hZ gMo_count_26 (by omega) rfl (by rw [hi6]; rfl) ?_
      refine z_cmpge hZ gMo_count_29 (fun c29 => absurd c29 (nI_ge (by omega) (by omega))) (fun c29 => ?_)
      refine z_iconst hZ gMo_count_32 _ i0 ?_
      refine z_istore_n hZ gMo_count_33 rfl ?_
      exact inner n 0 f _ _ (by omega) hf
  have clean : ∀ m t (f : Nat → Int32) x2 x3 x4, m + t = 4096 → (∀ j, j < t → f j = nI 0) → Z 2 [some (.inr (0, 0)), some (.inl (nI t)), x2, x3, x4] [] (mW (va_up a 6 f) i) := by
    intro m
    induction m with
    | zero =>
      intro t f x2 x3 x4 hm hf
      have e9 : t = 4096 := by omega
      subst e9
      refine z_iload_n hZ gMo_count_2 rfl ?_
      refine z_sipush hZ gMo_count_3 _ i4096 ?_
      refine z_cmpge hZ gMo_count_6 (fun c6 => ?_) (fun c6 => absurd (nI_le (Nat.le_refl 4096) (by decide)) c6)
      refine z_iconst hZ gMo_count_22 _ i0 ?_
      refine z_istore_n hZ gMo_count_23 rfl ?_
      refine outer k 0 f _ _ _ (by omega) (fun x y l9 hx hy hl9 => ?_)
      rw [hf _ (by omega)]
      unfold coF
      rw [if_neg (Nat.not_lt_zero l9)]
      by_cases h2 : l9 = 0
      · rw [if_pos h2]; rfl
      · rw [if_neg h2]
    | succ m ih =>
      intro t f x2 x3 x4 hm hf
      have et : (nI t).toNatClampNeg = t := nI_clamp (by omega)
      refine z_iload_n hZ gMo_count_2 rfl ?_
      refine z_sipush hZ gMo_count_3 _ i4096 ?_
      refine z_cmpge hZ gMo_count_6 (fun c6 => absurd c6 (nI_ge (by omega) (by decide))) (fun c6 => ?_)
      refine z_aload_n hZ gMo_count_9 rfl ?_
      refine z_get hZ gMo_count_10 (by omega) rfl rfl ?_
      refine z_iload_n hZ gMo_count_13 rfl ?_
      refine z_iconst hZ gMo_count_14 _ i0 ?_
      refine z_iastW hZ gMo_count_15 (by omega) rfl (vp_in_nI (by omega) (by decide)) mW_a6 ?_
      rw [et, va_up_self, va_uu]
      refine z_iinc hZ gMo_count_16 rfl _ (i1 t) rfl ?_
      refine z_goto hZ gMo_count_19 ?_
      refine ih (t + 1) _ _ _ _ (by omega) (fun j hj => ?_)
      by_cases e9 : j = t
      · subst e9; rw [pk_us]
      · rw [pk_un e9]; exact hf j (by omega)
  refine z_iconst hZ gMo_count_0 _ i0 ?_
  refine z_istore_n hZ gMo_count_1 rfl ?_
  have h9 := clean 4096 0 (a 6) none none none rfl (fun j hj => absurd hj (Nat.not_lt_zero j))
  rw [va_id a (k := 6) rfl] at h9
  exact h9

