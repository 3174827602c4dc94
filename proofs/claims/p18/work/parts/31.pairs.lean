-- how often a product falls: by the first kk elements
def cp (s kl re : Nat → Nat) (kk x y l : Nat) : Nat := (List.range kk).countP (fun q => decide (kl (s q) = x) && decide (kl (pm (piv (s q)) (re l)) = y))
theorem cp_s (s kl re : Nat → Nat) (kk x y l : Nat) : cp s kl re (kk + 1) x y l = cp s kl re kk x y l + if kl (s kk) = x ∧ kl (pm (piv (s kk)) (re l)) = y then 1 else 0 := by
  unfold cp
  rw [List.range_succ, List.countP_append, List.countP_cons, List.countP_nil]
  by_cases h1 : kl (s kk) = x <;> by_cases h2 : kl (pm (piv (s kk)) (re l)) = y <;> simp [h1, h2]
theorem cp_le (s kl re : Nat → Nat) (kk x y l : Nat) : cp s kl re kk x y l ≤ kk := by
  have := List.countP_le_length (p := fun q => decide (kl (s q) = x) && decide (kl (pm (piv (s q)) (re l)) = y)) (l := List.range kk)
  rw [List.length_range] at this
  exact this
theorem cp_all (s kl re : Nat → Nat) (n x y l : Nat) : kc_n (Gl s n) pm piv kl x y (re l) = cp s kl re n x y l := by
  unfold kc_n cp Gl
  rw [List.countP_map]
  rfl
theorem place_inj {x y l x' y' l' : Nat} (hy : y < 16) (hl : l < 16) (hy' : y' < 16) (hl' : l' < 16) (e : (x * 16 + y) * 16 + l = (x' * 16 + y') * 16 + l') : x = x' ∧ y = y' ∧ l = l' := by omega

set_option maxHeartbeats 4000000 in
set_option maxRecDepth 100000 in
theorem c_Co_countPairs (l : Launch) (D : va_G) (E : sx_E) (B : Nat) (A : Nat → Prop) (hB : 29 ≤ B) {a : sA} {g : sG} {i : sA} {s kl re : Nat → Nat} {n k : Nat} (hel : elH a i s n) (hcl : clS s n k kl re) (hP : ∀ x, x ∈ Gl s n → isP x) (hk16 : k ≤ 16) (hk : i 5 0 = nI k) (h6 : ∀ j, j < n → a 6 j = nI (kl (s j))) (h8 : ∀ l, l < k → a 8 l = nI (re l)) : sM l D E B A yCo_countPairs prog_4_method_8_code 6 none 3 68 [.inr (5, 0), .inr (2, 0)] (cW a g i) (fun r w' => r = none ∧ ∃ f : Nat → Int32, w' = cW (va_up a 11 f) g i ∧ ∀ x y l, x < k → y < k → l < k → f ((x * 16 + y) * 16 + l) = nI (kc_n (Gl s n) pm piv kl x y (re l))) := by
  refine sx_m0 (ls := lCo_countPairs) (cs := csAll) (by decide +kernel) kCo_countPairs (hCo_countPairs l D E B A hB) (by simp) (fun x w' h => by cases h.1) ?_
  intro Z hZ
  have hn := hel.2.1
  have hG := kc_g hcl.1
  have hlt : ∀ x, x ∈ Gl s n → x < 8 ^ 8 := fun x hx => by
    obtain ⟨j, hj, rfl⟩ := Gl_mem.mp hx
    exact hel.2.2.2.2 j hj
  have hel2 : ∀ (f : Nat → Int32), elH (va_up a 11 f) i s n := fun f => by
    unfold elH; rw [va_up_ne _ _ (by decide)]; exact hel
  have outer : ∀ d kk f x3 x4 x5, d + kk = n → (∀ x y l, x < k → y < k → l < k → f ((x * 16 + y) * 16 + l) = nI (cp s kl re kk x y l)) → Z 10 [some (.inr (5, 0)), some (.inr (2, 0)), some (.inl (nI kk)), x3, x4, x5] [] (cW (va_up a 11 f) g i) := by
    intro d
    induction d with
    | zero =>
      intro kk f x3 x4 x5 hd hf
      have e : kk = n := by omega
      subst e
      refine z_iload_n hZ gCo_countPairs_10 rfl ?_
      refine z_aload_n hZ gCo_countPairs_11 rfl ?_
      refine z_get hZ gCo_countPairs_12 (by omega) rfl (by rw [hel.1]; rfl) ?_
      refine z_cmpge hZ gCo_countPairs_15 (fun c15 => ?_) (fun c15 => absurd (nI_le (Nat.le_refl kk) (by omega)) c15)
      refine z_vret hZ gCo_countPairs_98 ?_
      exact ⟨rfl, f, rfl, fun x y l hx hy hl => by rw [cp_all]; exact hf x y l hx hy hl⟩
    | succ d ih =>
      intro kk f x3 x4 x5 hd hf
      have hkk : kk < n := by omega
      have ek : (nI kk).toNatClampNeg = kk := nI_clamp (by omega)
      have hsG : s kk ∈ Gl s n := Gl_mem.mpr ⟨kk, hkk, rfl⟩
      have hbG := gg_i hG hsG
      have hkl := kc_lt hcl.1 hsG
      have inner : ∀ m l0 f x5, m + l0 = k → (∀ x y l, x < k → y < k → l < k → f ((x * 16 + y) * 16 + l) = nI (cp s kl re (if l < l0 then kk + 1 else kk) x y l)) → Z 31 [some (.inr (5, 0)), some (.inr (2, 0)), some (.inl (nI kk)), some (.inl (nI (piv (s kk)))), some (.inl (nI l0)), x5] [] (cW (va_up a 11 f) g i) := by
        intro m
        induction m with
        | zero =>
          intro l0 f x5 hm hf
          have e : l0 = k := by omega
          subst e
          refine z_iload hZ gCo_countPairs_31 rfl ?_
          refine z_aload_n hZ gCo_countPairs_33 rfl ?_
          refine z_get hZ gCo_countPairs_34 (by omega) rfl (by rw [hk]; rfl) ?_
          refine z_cmpge hZ gCo_countPairs_37 (fun c37 => ?_) (fun c37 => absurd (nI_le (Nat.le_refl l0) (by omega)) c37)
          refine z_iinc hZ gCo_countPairs_92 rfl _ (i1 kk) rfl ?_
          refine z_goto hZ gCo_countPairs_95 ?_
          exact ih (kk + 1) f _ _ _ (by omega) (fun x y l hx hy hl => by rw [hf x y l hx hy hl, if_pos hl])
        | succ m ihm =>
          intro l0 f x5 hm hf
          have hl0 : l0 < k := by omega
          have el : (nI l0).toNatClampNeg = l0 := nI_clamp (by omega)
          have hrG := kc_re hcl.1 hl0
          have hpG := gg_m hG hbG hrG
          have hky := kc_lt hcl.1 hpG
          have hcl2 : ∀ (r : Option sx_V), ((∃ j, j < n ∧ (va_up a 11 f) 3 j = nI (pm (piv (s kk)) (re l0)) ∧ r = some (.inl ((va_up a 11 f) 6 j))) ∨ (r = some (.inl (-1)) ∧ ¬ ∃ j, j < n ∧ (va_up a 11 f) 3 j = nI (pm (piv (s kk)) (re l0)))) → r = some (.inl (nI (kl (pm (piv (s kk)) (re l0))))) := fun r h => by
            rw [va_up_ne _ _ (by decide), va_up_ne _ _ (by decide)] at h
            obtain ⟨q, hq, eq⟩ := Gl_mem.mp hpG
            rcases h with ⟨j, hj, e1, e2⟩ | ⟨_, hno⟩
            · have e3 := (elH_eq hel (hlt _ hpG) hj).mp e1
              rw [e2, h6 j hj, e3]
            · exact absurd ⟨q, hq, by rw [hel.2.2.1 q hq, eq]⟩ hno
          generalize hye : kl (pm (piv (s kk)) (re l0)) = y0 at hky hcl2
          generalize hxe : kl (s kk) = x0 at hkl
          have hpl : (x0 * 16 + y0) * 16 + l0 < 4096 := by omega
          have ep : (nI ((x0 * 16 + y0) * 16 + l0)).toNatClampNeg = (x0 * 16 + y0) * 16 + l0 := nI_clamp (by omega)
          refine z_iload hZ gCo_countPairs_31 rfl ?_
          refine z_aload_n hZ gCo_countPairs_33 rfl ?_
          refine z_get hZ gCo_countPairs_34 (by omega) rfl (by rw [hk]; rfl) ?_
          refine z_cmpge hZ gCo_countPairs_37 (fun c37 => absurd c37 (nI_ge (by omega) (by omega))) (fun c37 => ?_)
          refine z_aload_n hZ gCo_countPairs_40 rfl ?_
          refine z_iload_n hZ gCo_countPairs_41 rfl ?_
          refine z_aload_n hZ gCo_countPairs_42 rfl ?_
          refine z_get hZ gCo_countPairs_43 (by omega) rfl rfl ?_
          refine z_iload hZ gCo_countPairs_46 rfl ?_
          refine z_iald hZ gCo_countPairs_48 (by omega) rfl (vp_in_nI (by omega) (by decide)) ?_
          rw [el, va_up_ne _ _ (by decide), h8 l0 hl0]
          refine z_cs hZ gCo_countPairs_49 rfl rfl (Nat.le_of_ble_eq_true rfl) (Nat.le_of_ble_eq_true rfl) (fun l D E B A hB => c_Cd_product l D E B A (hlt _ hbG) (hlt _ hrG) _) (fun r49 w49 p49 => ?_)
          obtain ⟨rfl, rfl⟩ := p49
          show Z (49 + 3) _ (.inl (nI (pm (piv (s kk)) (re l0))) :: .inr (5, 0) :: []) _
          refine z_aload_n hZ gCo_countPairs_52 rfl ?_
          refine z_cv hZ gCo_countPairs_53 rfl rfl (Nat.le_of_ble_eq_true rfl) (Nat.le_of_ble_eq_true rfl) ⟨⟨5, _, _, rfl, by decide, rfl⟩, fun l D E B A hB => c_Co_classHolding l D E B A hB (hel2 f) (nI (pm (piv (s kk)) (re l0)))⟩ (fun r53 w53 p53 => ?_)
          obtain ⟨h53, rfl⟩ := p53
          have hr := hcl2 _ h53
          subst hr
          show Z (53 + 3) _ (.inl (nI y0) :: []) _
          refine z_istore hZ gCo_countPairs_56 rfl ?_
          refine z_iload hZ gCo_countPairs_58 rfl ?_
          refine z_iconst hZ gCo_countPairs_60 _ im1 ?_
          refine z_cmpeq hZ gCo_countPairs_61 (fun c61 => absurd c61 (nI_m1 (by omega))) (fun c61 => ?_)
          refine z_aload_n hZ gCo_countPairs_64 rfl ?_
          refine z_get hZ gCo_countPairs_65 (by omega) rfl rfl ?_
          refine z_aload_n hZ gCo_countPairs_68 rfl ?_
          refine z_get hZ gCo_countPairs_69 (by omega) rfl rfl ?_
          refine z_iload_n hZ gCo_countPairs_72 rfl ?_
          refine z_iald hZ gCo_countPairs_73 (by omega) rfl (vp_in_nI (by omega) (by decide)) ?_
          rw [ek, va_up_ne _ _ (by decide), h6 kk hkk, hxe]
          refine z_iload hZ gCo_countPairs_74 rfl ?_
          refine z_iload hZ gCo_countPairs_76 rfl ?_
          refine z_cs hZ gCo_countPairs_78 rfl rfl (Nat.le_of_ble_eq_true rfl) (Nat.le_of_ble_eq_true rfl) (fun l D E B A hB => c_Co_pairPlace l D E B A x0 y0 l0 _) (fun r78 w78 p78 => ?_)
          obtain ⟨rfl, rfl⟩ := p78
          show Z (78 + 3) _ (.inl (nI ((x0 * 16 + y0) * 16 + l0)) :: .inr (11, 0) :: []) _
          refine z_dup2 hZ gCo_countPairs_81 ?_
          refine z_iald hZ gCo_countPairs_82 (by omega) rfl (vp_in_nI hpl (by decide)) ?_
          rw [ep, va_up_self, hf x0 y0 l0 hkl hky hl0, if_neg (Nat.lt_irrefl l0)]
          refine z_iconst hZ gCo_countPairs_83 _ rfl ?_
          refine z_iadd hZ gCo_countPairs_84 _ (i1 _) ?_
          refine z_iastW hZ gCo_countPairs_85 (by omega) rfl (vp_in_nI hpl (by decide)) cW_a11 ?_
          rw [ep, va_up_self, va_uu]
          refine z_iinc hZ gCo_countPairs_86 rfl _ (i1 l0) rfl ?_
          refine z_goto hZ gCo_countPairs_89 ?_
          refine ihm (l0 + 1) _ _ (by omega) (fun x y l hx hy hl => ?_)
          by_cases e9 : (x * 16 + y) * 16 + l = (x0 * 16 + y0) * 16 + l0
          · obtain ⟨rfl, rfl, rfl⟩ := place_inj (by omega) (by omega) (by omega) (by omega) e9
            rw [pk_us, if_pos (Nat.lt_succ_self l), cp_s, if_pos ⟨hxe, hye⟩]
          · rw [pk_un e9, hf x y l hx hy hl]
            by_cases h10 : l < l0
            · rw [if_pos h10, if_pos (by omega)]
            · rw [if_neg h10]
              by_cases h11 : l = l0
              · subst h11
                rw [if_pos (Nat.lt_succ_self l), cp_s, if_neg, Nat.add_zero]
                rintro ⟨e1, e2⟩
                rw [hxe] at e1
                rw [hye] at e2
                subst e1
                subst e2
                exact e9 rfl
              · rw [if_neg (by omega)]
      refine z_iload_n hZ gCo_countPairs_10 rfl ?_
      refine z_aload_n hZ gCo_countPairs_11 rfl ?_
      refine z_get hZ gCo_countPairs_12 (by omega) rfl (by rw [hel.1]; rfl) ?_
      refine z_cmpge hZ gCo_countPairs_15 (fun c15 => absurd c15 (nI_ge (by omega) (by omega))) (fun c15 => ?_)
      refine z_aload_n hZ gCo_countPairs_18 rfl ?_
      refine z_get hZ gCo_countPairs_19 (by omega) rfl rfl ?_
      refine z_iload_n hZ gCo_countPairs_22 rfl ?_
      refine z_iald hZ gCo_countPairs_23 (by omega) rfl (vp_in_nI (by omega) (by decide)) ?_
      rw [ek, va_up_ne _ _ (by decide), hel.2.2.1 kk hkk]
      refine z_cs hZ gCo_countPairs_24 rfl rfl (Nat.le_of_ble_eq_true rfl) (Nat.le_of_ble_eq_true rfl) (fun l D E B A hB => c_Cd_inverse l D E B A (hP _ hsG) _) (fun r24 w24 p24 => ?_)
      obtain ⟨rfl, rfl⟩ := p24
      show Z (24 + 3) _ (.inl (nI (piv (s kk))) :: []) _
      refine z_istore_n hZ gCo_countPairs_27 rfl ?_
      refine z_iconst hZ gCo_countPairs_28 _ i0 ?_
      refine z_istore hZ gCo_countPairs_29 rfl ?_
      exact inner k 0 f _ (by omega) (fun x y l hx hy hl => by rw [if_neg (Nat.not_lt_zero l)]; exact hf x y l hx hy hl)
  refine z_aload_n hZ gCo_countPairs_0 rfl ?_
  refine z_get hZ gCo_countPairs_1 (by omega) rfl rfl ?_
  refine z_iconst hZ gCo_countPairs_4 _ i0 ?_
  refine z_cs hZ gCo_countPairs_5 rfl rfl (Nat.le_of_ble_eq_true rfl) (Nat.le_of_ble_eq_true rfl) (fun l D E B A hB => c_Ar_fill l D E B A (n := 11) (N := 4096) (f := a 11) (by omega) (by decide) (nI 0) _ rfl) (fun r5 w5 p5 => ?_)
  obtain ⟨rfl, rfl⟩ := p5
  show Z (5 + 3) _ [] _
  rw [cW_a11]
  refine z_iconst hZ gCo_countPairs_8 _ i0 ?_
  refine z_istore_n hZ gCo_countPairs_9 rfl ?_
  exact outer n 0 _ _ _ _ (by omega) (fun x y l hx hy hl => if_pos (by omega))

