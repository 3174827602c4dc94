-- CentralMaps.find
theorem gM_cg {p d : Nat} {Q R : Nat → Nat → Int32} {S : Nat → Nat → Nat} (h : gM p d Q S) (e : R = Q) : gM p d R S := e ▸ h
theorem i1s (m : Nat) : nI m + Int32.ofInt 1 = nI (m + 1) := i1 m

set_option maxHeartbeats 4000000 in
set_option maxRecDepth 100000 in
theorem c_Cm_find (l : Launch) (D : va_G) (E : sx_E) (B : Nat) (A : Nat → Prop) (hB : 29 ≤ B) {a : sA} {g : sG} {i i1 : sA} {p k : Nat} {Am : Nat → Nat → Nat → Nat} (hm : i 12 0 = nI p) (hpr : isPr p) (hp : p < 1092) (h50 : i 5 0 = nI k) (hk1 : 1 ≤ k) (hk : k ≤ 16) (hi1 : i1 = va_up i 13 (va_up (i 13) 0 (nI k))) (hA : ∀ x y l, x < k → y < k → l < k → a 11 ((x * 16 + y) * 16 + l) = nI (Am x y l) ∧ Am x y l ≤ 120) (hone : ∀ x l, x < k → l < k → Am x 0 l = if l = x then 1 else 0) (hid : ∀ q l, q < k → l < k → Am 0 q l = if l = q then 1 else 0) (hT : ∀ x, x < k → ∀ v : Nat → Int, vq p k (fa_it (Tm Am k x) p v) (Tm Am k x v)) (hcom : ∀ (y z : Nat) (v : Nat → Int), y < k → z < k → vq p k (Tm Am k y (Tm Am k z v)) (Tm Am k z (Tm Am k y v))) : sM l D E B A yCm_find prog_2_method_2_code 5 none 4 109 [.inr (13, 0), .inr (5, 0), .inr (12, 0)] (cW a g i) (fun r w' => r = none ∧ ∃ (a' : sA) (g' : sG) (W : Nat → Nat → Nat), w' = cW a' g' i1 ∧ frA [15, 16, 18, 21] a a' ∧ frG [14, 17, 19, 20] g g' ∧ gM p k (g' 14) W ∧ cmO p k Am W) := by
  refine sx_m0 (ls := lCm_find) (cs := csAll) (by decide +kernel) kCm_find (hCm_find l D E B A hB) (by simp) (fun x w' h => by cases h.1) ?_
  intro Z hZ
  have hk0 : 0 < k := hk1
  have h13 : i1 13 0 = nI k := by rw [hi1, va_up_self, va_up_self]
  have hm1 : i1 12 0 = nI p := by rw [hi1, va_up_ne _ _ (by decide)]; exact hm
  have outer : ∀ n x (bs : Nat → Nat → Nat) (pv : Nat → Nat) (a' : sA) (g' : sG) (ds : List Nat) x4, n + x = k → 1 ≤ x → frA [15, 16, 18, 21] a a' → frG [14, 17, 19, 20] g g' → gM p k (g' 14) bs → (∀ c, c < k → a' 15 c = nI (pv c) ∧ pv c < k) → (∀ v, sp p k k (bV bs) v) → cov (blO p k Am bs pv x) (a' 16) 0 ds k → Z 14 [some (.inr (13, 0)), some (.inr (5, 0)), some (.inr (12, 0)), some (.inl (nI x)), x4] [] (cW a' g' i1) := by
    intro n
    induction n with
    | zero =>
      intro x bs pv a' g' ds x4 hn hx1 hfa hfg hb hpv hsp hcov
      have e : x = k := by omega
      subst e
      have hall := cov_1 (fun f d h => blO_one hpr hk0 hone h) ds hcov
      have hbl : ∀ r, r < x → blO p x Am bs pv x r 1 := fun r hr => hall r (Nat.zero_le r) hr
      refine z_iload_n hZ gCm_find_14 rfl ?_
      refine z_aload_n hZ gCm_find_15 rfl ?_
      refine z_get hZ gCm_find_16 (by omega) rfl (by rw [h13]; rfl) ?_
      refine z_cmpge hZ gCm_find_19 (fun c19 => ?_) (fun c19 => absurd (nI_le (Nat.le_refl x) (by omega)) c19)
      refine z_aload_n hZ gCm_find_99 rfl ?_
      refine z_aload_n hZ gCm_find_100 rfl ?_
      refine z_cv hZ gCm_find_101 rfl rfl (Nat.le_of_ble_eq_true rfl) (Nat.le_of_ble_eq_true rfl) ⟨⟨13, _, _, rfl, by decide, rfl⟩, fun l9 D E B A hB => c_Cm_scale l9 D E B A hB hm1 hpr hp h13 hk hb (fun j hj h9 => by have h10 := blO_nz hpr.1 hk0 hone (hbl j hj) (j := 0) (by omega); rw [Nat.add_zero, h9] at h10; exact h10 (Int.dvd_zero _))⟩ (fun r101 w101 p101 => ?_)
      obtain ⟨rfl, v, M, rfl, hv, hM⟩ := p101
      show Z (101 + 3) _ [] _
      refine z_vret hZ gCm_find_104 ?_
      exact ⟨rfl, a', va_up g' 14 M, _, rfl, hfa, frG_up hfg (by decide), by rw [va_up_self]; exact hM, cm_sc hpr hk0 hone hbl hsp hv⟩
    | succ n ih =>
      intro x bs pv a' g' ds x4 hn hx1 hfa hfg hb hpv hsp hcov
      have hxk : x < k := by omega
      have ex : (nI x).toNatClampNeg = x := nI_clamp (by omega)
      have inner : ∀ m fr (bs : Nat → Nat → Nat) (pv : Nat → Nat) (a' : sA) (g' : sG) (ds1 ds2 : List Nat), k ≤ m + fr → frA [15, 16, 18, 21] a a' → frG [14, 17, 19, 20] g g' → gM p k (g' 14) bs → (∀ c, c < k → a' 15 c = nI (pv c) ∧ pv c < k) → (∀ v, sp p k k (bV bs) v) → cov (blO p k Am bs pv (x + 1)) (a' 16) 0 ds1 fr → cov (blO p k Am bs pv x) (a' 16) fr ds2 k → Z 25 [some (.inr (13, 0)), some (.inr (5, 0)), some (.inr (12, 0)), some (.inl (nI x)), some (.inl (nI fr))] [] (cW a' g' i1) := by
        intro m
        induction m with
        | zero =>
          intro fr bs pv a' g' ds1 ds2 hmk hfa hfg hb hpv hsp hc1 hc2
          have hle := cov_le ds2 hc2
          have e : fr = k := by omega
          subst e
          refine z_iload hZ gCm_find_25 rfl ?_
          refine z_aload_n hZ gCm_find_27 rfl ?_
          refine z_get hZ gCm_find_28 (by omega) rfl (by rw [h13]; rfl) ?_
          refine z_cmpge hZ gCm_find_31 (fun c31 => ?_) (fun c31 => absurd (nI_le (Nat.le_refl fr) (by omega)) c31)
          refine z_iinc hZ gCm_find_93 rfl _ (i1s x) rfl ?_
          refine z_goto hZ gCm_find_96 ?_
          exact ih (x + 1) bs pv a' g' ds1 _ (by omega) (by omega) hfa hfg hb hpv hsp hc1
        | succ m ihm =>
          intro fr bs pv a' g' ds1 ds2 hmk hfa hfg hb hpv hsp hc1 hc2
          have hle := cov_le ds2 hc2
          by_cases e : fr = k
          · subst e
            refine z_iload hZ gCm_find_25 rfl ?_
            refine z_aload_n hZ gCm_find_27 rfl ?_
            refine z_get hZ gCm_find_28 (by omega) rfl (by rw [h13]; rfl) ?_
            refine z_cmpge hZ gCm_find_31 (fun c31 => ?_) (fun c31 => absurd (nI_le (Nat.le_refl fr) (by omega)) c31)
            refine z_iinc hZ gCm_find_93 rfl _ (i1s x) rfl ?_
            refine z_goto hZ gCm_find_96 ?_
            exact ih (x + 1) bs pv a' g' ds1 _ (by omega) (by omega) hfa hfg hb hpv hsp hc1
          · have hfk : fr < k := by omega
            have efr : (nI fr).toNatClampNeg = fr := nI_clamp (by omega)
            cases ds2 with
            | nil => exact absurd hc2 e
            | cons d rest =>
              obtain ⟨hh, hbl, hrest⟩ := hc2
              have hdk := cov_le rest hrest
              have hd0 : 0 < d := hbl.1
              by_cases e1 : d = 1
              · subst e1
                have hnew := blO_1 hbl hxk
                refine z_iload hZ gCm_find_25 rfl ?_
                refine z_aload_n hZ gCm_find_27 rfl ?_
                refine z_get hZ gCm_find_28 (by omega) rfl (by rw [h13]; rfl) ?_
                refine z_cmpge hZ gCm_find_31 (fun c31 => absurd c31 (nI_ge (by omega) (by omega))) (fun c31 => ?_)
                refine z_aload_n hZ gCm_find_34 rfl ?_
                refine z_get hZ gCm_find_35 (by omega) rfl rfl ?_
                refine z_iload hZ gCm_find_38 rfl ?_
                refine z_iald hZ gCm_find_40 (by omega) rfl (vp_in_nI (by omega) (by decide)) ?_
                rw [efr, hh]
                refine z_iload hZ gCm_find_41 rfl ?_
                refine z_iconst hZ gCm_find_43 _ rfl ?_
                refine z_iadd hZ gCm_find_44 _ (i1s fr) ?_
                refine z_cmple hZ gCm_find_45 (fun c45 => ?_) (fun c45 => absurd (nI_le (Nat.le_refl (fr + 1)) (by omega)) c45)
                refine z_aload_n hZ gCm_find_74 rfl ?_
                refine z_get hZ gCm_find_75 (by omega) rfl rfl ?_
                refine z_iload hZ gCm_find_78 rfl ?_
                refine z_iald hZ gCm_find_80 (by omega) rfl (vp_in_nI (by omega) (by decide)) ?_
                rw [efr, hh]
                refine z_iload hZ gCm_find_81 rfl ?_
                refine z_iconst hZ gCm_find_83 _ rfl ?_
                refine z_iadd hZ gCm_find_84 _ (i1s fr) ?_
                refine z_cs hZ gCm_find_85 rfl rfl (Nat.le_of_ble_eq_true rfl) (Nat.le_of_ble_eq_true rfl) (fun l9 D E B A hB => c_Ma_max l9 D E B A (nI (fr + 1)) (nI (fr + 1)) _) (fun r85 w85 p85 => ?_)
                obtain ⟨rfl, rfl⟩ := p85
                rw [mx_r (Nat.le_refl (fr + 1)) (by omega)]
                show Z (85 + 3) _ (.inl (nI (fr + 1)) :: []) _
                refine z_istore hZ gCm_find_88 rfl ?_
                refine z_goto hZ gCm_find_90 ?_
                exact ihm (fr + 1) bs pv a' g' (ds1 ++ [1]) rest (by omega) hfa hfg hb hpv hsp (cov_app ds1 hc1 ⟨hh, hnew, rfl⟩) hrest
              · have hd1 : 1 < d := by omega
                have hA' : ∀ y l, y < k → l < k → a' 11 ((x * 16 + y) * 16 + l) = nI (Am x y l) ∧ Am x y l ≤ 120 := fun y l hy hl => by rw [hfa 11 (by decide)]; exact hA x y l hxk hy hl
                refine z_iload hZ gCm_find_25 rfl ?_
                refine z_aload_n hZ gCm_find_27 rfl ?_
                refine z_get hZ gCm_find_28 (by omega) rfl (by rw [h13]; rfl) ?_
                refine z_cmpge hZ gCm_find_31 (fun c31 => absurd c31 (nI_ge (by omega) (by omega))) (fun c31 => ?_)
                refine z_aload_n hZ gCm_find_34 rfl ?_
                refine z_get hZ gCm_find_35 (by omega) rfl rfl ?_
                refine z_iload hZ gCm_find_38 rfl ?_
                refine z_iald hZ gCm_find_40 (by omega) rfl (vp_in_nI (by omega) (by decide)) ?_
                rw [efr, hh]
                refine z_iload hZ gCm_find_41 rfl ?_
                refine z_iconst hZ gCm_find_43 _ rfl ?_
                refine z_iadd hZ gCm_find_44 _ (i1s fr) ?_
                refine z_cmple hZ gCm_find_45 (fun c45 => absurd c45 (nI_ge (by omega) (by omega))) (fun c45 => ?_)
                refine z_aload_n hZ gCm_find_48 rfl ?_
                refine z_iload_n hZ gCm_find_49 rfl ?_
                refine z_iload hZ gCm_find_50 rfl ?_
                refine z_aload_n hZ gCm_find_52 rfl ?_
                refine z_aload_n hZ gCm_find_53 rfl ?_
                refine z_cv hZ gCm_find_54 rfl rfl (Nat.le_of_ble_eq_true rfl) (Nat.le_of_ble_eq_true rfl) ⟨⟨13, _, _, rfl, by decide, rfl⟩, fun l9 D E B A hB => c_Cm_setAction l9 D E B A hB (d := d) (ps := Am x) (pv := pv) (bs := bs) hm1 hpr hp h13 hk (by omega) hdk hd0 hh hb hpv hA'⟩ (fun r54 w54 p54 => ?_)
                obtain ⟨rfl, M, rfl, hM⟩ := p54
                show Z (54 + 3) _ [] _
                refine z_aload_n hZ gCm_find_57 rfl ?_
                refine z_iload hZ gCm_find_58 rfl ?_
                refine z_aload_n hZ gCm_find_60 rfl ?_
                refine z_get hZ gCm_find_61 (by omega) rfl rfl ?_
                refine z_iload hZ gCm_find_64 rfl ?_
                refine z_iald hZ gCm_find_66 (by omega) rfl (vp_in_nI (by omega) (by decide)) ?_
                rw [efr, hh]
                refine z_iload hZ gCm_find_67 rfl ?_
                refine z_isub hZ gCm_find_69 _ (pk_sub (Nat.le_add_right fr d)) ?_
                rw [Nat.add_sub_cancel_left]
                refine z_aload_n hZ gCm_find_70 rfl ?_
                refine z_cv hZ gCm_find_71 rfl rfl (Nat.le_of_ble_eq_true rfl) (Nat.le_of_ble_eq_true rfl) ⟨⟨13, _, _, rfl, by decide, rfl⟩, fun l9 D E B A hB => c_Cm_split l9 D E B A hB (d := d) (fr := fr) (A0 := acM p k (Am x) pv bs fr) (bs := bs) hm1 hpr hp h13 hk hdk (gM_cg hb (va_up_ne _ _ (by decide))) (gM_cg hM (va_up_self _ _ _)) (ac_full hbl.2.1 hbl.2.2.1 hxk (hT x hxk))⟩ (fun r71 w71 p71 => ?_)
                obtain ⟨rfl, a2, g2, num, X, ev, fs, bs', rfl, hfa2, hfg2, hnp, hsI, hb', hbo, hbn, hpo, hpn, hen⟩ := p71
                show Z (71 + 3) _ [] _
                have hbb : ∀ t l, t < d → l < k → bs' (fr + t) l < p ∧ (p : Int) ∣ (bs' (fr + t) l : Int) - ph bs fr d (X t) l := fun t l ht hl => ⟨(hb' (fr + t) l (by omega) hl).2, hbn t l ht hl⟩
                let pv' : Nat → Nat := fun c => if fr ≤ c ∧ c < fr + d then pv (fr + fs (c - fr)) else pv c
                have hpi : ∀ t, t < d → pv' (fr + t) = pv (fr + fs t) := fun t ht => by
                  show (if fr ≤ fr + t ∧ fr + t < fr + d then pv (fr + fs (fr + t - fr)) else pv (fr + t)) = _
                  rw [if_pos (by omega), Nat.add_sub_cancel_left]
                have hpe : ∀ c, c < fr ∨ fr + d ≤ c → pv' c = pv c := fun c hc => if_neg (by omega)
                obtain ⟨runs, hruns⟩ := cov_runs (Q := blO p k Am bs' pv' (x + 1)) hen (blO_new hpr hbl hxk hnp hsI hbb hpi hcom) d 0 (by omega) (Or.inl rfl)
                have hruns : cov (blO p k Am bs' pv' (x + 1)) (a2 16) fr runs (fr + d) := hruns
                cases runs with
                | nil => exact absurd (show fr = fr + d from hruns) (by omega)
                | cons e1 rs =>
                obtain ⟨hh2, hbl2, hrs⟩ := hruns
                have he1 : 0 < e1 := hbl2.1
                have hle2 := cov_le rs hrs
                refine z_aload_n hZ gCm_find_74 rfl ?_
                refine z_get hZ gCm_find_75 (by omega) rfl rfl ?_
                refine z_iload hZ gCm_find_78 rfl ?_
                refine z_iald hZ gCm_find_80 (by omega) rfl (vp_in_nI (by omega) (by decide)) ?_
                rw [efr, hh2]
                refine z_iload hZ gCm_find_81 rfl ?_
                refine z_iconst hZ gCm_find_83 _ rfl ?_
                refine z_iadd hZ gCm_find_84 _ (i1s fr) ?_
                refine z_cs hZ gCm_find_85 rfl rfl (Nat.le_of_ble_eq_true rfl) (Nat.le_of_ble_eq_true rfl) (fun l9 D E B A hB => c_Ma_max l9 D E B A (nI (fr + e1)) (nI (fr + 1)) _) (fun r85 w85 p85 => ?_)
                obtain ⟨rfl, rfl⟩ := p85
                rw [mx_r (by omega) (by omega)]
                show Z (85 + 3) _ (.inl (nI (fr + e1)) :: []) _
                refine z_istore hZ gCm_find_88 rfl ?_
                refine z_goto hZ gCm_find_90 ?_
                have hP0 : ∀ X0 f d, blO p k Am bs pv X0 f d → 0 < d := fun _ _ _ h => h.1
                have hP1 : ∀ X0 f d, blO p k Am bs' pv' X0 f d → 0 < d := fun _ _ _ h => h.1
                refine ihm (fr + e1) bs' pv' a2 g2 (ds1 ++ [e1]) (rs ++ rest) (by omega) (fun y hy => ?_) (fun y hy => ?_) hb' (fun c hc => ?_) (sp_tr (fun j hj => ?_) hsp) (cov_app ds1 ?_ ⟨hh2, hbl2, rfl⟩) (cov_app (m := fr + d) rs ?_ ?_)
                · rw [hfa2 y hy]; exact hfa y hy
                · rw [hfg2 y (by simp at hy ⊢; omega), va_up_ne _ _ (by simp at hy; omega)]; exact hfg y hy
                · by_cases h9 : c < fr ∨ fr + d ≤ c
                  · rw [(hpo c h9).1, hpe c h9]; exact hpv c hc
                  · have e9 := hpn (c - fr) (by omega)
                    have e10 := hpi (c - fr) (by omega)
                    rw [show fr + (c - fr) = c by omega] at e9 e10
                    rw [e9, e10]
                    exact hpv _ (by have := (hsI.1 (c - fr) (by omega)).2.1; omega)
                · by_cases h9 : j < fr ∨ fr + d ≤ j
                  · have e9 : bV bs j = bV bs' j := by
                      funext l
                      show (bs j l : Int) = (bs' j l : Int)
                      rw [hbo j h9]
                    rw [e9]; exact sp_self (X := bV bs') hj
                  · obtain ⟨c, hc⟩ := sl_sp hpr hbl.2.1 hbl.2.2.1 hxk hsI hbb (j := j - fr) (by omega)
                    rw [show fr + (j - fr) = j by omega] at hc
                    exact sp_part (b := bV bs') hdk hc
                · refine cov_mono (hP0 (x + 1)) ds1 hc1 (fun f d9 _ hf h => blO_cg h (fun r h1 h2 => ⟨hbo r (by omega), hpe r (by omega)⟩)) (fun f _ hf => (hpo f (by omega)).2)
                · exact cov_mono (hP1 (x + 1)) rs hrs (fun f d9 _ _ h => blO_le h (Nat.le_succ x)) (fun f _ _ => rfl)
                · exact cov_mono (hP0 x) rest hrest (fun f d9 h1 _ h => blO_cg h (fun r h2 h3 => ⟨hbo r (by omega), hpe r (by omega)⟩)) (fun f h1 _ => (hpo f (by omega)).2)
      refine z_iload_n hZ gCm_find_14 rfl ?_
      refine z_aload_n hZ gCm_find_15 rfl ?_
      refine z_get hZ gCm_find_16 (by omega) rfl (by rw [h13]; rfl) ?_
      refine z_cmpge hZ gCm_find_19 (fun c19 => absurd c19 (nI_ge (by omega) (by omega))) (fun c19 => ?_)
      refine z_iconst hZ gCm_find_22 _ i0 ?_
      refine z_istore hZ gCm_find_23 rfl ?_
      exact inner k 0 bs pv a' g' [] ds (by omega) hfa hfg hb hpv hsp rfl hcov
  refine z_aload_n hZ gCm_find_0 rfl ?_
  refine z_aload_n hZ gCm_find_1 rfl ?_
  refine z_get hZ gCm_find_2 (by omega) rfl (by rw [h50]; rfl) ?_
  refine z_putW hZ gCm_find_5 (by omega) rfl (Or.inl (by decide)) (Nat.le_of_ble_eq_true rfl) cW_i13_0 ?_
  rw [← hi1]
  refine z_aload_n hZ gCm_find_8 rfl ?_
  refine z_cv hZ gCm_find_9 rfl rfl (Nat.le_of_ble_eq_true rfl) (Nat.le_of_ble_eq_true rfl) ⟨⟨13, _, _, rfl, by decide, rfl⟩, fun l9 D E B A hB => c_Cm_startWhole l9 D E B A hB h13 hk⟩ (fun r9 w9 p9 => ?_)
  obtain ⟨rfl, f, h, M, rfl, hs⟩ := p9
  show Z (9 + 3) _ [] _
  refine z_iconst hZ gCm_find_12 _ ic1 ?_
  refine z_istore_n hZ gCm_find_13 rfl ?_
  refine outer (k - 1) 1 e1M (fun c => c) _ _ [k] _ (by omega) (Nat.le_refl 1) (frA_up (frA_up (fun _ _ => rfl) (by decide)) (by decide)) (frG_up (fun _ _ => rfl) (by decide)) (fun r c hr hc => ?_) (fun c hc => ?_) e_sp ⟨?_, blO_e hk0 hid, Nat.zero_add k⟩
  · rw [va_up_self]
    refine ⟨(hs r hr).2.2 c (by omega), ?_⟩
    have := hpr.1
    show (if r = c then 1 else 0) < p
    split <;> omega
  · rw [va_up_ne _ _ (by decide), va_up_self]; exact ⟨(hs c hc).1, hc⟩
  · rw [va_up_self, (hs 0 hk0).2.1, if_pos rfl, Nat.zero_add]

