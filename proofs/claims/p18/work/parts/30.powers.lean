-- powers of the least elements; the exponent
abbrev pw (x m : Nat) : Nat := gg_pw pm pid x m
def isE (re : Nat → Nat) (k e : Nat) : Prop := 0 < e ∧ (∀ c, c < k → pw (re c) e = pid) ∧ ∀ j, 0 < j → j < e → ∃ c, c < k ∧ pw (re c) j ≠ pid
abbrev lW (a : sA) (g : sG) (i : sA) (P : Nat → Nat → Int32) (cur : Nat → Int32) (ev : Int32) : sx_M := cW (va_up a 10 cur) (va_up g 9 P) (va_up i 5 (va_up (i 5) 6 ev))
theorem lW_g (a : sA) (g : sG) (i : sA) (P Q : Nat → Nat → Int32) (cur : Nat → Int32) (ev : Int32) : cW (va_up a 10 cur) (va_up (va_up g 9 P) 9 Q) (va_up i 5 (va_up (i 5) 6 ev)) = lW a g i Q cur ev := by rw [va_uu]
theorem lW_a (a : sA) (g : sG) (i : sA) (P : Nat → Nat → Int32) (cur cu2 : Nat → Int32) (ev : Int32) : cW (va_up (va_up a 10 cur) 10 cu2) (va_up g 9 P) (va_up i 5 (va_up (i 5) 6 ev)) = lW a g i P cu2 ev := by rw [va_uu]
theorem lW_i (a : sA) (g : sG) (i : sA) (P : Nat → Nat → Int32) (cur : Nat → Int32) (ev e2 : Int32) : cW (va_up a 10 cur) (va_up g 9 P) (va_up (va_up i 5 (va_up (i 5) 6 ev)) 5 (va_up ((va_up i 5 (va_up (i 5) 6 ev)) 5) 6 e2)) = lW a g i P cur e2 := by rw [va_up_self, va_uu, va_uu]

set_option maxHeartbeats 4000000 in
set_option maxRecDepth 100000 in
theorem c_Co_listPowers (l : Launch) (D : va_G) (E : sx_E) (B : Nat) (A : Nat → Prop) (hB : 29 ≤ B) {a : sA} {g : sG} {i : sA} {s kl re : Nat → Nat} {n k : Nat} (hel : elH a i s n) (hcl : clS s n k kl re) (hk16 : k ≤ 16) (hk : i 5 0 = nI k) (h6 : ∀ j, j < n → a 6 j = nI (kl (s j))) (h8 : ∀ l, l < k → a 8 l = nI (re l)) : sM l D E B A yCo_listPowers prog_4_method_5_code 5 none 3 68 [.inr (5, 0), .inr (2, 0)] (cW a g i) (fun r w' => r = none ∧ ∃ (P : Nat → Nat → Int32) (cur : Nat → Int32) (e : Nat), w' = lW a g i P cur (nI e) ∧ isE re k e ∧ e ≤ n ∧ ∀ c q, c < k → q < e → P c q = nI (kl (pw (re c) q))) := by
  refine sx_m0 (ls := lCo_listPowers) (cs := csAll) (by decide +kernel) kCo_listPowers (hCo_listPowers l D E B A hB) (by simp) (fun x w' h => by cases h.1) ?_
  intro Z hZ
  have hn := hel.2.1
  have hG := kc_g hcl.1
  have hreG : ∀ c, c < k → re c ∈ Gl s n := fun c hc => kc_re hcl.1 hc
  have hpG : ∀ c q, c < k → pw (re c) q ∈ Gl s n := fun c q hc => gg_pm hG (hreG c hc) q
  have hlt : ∀ x, x ∈ Gl s n → x < 8 ^ 8 := fun x hx => by
    obtain ⟨j, hj, rfl⟩ := Gl_mem.mp hx
    exact hel.2.2.2.2 j hj
  have hk0 : 0 < k := hcl.1.2.2.2.2.2
  have hlag : ∀ c, c < k → pw (re c) n = pid := fun c hc => by
    have h1 := gg_lag hG (hreG c hc)
    have h2 : (Gl s n).length = n := by simp [Gl]
    rw [h2] at h1
    exact h1
  have hn0 : 0 < n := by
    obtain ⟨j, hj, _⟩ := Gl_mem.mp (gg_1 hG)
    omega
  have hel2 : ∀ (cur : Nat → Int32) (ev : Int32), elH (va_up a 10 cur) (va_up i 5 (va_up (i 5) 6 ev)) s n := fun cur ev => by
    unfold elH; rw [va_up_ne _ _ (by decide), va_up_ne _ _ (by decide)]; exact hel
  have e50 : ∀ ev : Int32, (va_up i 5 (va_up (i 5) 6 ev)) 5 0 = nI k := fun ev => by rw [va_up_self, va_up_ne _ _ (by decide)]; exact hk
  have hcls : ∀ (x : Nat), x ∈ Gl s n → ∀ (cur : Nat → Int32) (r : Option sx_V), ((∃ j, j < n ∧ (va_up a 10 cur) 3 j = nI x ∧ r = some (.inl ((va_up a 10 cur) 6 j))) ∨ (r = some (.inl (-1)) ∧ ¬ ∃ j, j < n ∧ (va_up a 10 cur) 3 j = nI x)) → r = some (.inl (nI (kl x))) := fun x hx cur r h => by
    rw [va_up_ne _ _ (by decide), va_up_ne _ _ (by decide)] at h
    obtain ⟨q, hq, rfl⟩ := Gl_mem.mp hx
    rcases h with ⟨j, hj, e1, e2⟩ | ⟨_, hno⟩
    · have e3 := (elH_eq hel (hlt _ hx) hj).mp e1
      rw [e2, h6 j hj, e3]
    · exact absurd ⟨q, hq, hel.2.2.1 q hq⟩ hno
  have outer : ∀ d m P cur ev x4, d + m = n → 0 < d → (∀ c, c < k → cur c = nI (pw (re c) m)) → (∀ c q, c < k → q < m → P c q = nI (kl (pw (re c) q))) → (∀ j, 0 < j → j ≤ m → ∃ c, c < k ∧ pw (re c) j ≠ pid) → Z 13 [some (.inr (5, 0)), some (.inr (2, 0)), some (.inl 0), some (.inl (nI m)), x4] [] (lW a g i P cur ev) := by
    intro d
    induction d with
    | zero => intro m P cur ev x4 _ h9; omega
    | succ d ih =>
      intro m P cur ev x4 hd _ hcur hP hne
      have hm : m < n := by omega
      -- over the classes
      have inner : ∀ f c P cur (b : Bool), f + c = k → (∀ q, q < c → cur q = nI (pw (re q) (m + 1))) → (∀ q, c ≤ q → q < k → cur q = nI (pw (re q) m)) → (∀ q r, q < k → r < m → P q r = nI (kl (pw (re q) r))) → (∀ q, q < c → P q m = nI (kl (pw (re q) m))) → (b = true ↔ ∀ q, q < c → pw (re q) (m + 1) = pid) → Z 28 [some (.inr (5, 0)), some (.inr (2, 0)), some (.inl (if b = true then 1 else 0)), some (.inl (nI m)), some (.inl (nI c))] [] (lW a g i P cur ev) := by
        intro f
        induction f with
        | zero =>
          intro c P cur b hf h1 h2 h3 h4 hb
          have e : c = k := by omega
          subst e
          have hP' : ∀ q r, q < c → r < m + 1 → P q r = nI (kl (pw (re q) r)) := fun q r hq hr => by
            by_cases e : r = m
            · subst e; exact h4 q hq
            · exact h3 q r hq (by omega)
          refine z_iload hZ gCo_listPowers_28 rfl ?_
          refine z_aload_n hZ gCo_listPowers_30 rfl ?_
          refine z_get hZ gCo_listPowers_31 (by omega) rfl (by rw [e50]; rfl) ?_
          refine z_cmpge hZ gCo_listPowers_34 (fun c34 => ?_) (fun c34 => absurd (nI_le (Nat.le_refl c) (by omega)) c34)
          refine z_aload_n hZ gCo_listPowers_110 rfl ?_
          refine z_iload_n hZ gCo_listPowers_111 rfl ?_
          refine z_iconst hZ gCo_listPowers_112 _ rfl ?_
          refine z_iadd hZ gCo_listPowers_113 _ (i1 m) ?_
          refine z_putW hZ gCo_listPowers_114 (by omega) rfl (Or.inl (by decide)) (Nat.le_of_ble_eq_true rfl) cW_i5_6 ?_
          rw [lW_i]
          refine z_iinc hZ gCo_listPowers_117 rfl _ (i1 m) rfl ?_
          refine z_goto hZ gCo_listPowers_120 ?_
          cases b with
          | true =>
            have hall := hb.mp rfl
            refine z_iload_n hZ gCo_listPowers_13 rfl ?_
            refine z_ifne hZ gCo_listPowers_14 (fun c14 => ?_) (fun c14 => absurd c14 (by decide))
            refine z_vret hZ gCo_listPowers_123 ?_
            exact ⟨rfl, P, cur, m + 1, rfl, ⟨by omega, hall, fun j hj1 hj2 => hne j hj1 (by omega)⟩, by omega, hP'⟩
          | false =>
            have hex : ∃ q, q < c ∧ pw (re q) (m + 1) ≠ pid := Classical.byContradiction fun h9 => by
              have := hb.mpr fun q hq => Classical.byContradiction fun h10 => h9 ⟨q, hq, h10⟩
              cases this
            have hm1 : m + 1 < n := by
              refine Nat.lt_of_not_le fun h9 => ?_
              have e : m + 1 = n := by omega
              obtain ⟨q, hq, h10⟩ := hex
              rw [e] at h10
              exact h10 (hlag q hq)
            refine ih (m + 1) P cur _ _ (by omega) (by omega) h1 hP' (fun j hj1 hj2 => ?_)
            by_cases e : j = m + 1
            · subst e; exact hex
            · exact hne j hj1 (by omega)
        | succ f ihf =>
          intro c P cur b hf h1 h2 h3 h4 hb
          have hc : c < k := by omega
          have ec : (nI c).toNatClampNeg = c := nI_clamp (by omega)
          have em : (nI m).toNatClampNeg = m := nI_clamp (by omega)
          have hcc := h2 c (Nat.le_refl c) hc
          have hx := hpG c m hc
          have hx1 := hpG c (m + 1) hc
          have hpe : pm (pw (re c) m) (re c) = pw (re c) (m + 1) := rfl
          have hpp : pw (re c) (m + 1) < 2 ^ 31 := Nat.lt_trans (hlt _ hx1) (by decide)
          refine z_iload hZ gCo_listPowers_28 rfl ?_
          refine z_aload_n hZ gCo_listPowers_30 rfl ?_
          refine z_get hZ gCo_listPowers_31 (by omega) rfl (by rw [e50]; rfl) ?_
          refine z_cmpge hZ gCo_listPowers_34 (fun c34 => absurd c34 (nI_ge (by omega) (by omega))) (fun c34 => ?_)
          refine z_aload_n hZ gCo_listPowers_37 rfl ?_
          refine z_get hZ gCo_listPowers_38 (by omega) rfl rfl ?_
          refine z_iload hZ gCo_listPowers_41 rfl ?_
          refine z_aald hZ gCo_listPowers_43 (by omega) rfl (vp_in_nI (by omega) (by decide)) ?_
          rw [ec]
          refine z_iload_n hZ gCo_listPowers_44 rfl ?_
          refine z_aload_n hZ gCo_listPowers_45 rfl ?_
          refine z_aload_n hZ gCo_listPowers_46 rfl ?_
          refine z_get hZ gCo_listPowers_47 (by omega) rfl rfl ?_
          refine z_iload hZ gCo_listPowers_50 rfl ?_
          refine z_iald hZ gCo_listPowers_52 (by omega) rfl (vp_in_nI (by omega) (by decide)) ?_
          rw [ec, va_up_self, hcc]
          refine z_aload_n hZ gCo_listPowers_53 rfl ?_
          refine z_cv hZ gCo_listPowers_54 rfl rfl (Nat.le_of_ble_eq_true rfl) (Nat.le_of_ble_eq_true rfl) ⟨⟨5, _, _, rfl, by decide, rfl⟩, fun l D E B A hB => c_Co_classHolding l D E B A hB (hel2 cur ev) (nI (pw (re c) m))⟩ (fun r54 w54 p54 => ?_)
          obtain ⟨h54, rfl⟩ := p54
          have hr := hcls _ hx cur _ h54
          subst hr
          show Z (54 + 3) _ (.inl (nI (kl (pw (re c) m))) :: .inl (nI m) :: .inr (9, c + 1) :: []) _
          refine z_iasgW hZ gCo_listPowers_57 (by omega) rfl (by omega) (vp_in_nI (by omega) (by decide)) cW_g9 ?_
          rw [em, va_up_self, lW_g]
          refine z_aload_n hZ gCo_listPowers_58 rfl ?_
          refine z_get hZ gCo_listPowers_59 (by omega) rfl rfl ?_
          refine z_iload hZ gCo_listPowers_62 rfl ?_
          refine z_aload_n hZ gCo_listPowers_64 rfl ?_
          refine z_get hZ gCo_listPowers_65 (by omega) rfl rfl ?_
          refine z_iload hZ gCo_listPowers_68 rfl ?_
          refine z_iald hZ gCo_listPowers_70 (by omega) rfl (vp_in_nI (by omega) (by decide)) ?_
          rw [ec, va_up_self, hcc]
          refine z_aload_n hZ gCo_listPowers_71 rfl ?_
          refine z_get hZ gCo_listPowers_72 (by omega) rfl rfl ?_
          refine z_iload hZ gCo_listPowers_75 rfl ?_
          refine z_iald hZ gCo_listPowers_77 (by omega) rfl (vp_in_nI (by omega) (by decide)) ?_
          rw [ec, va_up_ne _ _ (by decide), h8 c hc]
          refine z_cs hZ gCo_listPowers_78 rfl rfl (Nat.le_of_ble_eq_true rfl) (Nat.le_of_ble_eq_true rfl) (fun l D E B A hB => c_Cd_product l D E B A (hlt _ hx) (hlt _ (hreG c hc)) _) (fun r78 w78 p78 => ?_)
          obtain ⟨rfl, rfl⟩ := p78
          show Z (78 + 3) _ (.inl (nI (pw (re c) (m + 1))) :: .inl (nI c) :: .inr (10, 0) :: []) _
          refine z_iastW hZ gCo_listPowers_81 (by omega) rfl (vp_in_nI (by omega) (by decide)) cW_a10 ?_
          rw [ec, va_up_self, lW_a]
          refine z_iload_n hZ gCo_listPowers_82 rfl ?_
          refine z_ifeq hZ gCo_listPowers_83 (fun c83 => ?_) (fun c83 => ?_)
          · have ct83 := c83
            have hbf : b = false := by
              cases b with
              | false => rfl
              | true => exact absurd ct83 (by decide)
            refine z_iconst hZ gCo_listPowers_102 _ rfl ?_
            refine z_istore_n hZ gCo_listPowers_103 rfl ?_
            refine z_iinc hZ gCo_listPowers_104 rfl _ (i1 c) rfl ?_
            refine z_goto hZ gCo_listPowers_107 ?_
            have hcur1 : ∀ q, q < c + 1 → upd cur c (nI (pw (re c) (m + 1))) q = nI (pw (re q) (m + 1)) := fun q hq => by
              by_cases e : q = c
              · subst e; rw [pk_us]
              · rw [pk_un e]; exact h1 q (by omega)
            have hcur2 : ∀ q, c + 1 ≤ q → q < k → upd cur c (nI (pw (re c) (m + 1))) q = nI (pw (re q) m) := fun q hq1 hq2 => by rw [pk_un (by omega)]; exact h2 q (by omega) hq2
            have hP1 : ∀ q r, q < k → r < m → va_up P c (upd (P c) m (nI (kl (pw (re c) m)))) q r = nI (kl (pw (re q) r)) := fun q r hq hr => by
              by_cases e : q = c
              · subst e; rw [va_up_self, pk_un (by omega)]; exact h3 q r hq hr
              · rw [va_up_ne _ _ e]; exact h3 q r hq hr
            have hP2 : ∀ q, q < c + 1 → va_up P c (upd (P c) m (nI (kl (pw (re c) m)))) q m = nI (kl (pw (re q) m)) := fun q hq => by
              by_cases e : q = c
              · subst e; rw [va_up_self, pk_us]
              · rw [va_up_ne _ _ e]; exact h4 q (by omega)
            first
              | (refine ihf (c + 1) _ _ true (by omega) hcur1 hcur2 hP1 hP2 ⟨fun _ q hq => ?_, fun _ => rfl⟩
                 by_cases e : q = c
                 · subst e; exact he1
                 · exact hb.mp hbt q (by omega))
              | (refine ihf (c + 1) _ _ false (by omega) hcur1 hcur2 hP1 hP2 ⟨fun h9 => (by cases h9), fun h9 => ?_⟩
                 first
                   | exact absurd (h9 c (by omega)) hne1
                   | (have h10 := hb.mpr fun q hq => h9 q (by omega)
                      rw [hbf] at h10
                      cases h10))
          · have cf83 := c83
            have hbt : b = true := by
              cases b with
              | true => rfl
              | false => exact absurd rfl cf83
            refine z_aload_n hZ gCo_listPowers_86 rfl ?_
            refine z_get hZ gCo_listPowers_87 (by omega) rfl rfl ?_
            refine z_iload hZ gCo_listPowers_90 rfl ?_
            refine z_iald hZ gCo_listPowers_92 (by omega) rfl (vp_in_nI (by omega) (by decide)) ?_
            rw [ec, va_up_self, pk_us]
            refine z_ldc hZ gCo_listPowers_93 ?_
            refine z_cmpne hZ gCo_listPowers_95 (fun c95 => ?_) (fun c95 => ?_)
            · have ct95 := c95
              have hne1 : pw (re c) (m + 1) ≠ pid := fun e9 => ct95 (by rw [e9]; rfl)
              refine z_iconst hZ gCo_listPowers_102 _ rfl ?_
              refine z_istore_n hZ gCo_listPowers_103 rfl ?_
              refine z_iinc hZ gCo_listPowers_104 rfl _ (i1 c) rfl ?_
              refine z_goto hZ gCo_listPowers_107 ?_
              have hcur1 : ∀ q, q < c + 1 → upd cur c (nI (pw (re c) (m + 1))) q = nI (pw (re q) (m + 1)) := fun q hq => by
                by_cases e : q = c
                · subst e; rw [pk_us]
                · rw [pk_un e]; exact h1 q (by omega)
              have hcur2 : ∀ q, c + 1 ≤ q → q < k → upd cur c (nI (pw (re c) (m + 1))) q = nI (pw (re q) m) := fun q hq1 hq2 => by rw [pk_un (by omega)]; exact h2 q (by omega) hq2
              have hP1 : ∀ q r, q < k → r < m → va_up P c (upd (P c) m (nI (kl (pw (re c) m)))) q r = nI (kl (pw (re q) r)) := fun q r hq hr => by
                by_cases e : q = c
                · subst e; rw [va_up_self, pk_un (by omega)]; exact h3 q r hq hr
                · rw [va_up_ne _ _ e]; exact h3 q r hq hr
              have hP2 : ∀ q, q < c + 1 → va_up P c (upd (P c) m (nI (kl (pw (re c) m)))) q m = nI (kl (pw (re q) m)) := fun q hq => by
                by_cases e : q = c
                · subst e; rw [va_up_self, pk_us]
                · rw [va_up_ne _ _ e]; exact h4 q (by omega)
              first
                | (refine ihf (c + 1) _ _ true (by omega) hcur1 hcur2 hP1 hP2 ⟨fun _ q hq => ?_, fun _ => rfl⟩
                   by_cases e : q = c
                   · subst e; exact he1
                   · exact hb.mp hbt q (by omega))
                | (refine ihf (c + 1) _ _ false (by omega) hcur1 hcur2 hP1 hP2 ⟨fun h9 => (by cases h9), fun h9 => ?_⟩
                   first
                     | exact absurd (h9 c (by omega)) hne1
                     | (have h10 := hb.mpr fun q hq => h9 q (by omega)
                        rw [hbf] at h10
                        cases h10))
            · have cf95 := c95
              have he1 : pw (re c) (m + 1) = pid := (nI_eq hpp (by decide)).mp cf95
              refine z_iconst hZ gCo_listPowers_98 _ rfl ?_
              refine z_goto hZ gCo_listPowers_99 ?_
              refine z_istore_n hZ gCo_listPowers_103 rfl ?_
              refine z_iinc hZ gCo_listPowers_104 rfl _ (i1 c) rfl ?_
              refine z_goto hZ gCo_listPowers_107 ?_
              have hcur1 : ∀ q, q < c + 1 → upd cur c (nI (pw (re c) (m + 1))) q = nI (pw (re q) (m + 1)) := fun q hq => by
                by_cases e : q = c
                · subst e; rw [pk_us]
                · rw [pk_un e]; exact h1 q (by omega)
              have hcur2 : ∀ q, c + 1 ≤ q → q < k → upd cur c (nI (pw (re c) (m + 1))) q = nI (pw (re q) m) := fun q hq1 hq2 => by rw [pk_un (by omega)]; exact h2 q (by omega) hq2
              have hP1 : ∀ q r, q < k → r < m → va_up P c (upd (P c) m (nI (kl (pw (re c) m)))) q r = nI (kl (pw (re q) r)) := fun q r hq hr => by
                by_cases e : q = c
                · subst e; rw [va_up_self, pk_un (by omega)]; exact h3 q r hq hr
                · rw [va_up_ne _ _ e]; exact h3 q r hq hr
              have hP2 : ∀ q, q < c + 1 → va_up P c (upd (P c) m (nI (kl (pw (re c) m)))) q m = nI (kl (pw (re q) m)) := fun q hq => by
                by_cases e : q = c
                · subst e; rw [va_up_self, pk_us]
                · rw [va_up_ne _ _ e]; exact h4 q (by omega)
              first
                | (refine ihf (c + 1) _ _ true (by omega) hcur1 hcur2 hP1 hP2 ⟨fun _ q hq => ?_, fun _ => rfl⟩
                   by_cases e : q = c
                   · subst e; exact he1
                   · exact hb.mp hbt q (by omega))
                | (refine ihf (c + 1) _ _ false (by omega) hcur1 hcur2 hP1 hP2 ⟨fun h9 => (by cases h9), fun h9 => ?_⟩
                   first
                     | exact absurd (h9 c (by omega)) hne1
                     | (have h10 := hb.mpr fun q hq => h9 q (by omega)
                        rw [hbf] at h10
                        cases h10))
      refine z_iload_n hZ gCo_listPowers_13 rfl ?_
      refine z_ifne hZ gCo_listPowers_14 (fun c14 => absurd rfl c14) (fun c14 => ?_)
      refine z_iload_n hZ gCo_listPowers_17 rfl ?_
      refine z_bipush hZ gCo_listPowers_18 _ i120 ?_
      refine z_cmpge hZ gCo_listPowers_20 (fun c20 => absurd c20 (nI_ge (by omega) (by decide))) (fun c20 => ?_)
      refine z_iconst hZ gCo_listPowers_23 _ rfl ?_
      refine z_istore_n hZ gCo_listPowers_24 rfl ?_
      refine z_iconst hZ gCo_listPowers_25 _ i0 ?_
      refine z_istore hZ gCo_listPowers_26 rfl ?_
      exact inner k 0 P cur true (by omega) (fun q hq => absurd hq (Nat.not_lt_zero q)) (fun q _ hq => hcur q hq) hP (fun q hq => absurd hq (Nat.not_lt_zero q)) ⟨fun _ q hq => absurd hq (Nat.not_lt_zero q), fun _ => rfl⟩
  refine z_aload_n hZ gCo_listPowers_0 rfl ?_
  refine z_get hZ gCo_listPowers_1 (by omega) rfl rfl ?_
  refine z_ldc hZ gCo_listPowers_4 ?_
  refine z_cs hZ gCo_listPowers_6 rfl rfl (Nat.le_of_ble_eq_true rfl) (Nat.le_of_ble_eq_true rfl) (fun l D E B A hB => c_Ar_fill l D E B A (n := 10) (N := 16) (f := a 10) (by omega) (by decide) (nI 342391) _ rfl) (fun r6 w6 p6 => ?_)
  obtain ⟨rfl, rfl⟩ := p6
  show Z (6 + 3) _ [] _
  rw [cW_a10]
  refine z_iconst hZ gCo_listPowers_9 _ rfl ?_
  refine z_istore_n hZ gCo_listPowers_10 rfl ?_
  refine z_iconst hZ gCo_listPowers_11 _ i0 ?_
  refine z_istore_n hZ gCo_listPowers_12 rfl ?_
  have h9 := outer n 0 (g 9) (fl (nI 342391) 16 (a 10)) (i 5 6) none (by omega) hn0 (fun c hc => if_pos (by omega)) (fun c q _ hq => absurd hq (Nat.not_lt_zero q)) (fun j h1 h2 => absurd h1 (by omega))
  have e1 : lW a g i (g 9) (fl (nI 342391) 16 (a 10)) (i 5 6) = cW (va_up a 10 (fl (nI 342391) 16 (a 10))) g i := by
    show cW _ _ _ = cW _ _ _
    rw [va_id g (k := 9) rfl, va_id (i 5) (k := 6) rfl, va_id i (k := 5) rfl]
  rw [e1] at h9
  exact h9

