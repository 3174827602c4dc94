-- the system is solved
def obv : Option Nat → Int32
  | some r => nI r
  | none => -1
abbrev vW (a : sA) (g : sG) (i : sA) (b : Nat → Int32) (Q : Nat → Nat → Int32) : sx_M := cW (va_up a 21 b) (va_up g 20 Q) i
theorem vW_a (a : sA) (g : sG) (i : sA) (b c : Nat → Int32) : cW (va_up (va_up a 21 b) 21 c) g i = cW (va_up a 21 c) g i := by rw [va_uu]

set_option maxHeartbeats 4000000 in
set_option maxRecDepth 100000 in
theorem c_Cm_solve (l : Launch) (D : va_G) (E : sx_E) (B : Nat) (A : Nat → Prop) (hB : 29 ≤ B) {a : sA} {g : sG} {i : sA} {p d : Nat} {Q : Nat → Nat → Int32} {S : Nat → Nat → Nat} (hm : i 12 0 = nI p) (hpr : isPr p) (hp : p < 1092) (hd : d ≤ 16) (hS : gM p d Q S) : sM l D E B A yCm_solve prog_2_method_7_code 6 none 2 57 [.inr (13, 0), .inl (nI d), .inr (12, 0)] (sW a g i Q) (fun r w' => r = none ∧ ∃ (b : Nat → Int32) (R : Nat → Nat → Int32) (S' : Nat → Nat → Nat) (sb : Nat → Option Nat), w' = vW a g i b R ∧ gM p d R S' ∧ rr p d (fun r c => (S r c : Int)) (fun r c => (S' r c : Int)) sb ∧ ∀ c, c < d → b c = obv (sb c)) := by
  refine sx_m0 (ls := lCm_solve) (cs := csAll) (by decide +kernel) kCm_solve (hCm_solve l D E B A hB) (by simp) (fun x w' h => by cases h.1) ?_
  intro Z hZ
  have hp1 : 1 < p := hpr.1
  have loop : ∀ n col s S' sb b Q x5, n + col = d → rrI p d S S' sb s col → gM p d Q S' → (∀ c, c < col → b c = obv (sb c)) → Z 5 [some (.inr (13, 0)), some (.inl (nI d)), some (.inr (12, 0)), some (.inl (nI s)), some (.inl (nI col)), x5] [] (vW a g i b Q) := by
    intro n
    induction n with
    | zero =>
      intro col s S' sb b Q x5 hn hI hQ hb
      have e : col = d := by omega
      subst e
      refine z_iload hZ gCm_solve_5 rfl ?_
      refine z_iload_n hZ gCm_solve_7 rfl ?_
      refine z_cmpge hZ gCm_solve_8 (fun c8 => ?_) (fun c8 => absurd (nI_le (Nat.le_refl col) (by omega)) c8)
      refine z_vret hZ gCm_solve_87 ?_
      exact ⟨rfl, b, Q, S', sb, rfl, hQ, rrI_rr hI, hb⟩
    | succ n ih =>
      intro col s S' sb b Q x5 hn hI hQ hb
      have hcol : col < d := by omega
      have hsc : s ≤ col := hI.le
      have ecol : (nI col).toNatClampNeg = col := nI_clamp (by omega)
      have next : ∀ s S' sb b Q x5, rrI p d S S' sb s (col + 1) → gM p d Q S' → (∀ c, c < col + 1 → b c = obv (sb c)) → Z 81 [some (.inr (13, 0)), some (.inl (nI d)), some (.inr (12, 0)), some (.inl (nI s)), some (.inl (nI col)), x5] [] (vW a g i b Q) := by
        intro s S' sb b Q x5 hI hQ hb
        refine z_iinc hZ gCm_solve_81 rfl _ (i1 col) rfl ?_
        refine z_goto hZ gCm_solve_84 ?_
        exact ih (col + 1) s S' sb b Q _ (by omega) hI hQ hb
      have hbU : ∀ v w, w = obv v → ∀ b', (∀ c, c < col → b' c = b c) → ∀ c, c < col + 1 → upd b' col w c = obv (obU sb col v c) := fun v w hw b' hb' c hc => by
        by_cases e : c = col
        · subst e; rw [pk_us, obU_s, hw]
        · rw [pk_un e, obU_n _ _ e, hb' c (by omega)]; exact hb c (by omega)
      have after : ∀ ch, s ≤ ch → ch ≤ d → (∀ r, s ≤ r → r < ch → S' r col = 0) → (ch < d → S' ch col ≠ 0) → Z 39 [some (.inr (13, 0)), some (.inl (nI d)), some (.inr (12, 0)), some (.inl (nI s)), some (.inl (nI col)), some (.inl (nI ch))] [] (vW a g i b Q) := by
        intro ch hs1 hs2 hz hnz
        by_cases e : ch = d
        · subst e
          refine z_aload_n hZ gCm_solve_39 rfl ?_
          refine z_get hZ gCm_solve_40 (by omega) rfl rfl ?_
          refine z_iload hZ gCm_solve_43 rfl ?_
          refine z_iconst hZ gCm_solve_45 _ im1 ?_
          refine z_iastW hZ gCm_solve_46 (by omega) rfl (vp_in_nI (by omega) (by decide)) cW_a21 ?_
          rw [ecol, va_up_self, vW_a]
          refine z_iload hZ gCm_solve_47 rfl ?_
          refine z_iload_n hZ gCm_solve_49 rfl ?_
          refine z_cmpge hZ gCm_solve_50 (fun c50 => ?_) (fun c50 => absurd (nI_le (Nat.le_refl ch) (by omega)) c50)
          exact next s S' (obU sb col none) _ Q _ (rrI_none hI (fun r h1 h2 => hz r h1 h2)) hQ (hbU none (-1) rfl b (fun _ _ => rfl))
        · have hch : ch < d := by omega
          have hsd : s < d := by omega
          have hI1 := rrI_swp hI hs1 hch
          have hsr : swp S' ch s s = S' ch := by
            unfold swp
            by_cases e9 : s = ch
            · rw [if_pos e9, e9]
            · rw [if_neg e9, if_pos rfl]
          refine z_aload_n hZ gCm_solve_39 rfl ?_
          refine z_get hZ gCm_solve_40 (by omega) rfl rfl ?_
          refine z_iload hZ gCm_solve_43 rfl ?_
          refine z_iconst hZ gCm_solve_45 _ im1 ?_
          refine z_iastW hZ gCm_solve_46 (by omega) rfl (vp_in_nI (by omega) (by decide)) cW_a21 ?_
          rw [ecol, va_up_self, vW_a]
          refine z_iload hZ gCm_solve_47 rfl ?_
          refine z_iload_n hZ gCm_solve_49 rfl ?_
          refine z_cmpge hZ gCm_solve_50 (fun c50 => absurd c50 (nI_ge (by omega) (by omega))) (fun c50 => ?_)
          refine z_aload_n hZ gCm_solve_53 rfl ?_
          refine z_iload hZ gCm_solve_54 rfl ?_
          refine z_iload_n hZ gCm_solve_56 rfl ?_
          refine z_iload_n hZ gCm_solve_57 rfl ?_
          refine z_cv hZ gCm_solve_58 rfl rfl (Nat.le_of_ble_eq_true rfl) (Nat.le_of_ble_eq_true rfl) ⟨⟨13, _, _, rfl, by decide, rfl⟩, fun l D E B A hB => c_Cm_swapRows l D E B A hB (p := p) hd hch hsd hQ⟩ (fun r58 w58 p58 => ?_)
          obtain ⟨rfl, R, rfl, hR⟩ := p58
          show Z (58 + 3) _ [] _
          refine z_aload_n hZ gCm_solve_61 rfl ?_
          refine z_iload hZ gCm_solve_62 rfl ?_
          refine z_iload_n hZ gCm_solve_64 rfl ?_
          refine z_iload_n hZ gCm_solve_65 rfl ?_
          refine z_aload_n hZ gCm_solve_66 rfl ?_
          refine z_cv hZ gCm_solve_67 rfl rfl (Nat.le_of_ble_eq_true rfl) (Nat.le_of_ble_eq_true rfl) ⟨⟨13, _, _, rfl, by decide, rfl⟩, fun l D E B A hB => c_Cm_clearColumn l D E B A hB hm hpr hp hd hcol hsd hR (by rw [hsr]; exact hnz hch) (fun c hc => hI1.low s c (Nat.le_refl s) hsd hc)⟩ (fun r67 w67 p67 => ?_)
          obtain ⟨rfl, v, R2, rfl, hv, hvi, hR2⟩ := p67
          show Z (67 + 3) _ [] _
          refine z_aload_n hZ gCm_solve_70 rfl ?_
          refine z_get hZ gCm_solve_71 (by omega) rfl rfl ?_
          refine z_iload hZ gCm_solve_74 rfl ?_
          refine z_iload_n hZ gCm_solve_76 rfl ?_
          refine z_iastW hZ gCm_solve_77 (by omega) rfl (vp_in_nI (by omega) (by decide)) cW_a21 ?_
          rw [ecol, va_up_self, vW_a]
          refine z_iinc hZ gCm_solve_78 rfl _ (i1 s) rfl ?_
          exact next (s + 1) _ (obU sb col (some s)) _ R2 _ (rrI_some hp1 hI1 hsd hcol hvi) hR2 (hbU (some s) (nI s) rfl _ (fun c hc => pk_un (Nat.ne_of_lt hc)))
      have find : ∀ m ch, m + ch = d → s ≤ ch → (∀ r, s ≤ r → r < ch → S' r col = 0) → Z 14 [some (.inr (13, 0)), some (.inl (nI d)), some (.inr (12, 0)), some (.inl (nI s)), some (.inl (nI col)), some (.inl (nI ch))] [] (vW a g i b Q) := by
        intro m
        induction m with
        | zero =>
          intro ch hm0 hs1 hz
          have e : ch = d := by omega
          subst e
          refine z_iload hZ gCm_solve_14 rfl ?_
          refine z_iload_n hZ gCm_solve_16 rfl ?_
          refine z_cmpge hZ gCm_solve_17 (fun c17 => ?_) (fun c17 => absurd (nI_le (Nat.le_refl ch) (by omega)) c17)
          exact after ch hs1 (Nat.le_refl ch) hz (fun h9 => absurd h9 (Nat.lt_irrefl ch))
        | succ m ihm =>
          intro ch hm0 hs1 hz
          have hch : ch < d := by omega
          have ech : (nI ch).toNatClampNeg = ch := nI_clamp (by omega)
          have hq := hQ ch col hch hcol
          refine z_iload hZ gCm_solve_14 rfl ?_
          refine z_iload_n hZ gCm_solve_16 rfl ?_
          refine z_cmpge hZ gCm_solve_17 (fun c17 => absurd c17 (nI_ge (by omega) (by omega))) (fun c17 => ?_)
          refine z_aload_n hZ gCm_solve_20 rfl ?_
          refine z_get hZ gCm_solve_21 (by omega) rfl rfl ?_
          refine z_iload hZ gCm_solve_24 rfl ?_
          refine z_aald hZ gCm_solve_26 (by omega) rfl (vp_in_nI (by omega) (by decide)) ?_
          rw [ech]
          refine z_iload hZ gCm_solve_27 rfl ?_
          refine z_ialg hZ gCm_solve_29 (by omega) rfl (by omega) (vp_in_nI (by omega) (by decide)) ?_
          rw [ecol, va_up_self, hq.1]
          refine z_ifne hZ gCm_solve_30 (fun c30 => ?_) (fun c30 => ?_)
          · have ct30 := c30
            have hne : S' ch col ≠ 0 := fun h9 => ct30 (by rw [h9]; rfl)
            exact after ch hs1 (by omega) hz (fun _ => hne)
          · have cf30 := c30
            have he0 : S' ch col = 0 := (nI_eq (by omega) (by decide)).mp cf30
            refine z_iinc hZ gCm_solve_33 rfl _ (i1 ch) rfl ?_
            refine z_goto hZ gCm_solve_36 ?_
            refine ihm (ch + 1) (by omega) (by omega) (fun r h1 h2 => ?_)
            by_cases e : r = ch
            · rw [e]; exact he0
            · exact hz r h1 (by omega)
      refine z_iload hZ gCm_solve_5 rfl ?_
      refine z_iload_n hZ gCm_solve_7 rfl ?_
      refine z_cmpge hZ gCm_solve_8 (fun c8 => absurd c8 (nI_ge (by omega) (by omega))) (fun c8 => ?_)
      refine z_iload_n hZ gCm_solve_11 rfl ?_
      refine z_istore hZ gCm_solve_12 rfl ?_
      exact find (d - s) s (by omega) (Nat.le_refl s) (fun r h1 h2 => by omega)
  refine z_iconst hZ gCm_solve_0 _ i0 ?_
  refine z_istore_n hZ gCm_solve_1 rfl ?_
  refine z_iconst hZ gCm_solve_2 _ i0 ?_
  refine z_istore hZ gCm_solve_3 rfl ?_
  have h9 := loop d 0 0 S (fun _ => none) (a 21) Q none (by omega) (rrI_0 (fun r c hr hc => (hS r c hr hc).2)) hS (fun c hc => absurd hc (Nat.not_lt_zero c))
  have e1 : vW a g i (a 21) Q = sW a g i Q := by
    show cW _ _ _ = cW _ _ _
    rw [va_id a (k := 21) rfl]
  rw [e1] at h9
  exact h9

