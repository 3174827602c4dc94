-- the search for a degree
def dgO (p ord sum d : Nat) : Prop := 1 ≤ d ∧ (d = 1 ∨ d ≤ (p - 1) / 2) ∧ (∀ j, 1 ≤ j → j < d → j * j % p * sum % p ≠ ord % p) ∧ (d < (p - 1) / 2 → d * d % p * sum % p = ord % p)

set_option maxHeartbeats 4000000 in
set_option maxRecDepth 100000 in
theorem c_Ro_degreeFor (l : Launch) (D : va_G) (E : sx_E) (B : Nat) (A : Nat → Prop) (hB : 29 ≤ B) {a : sA} {g : sG} {i : sA} {p ord sum : Nat} (hm : i 12 0 = nI p) (hp1 : 1 < p) (hp : p < 1092) (ho : ord ≤ 120) (hs : sum < p) : sM l D E B A yRo_degreeFor prog_7_method_4_code 6 (some .int) 2 43 [.inl (nI sum), .inl (nI ord), .inr (12, 0)] (cW a g i) (fun r w' => ∃ d : Nat, r = some (.inl (nI d)) ∧ dgO p ord sum d ∧ w' = cW a g i) := by
  refine sx_m0 (ls := lRo_degreeFor) (cs := csAll) (by decide +kernel) kRo_degreeFor (hRo_degreeFor l D E B A hB) (by simp) (fun w' h => (by obtain ⟨_, h, _⟩ := h; cases h)) ?_
  intro Z hZ
  have hp0 : 0 < p := by omega
  have hmost : (p - 1) / 2 < p := by omega
  have loop : ∀ n d, (p - 1) / 2 ≤ n + d → 1 ≤ d → (d = 1 ∨ d ≤ (p - 1) / 2) → (∀ j, 1 ≤ j → j < d → j * j % p * sum % p ≠ ord % p) → Z 19 [some (.inl (nI sum)), some (.inl (nI ord)), some (.inr (12, 0)), some (.inl (nI (ord % p))), some (.inl (nI ((p - 1) / 2))), some (.inl (nI d))] [] (cW a g i) := by
    intro n
    induction n with
    | zero =>
      intro d hn h1 h2 h3
      refine z_iload hZ gRo_degreeFor_19 rfl ?_
      refine z_iload hZ gRo_degreeFor_21 rfl ?_
      refine z_cmpge hZ gRo_degreeFor_23 (fun c23 => ?_) (fun c23 => absurd (nI_le (show (p - 1) / 2 ≤ d by omega) (by omega)) c23)
      refine z_iload hZ gRo_degreeFor_49 rfl ?_
      refine z_iret hZ gRo_degreeFor_51 ?_
      exact ⟨d, rfl, ⟨h1, h2, h3, fun h9 => absurd h9 (by omega)⟩, rfl⟩
    | succ n ih =>
      intro d hn h1 h2 h3
      by_cases hd : (p - 1) / 2 ≤ d
      · refine z_iload hZ gRo_degreeFor_19 rfl ?_
        refine z_iload hZ gRo_degreeFor_21 rfl ?_
        refine z_cmpge hZ gRo_degreeFor_23 (fun c23 => ?_) (fun c23 => absurd (nI_le hd (by omega)) c23)
        refine z_iload hZ gRo_degreeFor_49 rfl ?_
        refine z_iret hZ gRo_degreeFor_51 ?_
        exact ⟨d, rfl, ⟨h1, h2, h3, fun h9 => absurd h9 (by omega)⟩, rfl⟩
      · have hd2 : d < p := by omega
        have hml := Nat.mod_lt (d * d) hp0
        refine z_iload hZ gRo_degreeFor_19 rfl ?_
        refine z_iload hZ gRo_degreeFor_21 rfl ?_
        refine z_cmpge hZ gRo_degreeFor_23 (fun c23 => absurd c23 (nI_ge (by omega) (by omega))) (fun c23 => ?_)
        refine z_aload_n hZ gRo_degreeFor_26 rfl ?_
        refine z_aload_n hZ gRo_degreeFor_27 rfl ?_
        refine z_iload hZ gRo_degreeFor_28 rfl ?_
        refine z_iload hZ gRo_degreeFor_30 rfl ?_
        refine z_cv hZ gRo_degreeFor_32 rfl rfl (Nat.le_of_ble_eq_true rfl) (Nat.le_of_ble_eq_true rfl) ⟨⟨12, _, _, rfl, by decide, rfl⟩, fun l9 D E B A hB => c_Re_times l9 D E B A hB hm hp0 (pp92 hp) (x := d) (y := d) (bd1 hp hd2 hd2)⟩ (fun r32 w32 p32 => ?_)
        obtain ⟨rfl, rfl⟩ := p32
        show Z (32 + 3) _ (.inl (nI (d * d % p)) :: .inr (12, 0) :: []) _
        refine z_iload_n hZ gRo_degreeFor_35 rfl ?_
        refine z_cv hZ gRo_degreeFor_36 rfl rfl (Nat.le_of_ble_eq_true rfl) (Nat.le_of_ble_eq_true rfl) ⟨⟨12, _, _, rfl, by decide, rfl⟩, fun l9 D E B A hB => c_Re_times l9 D E B A hB hm hp0 (pp92 hp) (x := d * d % p) (y := sum) (bd1 hp hml hs)⟩ (fun r36 w36 p36 => ?_)
        obtain ⟨rfl, rfl⟩ := p36
        show Z (36 + 3) _ (.inl (nI (d * d % p * sum % p)) :: []) _
        have hm9 := Nat.mod_lt (d * d % p * sum) hp0
        have ho9 := Nat.mod_lt ord hp0
        refine z_iload_n hZ gRo_degreeFor_39 rfl ?_
        refine z_cmpeq hZ gRo_degreeFor_40 (fun c40 => ?_) (fun c40 => ?_)
        · have ct40 := c40
          have he := (nI_eq (by omega) (by omega)).mp ct40
          refine z_iload hZ gRo_degreeFor_49 rfl ?_
          refine z_iret hZ gRo_degreeFor_51 ?_
          exact ⟨d, rfl, ⟨h1, h2, h3, fun _ => he⟩, rfl⟩
        · have cf40 := c40
          have hne : d * d % p * sum % p ≠ ord % p := fun h9 => cf40 (by rw [h9])
          refine z_iinc hZ gRo_degreeFor_43 rfl _ (i1 d) rfl ?_
          refine z_goto hZ gRo_degreeFor_46 ?_
          refine ih (d + 1) (by omega) (by omega) (Or.inr (by omega)) (fun j hj1 hj2 => ?_)
          by_cases e : j = d
          · rw [e]; exact hne
          · exact h3 j hj1 (by omega)
  have hw : ((nI ord).toInt % (p : Int)).toNat = ord % p := by
    rw [nI_toInt (by omega)]
    omega
  refine z_aload_n hZ gRo_degreeFor_0 rfl ?_
  refine z_iload_n hZ gRo_degreeFor_1 rfl ?_
  refine z_cv hZ gRo_degreeFor_2 rfl rfl (Nat.le_of_ble_eq_true rfl) (Nat.le_of_ble_eq_true rfl) ⟨⟨12, _, _, rfl, by decide, rfl⟩, fun l9 D E B A hB => c_Re_reduce l9 D E B A hB hm hp0 (pp92 hp) (nI ord)⟩ (fun r2 w2 p2 => ?_)
  obtain ⟨rfl, rfl⟩ := p2
  rw [hw]
  show Z (2 + 3) _ (.inl (nI (ord % p)) :: []) _
  refine z_istore_n hZ gRo_degreeFor_5 rfl ?_
  refine z_aload_n hZ gRo_degreeFor_6 rfl ?_
  refine z_get hZ gRo_degreeFor_7 (by omega) rfl (by rw [hm]; rfl) ?_
  refine z_iconst hZ gRo_degreeFor_10 _ rfl ?_
  refine z_isub hZ gRo_degreeFor_11 _ (nI_sub1 hp0) ?_
  refine z_iconst hZ gRo_degreeFor_12 _ ic2 ?_
  refine z_idiv hZ gRo_degreeFor_13 (by decide) _ (pk_div (by omega) (by decide) (by decide)) ?_
  refine z_istore hZ gRo_degreeFor_14 rfl ?_
  refine z_iconst hZ gRo_degreeFor_16 _ ic1 ?_
  refine z_istore hZ gRo_degreeFor_17 rfl ?_
  exact loop ((p - 1) / 2) 1 (by omega) (Nat.le_refl 1) (Or.inl rfl) (fun j h1 h2 => by omega)

