-- a row is put into its place
theorem plW_a (a : sA) (g : sG) (i : sA) (f h : Nat → Int32) : cW (va_up (va_up a 27 f) 27 h) g i = cW (va_up a 27 h) g i := by rw [va_uu]

set_option maxHeartbeats 4000000 in
set_option maxRecDepth 100000 in
theorem c_Ro_insertPlace (l : Launch) (D : va_G) (E : sx_E) (B : Nat) (A : Nat → Prop) (hB : 29 ≤ B) {a : sA} {g : sG} {i : sA} {k r : Nat} {pl : Nat → Nat} (h22 : i 22 0 = nI k) (hk : k ≤ 16) (hr : r < 16) (hpl : ∀ j, j < r → a 27 j = nI (pl j) ∧ pl j < r) : sM l D E B A yRo_insertPlace prog_7_method_7_code 3 none 1 23 [.inr (22, 0), .inl (nI r)] (cW a g i) (fun r9 w' => r9 = none ∧ ∃ (t : Nat) (f : Nat → Int32), w' = cW (va_up a 27 f) g i ∧ t ≤ r ∧ (∀ j, j < t → f j = a 27 j) ∧ f t = nI r ∧ (∀ j, t ≤ j → j < r → f (j + 1) = a 27 j ∧ cbO (a 23) (g 24) k r (pl j)) ∧ (0 < t → ¬ cbO (a 23) (g 24) k r (pl (t - 1)))) := by
  refine sx_m0 (ls := lRo_insertPlace) (cs := csAll) (by decide +kernel) kRo_insertPlace (hRo_insertPlace l D E B A hB) (by simp) (fun x w' h => by cases h.1) ?_
  intro Z hZ
  have fin : ∀ t f, t ≤ r → (∀ j, j < t → f j = a 27 j) → (∀ j, t ≤ j → j < r → f (j + 1) = a 27 j ∧ cbO (a 23) (g 24) k r (pl j)) → (0 < t → ¬ cbO (a 23) (g 24) k r (pl (t - 1))) → Z 42 [some (.inr (22, 0)), some (.inl (nI r)), some (.inl (nI t))] [] (cW (va_up a 27 f) g i) := by
    intro t f ht h1 h2 h3
    have et : (nI t).toNatClampNeg = t := nI_clamp (by omega)
    refine z_aload_n hZ gRo_insertPlace_42 rfl ?_
    refine z_get hZ gRo_insertPlace_43 (by omega) rfl rfl ?_
    refine z_iload_n hZ gRo_insertPlace_46 rfl ?_
    refine z_iload_n hZ gRo_insertPlace_47 rfl ?_
    refine z_iastW hZ gRo_insertPlace_48 (by omega) rfl (vp_in_nI (by omega) (by decide)) cW_a27 ?_
    rw [et, va_up_self, plW_a]
    refine z_vret hZ gRo_insertPlace_49 ?_
    refine ⟨rfl, t, _, rfl, ht, fun j hj => ?_, pk_us, fun j hj1 hj2 => ?_, h3⟩
    · rw [pk_un (by omega)]; exact h1 j hj
    · rw [pk_un (by omega)]; exact h2 j hj1 hj2
  have loop : ∀ t f, t ≤ r → (∀ j, j < t → f j = a 27 j) → (∀ j, t ≤ j → j < r → f (j + 1) = a 27 j ∧ cbO (a 23) (g 24) k r (pl j)) → Z 2 [some (.inr (22, 0)), some (.inl (nI r)), some (.inl (nI t))] [] (cW (va_up a 27 f) g i) := by
    intro t
    induction t with
    | zero =>
      intro f ht h1 h2
      refine z_iload_n hZ gRo_insertPlace_2 rfl ?_
      refine z_ifle hZ gRo_insertPlace_3 (fun c3 => ?_) (fun c3 => absurd (show nI 0 ≤ 0 by decide) c3)
      exact fin 0 f ht h1 h2 (fun h9 => absurd h9 (Nat.lt_irrefl 0))
    | succ t ih =>
      intro f ht h1 h2
      have et : (nI t).toNatClampNeg = t := nI_clamp (by omega)
      have et1 : (nI (t + 1)).toNatClampNeg = t + 1 := nI_clamp (by omega)
      have e23 : va_up a 27 f 23 = a 23 := va_up_ne _ _ (by decide)
      have ft := h1 t (Nat.lt_succ_self t)
      obtain ⟨hp1, hp2⟩ := hpl t (by omega)
      have more : cbO (a 23) (g 24) k r (pl t) → Z 22 [some (.inr (22, 0)), some (.inl (nI r)), some (.inl (nI (t + 1)))] [] (cW (va_up a 27 f) g i) := by
        intro hc
        refine z_aload_n hZ gRo_insertPlace_22 rfl ?_
        refine z_get hZ gRo_insertPlace_23 (by omega) rfl rfl ?_
        refine z_iload_n hZ gRo_insertPlace_26 rfl ?_
        refine z_aload_n hZ gRo_insertPlace_27 rfl ?_
        refine z_get hZ gRo_insertPlace_28 (by omega) rfl rfl ?_
        refine z_iload_n hZ gRo_insertPlace_31 rfl ?_
        refine z_iconst hZ gRo_insertPlace_32 _ rfl ?_
        refine z_isub hZ gRo_insertPlace_33 _ (nI_sub1 (Nat.succ_pos t)) ?_
        rw [Nat.add_sub_cancel]
        refine z_iald hZ gRo_insertPlace_34 (by omega) rfl (vp_in_nI (by omega) (by decide)) ?_
        rw [et, va_up_self, ft]
        refine z_iastW hZ gRo_insertPlace_35 (by omega) rfl (vp_in_nI (by omega) (by decide)) cW_a27 ?_
        rw [et1, va_up_self, plW_a]
        refine z_iinc hZ gRo_insertPlace_36 rfl _ (nI_dec (Nat.succ_pos t)) rfl ?_
        refine z_goto hZ gRo_insertPlace_39 ?_
        rw [Nat.add_sub_cancel]
        refine ih _ (by omega) (fun j hj => ?_) (fun j hj1 hj2 => ?_)
        · rw [pk_un (by omega)]; exact h1 j (by omega)
        · by_cases e : j = t
          · subst e; exact ⟨pk_us, hc⟩
          · rw [pk_un (by omega)]; exact h2 j (by omega) hj2
      refine z_iload_n hZ gRo_insertPlace_2 rfl ?_
      refine z_ifle hZ gRo_insertPlace_3 (fun c3 => absurd c3 (nI_nle (by omega) (by omega))) (fun c3 => ?_)
      refine z_aload_n hZ gRo_insertPlace_6 rfl ?_
      refine z_iload_n hZ gRo_insertPlace_7 rfl ?_
      refine z_aload_n hZ gRo_insertPlace_8 rfl ?_
      refine z_get hZ gRo_insertPlace_9 (by omega) rfl rfl ?_
      refine z_iload_n hZ gRo_insertPlace_12 rfl ?_
      refine z_iconst hZ gRo_insertPlace_13 _ rfl ?_
      refine z_isub hZ gRo_insertPlace_14 _ (nI_sub1 (Nat.succ_pos t)) ?_
      rw [Nat.add_sub_cancel]
      refine z_iald hZ gRo_insertPlace_15 (by omega) rfl (vp_in_nI (by omega) (by decide)) ?_
      rw [et, va_up_self, ft, hp1]
      refine z_cv hZ gRo_insertPlace_16 rfl rfl (Nat.le_of_ble_eq_true rfl) (Nat.le_of_ble_eq_true rfl) ⟨⟨22, _, _, rfl, by decide, rfl⟩, fun l9 D E B A hB => c_Ro_comesBefore l9 D E B A hB (x := r) (y := pl t) h22 hk hr (by omega)⟩ (fun r16 w16 p16 => ?_)
      obtain ⟨h16, rfl⟩ := p16
      rw [e23] at h16
      rcases h16 with ⟨rfl, hc⟩ | ⟨rfl, hc⟩
      · show Z (16 + 3) _ (.inl 1 :: []) _
        refine z_ifeq hZ gRo_insertPlace_19 (fun c19 => absurd c19 (by decide)) (fun c19 => ?_)
        exact more hc
      · show Z (16 + 3) _ (.inl 0 :: []) _
        refine z_ifeq hZ gRo_insertPlace_19 (fun c19 => ?_) (fun c19 => absurd rfl c19)
        exact fin (t + 1) f ht h1 h2 (fun _ => hc)
  refine z_iload_n hZ gRo_insertPlace_0 rfl ?_
  refine z_istore_n hZ gRo_insertPlace_1 rfl ?_
  have h9 := loop r (a 27) (Nat.le_refl r) (fun _ _ => rfl) (fun j h1 h2 => by omega)
  rw [va_id a (k := 27) rfl] at h9
  exact h9

