-- rows of grids: their length, filled, copied
section ZG
variable {B : Nat} {cs : Nat → sx_S} {Rt : Option sx_V → sx_M → Prop} {F : sx_F} {Z : sx_K} {pc : Nat} {L : List (Option sx_V)} {r : List sx_V} {w : sx_M} {h : Nat × Nat}
theorem z_aleg (hZ : sx_Cl B cs Rt F Z) (hF : F pc = some (.arraylength, h)) {n N K j : Nat} {f : Nat → Nat → Int32} (hn : n < B) (hw : w n = .inr (.inl (N, K, f))) (hj : j < N) (k : Z (pc + 1) L (.inl (nI K) :: r) w) : Z pc L (.inr (n, j + 1) :: r) w := z_of hZ hF (by show sx_al B w (n, j + 1) (fun v => Z (pc + 1) L (.inl v :: r) w); simp only [sx_al, hw]; exact ⟨hn, hj, k⟩)
end ZG
theorem cpy0 {f g : Nat → Int32} {n k : Nat} : va_cpy f g 0 0 n k = if k < n then f k else g k := by
  by_cases h : k < n
  · rw [pk_cpy_in (Nat.zero_le k) (by omega), if_pos h, Nat.zero_add, Nat.sub_zero]
  · rw [pk_cpy_out (Or.inr (by omega)), if_neg h]
theorem rd_sub {x b p : Nat} (hx : x < 2 ^ 30) (hb : b ≤ p) (hp : p < 2 ^ 30) : ((nI x - nI b).toInt % (p : Int)).toNat = (x + (p - b)) % p := by
  rw [pk_sub_toInt hx (by omega)]
  have h1 : ((x + (p - b) : Nat) : Int) = (x : Int) - b + p := by rw [Int.natCast_add, Int.natCast_sub hb]; omega
  have h2 : (((x + (p - b)) % p : Nat) : Int) = ((x : Int) - b) % p := by
    rw [Int.natCast_emod, h1, Int.add_emod_right]
  omega
def ssM (A : Nat → Nat → Nat) (p num : Nat) : Nat → Nat → Nat := fun t j => if t = j then (A t t + (p - num)) % p else A t j

set_option maxHeartbeats 4000000 in
set_option maxRecDepth 100000 in
theorem c_Ar_fillg (l : Launch) (D : va_G) (E : sx_E) (B : Nat) (A : Nat → Prop) {n N K j : Nat} {f : Nat → Nat → Int32} (hn : n < B) (hK : K < 2 ^ 31) (hj : j < N) (v : Int32) (w : sx_M) (hw : w n = .inr (.inl (N, K, f))) : sM l D E B A yAr_fill prog_12_method_103_code 4 none 0 0 [.inr (n, j + 1), .inl v] w (fun r w' => r = none ∧ w' = va_up w n (.inr (.inl (N, K, va_up f j (fl v K (f j)))))) := by
  refine sx_m0 (ls := lAr_fill) (cs := noCalls) (by decide +kernel) kAr_fill (fun pc i h1 h2 => sx_nc (ls := lAr_fill) (by decide) pc i h1 h2) (by simp) (fun x w' h => by cases h.1) ?_
  intro Z hZ
  have loop : ∀ m q, m + q = K → Z 5 [some (.inr (n, j + 1)), some (.inl v), some (.inl (nI q)), some (.inl (nI K))] [] (va_up w n (.inr (.inl (N, K, va_up f j (fl v q (f j)))))) := by
    intro m
    induction m with
    | zero =>
      intro q hq
      have e : q = K := by omega
      subst e
      refine z_iload_n hZ gAr_fill_5 rfl ?_
      refine z_iload_n hZ gAr_fill_6 rfl ?_
      refine z_cmpge hZ gAr_fill_7 (fun c7 => ?_) (fun c7 => absurd (nI_le (Nat.le_refl q) hK) c7)
      refine z_vret hZ gAr_fill_20 ?_
      exact ⟨rfl, rfl⟩
    | succ m ih =>
      intro q hq
      refine z_iload_n hZ gAr_fill_5 rfl ?_
      refine z_iload_n hZ gAr_fill_6 rfl ?_
      refine z_cmpge hZ gAr_fill_7 (fun c7 => absurd c7 (nI_ge (by omega) hK)) (fun c7 => ?_)
      refine z_aload_n hZ gAr_fill_10 rfl ?_
      refine z_iload_n hZ gAr_fill_11 rfl ?_
      refine z_iload_n hZ gAr_fill_12 rfl ?_
      refine z_iasg hZ gAr_fill_13 hn (va_up_self _ _ _) hj (vp_in_nI (by omega) hK) ?_
      rw [nI_clamp (by omega), va_up_self, fl_s, va_uu, va_uu]
      refine z_iinc hZ gAr_fill_14 rfl _ (i1 q) rfl ?_
      refine z_goto hZ gAr_fill_17 ?_
      exact ih (q + 1) (by omega)
  refine z_iconst hZ gAr_fill_0 _ rfl ?_
  refine z_istore_n hZ gAr_fill_1 rfl ?_
  refine z_aload_n hZ gAr_fill_2 rfl ?_
  refine z_aleg hZ gAr_fill_3 hn hw hj ?_
  refine z_istore_n hZ gAr_fill_4 rfl ?_
  have h9 := loop K 0 rfl
  rw [fl_0, va_id f rfl, va_id w hw] at h9
  exact h9

set_option maxHeartbeats 4000000 in
set_option maxRecDepth 100000 in
theorem c_Cm_setSystem (l : Launch) (D : va_G) (E : sx_E) (B : Nat) (A : Nat → Prop) (hB : 29 ≤ B) {a : sA} {g : sG} {i : sA} {p d num : Nat} {Q : Nat → Nat → Int32} {A0 : Nat → Nat → Nat} (hm : i 12 0 = nI p) (hpr : isPr p) (hp : p < 1092) (hd : d ≤ 16) (hnum : num ≤ p) (hS : gM p d (g 19) A0) : sM l D E B A yCm_setSystem prog_2_method_6_code 5 none 2 43 [.inr (13, 0), .inl (nI num), .inl (nI d), .inr (12, 0)] (sW a g i Q) (fun r w' => r = none ∧ ∃ R : Nat → Nat → Int32, w' = sW a g i R ∧ gM p d R (ssM A0 p num)) := by
  refine sx_m0 (ls := lCm_setSystem) (cs := csAll) (by decide +kernel) kCm_setSystem (hCm_setSystem l D E B A hB) (by simp) (fun x w' h => by cases h.1) ?_
  intro Z hZ
  have hp1 : 1 < p := hpr.1
  have hp0 : 0 < p := by omega
  have hlt : ∀ r c, r < d → c < d → ssM A0 p num r c < p := fun r c hr hc => by
    unfold ssM
    by_cases e : r = c
    · rw [if_pos e]; exact Nat.mod_lt _ hp0
    · rw [if_neg e]; exact (hS r c hr hc).2
  have loop : ∀ n t Q, n + t = d → (∀ r c, r < t → c < d → Q r c = nI (ssM A0 p num r c)) → Z 3 [some (.inr (13, 0)), some (.inl (nI num)), some (.inl (nI d)), some (.inr (12, 0)), some (.inl (nI t))] [] (sW a g i Q) := by
    intro n
    induction n with
    | zero =>
      intro t Q hn hQ
      have e : t = d := by omega
      subst e
      refine z_iload hZ gCm_setSystem_3 rfl ?_
      refine z_iload_n hZ gCm_setSystem_5 rfl ?_
      refine z_cmpge hZ gCm_setSystem_6 (fun c6 => ?_) (fun c6 => absurd (nI_le (Nat.le_refl t) (by omega)) c6)
      refine z_vret hZ gCm_setSystem_61 ?_
      exact ⟨rfl, Q, rfl, fun r c hr hc => ⟨hQ r c hr hc, hlt r c hr hc⟩⟩
    | succ n ih =>
      intro t Q hn hQ
      have ht : t < d := by omega
      have et : (nI t).toNatClampNeg = t := nI_clamp (by omega)
      have hat := hS t t ht ht
      have hrd := rd_sub (x := A0 t t) (b := num) (p := p) (by omega) hnum (by omega)
      refine z_iload hZ gCm_setSystem_3 rfl ?_
      refine z_iload_n hZ gCm_setSystem_5 rfl ?_
      refine z_cmpge hZ gCm_setSystem_6 (fun c6 => absurd c6 (nI_ge (by omega) (by omega))) (fun c6 => ?_)
      refine z_aload_n hZ gCm_setSystem_9 rfl ?_
      refine z_get hZ gCm_setSystem_10 (by omega) rfl rfl ?_
      refine z_iload hZ gCm_setSystem_13 rfl ?_
      refine z_aald hZ gCm_setSystem_15 (by omega) rfl (vp_in_nI (by omega) (by decide)) ?_
      rw [et]
      refine z_iconst hZ gCm_setSystem_16 _ i0 ?_
      refine z_aload_n hZ gCm_setSystem_17 rfl ?_
      refine z_get hZ gCm_setSystem_18 (by omega) rfl rfl ?_
      refine z_iload hZ gCm_setSystem_21 rfl ?_
      refine z_aald hZ gCm_setSystem_23 (by omega) rfl (vp_in_nI (by omega) (by decide)) ?_
      rw [et]
      refine z_iconst hZ gCm_setSystem_24 _ i0 ?_
      refine z_iload_n hZ gCm_setSystem_25 rfl ?_
      refine z_cs hZ gCm_setSystem_26 rfl rfl (Nat.le_of_ble_eq_true rfl) (Nat.le_of_ble_eq_true rfl) ⟨19, t, 20, t, 16, 16, 16, 16, 0, 0, d, g 19, Q, rfl, by decide, by decide, rfl, rfl, by omega, by omega, by omega, by omega, by decide, by decide, rfl⟩ (fun r26 w26 p26 => ?_)
      obtain ⟨rfl, rfl⟩ := p26
      rw [cW_g20, sW_g]
      show Z (26 + 3) _ [] _
      refine z_aload_n hZ gCm_setSystem_29 rfl ?_
      refine z_get hZ gCm_setSystem_30 (by omega) rfl rfl ?_
      refine z_iload hZ gCm_setSystem_33 rfl ?_
      refine z_aald hZ gCm_setSystem_35 (by omega) rfl (vp_in_nI (by omega) (by decide)) ?_
      rw [et]
      refine z_iload hZ gCm_setSystem_36 rfl ?_
      refine z_aload_n hZ gCm_setSystem_38 rfl ?_
      refine z_aload_n hZ gCm_setSystem_39 rfl ?_
      refine z_get hZ gCm_setSystem_40 (by omega) rfl rfl ?_
      refine z_iload hZ gCm_setSystem_43 rfl ?_
      refine z_aald hZ gCm_setSystem_45 (by omega) rfl (vp_in_nI (by omega) (by decide)) ?_
      rw [et]
      refine z_iload hZ gCm_setSystem_46 rfl ?_
      refine z_ialg hZ gCm_setSystem_48 (by omega) rfl (by omega) (vp_in_nI (by omega) (by decide)) ?_
      rw [et, va_up_self, va_up_self, cpy0, if_pos ht, hat.1]
      refine z_iload_n hZ gCm_setSystem_49 rfl ?_
      refine z_isub hZ gCm_setSystem_50 _ rfl ?_
      refine z_cv hZ gCm_setSystem_51 rfl rfl (Nat.le_of_ble_eq_true rfl) (Nat.le_of_ble_eq_true rfl) ⟨⟨12, _, _, rfl, by decide, rfl⟩, fun l D E B A hB => c_Re_reduce l D E B A hB hm hp0 (pp92 hp) (nI (A0 t t) - nI num)⟩ (fun r51 w51 p51 => ?_)
      obtain ⟨rfl, rfl⟩ := p51
      rw [hrd]
      show Z (51 + 3) _ (.inl (nI ((A0 t t + (p - num)) % p)) :: .inl (nI t) :: .inr (20, t + 1) :: []) _
      refine z_iasgW hZ gCm_setSystem_54 (by omega) rfl (by omega) (vp_in_nI (by omega) (by decide)) cW_g20 ?_
      rw [et, va_up_self, sW_g]
      refine z_iinc hZ gCm_setSystem_55 rfl _ (i1 t) rfl ?_
      refine z_goto hZ gCm_setSystem_58 ?_
      refine ih (t + 1) _ (by omega) (fun r c hr hc => ?_)
      by_cases e : r = t
      · subst e
        rw [va_up_self]
        by_cases e2 : c = r
        · subst e2; rw [pk_us]; unfold ssM; rw [if_pos rfl]
        · rw [pk_un e2, va_up_self, cpy0, if_pos hc, (hS r c ht hc).1]
          unfold ssM; rw [if_neg (Ne.symm e2)]
      · rw [va_up_ne _ _ e, va_up_ne _ _ e]; exact hQ r c (by omega) hc
  refine z_iconst hZ gCm_setSystem_0 _ i0 ?_
  refine z_istore hZ gCm_setSystem_1 rfl ?_
  exact loop d 0 Q (by omega) (fun r c hr _ => absurd hr (Nat.not_lt_zero r))

