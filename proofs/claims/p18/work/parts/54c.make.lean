-- the rows
def rwO (p k ord : Nat) (sz iv sq W : Nat → Nat) (dg : Int32) (Vr : Nat → Int32) (ind ker : Int32) : Prop := ∃ (sh : Nat → Nat) (d v : Nat), (∀ j, j < k → sh j < p ∧ (p : Int) ∣ (sh j : Int) * (sz j : Int) - (W j : Int)) ∧ dgO p ord (acS p sh (fun q => W (iv q)) k) d ∧ dg = nI d ∧ (∀ j, j < k → Vr j = nI (sh j * d % p)) ∧ v < p ∧ (p : Int) ∣ (v : Int) * (ord : Int) - (acS p sz (fun q => sh (sq q) * d % p) k : Int) ∧ ind = inV p v ∧ ker = nI (krB (fun q => decide (Vr q = dg)) k)
theorem cb_cg {dg dg' : Nat → Int32} {V V' : Nat → Nat → Int32} {k x y : Nat} (hx : dg' x = dg x ∧ V' x = V x) (hy : dg' y = dg y ∧ V' y = V y) : cbO dg' V' k x y ↔ cbO dg V k x y := by
  unfold cbO
  rw [hx.1, hx.2, hy.1, hy.2]
theorem plO_cg {dg dg' : Nat → Int32} {V V' : Nat → Nat → Int32} {k r : Nat} {pl : Nat → Nat} (h : plO dg V k r pl) (hc : ∀ c, c < r → dg' c = dg c ∧ V' c = V c) : plO dg' V' k r pl := by
  refine ⟨h.1, fun s t hs ht => ⟨(h.2 s t hs ht).1, fun h9 => (h.2 s t hs ht).2 ?_⟩⟩
  exact (cb_cg (hc _ (h.1 t ht)) (hc _ (h.1 s (by omega)))).1 h9
theorem dgO_lt {p ord sum d : Nat} (hp : 1 < p) (h : dgO p ord sum d) : d < p := by
  have h1 := h.1
  have h2 := h.2.1
  omega
def rwsO (p k ord : Nat) (sz iv sq : Nat → Nat) (W : Nat → Nat → Nat) (a : sA) (g : sG) (r : Nat) (pl : Nat → Nat) : Prop := (∀ c, c < r → rwO p k ord sz iv sq (W c) (a 23 c) (g 24 c) (a 25 c) (a 26 c)) ∧ (∀ j, j < r → a 27 j = nI (pl j)) ∧ plO (a 23) (g 24) k r pl
theorem rws_step {p k ord : Nat} {sz iv sq : Nat → Nat} {W : Nat → Nat → Nat} {a a' : sA} {g g' : sG} {r t : Nat} {pl : Nat → Nat} (h : rwsO p k ord sz iv sq W a g r pl) (h23 : ∀ c, c < r → a' 23 c = a 23 c) (h24 : ∀ c, c < r → g' 24 c = g 24 c) (h25 : ∀ c, c < r → a' 25 c = a 25 c) (h26 : ∀ c, c < r → a' 26 c = a 26 c) (hn : rwO p k ord sz iv sq (W r) (a' 23 r) (g' 24 r) (a' 25 r) (a' 26 r)) (ht : t ≤ r) (h1 : ∀ j, j < t → a' 27 j = a 27 j) (h2 : a' 27 t = nI r) (h3 : ∀ j, t ≤ j → j < r → a' 27 (j + 1) = a 27 j ∧ cbO (a' 23) (g' 24) k r (pl j)) (h4 : 0 < t → ¬ cbO (a' 23) (g' 24) k r (pl (t - 1))) : rwsO p k ord sz iv sq W a' g' (r + 1) (plN pl t r) := by
  obtain ⟨q1, q2, q3⟩ := h
  refine ⟨fun c hc => ?_, fun j hj => ?_, plN_ok (plO_cg q3 (fun c hc => ⟨h23 c hc, h24 c hc⟩)) ht (fun j hj1 hj2 => (h3 j hj1 hj2).2) h4⟩
  · by_cases e : c = r
    · subst e; exact hn
    · rw [h23 c (by omega), h24 c (by omega), h25 c (by omega), h26 c (by omega)]
      exact q1 c (by omega)
  · unfold plN
    by_cases e1 : j < t
    · rw [if_pos e1, h1 j e1]; exact q2 j (by omega)
    · rw [if_neg e1]
      by_cases e2 : j = t
      · subst e2; rw [if_pos rfl]; exact h2
      · rw [if_neg e2]
        have h9 := (h3 (j - 1) (by omega) (by omega)).1
        rw [Nat.sub_add_cancel (by omega)] at h9
        rw [h9]
        exact q2 (j - 1) (by omega)

theorem ii1 (n : Nat) : nI n + Int32.ofInt 1 = nI (n + 1) := i1 n

set_option maxHeartbeats 4000000 in
set_option maxRecDepth 100000 in
theorem c_Ro_make (l : Launch) (D : va_G) (E : sx_E) (B : Nat) (A : Nat → Prop) (hB : 29 ≤ B) {a : sA} {g : sG} {i i1 : sA} {p k ord e : Nat} {sz iv sq : Nat → Nat} {W : Nat → Nat → Nat} (hi1 : i1 = va_up i 22 (va_up (i 22) 0 (nI k))) (hm : i 12 0 = nI p) (hpr : isPr p) (hp : p < 1092) (h50 : i 5 0 = nI k) (hk : k ≤ 16) (ho : ord ≤ 120) (hnd : ¬ p ∣ ord) (he : i 5 6 = nI e) (he0 : 0 < e) (he1 : e ≤ 120) (hsz : ∀ q, q < k → a 7 q = nI (sz q) ∧ sz q ≤ 120 ∧ ¬ p ∣ sz q) (hiv : ∀ q, q < k → g 9 q (e - 1) = nI (iv q) ∧ iv q < k) (hsq : ∀ q, q < k → g 9 q (2 % e) = nI (sq q) ∧ sq q < k) (hW : ∀ r, r < k → ∀ q, q < k → g 14 r q = nI (W r q) ∧ W r q < p) : sM l D E B A yRo_make prog_7_method_2_code 6 none 4 96 [.inr (22, 0), .inl (nI ord), .inr (13, 0), .inr (5, 0), .inr (12, 0)] (cW a g i) (fun r9 w' => r9 = none ∧ ∃ (a' : sA) (g' : sG) (i' : sA) (pl : Nat → Nat), w' = cW a' g' i' ∧ frA [23, 25, 26, 27, 28] a a' ∧ frG [24] g g' ∧ frI i1 i' ∧ rwsO p k ord sz iv sq W a' g' k pl ∧ nlM a' i' (nlAll (a' 26) k)) := by
  refine sx_m0 (ls := lRo_make) (cs := csAll) (by decide +kernel) kRo_make (hRo_make l D E B A hB) (by simp) (fun x w' h => by cases h.1) ?_
  intro Z hZ
  have h22 : i1 22 0 = nI k := by rw [hi1, va_up_self, va_up_self]
  have hi1n : ∀ n, n ≠ 22 → i1 n = i n := fun n hn => by rw [hi1, va_up_ne _ _ hn]
  have hm1 : i1 12 0 = nI p := by rw [hi1n 12 (by decide)]; exact hm
  have he' : i1 5 6 = nI e := by rw [hi1n 5 (by decide)]; exact he
  have hp1 : 1 < p := hpr.1
  have loop : ∀ n r (a' : sA) (g' : sG) (pl : Nat → Nat), n + r = k → frA [23, 25, 26, 27] a a' → frG [24] g g' → rwsO p k ord sz iv sq W a' g' r pl → Z 11 [some (.inr (22, 0)), some (.inl (nI ord)), some (.inr (13, 0)), some (.inr (5, 0)), some (.inr (12, 0)), some (.inl (nI r))] [] (cW a' g' i1) := by
    intro n
    induction n with
    | zero =>
      intro r a' g' pl hn hfa hfg hrw
      have e9 : r = k := by omega
      subst e9
      refine z_iload hZ gRo_make_11 rfl ?_
      refine z_aload_n hZ gRo_make_13 rfl ?_
      refine z_get hZ gRo_make_14 (by omega) rfl (by rw [h22]; rfl) ?_
      refine z_cmpge hZ gRo_make_17 (fun c17 => ?_) (fun c17 => absurd (nI_le (Nat.le_refl r) (by omega)) c17)
      refine z_aload_n hZ gRo_make_65 rfl ?_
      refine z_cv hZ gRo_make_66 rfl rfl (Nat.le_of_ble_eq_true rfl) (Nat.le_of_ble_eq_true rfl) ⟨⟨22, _, _, rfl, by decide, rfl⟩, fun l9 D E B A hB => c_Ro_listNormals l9 D E B A hB h22 hk⟩ (fun r66 w66 p66 => ?_)
      obtain ⟨rfl, a2, i2, rfl, hL, hf2, hi2⟩ := p66
      show Z (66 + 3) _ [] _
      refine z_vret hZ gRo_make_69 ?_
      have hx : ∀ x, x ≠ 28 → a2 x = a' x := fun x hx => hf2 x (by simp; exact hx)
      refine ⟨rfl, a2, g', i2, pl, rfl, fun x hx9 => ?_, hfg, hi2, ?_, ?_⟩
      · rw [hx x (fun h9 => hx9 (by simp [h9]))]; exact hfa x (fun h9 => hx9 (by simp at h9 ⊢; omega))
      · obtain ⟨q1, q2, q3⟩ := hrw
        unfold rwsO
        rw [hx 23 (by decide), hx 25 (by decide), hx 26 (by decide), hx 27 (by decide)]
        exact ⟨q1, q2, q3⟩
      · rw [hx 26 (by decide)]; exact hL
    | succ n ih =>
      intro r a' g' pl hn hfa hfg hrw
      have hr : r < k := by omega
      have er : (nI r).toNatClampNeg = r := nI_clamp (by omega)
      have e7 : ∀ a1, frA [23, 25, 26, 27] a a1 → a1 7 = a 7 := fun a1 h => h 7 (by decide)
      have e9 : ∀ g1, frG [24] g g1 → g1 9 = g 9 := fun g1 h => h 9 (by decide)
      have e14 : ∀ g1, frG [24] g g1 → g1 14 = g 14 := fun g1 h => h 14 (by decide)
      refine z_iload hZ gRo_make_11 rfl ?_
      refine z_aload_n hZ gRo_make_13 rfl ?_
      refine z_get hZ gRo_make_14 (by omega) rfl (by rw [h22]; rfl) ?_
      refine z_cmpge hZ gRo_make_17 (fun c17 => absurd c17 (nI_ge (by omega) (by omega))) (fun c17 => ?_)
      refine z_aload_n hZ gRo_make_20 rfl ?_
      refine z_iload hZ gRo_make_21 rfl ?_
      refine z_iload_n hZ gRo_make_23 rfl ?_
      refine z_aload_n hZ gRo_make_24 rfl ?_
      refine z_get hZ gRo_make_25 (by omega) rfl rfl ?_
      refine z_iload hZ gRo_make_28 rfl ?_
      refine z_aald hZ gRo_make_30 (by omega) rfl (vp_in_nI (by omega) (by decide)) ?_
      rw [er]
      refine z_aload_n hZ gRo_make_31 rfl ?_
      refine z_aload hZ gRo_make_32 rfl ?_
      refine z_cv hZ gRo_make_34 rfl rfl (Nat.le_of_ble_eq_true rfl) (Nat.le_of_ble_eq_true rfl) ⟨⟨22, _, _, rfl, by decide, rfl⟩, fun l9 D E B A hB => c_Ro_setValues l9 D E B A hB (r := r) (mr := r) (sz := sz) (iv := iv) (W := W r) hm1 hpr hp h22 hk (by omega) (by omega) ho he' he0 he1 (by rw [e7 a' hfa]; exact hsz) (by rw [e9 g' hfg]; exact hiv) (by rw [e14 g' hfg]; exact hW r hr)⟩ (fun r34 w34 p34 => ?_)
      obtain ⟨rfl, sh, d, M, rfl, hsh, hdg, hM1, hM2⟩ := p34
      have hdp := dgO_lt hp1 hdg
      obtain ⟨a1, ha1⟩ : ∃ a1, a1 = va_up a' 23 (upd (a' 23) r (nI d)) := ⟨_, rfl⟩
      obtain ⟨g1, hg1⟩ : ∃ g1, g1 = va_up g' 24 M := ⟨_, rfl⟩
      rw [← ha1, ← hg1]
      have hfa1 : frA [23, 25, 26, 27] a a1 := by rw [ha1]; exact frA_up hfa (by decide)
      have hfg1 : frG [24] g g1 := by rw [hg1]; exact frG_up hfg (by decide)
      have hg24 : g1 24 = M := by rw [hg1, va_up_self]
      show Z (34 + 3) _ [] _
      refine z_aload_n hZ gRo_make_37 rfl ?_
      refine z_iload hZ gRo_make_38 rfl ?_
      refine z_iload_n hZ gRo_make_40 rfl ?_
      refine z_aload_n hZ gRo_make_41 rfl ?_
      refine z_aload hZ gRo_make_42 rfl ?_
      refine z_cv hZ gRo_make_44 rfl rfl (Nat.le_of_ble_eq_true rfl) (Nat.le_of_ble_eq_true rfl) ⟨⟨22, _, _, rfl, by decide, rfl⟩, fun l9 D E B A hB => c_Ro_setIndicator l9 D E B A hB (r := r) (sz := sz) (sq := sq) (V := fun j => sh j * d % p) hm1 hpr hp h22 hk (by omega) ho hnd he' he0 he1 (by rw [e7 a1 hfa1]; exact fun q hq => ⟨(hsz q hq).1, (hsz q hq).2.1⟩) (by rw [e9 g1 hfg1]; exact hsq) (fun q hq => ⟨by rw [hg24]; exact hM2 q hq, Nat.mod_lt _ (by omega)⟩)⟩ (fun r44 w44 p44 => ?_)
      obtain ⟨rfl, v, hv, hvo, rfl⟩ := p44
      obtain ⟨a2, ha2⟩ : ∃ a2, a2 = va_up a1 25 (upd (a1 25) r (inV p v)) := ⟨_, rfl⟩
      rw [← ha2]
      have hfa2 : frA [23, 25, 26, 27] a a2 := by rw [ha2]; exact frA_up hfa1 (by decide)
      show Z (44 + 3) _ [] _
      refine z_aload_n hZ gRo_make_47 rfl ?_
      refine z_iload hZ gRo_make_48 rfl ?_
      refine z_cv hZ gRo_make_50 rfl rfl (Nat.le_of_ble_eq_true rfl) (Nat.le_of_ble_eq_true rfl) ⟨⟨22, _, _, rfl, by decide, rfl⟩, fun l9 D E B A hB => c_Ro_setKernel l9 D E B A hB (r := r) h22 hk (by omega)⟩ (fun r50 w50 p50 => ?_)
      obtain ⟨rfl, rfl⟩ := p50
      obtain ⟨a3, ha3⟩ : ∃ a3, a3 = va_up a2 26 (upd (a2 26) r (nI (krB (fun q => decide (g1 24 r q = a2 23 r)) k))) := ⟨_, rfl⟩
      rw [← ha3]
      have hfa3 : frA [23, 25, 26, 27] a a3 := by rw [ha3]; exact frA_up hfa2 (by decide)
      have e27 : a3 27 = a' 27 := by rw [ha3, va_up_ne _ _ (by decide), ha2, va_up_ne _ _ (by decide), ha1, va_up_ne _ _ (by decide)]
      have e23 : a3 23 = upd (a' 23) r (nI d) := by rw [ha3, va_up_ne _ _ (by decide), ha2, va_up_ne _ _ (by decide), ha1, va_up_self]
      have e23b : a2 23 = upd (a' 23) r (nI d) := by rw [ha2, va_up_ne _ _ (by decide), ha1, va_up_self]
      have e25 : a3 25 = upd (a' 25) r (inV p v) := by rw [ha3, va_up_ne _ _ (by decide), ha2, va_up_self, ha1, va_up_ne _ _ (by decide)]
      have e26 : a3 26 = upd (a' 26) r (nI (krB (fun q => decide (M r q = nI d)) k)) := by rw [ha3, va_up_self, hg24, e23b, pk_us, ha2, va_up_ne _ _ (by decide), ha1, va_up_ne _ _ (by decide)]
      show Z (50 + 3) _ [] _
      refine z_aload_n hZ gRo_make_53 rfl ?_
      refine z_iload hZ gRo_make_54 rfl ?_
      refine z_cv hZ gRo_make_56 rfl rfl (Nat.le_of_ble_eq_true rfl) (Nat.le_of_ble_eq_true rfl) ⟨⟨22, _, _, rfl, by decide, rfl⟩, fun l9 D E B A hB => c_Ro_insertPlace l9 D E B A hB (r := r) (pl := pl) h22 hk (by omega) (fun j hj => ⟨by rw [e27]; exact hrw.2.1 j hj, hrw.2.2.1 j hj⟩)⟩ (fun r56 w56 p56 => ?_)
      obtain ⟨rfl, t, f, rfl, ht, h1, h2, h3, h4⟩ := p56
      obtain ⟨a4, ha4⟩ : ∃ a4, a4 = va_up a3 27 f := ⟨_, rfl⟩
      rw [← ha4]
      have hfa4 : frA [23, 25, 26, 27] a a4 := by rw [ha4]; exact frA_up hfa3 (by decide)
      have k23 : a4 23 = upd (a' 23) r (nI d) := by rw [ha4, va_up_ne _ _ (by decide), e23]
      have k25 : a4 25 = upd (a' 25) r (inV p v) := by rw [ha4, va_up_ne _ _ (by decide), e25]
      have k26 : a4 26 = upd (a' 26) r (nI (krB (fun q => decide (M r q = nI d)) k)) := by rw [ha4, va_up_ne _ _ (by decide), e26]
      have k27 : a4 27 = f := by rw [ha4, va_up_self]
      show Z (56 + 3) _ [] _
      refine z_iinc hZ gRo_make_59 rfl _ (ii1 r) rfl ?_
      refine z_goto hZ gRo_make_62 ?_
      refine ih (r + 1) a4 g1 (plN pl t r) (by omega) hfa4 hfg1 (rws_step hrw (fun c hc => ?_) (fun c hc => ?_) (fun c hc => ?_) (fun c hc => ?_) ?_ ht (fun j hj => ?_) ?_ (fun j hj1 hj2 => ?_) (fun h0 => ?_))
      · rw [k23, pk_un (by omega)]
      · rw [hg24]; exact hM1 c (by omega)
      · rw [k25, pk_un (by omega)]
      · rw [k26, pk_un (by omega)]
      · rw [k23, k25, k26, hg24, pk_us, pk_us, pk_us]
        exact ⟨sh, d, v, hsh, hdg, rfl, hM2, hv, hvo, rfl, rfl⟩
      · rw [k27, h1 j hj, e27]
      · rw [k27, h2]
      · rw [k27, k23, ← e23]
        exact ⟨by rw [(h3 j hj1 hj2).1, e27], (h3 j hj1 hj2).2⟩
      · rw [k23, ← e23]; exact h4 h0
  refine z_aload_n hZ gRo_make_0 rfl ?_
  refine z_aload_n hZ gRo_make_1 rfl ?_
  refine z_get hZ gRo_make_2 (by omega) rfl (by rw [h50]; rfl) ?_
  refine z_putW hZ gRo_make_5 (by omega) rfl (Or.inl (by decide)) (Nat.le_of_ble_eq_true rfl) cW_i22_0 ?_
  rw [← hi1]
  refine z_iconst hZ gRo_make_8 _ i0 ?_
  refine z_istore hZ gRo_make_9 rfl ?_
  exact loop k 0 a g id (by omega) (fun _ _ => rfl) (fun _ _ => rfl) ⟨fun c hc => absurd hc (Nat.not_lt_zero c), fun c hc => absurd hc (Nat.not_lt_zero c), fun c hc => absurd hc (Nat.not_lt_zero c), fun s t _ ht => absurd ht (Nat.not_lt_zero t)⟩

