-- the reference builds
theorem rm_cg {p k ord : Nat} {sz iv Wr : Nat → Nat} {dg dg' : Int32} {V V' : Nat → Int32} (h : rmO p k ord sz iv Wr dg V) (hd : dg' = dg) (hV : ∀ c, c < k → V' c = V c) : rmO p k ord sz iv Wr dg' V' := by
  obtain ⟨ov, d, vv, h1, h2, h3, h4⟩ := h
  exact ⟨ov, d, vv, h1, h2, by rw [hd]; exact h3, fun c hc => by rw [hV c hc]; exact h4 c hc⟩
def rwM (p k n : Nat) (sz iv : Nat → Nat) (W : Nat → Nat → Nat) (a : sA) (m : Nat) (ta : Nat → Nat) : Prop := ∀ t, t < m → ta t < k ∧ rmO p k n sz iv (W (ta t)) (a 8 t) (vM (a 9) t)
def mmT (a i : sA) (s : Nat → Nat) (n k : Nat) (kl re : Nat → Nat) (e p z : Nat) (W : Nat → Nat → Nat) : Prop := mtO a i s n k kl re ∧ mdO p k (Amo s n kl re) a i ∧ i 0 10 = nI e ∧ i 0 12 = nI z ∧ ∃ ta : Nat → Nat, rwM p k n (kc_s (Gl s n) kl) (ivM kl re) W a k ta ∧ (∀ t t', t < k → t' < k → ta t = ta t' → t = t') ∧ srO (a 8) (vM (a 9)) k k
theorem md_fr {p k : Nat} {Am : Nat → Nat → Nat → Nat} {a a' i i' : sA} (h : mdO p k Am a i) (h6 : a' 6 = a 6) (i11 : i' 0 11 = i 0 11) (i6 : i' 0 6 = i 0 6) : mdO p k Am a' i' := by
  obtain ⟨q1, q2, q3, q4, q5, q6, q7⟩ := h
  exact ⟨q1, q2, q3, by rw [i11]; exact q4, by rw [i6]; exact q5, q6, by rw [h6]; exact q7⟩
theorem idM_fr {p k : Nat} {W : Nat → Nat → Nat} {f f' : Nat → Int32} {sg : Nat → Nat} (h : idM p k W f sg) (hk : k ≤ 16) (hf : frC [16, 34, 36] f f') : idM p k W f' sg := ⟨fun u hu => by
  obtain ⟨h1, x, h2, h3⟩ := h.1 u hu
  exact ⟨h1, x, vcO_fr h2 hf (by simp; omega), h3⟩, h.2⟩
theorem tw_lt {x y w k : Nat} (hx : x < k) (hy : y < k) (hw : w < k) : tw x y w < k := by
  unfold tw
  split
  · exact hy
  · split
    · exact hx
    · exact hw
theorem tw_inj {x y w w' : Nat} (h : tw x y w = tw x y w') : w = w' := by
  unfold tw at h
  split at h <;> split at h <;> (try split at h) <;> (try split at h) <;> omega

set_option maxHeartbeats 4000000 in
set_option maxRecDepth 100000 in
theorem c_Mo_build1 (l : Launch) (D : va_G) (E : sx_E) (B : Nat) (A : Nat → Prop) (hB : 11 ≤ B) {a : sA} {i : sA} {gen : Nat → Nat} {gc : Nat} (hgc : gc ≤ 4) (hgi : i 0 0 = nI gc) (h1 : ∀ k, k < gc → a 1 k = nI (gen k)) (hg : ∀ k, k < gc → isP (gen k)) (hMany : gMany gen gc) : sM l D E B A yMo_build prog_9_method_30_code 3 (some .int) 5 121 [.inr (0, 0)] (mW a i) (fun r w' => ∃ a' i' : sA, w' = mW a' i' ∧ a' 1 = a 1 ∧ i' 0 0 = i 0 0 ∧ i' 0 2 = 0 ∧ r = some (.inl 1)) := by
  refine sx_m0 (ls := lMo_build) (cs := csAll) (by decide +kernel) kMo_build (hMo_build l D E B A hB) (by simp) (fun w' h => (by obtain ⟨_, _, _, _, _, _, h⟩ := h; cases h)) ?_
  intro Z hZ
  obtain ⟨i1, hi1⟩ : ∃ i1 : sA, i1 = va_up i 0 (va_up (i 0) 2 0) := ⟨_, rfl⟩
  have e12 : i1 0 2 = 0 := by rw [hi1, va_up_self, va_up_self]
  have e10 : i1 0 0 = i 0 0 := by rw [hi1, va_up_self, va_up_ne _ _ (by decide)]
  refine z_aload_n hZ gMo_build_0 rfl ?_
  refine z_iconst hZ gMo_build_1 _ rfl ?_
  refine z_putW hZ gMo_build_2 (by omega) rfl (Or.inr (Or.inl rfl)) (Nat.le_of_ble_eq_true rfl) mW_i0_2 ?_
  show Z 5 _ [] (mW a (va_up i 0 (va_up (i 0) 2 0)))
  rw [← hi1]
  refine z_aload_n hZ gMo_build_5 rfl ?_
  refine z_cv hZ gMo_build_6 rfl rfl (Nat.le_of_ble_eq_true rfl) (Nat.le_of_ble_eq_true rfl) ⟨⟨0, _, _, rfl, by decide, rfl⟩, fun l9 D E B A hB => c_Mo_close l9 D E B A hB (gen := gen) (gc := gc) hgc (by rw [hi1, va_up_self, va_up_ne _ _ (by decide)]; exact hgi) h1 hg⟩ (fun r6 w6 p6 => ?_)
  obtain ⟨a2, i2, rfl, hfa2, hfi2, p6⟩ := p6
  rcases p6 with ⟨rfl, s', n', hS', _⟩ | ⟨rfl, hM⟩
  · exact absurd hMany (gMany_no hS')
  · show Z 9 _ (.inl 0 :: []) _
    refine z_ifne hZ gMo_build_9 (fun c9 => absurd rfl c9) (fun c9 => ?_)
    refine z_iconst hZ gMo_build_12 _ rfl ?_
    refine z_iret hZ gMo_build_13 ?_
    exact ⟨a2, i2, rfl, hfa2 1 (by decide), by rw [hfi2 0 (by decide)]; exact e10, by rw [hfi2 2 (by decide)]; exact e12, rfl⟩

set_option maxHeartbeats 4000000 in
set_option maxRecDepth 100000 in
theorem c_Mo_build2 (l : Launch) (D : va_G) (E : sx_E) (B : Nat) (A : Nat → Prop) (hB : 11 ≤ B) {a : sA} {i : sA} {gen : Nat → Nat} {gc : Nat} (hgc : gc ≤ 4) (hgi : i 0 0 = nI gc) (h1 : ∀ k, k < gc → a 1 k = nI (gen k)) (hg : ∀ k, k < gc → isP (gen k)) {s : Nat → Nat} {n : Nat} (hS : elS gen gc s n) (hMany : cMany s n) : sM l D E B A yMo_build prog_9_method_30_code 3 (some .int) 5 121 [.inr (0, 0)] (mW a i) (fun r w' => ∃ a' i' : sA, w' = mW a' i' ∧ a' 1 = a 1 ∧ i' 0 0 = i 0 0 ∧ i' 0 2 = 0 ∧ r = some (.inl 2)) := by
  refine sx_m0 (ls := lMo_build) (cs := csAll) (by decide +kernel) kMo_build (hMo_build l D E B A hB) (by simp) (fun w' h => (by obtain ⟨_, _, _, _, _, _, h⟩ := h; cases h)) ?_
  intro Z hZ
  obtain ⟨i1, hi1⟩ : ∃ i1 : sA, i1 = va_up i 0 (va_up (i 0) 2 0) := ⟨_, rfl⟩
  have e12 : i1 0 2 = 0 := by rw [hi1, va_up_self, va_up_self]
  have e10 : i1 0 0 = i 0 0 := by rw [hi1, va_up_self, va_up_ne _ _ (by decide)]
  refine z_aload_n hZ gMo_build_0 rfl ?_
  refine z_iconst hZ gMo_build_1 _ rfl ?_
  refine z_putW hZ gMo_build_2 (by omega) rfl (Or.inr (Or.inl rfl)) (Nat.le_of_ble_eq_true rfl) mW_i0_2 ?_
  show Z 5 _ [] (mW a (va_up i 0 (va_up (i 0) 2 0)))
  rw [← hi1]
  refine z_aload_n hZ gMo_build_5 rfl ?_
  refine z_cv hZ gMo_build_6 rfl rfl (Nat.le_of_ble_eq_true rfl) (Nat.le_of_ble_eq_true rfl) ⟨⟨0, _, _, rfl, by decide, rfl⟩, fun l9 D E B A hB => c_Mo_close l9 D E B A hB (gen := gen) (gc := gc) hgc (by rw [hi1, va_up_self, va_up_ne _ _ (by decide)]; exact hgi) h1 hg⟩ (fun r6 w6 p6 => ?_)
  obtain ⟨a2, i2, rfl, hfa2, hfi2, p6⟩ := p6
  rcases p6 with ⟨rfl, s', n', hS', hi3, h2a, h8⟩ | ⟨rfl, hM⟩
  rotate_left
  · exact absurd hM (gMany_no hS)
  · show Z 9 _ (.inl 1 :: []) _
    refine z_ifne hZ gMo_build_9 (fun c9 => ?_) (fun c9 => absurd c9 (by decide))
    obtain ⟨en, es⟩ := elS_u hS hS'
    subst en
    have hel2 : elM a2 i2 s n' := ⟨hi3, fun j hj => by rw [h2a j hj, es j hj], fun j hj => by rw [← es j hj]; exact h8 j hj⟩
    refine z_aload_n hZ gMo_build_14 rfl ?_
    refine z_cv hZ gMo_build_15 rfl rfl (Nat.le_of_ble_eq_true rfl) (Nat.le_of_ble_eq_true rfl) ⟨⟨0, _, _, rfl, by decide, rfl⟩, fun l9 D E B A hB => c_Mo_classify l9 D E B A hB hg hS hel2⟩ (fun r15 w15 p15 => ?_)
    obtain ⟨a3, i3, rfl, hfa3, hfi3, p15⟩ := p15
    rcases p15 with ⟨rfl, k', kl', re', hC', hk', _⟩ | ⟨rfl, hM⟩
    · exact absurd hMany (cMany_no hC' hk')
    · show Z 18 _ (.inl 0 :: []) _
      refine z_ifne hZ gMo_build_18 (fun c9 => absurd rfl c9) (fun c9 => ?_)
      refine z_iconst hZ gMo_build_21 _ rfl ?_
      refine z_iret hZ gMo_build_22 ?_
      exact ⟨a3, i3, rfl, by rw [hfa3 1 (by decide)]; exact hfa2 1 (by decide), by rw [hfi3 0 (by decide), hfi2 0 (by decide)]; exact e10, by rw [hfi3 2 (by decide), hfi2 2 (by decide)]; exact e12, rfl⟩

set_option maxHeartbeats 4000000 in
set_option maxRecDepth 100000 in
theorem c_Mo_build0 (l : Launch) (D : va_G) (E : sx_E) (B : Nat) (A : Nat → Prop) (hB : 11 ≤ B) {a : sA} {i : sA} {gen : Nat → Nat} {gc : Nat} (hgc : gc ≤ 4) (hgi : i 0 0 = nI gc) (h1 : ∀ k, k < gc → a 1 k = nI (gen k)) (hg : ∀ k, k < gc → isP (gen k)) {s kl re : Nat → Nat} {n k e p z : Nat} {W : Nat → Nat → Nat} (hT : grT gen gc s n k kl re e p z) (hcm : cmO p k (Amo s n kl re) W) (hWp : ∀ r q, r < k → q < k → W r q < p) : sM l D E B A yMo_build prog_9_method_30_code 3 (some .int) 5 121 [.inr (0, 0)] (mW a i) (fun r w' => ∃ a' i' : sA, w' = mW a' i' ∧ a' 1 = a 1 ∧ i' 0 0 = i 0 0 ∧ i' 0 2 = 1 ∧ r = some (.inl 0) ∧ mmT a' i' s n k kl re e p z W) := by
  refine sx_m0 (ls := lMo_build) (cs := csAll) (by decide +kernel) kMo_build (hMo_build l D E B A hB) (by simp) (fun w' h => (by obtain ⟨_, _, _, _, _, _, h, _⟩ := h; cases h)) ?_
  intro Z hZ
  obtain ⟨hS, hC, hk16z, hE, hen, hPm, hp92, hRt⟩ := hT
  obtain ⟨i1, hi1⟩ : ∃ i1 : sA, i1 = va_up i 0 (va_up (i 0) 2 0) := ⟨_, rfl⟩
  have e12 : i1 0 2 = 0 := by rw [hi1, va_up_self, va_up_self]
  have e10 : i1 0 0 = i 0 0 := by rw [hi1, va_up_self, va_up_ne _ _ (by decide)]
  refine z_aload_n hZ gMo_build_0 rfl ?_
  refine z_iconst hZ gMo_build_1 _ rfl ?_
  refine z_putW hZ gMo_build_2 (by omega) rfl (Or.inr (Or.inl rfl)) (Nat.le_of_ble_eq_true rfl) mW_i0_2 ?_
  show Z 5 _ [] (mW a (va_up i 0 (va_up (i 0) 2 0)))
  rw [← hi1]
  refine z_aload_n hZ gMo_build_5 rfl ?_
  refine z_cv hZ gMo_build_6 rfl rfl (Nat.le_of_ble_eq_true rfl) (Nat.le_of_ble_eq_true rfl) ⟨⟨0, _, _, rfl, by decide, rfl⟩, fun l9 D E B A hB => c_Mo_close l9 D E B A hB (gen := gen) (gc := gc) hgc (by rw [hi1, va_up_self, va_up_ne _ _ (by decide)]; exact hgi) h1 hg⟩ (fun r6 w6 p6 => ?_)
  obtain ⟨a2, i2, rfl, hfa2, hfi2, p6⟩ := p6
  rcases p6 with ⟨rfl, s', n', hS', hi3, h2a, h8⟩ | ⟨rfl, hM⟩
  rotate_left
  · exact absurd hM (gMany_no hS)
  · show Z 9 _ (.inl 1 :: []) _
    refine z_ifne hZ gMo_build_9 (fun c9 => ?_) (fun c9 => absurd c9 (by decide))
    obtain ⟨en, es⟩ := elS_u hS hS'
    subst en
    have hel2 : elM a2 i2 s n' := ⟨hi3, fun j hj => by rw [h2a j hj, es j hj], fun j hj => by rw [← es j hj]; exact h8 j hj⟩
    refine z_aload_n hZ gMo_build_14 rfl ?_
    refine z_cv hZ gMo_build_15 rfl rfl (Nat.le_of_ble_eq_true rfl) (Nat.le_of_ble_eq_true rfl) ⟨⟨0, _, _, rfl, by decide, rfl⟩, fun l9 D E B A hB => c_Mo_classify l9 D E B A hB hg hS hel2⟩ (fun r15 w15 p15 => ?_)
    obtain ⟨a3, i3, rfl, hfa3, hfi3, p15⟩ := p15
    rcases p15 with ⟨rfl, k', kl', re', hC', hk', hi6, h3', h5'⟩ | ⟨rfl, hM⟩
    rotate_left
    · exact absurd hM (cMany_no hC hk16z)
    · show Z 18 _ (.inl 1 :: []) _
      refine z_ifne hZ gMo_build_18 (fun c9 => ?_) (fun c9 => absurd c9 (by decide))
      obtain ⟨ek, ekl, ere⟩ := clS_u hC hC'
      subst ek
      have hk16 := hk'
      have he0 := hE.1
      have hn120 := hS.2.1
      have hP : ∀ x, x ∈ Gl s n' → isP x := fun x hx => elS_P hg hS hx
      have hmt3 : mtO a3 i3 s n' k' kl re := ⟨⟨by rw [hfi3 3 (by decide)]; exact hel2.1, by rw [hfa3 2 (by decide)]; exact hel2.2.1, hel2.2.2⟩, hn120, hS.2.2.1, hC, hP, hk', hi6, fun j hj => by rw [h3' j hj, ekl _ (Gl_mem.mpr ⟨j, hj, rfl⟩)], fun l9 hl => ⟨by rw [(h5' l9 hl).1, ere l9 hl], by rw [(h5' l9 hl).2, kc_s_cg ekl]⟩⟩
      refine z_aload_n hZ gMo_build_23 rfl ?_
      refine z_cv hZ gMo_build_24 rfl rfl (Nat.le_of_ble_eq_true rfl) (Nat.le_of_ble_eq_true rfl) ⟨⟨0, _, _, rfl, by decide, rfl⟩, fun l9 D E B A hB => c_Mo_count l9 D E B A hB hmt3.1 hn120 hS.2.2.1 hC hP hk16 hi6 hmt3.2.2.2.2.2.2.2.1 (fun l8 hl => (hmt3.2.2.2.2.2.2.2.2 l8 hl).1)⟩ (fun r24 w24 p24 => ?_)
      obtain ⟨rfl, f6, rfl, hco⟩ := p24
      obtain ⟨a4, ha4⟩ : ∃ a4 : sA, a4 = va_up a3 6 f6 := ⟨_, rfl⟩
      rw [← ha4]
      have fa4 : ∀ x, x ≠ 6 → a4 x = a3 x := fun x h9 => by rw [ha4, va_up_ne _ _ h9]
      show Z (24 + 3) _ [] _
      refine z_aload_n hZ gMo_build_27 rfl ?_
      refine z_cv hZ gMo_build_28 rfl rfl (Nat.le_of_ble_eq_true rfl) (Nat.le_of_ble_eq_true rfl) ⟨⟨0, _, _, rfl, by decide, rfl⟩, fun l9 D E B A hB => c_Mo_numbers l9 D E B A hB (re := re) (n := n') (k := k') (e := e) (p := p) (z := z) hn120 hk16 hmt3.1.1 hi6 (fun l8 hl => by rw [fa4 5 (by decide)]; exact (hmt3.2.2.2.2.2.2.2.2 l8 hl).1) (fun l8 hl => (hP _ (kc_re hC.1 hl)).1) hE hen hPm hp92 hRt⟩ (fun r28 w28 p28 => ?_)
      obtain ⟨rfl, i4, rfl, hfi4, h10, h11, h12⟩ := p28
      have hmd4 : mdO p k' (Amo s n' kl re) a4 i4 := ⟨hPm.1, hp92, hk16, h11, by rw [hfi4 6 (by decide)]; exact hi6, fun x y l9 => Nat.le_trans (Am_le x y l9) hn120, by rw [ha4, va_up_self]; exact hco⟩
      have hk1 : 1 ≤ k' := hC.1.2.2.2.2.2
      show Z (28 + 3) _ [] _
      refine z_aload_n hZ gMo_build_31 rfl ?_
      refine z_cv hZ gMo_build_32 rfl rfl (Nat.le_of_ble_eq_true rfl) (Nat.le_of_ble_eq_true rfl) ⟨⟨0, _, _, rfl, by decide, rfl⟩, fun l9 D E B A hB => c_Mo_takeApart l9 D E B A hB hk1 hmd4 hcm hWp⟩ (fun r32 w32 p32 => ?_)
      obtain ⟨rfl, f7, iB, sg, rfl, hfi5, hid⟩ := p32
      obtain ⟨aB, haB⟩ : ∃ aB : sA, aB = va_up a4 7 f7 := ⟨_, rfl⟩
      rw [← haB]
      have faB : ∀ x, x ≠ 7 → aB x = a4 x := fun x h9 => by rw [haB, va_up_ne _ _ h9]
      have hmtB : ∀ a' : sA, frA [7, 8, 9] aB a' → mtO a' iB s n' k' kl re := fun a' hfa => mt_fr hmt3 (by rw [hfa 2 (by decide), faB 2 (by decide), fa4 2 (by decide)]) (by rw [hfa 3 (by decide), faB 3 (by decide), fa4 3 (by decide)]) (by rw [hfa 4 (by decide), faB 4 (by decide), fa4 4 (by decide)]) (by rw [hfa 5 (by decide), faB 5 (by decide), fa4 5 (by decide)]) (by rw [hfi5 3 (by decide), hfi4 3 (by decide)]) (by rw [hfi5 6 (by decide), hfi4 6 (by decide)])
      have hmdB : ∀ a' : sA, frA [7, 8, 9] aB a' → mdO p k' (Amo s n' kl re) a' iB := fun a' hfa => md_fr hmd4 (by rw [hfa 6 (by decide), faB 6 (by decide)]) (by rw [hfi5 11 (by decide)]) (by rw [hfi5 6 (by decide)])
      have h6B : iB 0 6 = nI k' := by rw [hfi5 6 (by decide), hfi4 6 (by decide)]; exact hi6
      have hB10 : iB 0 10 = nI e := by rw [hfi5 10 (by decide)]; exact h10
      have hB12 : iB 0 12 = nI z := by rw [hfi5 12 (by decide)]; exact h12
      have eB1 : aB 1 = a 1 := by rw [faB 1 (by decide), fa4 1 (by decide), hfa3 1 (by decide), hfa2 1 (by decide)]
      have eB0 : iB 0 0 = i 0 0 := by rw [hfi5 0 (by decide), hfi4 0 (by decide), hfi3 0 (by decide), hfi2 0 (by decide)]; exact e10
      have hsort : ∀ (a' : sA) (ta : Nat → Nat), frA [7, 8, 9] aB a' → rwM p k' n' (kc_s (Gl s n') kl) (ivM kl re) W a' k' ta → (∀ t t', t < k' → t' < k' → ta t = ta t' → t = t') → srO (a' 8) (vM (a' 9)) k' k' → ∀ x1 x2, Z 105 [some (.inr (0, 0)), x1, x2] [] (mW a' iB) := by
        intro a' ta hfa hrw htj hsr x1 x2
        refine z_aload_n hZ gMo_build_105 rfl ?_
        refine z_iconst hZ gMo_build_106 _ rfl ?_
        refine z_putW hZ gMo_build_107 (by omega) rfl (Or.inr (Or.inr rfl)) (Nat.le_of_ble_eq_true rfl) mW_i0_2 ?_
        refine z_iconst hZ gMo_build_110 _ rfl ?_
        refine z_iret hZ gMo_build_111 ?_
        refine ⟨a', _, rfl, ?_, ?_, ?_, rfl, mt_fr (hmtB a' hfa) rfl rfl rfl rfl ?_ ?_, md_fr (hmdB a' hfa) rfl ?_ ?_, ?_, ?_, ta, hrw, htj, hsr⟩
        · rw [hfa 1 (by decide)]; exact eB1
        · rw [va_up_self, va_up_ne _ _ (by decide)]; exact eB0
        · rw [va_up_self, va_up_self]; rfl
        · rw [va_up_self, va_up_ne _ _ (by decide)]
        · rw [va_up_self, va_up_ne _ _ (by decide)]
        · rw [va_up_self, va_up_ne _ _ (by decide)]
        · rw [va_up_self, va_up_ne _ _ (by decide)]
        · rw [va_up_self, va_up_ne _ _ (by decide)]; exact hB10
        · rw [va_up_self, va_up_ne _ _ (by decide)]; exact hB12
      have souter : ∀ n9 x (a' : sA) (ta : Nat → Nat) x2, n9 + x = k' → frA [7, 8, 9] aB a' → rwM p k' n' (kc_s (Gl s n') kl) (ivM kl re) W a' k' ta → (∀ t t', t < k' → t' < k' → ta t = ta t' → t = t') → srO (a' 8) (vM (a' 9)) k' x → Z 58 [some (.inr (0, 0)), some (.inl (nI x)), x2] [] (mW a' iB) := by
        intro n9
        induction n9 with
        | zero =>
          intro x a' ta x2 hn hfa hrw htj hsr
          have e9 : x = k' := by omega
          rw [e9] at hsr ⊢
          refine z_iload_n hZ gMo_build_58 rfl ?_
          refine z_aload_n hZ gMo_build_59 rfl ?_
          refine z_get hZ gMo_build_60 (by omega) rfl (by rw [h6B]; rfl) ?_
          refine z_cmpge hZ gMo_build_63 (fun c63 => ?_) (fun c63 => absurd (nI_le (Nat.le_refl k') (by omega)) c63)
          exact hsort a' ta hfa hrw htj hsr _ _
        | succ n9 ih =>
          intro x a' ta x2 hn hfa hrw htj hsr
          have hx : x < k' := by omega
          have sinner : ∀ n8 y (a' : sA) (ta : Nat → Nat), n8 + y = k' → x < y → frA [7, 8, 9] aB a' → rwM p k' n' (kc_s (Gl s n') kl) (ivM kl re) W a' k' ta → (∀ t t', t < k' → t' < k' → ta t = ta t' → t = t') → srO (a' 8) (vM (a' 9)) k' x → (∀ t, x < t → t < y → ¬ cbO (a' 8) (vM (a' 9)) k' t x) → Z 70 [some (.inr (0, 0)), some (.inl (nI x)), some (.inl (nI y))] [] (mW a' iB) := by
            intro n8
            induction n8 with
            | zero =>
              intro y a' ta hn8 hxy hfa hrw htj hsr hin
              have e9 : y = k' := by omega
              rw [e9] at hin ⊢
              refine z_iload_n hZ gMo_build_70 rfl ?_
              refine z_aload_n hZ gMo_build_71 rfl ?_
              refine z_get hZ gMo_build_72 (by omega) rfl (by rw [h6B]; rfl) ?_
              refine z_cmpge hZ gMo_build_75 (fun c75 => ?_) (fun c75 => absurd (nI_le (Nat.le_refl k') (by omega)) c75)
              refine z_iinc hZ gMo_build_99 rfl _ (ii1 x) rfl ?_
              refine z_goto hZ gMo_build_102 ?_
              refine ih (x + 1) a' ta _ (by omega) hfa hrw htj (fun s9 t h1 h2 h3 => ?_)
              by_cases e8 : s9 = x
              · rw [e8] at h2 ⊢; exact hin t h2 h3
              · exact hsr s9 t (by omega) h2 h3
            | succ n8 ih8 =>
              intro y a' ta hn8 hxy hfa hrw htj hsr hin
              have hy : y < k' := by omega
              refine z_iload_n hZ gMo_build_70 rfl ?_
              refine z_aload_n hZ gMo_build_71 rfl ?_
              refine z_get hZ gMo_build_72 (by omega) rfl (by rw [h6B]; rfl) ?_
              refine z_cmpge hZ gMo_build_75 (fun c75 => absurd c75 (nI_ge (by omega) (by omega))) (fun c75 => ?_)
              refine z_aload_n hZ gMo_build_78 rfl ?_
              refine z_iload_n hZ gMo_build_79 rfl ?_
              refine z_iload_n hZ gMo_build_80 rfl ?_
              refine z_cv hZ gMo_build_81 rfl rfl (Nat.le_of_ble_eq_true rfl) (Nat.le_of_ble_eq_true rfl) ⟨⟨0, _, _, rfl, by decide, rfl⟩, fun l9 D E B A hB => c_Mo_comesBefore l9 D E B A hB (k := k') (x := y) (y := x) h6B (by omega) hk16 (by omega) (by omega)⟩ (fun r81 w81 p81 => ?_)
              obtain ⟨h81, rfl⟩ := p81
              rcases h81 with ⟨rfl, h81⟩ | ⟨rfl, h81⟩
              · show Z 84 _ (.inl 1 :: []) _
                refine z_ifeq hZ gMo_build_84 (fun c9 => absurd c9 (by decide)) (fun c9 => ?_)
                refine z_aload_n hZ gMo_build_87 rfl ?_
                refine z_iload_n hZ gMo_build_88 rfl ?_
                refine z_iload_n hZ gMo_build_89 rfl ?_
                refine z_cv hZ gMo_build_90 rfl rfl (Nat.le_of_ble_eq_true rfl) (Nat.le_of_ble_eq_true rfl) ⟨⟨0, _, _, rfl, by decide, rfl⟩, fun l9 D E B A hB => c_Mo_exchange l9 D E B A hB (x := x) (y := y) (by omega) (by omega)⟩ (fun r90 w90 p90 => ?_)
                obtain ⟨rfl, f8, f9, rfl, hx8, hx9⟩ := p90
                obtain ⟨a9, ha9⟩ : ∃ a9 : sA, a9 = va_up (va_up a' 8 f8) 9 f9 := ⟨_, rfl⟩
                rw [← ha9]
                have e98 : a9 8 = f8 := by rw [ha9, va_up_ne _ _ (by decide), va_up_self]
                have e99 : a9 9 = f9 := by rw [ha9, va_up_self]
                have hs9 := sr_ex (dg := a' 8) (dg' := a9 8) (V := vM (a' 9)) (V' := vM (a9 9)) hxy hy (fun w => by rw [e98]; exact hx8 w) (fun w j hj => by rw [e99]; exact hx9 w j (by omega)) hsr hin h81
                show Z (90 + 3) _ [] _
                refine z_iinc hZ gMo_build_93 rfl _ (ii1 y) rfl ?_
                refine z_goto hZ gMo_build_96 ?_
                refine ih8 (y + 1) a9 (fun w => ta (tw x y w)) (by omega) (by omega) (by rw [ha9]; exact frA_up (frA_up hfa (by decide)) (by decide)) (fun t ht => ?_) (fun t t' ht ht' he => tw_inj (htj _ _ (tw_lt hx hy ht) (tw_lt hx hy ht') he)) hs9.1 hs9.2
                obtain ⟨q1, q2⟩ := hrw (tw x y t) (tw_lt hx hy ht)
                exact ⟨q1, rm_cg q2 (by rw [e98]; exact hx8 t) (fun c hc => by rw [e99]; exact hx9 t c (by omega))⟩
              · show Z 84 _ (.inl 0 :: []) _
                refine z_ifeq hZ gMo_build_84 (fun c9 => ?_) (fun c9 => absurd rfl c9)
                refine z_iinc hZ gMo_build_93 rfl _ (ii1 y) rfl ?_
                refine z_goto hZ gMo_build_96 ?_
                refine ih8 (y + 1) a' ta (by omega) (by omega) hfa hrw htj hsr (fun t h1 h2 => ?_)
                by_cases e8 : t = y
                · rw [e8]; exact h81
                · exact hin t h1 (by omega)
          refine z_iload_n hZ gMo_build_58 rfl ?_
          refine z_aload_n hZ gMo_build_59 rfl ?_
          refine z_get hZ gMo_build_60 (by omega) rfl (by rw [h6B]; rfl) ?_
          refine z_cmpge hZ gMo_build_63 (fun c63 => absurd c63 (nI_ge (by omega) (by omega))) (fun c63 => ?_)
          refine z_iload_n hZ gMo_build_66 rfl ?_
          refine z_iconst hZ gMo_build_67 _ rfl ?_
          refine z_iadd hZ gMo_build_68 _ (ii1 x) ?_
          refine z_istore_n hZ gMo_build_69 rfl ?_
          exact sinner (n9) (x + 1) a' ta (by omega) (by omega) hfa hrw htj hsr (fun t h1 h2 => by omega)
      have rloop : ∀ n9 u (a' : sA) x2, n9 + u = k' → frA [7, 8, 9] aB a' → idM p k' W (a' 7) sg → rwM p k' n' (kc_s (Gl s n') kl) (ivM kl re) W a' u sg → Z 37 [some (.inr (0, 0)), some (.inl (nI u)), x2] [] (mW a' iB) := by
        intro n9
        induction n9 with
        | zero =>
          intro u a' x2 hn hfa hid hrw
          have e9 : u = k' := by omega
          rw [e9] at hrw ⊢
          refine z_iload_n hZ gMo_build_37 rfl ?_
          refine z_aload_n hZ gMo_build_38 rfl ?_
          refine z_get hZ gMo_build_39 (by omega) rfl (by rw [h6B]; rfl) ?_
          refine z_cmpge hZ gMo_build_42 (fun c42 => ?_) (fun c42 => absurd (nI_le (Nat.le_refl k') (by omega)) c42)
          refine z_iconst hZ gMo_build_56 _ i0 ?_
          refine z_istore_n hZ gMo_build_57 rfl ?_
          exact souter k' 0 a' sg _ (by omega) hfa hrw hid.2 (fun s9 t h9 => absurd h9 (Nat.not_lt_zero s9))
        | succ n9 ih =>
          intro u a' x2 hn hfa hid hrw
          obtain ⟨hs1, x, hx1, hx2⟩ := hid.1 u (by omega)
          refine z_iload_n hZ gMo_build_37 rfl ?_
          refine z_aload_n hZ gMo_build_38 rfl ?_
          refine z_get hZ gMo_build_39 (by omega) rfl (by rw [h6B]; rfl) ?_
          refine z_cmpge hZ gMo_build_42 (fun c42 => absurd c42 (nI_ge (by omega) (by omega))) (fun c42 => ?_)
          refine z_aload_n hZ gMo_build_45 rfl ?_
          refine z_iload_n hZ gMo_build_46 rfl ?_
          refine z_cv hZ gMo_build_47 rfl rfl (Nat.le_of_ble_eq_true rfl) (Nat.le_of_ble_eq_true rfl) ⟨⟨0, _, _, rfl, by decide, rfl⟩, fun l9 D E B A hB => c_Mo_makeRow l9 D E B A hB (hmdB a' hfa) hcm hWp (hmtB a' hfa) (fun c hc => sz_nd hC hE hPm hc) (by omega) hs1 hx1 hx2⟩ (fun r47 w47 p47 => ?_)
          obtain ⟨rfl, f7, f9, f8, rfl, hf7, hf8, hf9, hrm⟩ := p47
          obtain ⟨a9, ha9⟩ : ∃ a9 : sA, a9 = va_up (va_up (va_up a' 7 f7) 8 f8) 9 f9 := ⟨_, rfl⟩
          rw [← ha9]
          have e97 : a9 7 = f7 := by rw [ha9, va_up_ne _ _ (by decide), va_up_ne _ _ (by decide), va_up_self]
          have e98 : a9 8 = f8 := by rw [ha9, va_up_ne _ _ (by decide), va_up_self]
          have e99 : a9 9 = f9 := by rw [ha9, va_up_self]
          show Z (47 + 3) _ [] _
          refine z_iinc hZ gMo_build_50 rfl _ (ii1 u) rfl ?_
          refine z_goto hZ gMo_build_53 ?_
          refine ih (u + 1) a9 _ (by omega) (by rw [ha9]; exact frA_up (frA_up (frA_up hfa (by decide)) (by decide)) (by decide)) (by rw [e97]; exact idM_fr hid hk16 hf7) (fun t ht => ?_)
          by_cases e8 : t = u
          · rw [e8]
            exact ⟨hs1, by rw [e98, e99]; exact hrm⟩
          · obtain ⟨q1, q2⟩ := hrw t (by omega)
            exact ⟨q1, rm_cg q2 (by rw [e98]; exact hf8 t e8) (fun c hc => by rw [e99]; exact hf9 t c (by omega) e8)⟩
      show Z (32 + 3) _ [] _
      refine z_iconst hZ gMo_build_35 _ i0 ?_
      refine z_istore_n hZ gMo_build_36 rfl ?_
      exact rloop k' 0 aB _ (by omega) (fun _ _ => rfl) (by rw [haB, va_up_self]; exact hid) (fun t ht => absurd ht (Nat.not_lt_zero t))

