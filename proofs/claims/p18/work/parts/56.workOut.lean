-- the class's tables, and how they are worked out
def grT (gen : Nat → Nat) (gc : Nat) (s : Nat → Nat) (n k : Nat) (kl re : Nat → Nat) (e p z : Nat) : Prop := elS gen gc s n ∧ clS s n k kl re ∧ k ≤ 16 ∧ isE re k e ∧ e ≤ n ∧ isPm n e p ∧ p < 1092 ∧ isRt p e z
abbrev ivO (kl re : Nat → Nat) (e q : Nat) : Nat := kl (pw (re q) (e - 1))
abbrev sqO (kl re : Nat → Nat) (e q : Nat) : Nat := kl (pw (re q) (2 % e))
def ccT (a : sA) (g : sG) (i : sA) (s : Nat → Nat) (n k : Nat) (kl re : Nat → Nat) (e p z : Nat) (W : Nat → Nat → Nat) (pl : Nat → Nat) : Prop := elH a i s n ∧ i 5 0 = nI k ∧ (∀ j, j < n → a 6 j = nI (kl (s j))) ∧ (∀ l, l < k → a 8 l = nI (re l) ∧ a 7 l = nI (kc_s (Gl s n) kl l)) ∧ i 5 6 = nI e ∧ (∀ c q, c < k → q < e → g 9 c q = nI (kl (pw (re c) q))) ∧ (∀ x y l, x < k → y < k → l < k → a 11 ((x * 16 + y) * 16 + l) = nI (Amo s n kl re x y l)) ∧ i 12 0 = nI p ∧ i 12 1 = nI z ∧ cmO p k (Amo s n kl re) W ∧ (∀ r q, r < k → q < k → W r q < p) ∧ rwsO p k n (kc_s (Gl s n) kl) (ivO kl re e) (sqO kl re e) W a g k pl ∧ nlM a i (nlAll (a 26) k)
def ccB (gen : Nat → Nat) (gc : Nat) (a : sA) (g : sG) (i : sA) : Prop := ∃ (s : Nat → Nat) (n k : Nat) (kl re : Nat → Nat) (e p z : Nat) (W : Nat → Nat → Nat) (pl : Nat → Nat), grT gen gc s n k kl re e p z ∧ ccT a g i s n k kl re e p z W pl
theorem isP_nI {x y : Int32} (h : x = y) : y = x := h.symm

set_option maxHeartbeats 4000000 in
set_option maxRecDepth 100000 in
theorem c_Cc_workOut (l : Launch) (D : va_G) (E : sx_E) (B : Nat) (A : Nat → Prop) (hB : 29 ≤ B) {a : sA} {g : sG} {i : sA} {gen : Nat → Nat} {gc : Nat} (hgc : gc ≤ 4) (hgi : i 0 1 = nI gc) (h1 : ∀ k, k < gc → a 1 k = nI (gen k)) (hg : ∀ k, k < gc → isP (gen k)) : sM l D E B A yCc_workOut prog_1_method_24_code 1 (some .int) 5 133 [.inr (0, 0)] (cW a g i) (fun r w' => ∃ (a' : sA) (g' : sG) (i' : sA), w' = cW a' g' i' ∧ a' 1 = a 1 ∧ i' 0 = i 0 ∧ ((r = some (.inl 0) ∧ ccB gen gc a' g' i') ∨ (r = some (.inl 1) ∧ gMany gen gc) ∨ (r = some (.inl 2) ∧ ∃ s n, elS gen gc s n ∧ cMany s n))) := by
  refine sx_m0 (ls := lCc_workOut) (cs := csAll) (by decide +kernel) kCc_workOut (hCc_workOut l D E B A hB) (by simp) (fun w' h => (by obtain ⟨_, _, _, _, _, _, h⟩ := h; rcases h with h | h | h <;> cases h.1)) ?_
  intro Z hZ
  refine z_aload_n hZ gCc_workOut_0 rfl ?_
  refine z_get hZ gCc_workOut_1 (by omega) rfl rfl ?_
  refine z_aload_n hZ gCc_workOut_4 rfl ?_
  refine z_get hZ gCc_workOut_5 (by omega) rfl rfl ?_
  refine z_aload_n hZ gCc_workOut_8 rfl ?_
  refine z_get hZ gCc_workOut_9 (by omega) rfl (by rw [hgi]; rfl) ?_
  refine z_cv hZ gCc_workOut_12 rfl rfl (Nat.le_of_ble_eq_true rfl) (Nat.le_of_ble_eq_true rfl) ⟨⟨2, _, _, rfl, by decide, rfl⟩, fun l9 D E B A hB => c_El_generate l9 D E B A hB (gen := gen) (gc := gc) hgc h1 hg⟩ (fun r12 w12 p12 => ?_)
  obtain ⟨f3, f4, n, rfl, p12⟩ := p12
  obtain ⟨a1, ha1⟩ : ∃ a1 : sA, a1 = va_up (va_up a 3 f3) 4 f4 := ⟨_, rfl⟩
  obtain ⟨i1, hi1⟩ : ∃ i1 : sA, i1 = va_up i 2 (va_up (i 2) 2 (nI n)) := ⟨_, rfl⟩
  show Z 15 _ _ (cW (va_up (va_up a 3 f3) 4 f4) g (va_up i 2 (va_up (i 2) 2 (nI n))))
  rw [← ha1, ← hi1]
  have ea1 : a1 1 = a 1 := by rw [ha1, va_up_ne _ _ (by decide), va_up_ne _ _ (by decide)]
  have ei1 : i1 0 = i 0 := by rw [hi1, va_up_ne _ _ (by decide)]
  rcases p12 with ⟨rfl, e0, hI, hcl⟩ | ⟨rfl, hM⟩
  rotate_left
  · show Z 15 _ (.inl 0 :: []) _
    refine z_ifne hZ gCc_workOut_15 (fun c15 => absurd rfl c15) (fun c15 => ?_)
    refine z_iconst hZ gCc_workOut_18 _ rfl ?_
    refine z_iret hZ gCc_workOut_19 ?_
    exact ⟨a1, g, i1, rfl, ea1, ei1, Or.inr (Or.inl ⟨rfl, hM⟩)⟩
  · show Z 15 _ (.inl 1 :: []) _
    refine z_ifne hZ gCc_workOut_15 (fun c15 => ?_) (fun c15 => absurd c15 (by decide))
    obtain ⟨s, hS, hs1, hs2⟩ := gI_elS hg hI hcl
    have hel1 : elH a1 i1 s n := ⟨by rw [hi1, va_up_self, va_up_self], hS.2.1, fun j hj => by rw [ha1, va_up_ne _ _ (by decide), va_up_self]; exact hs1 j hj, hS.2.2.1, hs2⟩
    have hn := hS.2.1
    refine z_aload_n hZ gCc_workOut_20 rfl ?_
    refine z_get hZ gCc_workOut_21 (by omega) rfl rfl ?_
    refine z_aload_n hZ gCc_workOut_24 rfl ?_
    refine z_get hZ gCc_workOut_25 (by omega) rfl rfl ?_
    refine z_cv hZ gCc_workOut_28 rfl rfl (Nat.le_of_ble_eq_true rfl) (Nat.le_of_ble_eq_true rfl) ⟨⟨5, _, _, rfl, by decide, rfl⟩, fun l9 D E B A hB => c_Co_divide l9 D E B A hB hg hS hel1⟩ (fun r28 w28 p28 => ?_)
    obtain ⟨f6, f7, f8, k, rfl, p28⟩ := p28
    obtain ⟨a2, ha2⟩ : ∃ a2 : sA, a2 = va_up (va_up (va_up a1 8 f8) 7 f7) 6 f6 := ⟨_, rfl⟩
    obtain ⟨i2, hi2⟩ : ∃ i2 : sA, i2 = va_up i1 5 (va_up (i1 5) 0 (nI k)) := ⟨_, rfl⟩
    show Z 31 _ _ (cW (va_up (va_up (va_up a1 8 f8) 7 f7) 6 f6) g (va_up i1 5 (va_up (i1 5) 0 (nI k))))
    rw [← ha2, ← hi2]
    have fa2 : ∀ x, x ≠ 8 → x ≠ 7 → x ≠ 6 → a2 x = a1 x := fun x h1 h2 h3 => by rw [ha2, va_up_ne _ _ h3, va_up_ne _ _ h2, va_up_ne _ _ h1]
    have fi2 : ∀ x, x ≠ 5 → i2 x = i1 x := fun x h1 => by rw [hi2, va_up_ne _ _ h1]
    have ea2 : a2 1 = a 1 := by rw [fa2 1 (by decide) (by decide) (by decide), ea1]
    have ei2 : i2 0 = i 0 := by rw [fi2 0 (by decide), ei1]
    rcases p28 with ⟨rfl, kl, re, hC, hk16, hq6, hq8⟩ | ⟨rfl, hM⟩
    rotate_left
    · show Z 31 _ (.inl 0 :: []) _
      refine z_ifne hZ gCc_workOut_31 (fun c31 => absurd rfl c31) (fun c31 => ?_)
      refine z_iconst hZ gCc_workOut_34 _ rfl ?_
      refine z_iret hZ gCc_workOut_35 ?_
      exact ⟨a2, g, i2, rfl, ea2, ei2, Or.inr (Or.inr ⟨rfl, s, n, hS, hM⟩)⟩
    · show Z 31 _ (.inl 1 :: []) _
      refine z_ifne hZ gCc_workOut_31 (fun c31 => ?_) (fun c31 => absurd c31 (by decide))
      have hel2 : elH a2 i2 s n := by
        obtain ⟨q1, q2, q3, q4⟩ := hel1
        exact ⟨by rw [fi2 2 (by decide)]; exact q1, q2, by rw [fa2 3 (by decide) (by decide) (by decide)]; exact q3, q4⟩
      have hk2 : i2 5 0 = nI k := by rw [hi2, va_up_self, va_up_self]
      have h62 : ∀ j, j < n → a2 6 j = nI (kl (s j)) := fun j hj => by rw [ha2, va_up_self]; exact hq6 j hj
      have h82 : ∀ l, l < k → a2 8 l = nI (re l) := fun l hl => by rw [ha2, va_up_ne _ _ (by decide), va_up_ne _ _ (by decide), va_up_self]; exact (hq8 l hl).1
      have h72 : ∀ l, l < k → a2 7 l = nI (kc_s (Gl s n) kl l) := fun l hl => by rw [ha2, va_up_ne _ _ (by decide), va_up_self]; exact (hq8 l hl).2
      refine z_aload_n hZ gCc_workOut_36 rfl ?_
      refine z_get hZ gCc_workOut_37 (by omega) rfl rfl ?_
      refine z_aload_n hZ gCc_workOut_40 rfl ?_
      refine z_get hZ gCc_workOut_41 (by omega) rfl rfl ?_
      refine z_cv hZ gCc_workOut_44 rfl rfl (Nat.le_of_ble_eq_true rfl) (Nat.le_of_ble_eq_true rfl) ⟨⟨5, _, _, rfl, by decide, rfl⟩, fun l9 D E B A hB => c_Co_listPowers l9 D E B A hB hel2 hC hk16 hk2 h62 h82⟩ (fun r44 w44 p44 => ?_)
      obtain ⟨rfl, P, cur, e, rfl, hE, hen, hPw⟩ := p44
      obtain ⟨a3, ha3⟩ : ∃ a3 : sA, a3 = va_up a2 10 cur := ⟨_, rfl⟩
      obtain ⟨g3, hg3⟩ : ∃ g3 : sG, g3 = va_up g 9 P := ⟨_, rfl⟩
      obtain ⟨i3, hi3⟩ : ∃ i3 : sA, i3 = va_up i2 5 (va_up (i2 5) 6 (nI e)) := ⟨_, rfl⟩
      show Z (44 + 3) _ [] (cW (va_up a2 10 cur) (va_up g 9 P) (va_up i2 5 (va_up (i2 5) 6 (nI e))))
      rw [← ha3, ← hg3, ← hi3]
      have fa3 : ∀ x, x ≠ 10 → a3 x = a2 x := fun x h1 => by rw [ha3, va_up_ne _ _ h1]
      have fi3 : ∀ x, x ≠ 5 → i3 x = i2 x := fun x h1 => by rw [hi3, va_up_ne _ _ h1]
      have hel3 : elH a3 i3 s n := by
        obtain ⟨q1, q2, q3, q4⟩ := hel2
        exact ⟨by rw [fi3 2 (by decide)]; exact q1, q2, by rw [fa3 3 (by decide)]; exact q3, q4⟩
      have hk3 : i3 5 0 = nI k := by rw [hi3, va_up_self, va_up_ne _ _ (by decide)]; exact hk2
      have he3 : i3 5 6 = nI e := by rw [hi3, va_up_self, va_up_self]
      have h63 : ∀ j, j < n → a3 6 j = nI (kl (s j)) := by rw [fa3 6 (by decide)]; exact h62
      have h83 : ∀ l, l < k → a3 8 l = nI (re l) := by rw [fa3 8 (by decide)]; exact h82
      have h93 : ∀ c q, c < k → q < e → g3 9 c q = nI (kl (pw (re c) q)) := by rw [hg3, va_up_self]; exact hPw
      refine z_aload_n hZ gCc_workOut_47 rfl ?_
      refine z_get hZ gCc_workOut_48 (by omega) rfl rfl ?_
      refine z_aload_n hZ gCc_workOut_51 rfl ?_
      refine z_get hZ gCc_workOut_52 (by omega) rfl rfl ?_
      refine z_cv hZ gCc_workOut_55 rfl rfl (Nat.le_of_ble_eq_true rfl) (Nat.le_of_ble_eq_true rfl) ⟨⟨5, _, _, rfl, by decide, rfl⟩, fun l9 D E B A hB => c_Co_countPairs l9 D E B A hB hel3 hC (fun x hx => elS_P hg hS hx) hk16 hk3 h63 h83⟩ (fun r55 w55 p55 => ?_)
      obtain ⟨rfl, f11, rfl, hAm⟩ := p55
      obtain ⟨a4, ha4⟩ : ∃ a4 : sA, a4 = va_up a3 11 f11 := ⟨_, rfl⟩
      rw [← ha4]
      have fa4 : ∀ x, x ≠ 11 → a4 x = a3 x := fun x h1 => by rw [ha4, va_up_ne _ _ h1]
      have hel4 : elH a4 i3 s n := by
        obtain ⟨q1, q2, q3, q4⟩ := hel3
        exact ⟨q1, q2, by rw [fa4 3 (by decide)]; exact q3, q4⟩
      show Z (55 + 3) _ [] _
      refine z_aload_n hZ gCc_workOut_58 rfl ?_
      refine z_get hZ gCc_workOut_59 (by omega) rfl rfl ?_
      refine z_aload_n hZ gCc_workOut_62 rfl ?_
      refine z_get hZ gCc_workOut_63 (by omega) rfl rfl ?_
      refine z_get hZ gCc_workOut_66 (by omega) rfl (by rw [hel4.1]; rfl) ?_
      refine z_aload_n hZ gCc_workOut_69 rfl ?_
      refine z_get hZ gCc_workOut_70 (by omega) rfl rfl ?_
      refine z_get hZ gCc_workOut_73 (by omega) rfl (by rw [he3]; rfl) ?_
      refine z_cv hZ gCc_workOut_76 rfl rfl (Nat.le_of_ble_eq_true rfl) (Nat.le_of_ble_eq_true rfl) ⟨⟨12, _, _, rfl, by decide, rfl⟩, fun l9 D E B A hB => c_Re_choose l9 D E B A hB (n := n) (e := e) hn hE.1 (by omega)⟩ (fun r76 w76 p76 => ?_)
      obtain ⟨rfl, p, z, rfl, hPm, hp92, hRt⟩ := p76
      obtain ⟨i4, hi4⟩ : ∃ i4 : sA, i4 = va_up i3 12 (va_up (va_up (i3 12) 0 (nI p)) 1 (nI z)) := ⟨_, rfl⟩
      show Z (76 + 3) _ [] (cW a4 g3 (va_up i3 12 (va_up (va_up (i3 12) 0 (nI p)) 1 (nI z))))
      rw [← hi4]
      have fi4 : ∀ x, x ≠ 12 → i4 x = i3 x := fun x h1 => by rw [hi4, va_up_ne _ _ h1]
      have hm4 : i4 12 0 = nI p := by rw [hi4, va_up_self, va_up_ne _ _ (by decide), va_up_self]
      have hz4 : i4 12 1 = nI z := by rw [hi4, va_up_self, va_up_self]
      have hk4 : i4 5 0 = nI k := by rw [fi4 5 (by decide)]; exact hk3
      have he4 : i4 5 6 = nI e := by rw [fi4 5 (by decide)]; exact he3
      have hAm4 : ∀ x y l, x < k → y < k → l < k → a4 11 ((x * 16 + y) * 16 + l) = nI (Amo s n kl re x y l) ∧ Amo s n kl re x y l ≤ 120 := fun x y l hx hy hl => ⟨by rw [ha4, va_up_self]; exact hAm x y l hx hy hl, Nat.le_trans (Am_le x y l) hn⟩
      have hk1 : 1 ≤ k := hC.1.2.2.2.2.2
      refine z_aload_n hZ gCc_workOut_79 rfl ?_
      refine z_get hZ gCc_workOut_80 (by omega) rfl rfl ?_
      refine z_aload_n hZ gCc_workOut_83 rfl ?_
      refine z_get hZ gCc_workOut_84 (by omega) rfl rfl ?_
      refine z_aload_n hZ gCc_workOut_87 rfl ?_
      refine z_get hZ gCc_workOut_88 (by omega) rfl rfl ?_
      refine z_cv hZ gCc_workOut_91 rfl rfl (Nat.le_of_ble_eq_true rfl) (Nat.le_of_ble_eq_true rfl) ⟨⟨13, _, _, rfl, by decide, rfl⟩, fun l9 D E B A hB => c_Cm_find l9 D E B A hB (Am := Amo s n kl re) hm4 hPm.1 hp92 hk4 hk1 hk16 rfl hAm4 (fun x l hx hl => by rw [Am_comm hC x 0 hl]; exact Am_id hC hl) (fun q l _ hl => Am_id hC hl) (fun x hx v => Am_T hC hE hPm x hx v) (fun y z v _ _ => Am_cm hC y z v)⟩ (fun r91 w91 p91 => ?_)
      obtain ⟨rfl, a5, g5, Wm, rfl, fa5, fg5, hgm, hcm⟩ := p91
      obtain ⟨i5, hi5⟩ : ∃ i5 : sA, i5 = va_up i4 13 (va_up (i4 13) 0 (nI k)) := ⟨_, rfl⟩
      rw [← hi5]
      have fi5 : ∀ x, x ≠ 13 → i5 x = i4 x := fun x h1 => by rw [hi5, va_up_ne _ _ h1]
      have hel5 : elH a5 i5 s n := by
        obtain ⟨q1, q2, q3, q4⟩ := hel4
        exact ⟨by rw [fi5 2 (by decide), fi4 2 (by decide)]; exact q1, q2, by rw [fa5 3 (by decide)]; exact q3, q4⟩
      have hm5 : i5 12 0 = nI p := by rw [fi5 12 (by decide)]; exact hm4
      have hz5 : i5 12 1 = nI z := by rw [fi5 12 (by decide)]; exact hz4
      have hk5 : i5 5 0 = nI k := by rw [fi5 5 (by decide)]; exact hk4
      have he5 : i5 5 6 = nI e := by rw [fi5 5 (by decide)]; exact he4
      have h65 : ∀ j, j < n → a5 6 j = nI (kl (s j)) := by rw [fa5 6 (by decide), fa4 6 (by decide)]; exact h63
      have h85 : ∀ l, l < k → a5 8 l = nI (re l) := by rw [fa5 8 (by decide), fa4 8 (by decide)]; exact h83
      have h75 : ∀ l, l < k → a5 7 l = nI (kc_s (Gl s n) kl l) := by rw [fa5 7 (by decide), fa4 7 (by decide), fa3 7 (by decide)]; exact h72
      have h95 : ∀ c q, c < k → q < e → g5 9 c q = nI (kl (pw (re c) q)) := by rw [fg5 9 (by decide)]; exact h93
      have h115 : ∀ x y l, x < k → y < k → l < k → a5 11 ((x * 16 + y) * 16 + l) = nI (Amo s n kl re x y l) := by rw [fa5 11 (by decide)]; exact fun x y l hx hy hl => (hAm4 x y l hx hy hl).1
      have hklt : ∀ c q, c < k → kl (pw (re c) q) < k := fun c q hc => kc_lt hC.1 (gg_pm (kc_g hC.1) (kc_re hC.1 hc) q)
      have he0 := hE.1
      show Z (91 + 3) _ [] _
      refine z_aload_n hZ gCc_workOut_94 rfl ?_
      refine z_get hZ gCc_workOut_95 (by omega) rfl rfl ?_
      refine z_aload_n hZ gCc_workOut_98 rfl ?_
      refine z_get hZ gCc_workOut_99 (by omega) rfl rfl ?_
      refine z_get hZ gCc_workOut_102 (by omega) rfl (by rw [hel5.1]; rfl) ?_
      refine z_aload_n hZ gCc_workOut_105 rfl ?_
      refine z_get hZ gCc_workOut_106 (by omega) rfl rfl ?_
      refine z_aload_n hZ gCc_workOut_109 rfl ?_
      refine z_get hZ gCc_workOut_110 (by omega) rfl rfl ?_
      refine z_aload_n hZ gCc_workOut_113 rfl ?_
      refine z_get hZ gCc_workOut_114 (by omega) rfl rfl ?_
      refine z_cv hZ gCc_workOut_117 rfl rfl (Nat.le_of_ble_eq_true rfl) (Nat.le_of_ble_eq_true rfl) ⟨⟨22, _, _, rfl, by decide, rfl⟩, fun l9 D E B A hB => c_Ro_make l9 D E B A hB (ord := n) (e := e) (sz := kc_s (Gl s n) kl) (iv := ivO kl re e) (sq := sqO kl re e) (W := Wm) rfl hm5 hPm.1 hp92 hk5 hk16 hn (pm_nd hC hE hPm) he5 he0 (by omega) (fun q hq => ⟨h75 q hq, Nat.le_trans (sz_le q) hn, sz_nd hC hE hPm hq⟩) (fun q hq => ⟨h95 q (e - 1) hq (by omega), hklt q _ hq⟩) (fun q hq => ⟨h95 q (2 % e) hq (Nat.mod_lt _ he0), hklt q _ hq⟩) (fun r hr q hq => hgm r q hr hq)⟩ (fun r117 w117 p117 => ?_)
      obtain ⟨rfl, a6, g6, i6, pl, rfl, fa6, fg6, fi6, hrw, hnl⟩ := p117
      have fi6n : ∀ n9 q, n9 ≠ 22 → i6 n9 q = i5 n9 q := fun n9 q hn9 => by rw [fi6 n9 q (fun h9 => hn9 h9.1), va_up_ne _ _ hn9]
      show Z (117 + 3) _ [] _
      refine z_iconst hZ gCc_workOut_120 _ rfl ?_
      refine z_iret hZ gCc_workOut_121 ?_
      refine ⟨a6, g6, i6, rfl, ?_, ?_, Or.inl ⟨rfl, s, n, k, kl, re, e, p, z, Wm, pl, ⟨hS, hC, hk16, hE, hen, hPm, hp92, hRt⟩, ?_⟩⟩
      · rw [fa6 1 (by decide), fa5 1 (by decide), fa4 1 (by decide), fa3 1 (by decide), ea2]
      · funext q
        rw [fi6n 0 q (by decide), fi5 0 (by decide), fi4 0 (by decide), fi3 0 (by decide), ei2]
      · obtain ⟨q1, q2, q3, q4⟩ := hel5
        refine ⟨⟨by rw [fi6n 2 2 (by decide)]; exact q1, q2, by rw [fa6 3 (by decide)]; exact q3, q4⟩, by rw [fi6n 5 0 (by decide)]; exact hk5, by rw [fa6 6 (by decide)]; exact h65, fun l hl => ⟨by rw [fa6 8 (by decide)]; exact h85 l hl, by rw [fa6 7 (by decide)]; exact h75 l hl⟩, by rw [fi6n 5 6 (by decide)]; exact he5, by rw [fg6 9 (by decide)]; exact h95, by rw [fa6 11 (by decide)]; exact h115, by rw [fi6n 12 0 (by decide)]; exact hm5, by rw [fi6n 12 1 (by decide)]; exact hz5, hcm, fun r q hr hq => (hgm r q hr hq).2, hrw, hnl⟩

