-- the reference: taken apart
def cnO (k : Nat) (W : Nat → Nat → Nat) (cl : Nat → Nat) (ci : Nat) : Prop := ∀ r r', r < k → r' < k → cl r = cl r' → ∀ x, x < ci → W r x = W r' x
theorem sp_ref {k num ci u : Nat} {W : Nat → Nat → Nat} {cl cl' : Nat → Nat} (h : spO k W ci u num cl cl') (hn : ∀ r, r < k → cl r < num) (hu : u < num) {r r' : Nat} (hr : r < k) (hr' : r' < k) (he : cl' r = cl' r') : cl r = cl r' := by
  have h1 := hn r hr
  have h2 := hn r' hr'
  by_cases e1 : cl r = u <;> by_cases e2 : cl r' = u
  · rw [e1, e2]
  · rw [h.1 r' hr' e2] at he
    rcases h.2.1 r hr e1 with h3 | h3 <;> omega
  · rw [h.1 r hr e1] at he
    rcases h.2.1 r' hr' e2 with h3 | h3 <;> omega
  · rw [h.1 r hr e1, h.1 r' hr' e2] at he; exact he
-- each idempotent belongs to one map
def idM (p k : Nat) (W : Nat → Nat → Nat) (f : Nat → Int32) (sg : Nat → Nat) : Prop := (∀ u, u < k → sg u < k ∧ ∃ x, vcO p k f u x ∧ ∀ r, r < k → (p : Int) ∣ ht k W x r - ib (decide (r = sg u))) ∧ ∀ u u', u < k → u' < k → sg u = sg u' → u = u'
theorem id_end {p k num : Nat} (hp : isPr p) {W : Nat → Nat → Nat} (hW : ∀ v, sp p k k (bV W) v) {f : Nat → Int32} {cl : Nat → Nat} (hid : idO p k W f num cl) (hc : cnO k W cl k) : num = k ∧ ∃ sg, idM p k W f sg := by
  have hinj : ∀ r r', r < k → r' < k → cl r = cl r' → r = r' := fun r r' hr hr' he => by
    have hall := hc r r' hr hr' he
    rcases Nat.lt_trichotomy r r' with h | h | h
    · obtain ⟨x, hx, hne⟩ := cm_ne hp hW h hr'
      exact absurd (hall x hx) hne
    · exact h
    · obtain ⟨x, hx, hne⟩ := cm_ne hp hW h hr
      exact absurd (hall x hx).symm hne
  have h1 : num ≤ k := pg_on hid.2.1
  have h2 : k ≤ num := by
    have hs : (List.range k).map cl ⊆ List.range num := fun u hu => by
      obtain ⟨r, hr, rfl⟩ := List.mem_map.mp hu
      exact List.mem_range.mpr (hid.1 r (List.mem_range.mp hr))
    have hn : ((List.range k).map cl).Nodup := List.pairwise_map.mpr (List.Pairwise.imp_of_mem (fun {u v} hu hv huv he => by
      have := hinj u v (List.mem_range.mp hu) (List.mem_range.mp hv) he
      omega) List.pairwise_lt_range)
    have := hn.length_le_of_subset hs
    rw [List.length_map, List.length_range, List.length_range] at this
    exact this
  have e : num = k := by omega
  subst e
  refine ⟨rfl, fun u => if h : ∃ r, r < num ∧ cl r = u then h.choose else 0, fun u hu => ?_, fun u u' hu hu' he => ?_⟩
  · have h := hid.2.1 u hu
    have hs := h.choose_spec
    have e1 : (if h : ∃ r, r < num ∧ cl r = u then h.choose else 0) = h.choose := dif_pos h
    show (if h : ∃ r, r < num ∧ cl r = u then h.choose else 0) < num ∧ ∃ x, vcO p num f u x ∧ ∀ r, r < num → (p : Int) ∣ ht num W x r - ib (decide (r = (if h : ∃ r, r < num ∧ cl r = u then h.choose else 0)))
    rw [e1]
    obtain ⟨x, hx, hxh⟩ := hid.2.2 u hu
    refine ⟨hs.1, x, hx, fun r hr => ?_⟩
    have e2 : decide (r = h.choose) = decide (cl r = u) := by
      by_cases h9 : cl r = u
      · rw [decide_eq_true h9, decide_eq_true (hinj r _ hr hs.1 (by rw [h9, hs.2]))]
      · rw [decide_eq_false h9, decide_eq_false (fun h8 => h9 (by rw [h8]; exact hs.2))]
    rw [e2]
    exact hxh r hr
  · have h := hid.2.1 u hu
    have h' := hid.2.1 u' hu'
    have he : (if h : ∃ r, r < num ∧ cl r = u then h.choose else 0) = (if h : ∃ r, r < num ∧ cl r = u' then h.choose else 0) := he
    rw [dif_pos h, dif_pos h'] at he
    rw [← h.choose_spec.2, ← h'.choose_spec.2, he]

set_option maxHeartbeats 4000000 in
set_option maxRecDepth 100000 in
theorem c_Mo_takeApart (l : Launch) (D : va_G) (E : sx_E) (B : Nat) (A : Nat → Prop) (hB : 11 ≤ B) {a : sA} {i : sA} {p k : Nat} {Am : Nat → Nat → Nat → Nat} {W : Nat → Nat → Nat} (hk1 : 1 ≤ k) (hmd : mdO p k Am a i) (hcm : cmO p k Am W) (hWp : ∀ r q, r < k → q < k → W r q < p) : sM l D E B A yMo_takeApart prog_9_method_25_code 4 none 4 98 [.inr (0, 0)] (mW a i) (fun r w' => r = none ∧ ∃ (f : Nat → Int32) (i' : sA) (sg : Nat → Nat), w' = mW (va_up a 7 f) i' ∧ frM [14] i i' ∧ idM p k W f sg) := by
  refine sx_m0 (ls := lMo_takeApart) (cs := csAll) (by decide +kernel) kMo_takeApart (hMo_takeApart l D E B A hB) (by simp) (fun x w' h => by cases h.1) ?_
  intro Z hZ
  have hk16 := hmd.2.2.1
  have hp1 := hmd.1.1
  have h6 : ∀ i' : sA, frM [14] i i' → i' 0 6 = nI k := fun i' h => by rw [h 6 (by decide)]; exact hmd.2.2.2.2.1
  have hmd' : ∀ (f : Nat → Int32) (i' : sA), frM [14] i i' → mdO p k Am (va_up a 7 f) i' := fun f i' h => by
    obtain ⟨q1, q2, q3, q4, q5, q6, q7⟩ := mdO_7 hmd f
    exact ⟨q1, q2, q3, by rw [h 11 (by decide)]; exact q4, by rw [h 6 (by decide)]; exact q5, q6, q7⟩
  have outer : ∀ n9 ci num cl (f : Nat → Int32) (i' : sA) x2 x3, n9 + ci = k → frM [14] i i' → i' 0 14 = nI num → idO p k W f num cl → cnO k W cl ci → Z 36 [some (.inr (0, 0)), some (.inl (nI ci)), x2, x3] [] (mW (va_up a 7 f) i') := by
    intro n9
    induction n9 with
    | zero =>
      intro ci num cl f i' x2 x3 hn hfi h14 hid hcn
      have e9 : ci = k := by omega
      subst e9
      refine z_iload_n hZ gMo_takeApart_36 rfl ?_
      refine z_aload_n hZ gMo_takeApart_37 rfl ?_
      refine z_get hZ gMo_takeApart_38 (by omega) rfl (by rw [h6 i' hfi]; rfl) ?_
      refine z_cmpge hZ gMo_takeApart_41 (fun c41 => ?_) (fun c41 => absurd (nI_le (Nat.le_refl ci) (by omega)) c41)
      refine z_vret hZ gMo_takeApart_74 ?_
      obtain ⟨-, sg, hsg⟩ := id_end hmd.1 hcm.2 hid hcn
      exact ⟨rfl, f, i', sg, rfl, hfi, hsg⟩
    | succ n9 ih =>
      intro ci num cl f i' x2 x3 hn hfi h14 hid hcn
      have hci : ci < k := by omega
      have hnk : num ≤ k := pg_on hid.2.1
      have inner : ∀ n8 u nm cl (f : Nat → Int32) (i' : sA), n8 + u = num → num ≤ nm → frM [14] i i' → i' 0 14 = nI nm → idO p k W f nm cl → cnO k W cl ci → (∀ r r', r < k → r' < k → cl r = cl r' → cl r < u ∨ num ≤ cl r → W r ci = W r' ci) → Z 51 [some (.inr (0, 0)), some (.inl (nI ci)), some (.inl (nI num)), some (.inl (nI u))] [] (mW (va_up a 7 f) i') := by
        intro n8
        induction n8 with
        | zero =>
          intro u nm cl f i' hn8 hnm hfi h14 hid hcn hnew
          have e9 : u = num := by omega
          rw [e9]
          refine z_iload_n hZ gMo_takeApart_51 rfl ?_
          refine z_iload_n hZ gMo_takeApart_52 rfl ?_
          refine z_cmpge hZ gMo_takeApart_53 (fun c53 => ?_) (fun c53 => absurd (nI_le (Nat.le_refl num) (by omega)) c53)
          refine z_iinc hZ gMo_takeApart_68 rfl _ (i1 ci) rfl ?_
          refine z_goto hZ gMo_takeApart_71 ?_
          refine ih (ci + 1) nm cl f i' _ _ (by omega) hfi h14 hid (fun r r' hr hr' he x hx => ?_)
          by_cases e8 : x = ci
          · rw [e8]; exact hnew r r' hr hr' he (by omega)
          · exact hcn r r' hr hr' he x (by omega)
        | succ n8 ih8 =>
          intro u nm cl f i' hn8 hnm hfi h14 hid hcn hnew
          refine z_iload_n hZ gMo_takeApart_51 rfl ?_
          refine z_iload_n hZ gMo_takeApart_52 rfl ?_
          refine z_cmpge hZ gMo_takeApart_53 (fun c53 => absurd c53 (nI_ge (by omega) (by omega))) (fun c53 => ?_)
          refine z_aload_n hZ gMo_takeApart_56 rfl ?_
          refine z_iload_n hZ gMo_takeApart_57 rfl ?_
          refine z_iload_n hZ gMo_takeApart_58 rfl ?_
          refine z_cv hZ gMo_takeApart_59 rfl rfl (Nat.le_of_ble_eq_true rfl) (Nat.le_of_ble_eq_true rfl) ⟨⟨0, _, _, rfl, by decide, rfl⟩, fun l9 D E B A hB => c_Mo_split l9 D E B A hB (num := nm) (cl := cl) (hmd' f i' hfi) hcm hWp hci (by omega) h14 (by rw [va_up_self]; exact hid)⟩ (fun r59 w59 p59 => ?_)
          obtain ⟨rfl, f2, i2, nm2, cl2, rfl, hfi2, h142, hid2, hle, hsp⟩ := p59
          rw [va_uu]
          show Z (59 + 3) _ [] _
          refine z_iinc hZ gMo_takeApart_62 rfl _ (i1 u) rfl ?_
          refine z_goto hZ gMo_takeApart_65 ?_
          refine ih8 (u + 1) nm2 cl2 f2 i2 (by omega) (by omega) (fun q hq => by rw [hfi2 q hq]; exact hfi q hq) h142 hid2 (fun r r' hr hr' he x hx => hcn r r' hr hr' (sp_ref hsp hid.1 (by omega) hr hr' he) x hx) (fun r r' hr hr' he hor => ?_)
          have he0 := sp_ref hsp hid.1 (by omega) hr hr' he
          by_cases e8 : cl r = u
          · exact hsp.2.2 r r' hr hr' e8 (by rw [← he0]; exact e8) he
          · rw [hsp.1 r hr e8] at hor
            exact hnew r r' hr hr' he0 (by omega)
      refine z_iload_n hZ gMo_takeApart_36 rfl ?_
      refine z_aload_n hZ gMo_takeApart_37 rfl ?_
      refine z_get hZ gMo_takeApart_38 (by omega) rfl (by rw [h6 i' hfi]; rfl) ?_
      refine z_cmpge hZ gMo_takeApart_41 (fun c41 => absurd c41 (nI_ge (by omega) (by omega))) (fun c41 => ?_)
      refine z_aload_n hZ gMo_takeApart_44 rfl ?_
      refine z_get hZ gMo_takeApart_45 (by omega) rfl (by rw [h14]; rfl) ?_
      refine z_istore_n hZ gMo_takeApart_48 rfl ?_
      refine z_iconst hZ gMo_takeApart_49 _ i0 ?_
      refine z_istore_n hZ gMo_takeApart_50 rfl ?_
      exact inner num 0 num cl f i' (by omega) (Nat.le_refl _) hfi h14 hid hcn (fun r r' hr hr' he hor => by
        have := hid.1 r hr
        omega)
  have base : ∀ m l (f : Nat → Int32) x2 x3, m + l = 16 → (∀ j, j < l → f (16 * 0 + j) = nI (if j = 0 then 1 else 0)) → Z 2 [some (.inr (0, 0)), some (.inl (nI l)), x2, x3] [] (mW (va_up a 7 f) i) := by
    intro m
    induction m with
    | zero =>
      intro l f x2 x3 hm h1
      have e9 : l = 16 := by omega
      subst e9
      refine z_iload_n hZ gMo_takeApart_2 rfl ?_
      refine z_bipush hZ gMo_takeApart_3 _ i16 ?_
      refine z_cmpge hZ gMo_takeApart_5 (fun c5 => ?_) (fun c5 => absurd (nI_le (Nat.le_refl 16) (by decide)) c5)
      refine z_aload_n hZ gMo_takeApart_29 rfl ?_
      refine z_iconst hZ gMo_takeApart_30 _ ic1 ?_
      refine z_putW hZ gMo_takeApart_31 (by omega) rfl (Or.inl (by decide)) (Nat.le_of_ble_eq_true rfl) mW_i0_14 ?_
      refine z_iconst hZ gMo_takeApart_34 _ ic1 ?_
      refine z_istore_n hZ gMo_takeApart_35 rfl ?_
      refine outer (k - 1) 1 1 (fun _ => 0) f _ _ _ (by omega) (frM_up (fun _ _ => rfl) (by decide)) (by rw [va_up_self, va_up_self]) ⟨fun _ _ => Nat.zero_lt_one, fun u hu => ⟨0, by omega, show 0 = u by omega⟩, fun u hu => ⟨fun j => if j = 0 then 1 else 0, fun j hj => ?_, fun r hr => ?_⟩⟩ (fun r r' hr hr' _ x hx => ?_)
      · have e8 : u = 0 := by omega
        rw [e8]
        refine ⟨h1 j hj, ?_, fun hkj => if_neg (by omega)⟩
        show (if j = 0 then 1 else 0) < p
        split <;> omega
      · have e8 : u = 0 := by omega
        rw [ht_e (by omega), (hcm.1 r hr).1, ib_t (decide_eq_true e8.symm)]
        exact Int.dvd_zero _
      · have e8 : x = 0 := by omega
        rw [e8, (hcm.1 r hr).1, (hcm.1 r' hr').1]
    | succ m ih =>
      intro l f x2 x3 hm h1
      have el := nI_clamp (n := 16 * 0 + l) (by omega)
      have next : ∀ v : Nat, v = (if l = 0 then 1 else 0) → Z 22 [some (.inr (0, 0)), some (.inl (nI l)), x2, x3] [.inl (nI v), .inl (nI (16 * 0 + l)), .inr (7, 0)] (mW (va_up a 7 f) i) := by
        intro v hv
        refine z_iastW hZ gMo_takeApart_22 (by omega) rfl (vp_in_nI (by omega) (by decide)) mW_a7 ?_
        rw [el, va_up_self, va_uu]
        refine z_iinc hZ gMo_takeApart_23 rfl _ (i1 l) rfl ?_
        refine z_goto hZ gMo_takeApart_26 ?_
        refine ih (l + 1) _ _ _ (by omega) (fun j hj => ?_)
        by_cases e9 : j = l
        · subst e9; rw [pk_us, hv]
        · rw [pk_un (by omega)]; exact h1 j (by omega)
      have e0 : 16 * 0 + l = l := by omega
      rw [e0] at next
      refine z_iload_n hZ gMo_takeApart_2 rfl ?_
      refine z_bipush hZ gMo_takeApart_3 _ i16 ?_
      refine z_cmpge hZ gMo_takeApart_5 (fun c5 => absurd c5 (nI_ge (by omega) (by decide))) (fun c5 => ?_)
      refine z_aload_n hZ gMo_takeApart_8 rfl ?_
      refine z_get hZ gMo_takeApart_9 (by omega) rfl rfl ?_
      refine z_iload_n hZ gMo_takeApart_12 rfl ?_
      refine z_iload_n hZ gMo_takeApart_13 rfl ?_
      refine z_ifne hZ gMo_takeApart_14 (fun c14 => ?_) (fun c14 => ?_)
      · have ct14 := c14
        have hv : 0 = (if l = 0 then 1 else 0) := (if_neg (fun h9 => c14 (by rw [h9]; rfl))).symm
        refine z_iconst hZ gMo_takeApart_21 _ i0 ?_
        exact next _ hv
      · have cf14 := c14
        have hv : 1 = (if l = 0 then 1 else 0) := (if_pos ((nI_eq (b := 0) (by omega) (by decide)).mp c14)).symm
        refine z_iconst hZ gMo_takeApart_17 _ ic1 ?_
        refine z_goto hZ gMo_takeApart_18 ?_
        exact next _ hv
  refine z_iconst hZ gMo_takeApart_0 _ i0 ?_
  refine z_istore_n hZ gMo_takeApart_1 rfl ?_
  have h9 := base 16 0 (a 7) none none rfl (fun q hq => absurd hq (Nat.not_lt_zero q))
  rw [va_id a (k := 7) rfl] at h9
  exact h9

