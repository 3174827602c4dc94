-- one kernel after the other
def nlF (L0 : List Int32) (x : Int32) (q : Nat) : List Int32 := ((L0.take q).map (fun y => y &&& x)).foldl nlA (nlA L0 x)
def nlAll (ker : Nat → Int32) : Nat → List Int32
  | 0 => []
  | r + 1 => nlF (nlAll ker r) (ker r) (nlAll ker r).length
theorem nlA_pre (L : List Int32) (x : Int32) : ∃ R, nlA L x = L ++ R := by
  unfold nlA
  split
  · exact ⟨[], (List.append_nil L).symm⟩
  · split
    · exact ⟨[x], rfl⟩
    · exact ⟨[], (List.append_nil L).symm⟩
theorem nlF_s {L0 : List Int32} {x y : Int32} {q : Nat} (h : L0[q]? = some y) : nlF L0 x (q + 1) = nlA (nlF L0 x q) (y &&& x) := by
  unfold nlF
  rw [List.take_succ, h, List.map_append, List.foldl_append]
  rfl
theorem nlF_pre (L0 : List Int32) (x : Int32) : ∀ q, q ≤ L0.length → ∃ R, nlF L0 x q = L0 ++ R
  | 0, _ => nlA_pre L0 x
  | q + 1, h => by
    obtain ⟨R, hR⟩ := nlF_pre L0 x q (by omega)
    obtain ⟨R', hR'⟩ := nlA_pre (nlF L0 x q) (L0[q] &&& x)
    exact ⟨R ++ R', by rw [nlF_s (List.getElem?_eq_getElem (by omega)), hR', hR, List.append_assoc]⟩

set_option maxHeartbeats 4000000 in
set_option maxRecDepth 100000 in
theorem c_Ro_listNormals (l : Launch) (D : va_G) (E : sx_E) (B : Nat) (A : Nat → Prop) (hB : 29 ≤ B) {a : sA} {g : sG} {i : sA} {k : Nat} (h22 : i 22 0 = nI k) (hk : k ≤ 16) : sM l D E B A yRo_listNormals prog_7_method_9_code 4 none 1 22 [.inr (22, 0)] (cW a g i) (fun r9 w' => r9 = none ∧ ∃ a' i' : sA, w' = cW a' g i' ∧ nlM a' i' (nlAll (a 26) k) ∧ frA [28] a a' ∧ frI i i') := by
  refine sx_m0 (ls := lRo_listNormals) (cs := csAll) (by decide +kernel) kRo_listNormals (hRo_listNormals l D E B A hB) (by simp) (fun x w' h => by cases h.1) ?_
  intro Z hZ
  have outer : ∀ n r (a' i' : sA) x2 x3, n + r = k → frA [28] a a' → frI i i' → nlM a' i' (nlAll (a 26) r) → Z 7 [some (.inr (22, 0)), some (.inl (nI r)), x2, x3] [] (cW a' g i') := by
    intro n
    induction n with
    | zero =>
      intro r a' i' x2 x3 hn hfa hfi hL
      have e : r = k := by omega
      subst e
      have h22' : i' 22 0 = nI r := by rw [hfi 22 0 (by omega)]; exact h22
      refine z_iload_n hZ gRo_listNormals_7 rfl ?_
      refine z_aload_n hZ gRo_listNormals_8 rfl ?_
      refine z_get hZ gRo_listNormals_9 (by omega) rfl (by rw [h22']; rfl) ?_
      refine z_cmpge hZ gRo_listNormals_12 (fun c12 => ?_) (fun c12 => absurd (nI_le (Nat.le_refl r) (by omega)) c12)
      refine z_vret hZ gRo_listNormals_66 ?_
      exact ⟨rfl, a', i', rfl, hL, hfa, hfi⟩
    | succ n ih =>
      intro r a' i' x2 x3 hn hfa hfi hL
      have hr : r < k := by omega
      have er : (nI r).toNatClampNeg = r := nI_clamp (by omega)
      have h22' : i' 22 0 = nI k := by rw [hfi 22 0 (by omega)]; exact h22
      have e26 : a' 26 = a 26 := hfa 26 (by decide)
      have hL0 := hL.2.1
      have inner : ∀ m q (a2 i2 : sA), m + q = (nlAll (a 26) r).length → frA [28] a a2 → frI i i2 → nlM a2 i2 (nlF (nlAll (a 26) r) (a 26 r) q) → Z 32 [some (.inr (22, 0)), some (.inl (nI r)), some (.inl (nI (nlAll (a 26) r).length)), some (.inl (nI q))] [] (cW a2 g i2) := by
        intro m
        induction m with
        | zero =>
          intro q a2 i2 hmq hfa2 hfi2 hL2
          have e : q = (nlAll (a 26) r).length := by omega
          rw [e] at hL2 ⊢
          refine z_iload_n hZ gRo_listNormals_32 rfl ?_
          refine z_iload_n hZ gRo_listNormals_33 rfl ?_
          refine z_cmpge hZ gRo_listNormals_34 (fun c34 => ?_) (fun c34 => absurd (nI_le (Nat.le_refl _) (by omega)) c34)
          refine z_iinc hZ gRo_listNormals_60 rfl _ (i1 r) rfl ?_
          refine z_goto hZ gRo_listNormals_63 ?_
          exact ih (r + 1) a2 i2 _ _ (by omega) hfa2 hfi2 hL2
        | succ m ihm =>
          intro q a2 i2 hmq hfa2 hfi2 hL2
          have hq : q < (nlAll (a 26) r).length := by omega
          have eq0 : (nI q).toNatClampNeg = q := nI_clamp (by omega)
          have e26b : a2 26 = a 26 := hfa2 26 (by decide)
          obtain ⟨R, hR⟩ := nlF_pre (nlAll (a 26) r) (a 26 r) q (by omega)
          have h28 : (nlAll (a 26) r)[q]? = some (a2 28 q) := by
            have h1 := hL2.2.2 q (by rw [hR, List.length_append]; omega)
            rw [hR, List.getElem?_append_left hq] at h1
            exact h1
          have hs := nlF_s (x := a 26 r) h28
          refine z_iload_n hZ gRo_listNormals_32 rfl ?_
          refine z_iload_n hZ gRo_listNormals_33 rfl ?_
          refine z_cmpge hZ gRo_listNormals_34 (fun c34 => absurd c34 (nI_ge (by omega) (by omega))) (fun c34 => ?_)
          refine z_aload_n hZ gRo_listNormals_37 rfl ?_
          refine z_aload_n hZ gRo_listNormals_38 rfl ?_
          refine z_get hZ gRo_listNormals_39 (by omega) rfl rfl ?_
          refine z_iload_n hZ gRo_listNormals_42 rfl ?_
          refine z_iald hZ gRo_listNormals_43 (by omega) rfl (vp_in_nI (by omega) (by decide)) ?_
          rw [eq0]
          refine z_aload_n hZ gRo_listNormals_44 rfl ?_
          refine z_get hZ gRo_listNormals_45 (by omega) rfl rfl ?_
          refine z_iload_n hZ gRo_listNormals_48 rfl ?_
          refine z_iald hZ gRo_listNormals_49 (by omega) rfl (vp_in_nI (by omega) (by decide)) ?_
          rw [er, e26b]
          refine z_iand hZ gRo_listNormals_50 _ rfl ?_
          refine z_cv hZ gRo_listNormals_51 rfl rfl (Nat.le_of_ble_eq_true rfl) (Nat.le_of_ble_eq_true rfl) ⟨⟨22, _, _, rfl, by decide, rfl⟩, fun l9 D E B A hB => c_Ro_includeNormal l9 D E B A hB (c := (nlF (nlAll (a 26) r) (a 26 r) q).length) hL2.1 hL2.2.1 _⟩ (fun r51 w51 p51 => ?_)
          obtain ⟨rfl, p51⟩ := p51
          obtain ⟨a3, i3, rfl, hL3, hfa3, hfi3⟩ := nl_step hL2 p51
          rw [← hs] at hL3
          show Z (51 + 3) _ [] _
          refine z_iinc hZ gRo_listNormals_54 rfl _ (i1 q) rfl ?_
          refine z_goto hZ gRo_listNormals_57 ?_
          exact ihm (q + 1) a3 i3 (by omega) (fun y hy => by rw [hfa3 y hy]; exact hfa2 y hy) (fun n9 q9 h9 => by rw [hfi3 n9 q9 h9]; exact hfi2 n9 q9 h9) hL3
      refine z_iload_n hZ gRo_listNormals_7 rfl ?_
      refine z_aload_n hZ gRo_listNormals_8 rfl ?_
      refine z_get hZ gRo_listNormals_9 (by omega) rfl (by rw [h22']; rfl) ?_
      refine z_cmpge hZ gRo_listNormals_12 (fun c12 => absurd c12 (nI_ge (by omega) (by omega))) (fun c12 => ?_)
      refine z_aload_n hZ gRo_listNormals_15 rfl ?_
      refine z_get hZ gRo_listNormals_16 (by omega) rfl (by rw [hL.1]; rfl) ?_
      refine z_istore_n hZ gRo_listNormals_19 rfl ?_
      refine z_aload_n hZ gRo_listNormals_20 rfl ?_
      refine z_aload_n hZ gRo_listNormals_21 rfl ?_
      refine z_get hZ gRo_listNormals_22 (by omega) rfl rfl ?_
      refine z_iload_n hZ gRo_listNormals_25 rfl ?_
      refine z_iald hZ gRo_listNormals_26 (by omega) rfl (vp_in_nI (by omega) (by decide)) ?_
      rw [er, e26]
      refine z_cv hZ gRo_listNormals_27 rfl rfl (Nat.le_of_ble_eq_true rfl) (Nat.le_of_ble_eq_true rfl) ⟨⟨22, _, _, rfl, by decide, rfl⟩, fun l9 D E B A hB => c_Ro_includeNormal l9 D E B A hB (c := (nlAll (a 26) r).length) hL.1 hL.2.1 (a 26 r)⟩ (fun r27 w27 p27 => ?_)
      obtain ⟨rfl, p27⟩ := p27
      obtain ⟨a3, i3, rfl, hL3, hfa3, hfi3⟩ := nl_step hL p27
      show Z (27 + 3) _ [] _
      refine z_iconst hZ gRo_listNormals_30 _ i0 ?_
      refine z_istore_n hZ gRo_listNormals_31 rfl ?_
      exact inner _ 0 a3 i3 (Nat.add_zero _) (fun y hy => by rw [hfa3 y hy]; exact hfa y hy) (fun n9 q9 h9 => by rw [hfi3 n9 q9 h9]; exact hfi n9 q9 h9) hL3
  refine z_aload_n hZ gRo_listNormals_0 rfl ?_
  refine z_iconst hZ gRo_listNormals_1 _ i0 ?_
  refine z_putW hZ gRo_listNormals_2 (by omega) rfl (Or.inl (by decide)) (Nat.le_of_ble_eq_true rfl) cW_i22_7 ?_
  refine z_iconst hZ gRo_listNormals_5 _ i0 ?_
  refine z_istore_n hZ gRo_listNormals_6 rfl ?_
  refine outer k 0 a _ _ _ (by omega) (fun _ _ => rfl) (fun n q hnq => ?_) ⟨?_, Nat.zero_le _, fun j hj => absurd hj (Nat.not_lt_zero j)⟩
  · by_cases e : n = 22
    · subst e
      rw [va_up_self, va_up_ne _ _ (fun h9 => hnq ⟨rfl, h9⟩)]
    · rw [va_up_ne _ _ e]
  · rw [va_up_self, va_up_self]; rfl

