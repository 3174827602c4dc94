-- which row comes first
def cbO (dg : Nat → Int32) (V : Nat → Nat → Int32) (k x y : Nat) : Prop := dg x < dg y ∨ (dg x = dg y ∧ ∃ q, 1 ≤ q ∧ q < k ∧ V x q < V y q ∧ ∀ j, 1 ≤ j → j < q → V x j = V y j)
theorem i_nlt {x y : Int32} (h : y ≤ x) : ¬ x < y := fun h9 => by
  rw [Int32.lt_iff_toInt_lt] at h9
  rw [Int32.le_iff_toInt_le] at h
  omega
theorem i_lt {x y : Int32} (h : ¬ y ≤ x) : x < y := by
  rw [Int32.lt_iff_toInt_lt]
  rw [Int32.le_iff_toInt_le] at h
  omega
theorem i_ne {x y : Int32} (h : x < y) : x ≠ y := fun e => by
  rw [e, Int32.lt_iff_toInt_lt] at h
  omega

set_option maxHeartbeats 4000000 in
set_option maxRecDepth 100000 in
theorem c_Ro_comesBefore (l : Launch) (D : va_G) (E : sx_E) (B : Nat) (A : Nat → Prop) (hB : 29 ≤ B) {a : sA} {g : sG} {i : sA} {k x y : Nat} (h22 : i 22 0 = nI k) (hk : k ≤ 16) (hx : x < 16) (hy : y < 16) : sM l D E B A yRo_comesBefore prog_7_method_8_code 4 (some .boolean) 0 0 [.inr (22, 0), .inl (nI x), .inl (nI y)] (cW a g i) (fun r w' => ans r (cbO (a 23) (g 24) k x y) ∧ w' = cW a g i) := by
  refine sx_m0 (ls := lRo_comesBefore) (cs := noCalls) (by decide +kernel) kRo_comesBefore (fun pc i h1 h2 => sx_nc (ls := lRo_comesBefore) (by decide) pc i h1 h2) (by simp) ans_rt ?_
  intro Z hZ
  have ex : (nI x).toNatClampNeg = x := nI_clamp (by omega)
  have ey : (nI y).toNatClampNeg = y := nI_clamp (by omega)
  have loop : a 23 x = a 23 y → ∀ n q, (n + q = k ∨ (n = 0 ∧ k ≤ q ∧ q ≤ 17)) → 1 ≤ q → (∀ j, 1 ≤ j → j < q → g 24 x j = g 24 y j) → Z 38 [some (.inr (22, 0)), some (.inl (nI x)), some (.inl (nI y)), some (.inl (nI q))] [] (cW a g i) := by
    intro hd n
    induction n with
    | zero =>
      intro q hn h1 h2
      have hkq : k ≤ q ∧ q < 2 ^ 31 := by omega
      refine z_iload_n hZ gRo_comesBefore_38 rfl ?_
      refine z_aload_n hZ gRo_comesBefore_39 rfl ?_
      refine z_get hZ gRo_comesBefore_40 (by omega) rfl (by rw [h22]; rfl) ?_
      refine z_cmpge hZ gRo_comesBefore_43 (fun c43 => ?_) (fun c43 => absurd (nI_le hkq.1 hkq.2) c43)
      refine z_iconst hZ gRo_comesBefore_96 _ rfl ?_
      refine z_iret hZ gRo_comesBefore_97 ?_
      refine ⟨Or.inr ⟨rfl, ?_⟩, rfl⟩
      rintro (h9 | ⟨_, q9, h3, h4, h5, h6⟩)
      · exact i_ne h9 hd
      · exact i_ne h5 (h2 q9 h3 (by omega))
    | succ n ih =>
      intro q hn h1 h2
      have hq : q < k := by omega
      have eq0 : (nI q).toNatClampNeg = q := nI_clamp (by omega)
      refine z_iload_n hZ gRo_comesBefore_38 rfl ?_
      refine z_aload_n hZ gRo_comesBefore_39 rfl ?_
      refine z_get hZ gRo_comesBefore_40 (by omega) rfl (by rw [h22]; rfl) ?_
      refine z_cmpge hZ gRo_comesBefore_43 (fun c43 => absurd c43 (nI_ge (by omega) (by omega))) (fun c43 => ?_)
      refine z_aload_n hZ gRo_comesBefore_46 rfl ?_
      refine z_get hZ gRo_comesBefore_47 (by omega) rfl rfl ?_
      refine z_iload_n hZ gRo_comesBefore_50 rfl ?_
      refine z_aald hZ gRo_comesBefore_51 (by omega) rfl (vp_in_nI (by omega) (by decide)) ?_
      rw [ex]
      refine z_iload_n hZ gRo_comesBefore_52 rfl ?_
      refine z_ialg hZ gRo_comesBefore_53 (by omega) rfl (by omega) (vp_in_nI (by omega) (by decide)) ?_
      rw [eq0]
      refine z_aload_n hZ gRo_comesBefore_54 rfl ?_
      refine z_get hZ gRo_comesBefore_55 (by omega) rfl rfl ?_
      refine z_iload_n hZ gRo_comesBefore_58 rfl ?_
      refine z_aald hZ gRo_comesBefore_59 (by omega) rfl (vp_in_nI (by omega) (by decide)) ?_
      rw [ey]
      refine z_iload_n hZ gRo_comesBefore_60 rfl ?_
      refine z_ialg hZ gRo_comesBefore_61 (by omega) rfl (by omega) (vp_in_nI (by omega) (by decide)) ?_
      rw [eq0]
      refine z_cmpeq hZ gRo_comesBefore_62 (fun c62 => ?_) (fun c62 => ?_)
      · have ct62 := c62
        refine z_iinc hZ gRo_comesBefore_90 rfl _ (i1 q) rfl ?_
        refine z_goto hZ gRo_comesBefore_93 ?_
        refine ih (q + 1) (Or.inl (by omega)) (by omega) (fun j hj1 hj2 => ?_)
        by_cases e : j = q
        · rw [e]; exact ct62
        · exact h2 j hj1 (by omega)
      · have cf62 := c62
        refine z_aload_n hZ gRo_comesBefore_65 rfl ?_
        refine z_get hZ gRo_comesBefore_66 (by omega) rfl rfl ?_
        refine z_iload_n hZ gRo_comesBefore_69 rfl ?_
        refine z_aald hZ gRo_comesBefore_70 (by omega) rfl (vp_in_nI (by omega) (by decide)) ?_
        rw [ex]
        refine z_iload_n hZ gRo_comesBefore_71 rfl ?_
        refine z_ialg hZ gRo_comesBefore_72 (by omega) rfl (by omega) (vp_in_nI (by omega) (by decide)) ?_
        rw [eq0]
        refine z_aload_n hZ gRo_comesBefore_73 rfl ?_
        refine z_get hZ gRo_comesBefore_74 (by omega) rfl rfl ?_
        refine z_iload_n hZ gRo_comesBefore_77 rfl ?_
        refine z_aald hZ gRo_comesBefore_78 (by omega) rfl (vp_in_nI (by omega) (by decide)) ?_
        rw [ey]
        refine z_iload_n hZ gRo_comesBefore_79 rfl ?_
        refine z_ialg hZ gRo_comesBefore_80 (by omega) rfl (by omega) (vp_in_nI (by omega) (by decide)) ?_
        rw [eq0]
        refine z_cmpge hZ gRo_comesBefore_81 (fun c81 => ?_) (fun c81 => ?_)
        · have ct81 := c81
          refine z_iconst hZ gRo_comesBefore_88 _ rfl ?_
          refine z_iret hZ gRo_comesBefore_89 ?_
          first
            | exact ⟨Or.inl ⟨rfl, Or.inr ⟨hd, q, h1, hq, i_lt cf81, h2⟩⟩, rfl⟩
            | (refine ⟨Or.inr ⟨rfl, ?_⟩, rfl⟩
               rintro (h9 | ⟨_, q9, h3, h4, h5, h6⟩)
               · exact i_ne h9 hd
               · rcases Nat.lt_trichotomy q9 q with h7 | h7 | h7
                 · exact i_ne h5 (h2 q9 h3 h7)
                 · rw [h7] at h5; exact i_nlt ct81 h5
                 · exact cf62 (h6 q h1 h7))
        · have cf81 := c81
          refine z_iconst hZ gRo_comesBefore_84 _ rfl ?_
          refine z_goto hZ gRo_comesBefore_85 ?_
          refine z_iret hZ gRo_comesBefore_89 ?_
          first
            | exact ⟨Or.inl ⟨rfl, Or.inr ⟨hd, q, h1, hq, i_lt cf81, h2⟩⟩, rfl⟩
            | (refine ⟨Or.inr ⟨rfl, ?_⟩, rfl⟩
               rintro (h9 | ⟨_, q9, h3, h4, h5, h6⟩)
               · exact i_ne h9 hd
               · rcases Nat.lt_trichotomy q9 q with h7 | h7 | h7
                 · exact i_ne h5 (h2 q9 h3 h7)
                 · rw [h7] at h5; exact i_nlt ct81 h5
                 · exact cf62 (h6 q h1 h7))
  refine z_aload_n hZ gRo_comesBefore_0 rfl ?_
  refine z_get hZ gRo_comesBefore_1 (by omega) rfl rfl ?_
  refine z_iload_n hZ gRo_comesBefore_4 rfl ?_
  refine z_iald hZ gRo_comesBefore_5 (by omega) rfl (vp_in_nI (by omega) (by decide)) ?_
  rw [ex]
  refine z_aload_n hZ gRo_comesBefore_6 rfl ?_
  refine z_get hZ gRo_comesBefore_7 (by omega) rfl rfl ?_
  refine z_iload_n hZ gRo_comesBefore_10 rfl ?_
  refine z_iald hZ gRo_comesBefore_11 (by omega) rfl (vp_in_nI (by omega) (by decide)) ?_
  rw [ey]
  refine z_cmpeq hZ gRo_comesBefore_12 (fun c12 => ?_) (fun c12 => ?_)
  · have ct12 := c12
    refine z_iconst hZ gRo_comesBefore_36 _ ic1 ?_
    refine z_istore_n hZ gRo_comesBefore_37 rfl ?_
    exact loop ct12 (k - 1) 1 (by omega) (Nat.le_refl 1) (fun j h1 h2 => by omega)
  · have cf12 := c12
    refine z_aload_n hZ gRo_comesBefore_15 rfl ?_
    refine z_get hZ gRo_comesBefore_16 (by omega) rfl rfl ?_
    refine z_iload_n hZ gRo_comesBefore_19 rfl ?_
    refine z_iald hZ gRo_comesBefore_20 (by omega) rfl (vp_in_nI (by omega) (by decide)) ?_
    rw [ex]
    refine z_aload_n hZ gRo_comesBefore_21 rfl ?_
    refine z_get hZ gRo_comesBefore_22 (by omega) rfl rfl ?_
    refine z_iload_n hZ gRo_comesBefore_25 rfl ?_
    refine z_iald hZ gRo_comesBefore_26 (by omega) rfl (vp_in_nI (by omega) (by decide)) ?_
    rw [ey]
    refine z_cmpge hZ gRo_comesBefore_27 (fun c27 => ?_) (fun c27 => ?_)
    · have ct27 := c27
      refine z_iconst hZ gRo_comesBefore_34 _ rfl ?_
      refine z_iret hZ gRo_comesBefore_35 ?_
      first
        | exact ⟨Or.inl ⟨rfl, Or.inl (i_lt cf27)⟩, rfl⟩
        | (refine ⟨Or.inr ⟨rfl, ?_⟩, rfl⟩
           rintro (h9 | ⟨h9, _⟩)
           · exact i_nlt ct27 h9
           · exact cf12 h9)
    · have cf27 := c27
      refine z_iconst hZ gRo_comesBefore_30 _ rfl ?_
      refine z_goto hZ gRo_comesBefore_31 ?_
      refine z_iret hZ gRo_comesBefore_35 ?_
      first
        | exact ⟨Or.inl ⟨rfl, Or.inl (i_lt cf27)⟩, rfl⟩
        | (refine ⟨Or.inr ⟨rfl, ?_⟩, rfl⟩
           rintro (h9 | ⟨h9, _⟩)
           · exact i_nlt ct27 h9
           · exact cf12 h9)

