-- the reference: the order of rows
abbrev vM (f : Nat → Int32) : Nat → Nat → Int32 := fun u c => f (16 * u + c)
def tw (x y w : Nat) : Nat := if w = x then y else if w = y then x else w
theorem i_ge {x y : Int32} (h : y ≤ x) : ¬ x < y := i_nlt h

set_option maxHeartbeats 4000000 in
set_option maxRecDepth 100000 in
theorem c_Mo_comesBefore (l : Launch) (D : va_G) (E : sx_E) (B : Nat) (A : Nat → Prop) (hB : 11 ≤ B) {a : sA} {i : sA} {k x y : Nat} (h6 : i 0 6 = nI k) (hk0 : 1 ≤ k) (hk16 : k ≤ 16) (hx : x < 16) (hy : y < 16) : sM l D E B A yMo_comesBefore prog_9_method_28_code 4 (some .boolean) 0 0 [.inr (0, 0), .inl (nI x), .inl (nI y)] (mW a i) (fun r w' => ans r (cbO (a 8) (vM (a 9)) k x y) ∧ w' = mW a i) := by
  refine sx_m0 (ls := lMo_comesBefore) (cs := noCalls) (by decide +kernel) kMo_comesBefore (fun pc i h1 h2 => sx_nc (ls := lMo_comesBefore) (by decide) pc i h1 h2) (by simp) ans_rt ?_
  intro Z hZ
  have ex := nI_clamp (n := x) (by omega)
  have ey := nI_clamp (n := y) (by omega)
  have loop : a 8 x = a 8 y → ∀ m q, m + q = k → 1 ≤ q → (∀ j, 1 ≤ j → j < q → vM (a 9) x j = vM (a 9) y j) → Z 38 [some (.inr (0, 0)), some (.inl (nI x)), some (.inl (nI y)), some (.inl (nI q))] [] (mW a i) := by
    intro heq m
    induction m with
    | zero =>
      intro q hm hq hall
      have e9 : q = k := by omega
      subst e9
      refine z_iload_n hZ gMo_comesBefore_38 rfl ?_
      refine z_aload_n hZ gMo_comesBefore_39 rfl ?_
      refine z_get hZ gMo_comesBefore_40 (by omega) rfl (by rw [h6]; rfl) ?_
      refine z_cmpge hZ gMo_comesBefore_43 (fun c43 => ?_) (fun c43 => absurd (nI_le (Nat.le_refl q) (by omega)) c43)
      refine z_iconst hZ gMo_comesBefore_108 _ rfl ?_
      refine z_iret hZ gMo_comesBefore_109 ?_
      refine ⟨Or.inr ⟨rfl, fun h9 => ?_⟩, rfl⟩
      rcases h9 with h9 | ⟨_, j, hj1, hj2, hj3, _⟩
      · exact i_ne h9 heq
      · exact i_ne hj3 (hall j hj1 hj2)
    | succ m ih =>
      intro q hm hq hall
      have exq := nI_clamp (n := 16 * x + q) (by omega)
      have eyq := nI_clamp (n := 16 * y + q) (by omega)
      refine z_iload_n hZ gMo_comesBefore_38 rfl ?_
      refine z_aload_n hZ gMo_comesBefore_39 rfl ?_
      refine z_get hZ gMo_comesBefore_40 (by omega) rfl (by rw [h6]; rfl) ?_
      refine z_cmpge hZ gMo_comesBefore_43 (fun c43 => absurd c43 (nI_ge (by omega) (by omega))) (fun c43 => ?_)
      refine z_aload_n hZ gMo_comesBefore_46 rfl ?_
      refine z_get hZ gMo_comesBefore_47 (by omega) rfl rfl ?_
      refine z_bipush hZ gMo_comesBefore_50 _ i16 ?_
      refine z_iload_n hZ gMo_comesBefore_52 rfl ?_
      refine z_imul hZ gMo_comesBefore_53 _ rfl ?_
      refine z_iload_n hZ gMo_comesBefore_54 rfl ?_
      refine z_iadd hZ gMo_comesBefore_55 _ (ix2 x q) ?_
      refine z_iald hZ gMo_comesBefore_56 (by omega) rfl (vp_in_nI (by omega) (by decide)) ?_
      rw [exq]
      refine z_aload_n hZ gMo_comesBefore_57 rfl ?_
      refine z_get hZ gMo_comesBefore_58 (by omega) rfl rfl ?_
      refine z_bipush hZ gMo_comesBefore_61 _ i16 ?_
      refine z_iload_n hZ gMo_comesBefore_63 rfl ?_
      refine z_imul hZ gMo_comesBefore_64 _ rfl ?_
      refine z_iload_n hZ gMo_comesBefore_65 rfl ?_
      refine z_iadd hZ gMo_comesBefore_66 _ (ix2 y q) ?_
      refine z_iald hZ gMo_comesBefore_67 (by omega) rfl (vp_in_nI (by omega) (by decide)) ?_
      rw [eyq]
      refine z_cmpeq hZ gMo_comesBefore_68 (fun c68 => ?_) (fun c68 => ?_)
      · have ct68 := c68
        refine z_iinc hZ gMo_comesBefore_102 rfl _ (i1 q) rfl ?_
        refine z_goto hZ gMo_comesBefore_105 ?_
        exact ih (q + 1) (by omega) (by omega) (fun j h1 h2 => by
          by_cases e9 : j = q
          · subst e9; exact ct68
          · exact hall j h1 (by omega))
      · have cf68 := c68
        refine z_aload_n hZ gMo_comesBefore_71 rfl ?_
        refine z_get hZ gMo_comesBefore_72 (by omega) rfl rfl ?_
        refine z_bipush hZ gMo_comesBefore_75 _ i16 ?_
        refine z_iload_n hZ gMo_comesBefore_77 rfl ?_
        refine z_imul hZ gMo_comesBefore_78 _ rfl ?_
        refine z_iload_n hZ gMo_comesBefore_79 rfl ?_
        refine z_iadd hZ gMo_comesBefore_80 _ (ix2 x q) ?_
        refine z_iald hZ gMo_comesBefore_81 (by omega) rfl (vp_in_nI (by omega) (by decide)) ?_
        rw [exq]
        refine z_aload_n hZ gMo_comesBefore_82 rfl ?_
        refine z_get hZ gMo_comesBefore_83 (by omega) rfl rfl ?_
        refine z_bipush hZ gMo_comesBefore_86 _ i16 ?_
        refine z_iload_n hZ gMo_comesBefore_88 rfl ?_
        refine z_imul hZ gMo_comesBefore_89 _ rfl ?_
        refine z_iload_n hZ gMo_comesBefore_90 rfl ?_
        refine z_iadd hZ gMo_comesBefore_91 _ (ix2 y q) ?_
        refine z_iald hZ gMo_comesBefore_92 (by omega) rfl (vp_in_nI (by omega) (by decide)) ?_
        rw [eyq]
        refine z_cmpge hZ gMo_comesBefore_93 (fun c93 => ?_) (fun c93 => ?_)
        · have ct93 := c93
          refine z_iconst hZ gMo_comesBefore_100 _ rfl ?_
          refine z_iret hZ gMo_comesBefore_101 ?_
          first
          | (refine ⟨Or.inl ⟨rfl, Or.inr ⟨heq, q, hq, by omega, i_lt cf93, hall⟩⟩, rfl⟩; done)
          | (refine ⟨Or.inr ⟨rfl, fun h9 => ?_⟩, rfl⟩
             rcases h9 with h9 | ⟨_, j, hj1, hj2, hj3, hj4⟩
             · exact i_ne h9 heq
             · rcases Nat.lt_trichotomy j q with h | h | h
               · exact i_ne hj3 (hall j hj1 h)
               · subst h; exact i_nlt ct93 hj3
               · exact cf68 (hj4 q hq h))
        · have cf93 := c93
          refine z_iconst hZ gMo_comesBefore_96 _ rfl ?_
          refine z_goto hZ gMo_comesBefore_97 ?_
          refine z_iret hZ gMo_comesBefore_101 ?_
          first
          | (refine ⟨Or.inl ⟨rfl, Or.inr ⟨heq, q, hq, by omega, i_lt cf93, hall⟩⟩, rfl⟩; done)
          | (refine ⟨Or.inr ⟨rfl, fun h9 => ?_⟩, rfl⟩
             rcases h9 with h9 | ⟨_, j, hj1, hj2, hj3, hj4⟩
             · exact i_ne h9 heq
             · rcases Nat.lt_trichotomy j q with h | h | h
               · exact i_ne hj3 (hall j hj1 h)
               · subst h; exact i_nlt ct93 hj3
               · exact cf68 (hj4 q hq h))
  refine z_aload_n hZ gMo_comesBefore_0 rfl ?_
  refine z_get hZ gMo_comesBefore_1 (by omega) rfl rfl ?_
  refine z_iload_n hZ gMo_comesBefore_4 rfl ?_
  refine z_iald hZ gMo_comesBefore_5 (by omega) rfl (vp_in_nI (by omega) (by decide)) ?_
  rw [ex]
  refine z_aload_n hZ gMo_comesBefore_6 rfl ?_
  refine z_get hZ gMo_comesBefore_7 (by omega) rfl rfl ?_
  refine z_iload_n hZ gMo_comesBefore_10 rfl ?_
  refine z_iald hZ gMo_comesBefore_11 (by omega) rfl (vp_in_nI (by omega) (by decide)) ?_
  rw [ey]
  refine z_cmpeq hZ gMo_comesBefore_12 (fun c12 => ?_) (fun c12 => ?_)
  · have ct12 := c12
    refine z_iconst hZ gMo_comesBefore_36 _ ic1 ?_
    refine z_istore_n hZ gMo_comesBefore_37 rfl ?_
    by_cases hk1 : 1 ≤ k
    · exact loop ct12 (k - 1) 1 (by omega) (Nat.le_refl 1) (fun j h1 h2 => absurd h1 (by omega))
    · exact absurd hk0 hk1
  · have cf12 := c12
    refine z_aload_n hZ gMo_comesBefore_15 rfl ?_
    refine z_get hZ gMo_comesBefore_16 (by omega) rfl rfl ?_
    refine z_iload_n hZ gMo_comesBefore_19 rfl ?_
    refine z_iald hZ gMo_comesBefore_20 (by omega) rfl (vp_in_nI (by omega) (by decide)) ?_
    rw [ex]
    refine z_aload_n hZ gMo_comesBefore_21 rfl ?_
    refine z_get hZ gMo_comesBefore_22 (by omega) rfl rfl ?_
    refine z_iload_n hZ gMo_comesBefore_25 rfl ?_
    refine z_iald hZ gMo_comesBefore_26 (by omega) rfl (vp_in_nI (by omega) (by decide)) ?_
    rw [ey]
    refine z_cmpge hZ gMo_comesBefore_27 (fun c27 => ?_) (fun c27 => ?_)
    · have ct27 := c27
      refine z_iconst hZ gMo_comesBefore_34 _ rfl ?_
      refine z_iret hZ gMo_comesBefore_35 ?_
      first
      | (refine ⟨Or.inl ⟨rfl, Or.inl (i_lt cf27)⟩, rfl⟩; done)
      | (refine ⟨Or.inr ⟨rfl, fun h9 => ?_⟩, rfl⟩
         rcases h9 with h9 | ⟨h9, _⟩
         · exact i_nlt ct27 h9
         · exact cf12 h9)
    · have cf27 := c27
      refine z_iconst hZ gMo_comesBefore_30 _ rfl ?_
      refine z_goto hZ gMo_comesBefore_31 ?_
      refine z_iret hZ gMo_comesBefore_35 ?_
      first
      | (refine ⟨Or.inl ⟨rfl, Or.inl (i_lt cf27)⟩, rfl⟩; done)
      | (refine ⟨Or.inr ⟨rfl, fun h9 => ?_⟩, rfl⟩
         rcases h9 with h9 | ⟨h9, _⟩
         · exact i_nlt ct27 h9
         · exact cf12 h9)

set_option maxHeartbeats 4000000 in
set_option maxRecDepth 100000 in
theorem c_Mo_exchange (l : Launch) (D : va_G) (E : sx_E) (B : Nat) (A : Nat → Prop) (hB : 11 ≤ B) {a : sA} {i : sA} {x y : Nat} (hx : x < 16) (hy : y < 16) : sM l D E B A yMo_exchange prog_9_method_29_code 6 none 0 0 [.inr (0, 0), .inl (nI x), .inl (nI y)] (mW a i) (fun r w' => r = none ∧ ∃ f8 f9 : Nat → Int32, w' = mW (va_up (va_up a 8 f8) 9 f9) i ∧ (∀ w, f8 w = a 8 (tw x y w)) ∧ ∀ w j, j < 16 → f9 (16 * w + j) = a 9 (16 * tw x y w + j)) := by
  refine sx_m0 (ls := lMo_exchange) (cs := noCalls) (by decide +kernel) kMo_exchange (fun pc i h1 h2 => sx_nc (ls := lMo_exchange) (by decide) pc i h1 h2) (by simp) (fun x w' h => by cases h.1) ?_
  intro Z hZ
  have ex := nI_clamp (n := x) (by omega)
  have ey := nI_clamp (n := y) (by omega)
  have loop : ∀ (f8 : Nat → Int32) x3, (∀ w, f8 w = a 8 (tw x y w)) → ∀ m c (f9 : Nat → Int32) x5, m + c = 16 → (∀ w j, j < 16 → f9 (16 * w + j) = a 9 (16 * (if j < c then tw x y w else w) + j)) → Z 29 [some (.inr (0, 0)), some (.inl (nI x)), some (.inl (nI y)), x3, some (.inl (nI c)), x5] [] (mW (va_up (va_up a 8 f8) 9 f9) i) := by
    intro f8 x3 h8 m
    induction m with
    | zero =>
      intro c f9 x5 hm h9
      have e9 : c = 16 := by omega
      subst e9
      refine z_iload hZ gMo_exchange_29 rfl ?_
      refine z_bipush hZ gMo_exchange_31 _ i16 ?_
      refine z_cmpge hZ gMo_exchange_33 (fun c33 => ?_) (fun c33 => absurd (nI_le (Nat.le_refl 16) (by decide)) c33)
      refine z_vret hZ gMo_exchange_94 ?_
      exact ⟨rfl, f8, f9, rfl, h8, fun w j hj => by rw [h9 w j hj, if_pos hj]⟩
    | succ m ih =>
      intro c f9 x5 hm h9
      have exc := nI_clamp (n := 16 * x + c) (by omega)
      have eyc := nI_clamp (n := 16 * y + c) (by omega)
      have hxv : f9 (16 * x + c) = a 9 (16 * x + c) := by rw [h9 x c (by omega), if_neg (Nat.lt_irrefl c)]
      have hyv : f9 (16 * y + c) = a 9 (16 * y + c) := by rw [h9 y c (by omega), if_neg (Nat.lt_irrefl c)]
      refine z_iload hZ gMo_exchange_29 rfl ?_
      refine z_bipush hZ gMo_exchange_31 _ i16 ?_
      refine z_cmpge hZ gMo_exchange_33 (fun c33 => absurd c33 (nI_ge (by omega) (by decide))) (fun c33 => ?_)
      refine z_aload_n hZ gMo_exchange_36 rfl ?_
      refine z_get hZ gMo_exchange_37 (by omega) rfl rfl ?_
      refine z_bipush hZ gMo_exchange_40 _ i16 ?_
      refine z_iload_n hZ gMo_exchange_42 rfl ?_
      refine z_imul hZ gMo_exchange_43 _ rfl ?_
      refine z_iload hZ gMo_exchange_44 rfl ?_
      refine z_iadd hZ gMo_exchange_46 _ (ix2 x c) ?_
      refine z_iald hZ gMo_exchange_47 (by omega) rfl (vp_in_nI (by omega) (by decide)) ?_
      rw [exc, va_up_self, hxv]
      refine z_istore hZ gMo_exchange_48 rfl ?_
      refine z_aload_n hZ gMo_exchange_50 rfl ?_
      refine z_get hZ gMo_exchange_51 (by omega) rfl rfl ?_
      refine z_bipush hZ gMo_exchange_54 _ i16 ?_
      refine z_iload_n hZ gMo_exchange_56 rfl ?_
      refine z_imul hZ gMo_exchange_57 _ rfl ?_
      refine z_iload hZ gMo_exchange_58 rfl ?_
      refine z_iadd hZ gMo_exchange_60 _ (ix2 x c) ?_
      refine z_aload_n hZ gMo_exchange_61 rfl ?_
      refine z_get hZ gMo_exchange_62 (by omega) rfl rfl ?_
      refine z_bipush hZ gMo_exchange_65 _ i16 ?_
      refine z_iload_n hZ gMo_exchange_67 rfl ?_
      refine z_imul hZ gMo_exchange_68 _ rfl ?_
      refine z_iload hZ gMo_exchange_69 rfl ?_
      refine z_iadd hZ gMo_exchange_71 _ (ix2 y c) ?_
      refine z_iald hZ gMo_exchange_72 (by omega) rfl (vp_in_nI (by omega) (by decide)) ?_
      rw [eyc, va_up_self, hyv]
      refine z_iastW hZ gMo_exchange_73 (by omega) rfl (vp_in_nI (by omega) (by decide)) mW_a9 ?_
      rw [exc, va_up_self, va_uu]
      refine z_aload_n hZ gMo_exchange_74 rfl ?_
      refine z_get hZ gMo_exchange_75 (by omega) rfl rfl ?_
      refine z_bipush hZ gMo_exchange_78 _ i16 ?_
      refine z_iload_n hZ gMo_exchange_80 rfl ?_
      refine z_imul hZ gMo_exchange_81 _ rfl ?_
      refine z_iload hZ gMo_exchange_82 rfl ?_
      refine z_iadd hZ gMo_exchange_84 _ (ix2 y c) ?_
      refine z_iload hZ gMo_exchange_85 rfl ?_
      refine z_iastW hZ gMo_exchange_87 (by omega) rfl (vp_in_nI (by omega) (by decide)) mW_a9 ?_
      rw [eyc, va_up_self, va_uu]
      refine z_iinc hZ gMo_exchange_88 rfl _ (i1 c) rfl ?_
      refine z_goto hZ gMo_exchange_91 ?_
      refine ih (c + 1) _ _ (by omega) (fun w j hj => ?_)
      by_cases hj9 : j = c
      · subst hj9
        rw [if_pos (by omega)]
        unfold tw
        by_cases e2 : w = y
        · subst e2
          rw [pk_us]
          by_cases e1 : w = x
          · rw [if_pos e1, e1]
          · rw [if_neg e1, if_pos rfl]
        · rw [pk_un (by omega)]
          by_cases e1 : w = x
          · subst e1; rw [pk_us, if_pos rfl]
          · rw [pk_un (by omega), if_neg e1, if_neg e2, h9 w j hj, if_neg (Nat.lt_irrefl j)]
      · rw [pk_un (by omega), pk_un (by omega), h9 w j hj]
        by_cases e1 : j < c
        · rw [if_pos e1, if_pos (by omega)]
        · rw [if_neg e1, if_neg (by omega)]
  refine z_aload_n hZ gMo_exchange_0 rfl ?_
  refine z_get hZ gMo_exchange_1 (by omega) rfl rfl ?_
  refine z_iload_n hZ gMo_exchange_4 rfl ?_
  refine z_iald hZ gMo_exchange_5 (by omega) rfl (vp_in_nI (by omega) (by decide)) ?_
  rw [ex]
  refine z_istore_n hZ gMo_exchange_6 rfl ?_
  refine z_aload_n hZ gMo_exchange_7 rfl ?_
  refine z_get hZ gMo_exchange_8 (by omega) rfl rfl ?_
  refine z_iload_n hZ gMo_exchange_11 rfl ?_
  refine z_aload_n hZ gMo_exchange_12 rfl ?_
  refine z_get hZ gMo_exchange_13 (by omega) rfl rfl ?_
  refine z_iload_n hZ gMo_exchange_16 rfl ?_
  refine z_iald hZ gMo_exchange_17 (by omega) rfl (vp_in_nI (by omega) (by decide)) ?_
  rw [ey]
  refine z_iastW hZ gMo_exchange_18 (by omega) rfl (vp_in_nI (by omega) (by decide)) mW_a8 ?_
  rw [ex]
  refine z_aload_n hZ gMo_exchange_19 rfl ?_
  refine z_get hZ gMo_exchange_20 (by omega) rfl rfl ?_
  refine z_iload_n hZ gMo_exchange_23 rfl ?_
  refine z_iload_n hZ gMo_exchange_24 rfl ?_
  refine z_iastW hZ gMo_exchange_25 (by omega) rfl (vp_in_nI (by omega) (by decide)) mW_a8 ?_
  rw [ey, va_up_self, va_uu]
  refine z_iconst hZ gMo_exchange_26 _ i0 ?_
  refine z_istore hZ gMo_exchange_27 rfl ?_
  have h9 := loop (upd (upd (a 8) x (a 8 y)) y (a 8 x)) (some (.inl (a 8 x))) (fun w => by
    unfold tw
    by_cases e2 : w = y
    · subst e2
      rw [pk_us]
      by_cases e1 : w = x
      · rw [if_pos e1, e1]
      · rw [if_neg e1, if_pos rfl]
    · rw [pk_un e2]
      by_cases e1 : w = x
      · subst e1; rw [pk_us, if_pos rfl]
      · rw [pk_un e1, if_neg e1, if_neg e2]) 16 0 (a 9) none rfl (fun w j hj => by rw [if_neg (Nat.not_lt_zero j)])
  rw [va_id (va_up a 8 (upd (upd (a 8) x (a 8 y)) y (a 8 x))) (k := 9) (by rw [va_up_ne _ _ (by decide)])] at h9
  exact h9

