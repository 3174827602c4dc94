theorem kf_mem {f : Nat → Int32} {x : Int32} {n : Nat} (hi : inc f n) : (∃ j, j < n ∧ f j = x) ↔ (kf f x n < n ∧ f (kf f x n) = x) := by
  constructor
  · rintro ⟨j, hj, e⟩
    have irr : ∀ y : Int32, ¬ y < y := fun y h => by rw [Int32.lt_iff_toInt_lt] at h; omega
    have h1 : kf f x n ≤ j := Nat.not_lt.mp fun h9 => by
      have := kf_lo x n hi j h9
      rw [e] at this
      exact irr _ this
    have h2 : ¬ kf f x n < j := fun h9 => by
      have h3 := hi _ j h9 hj
      rw [e] at h3
      exact kf_hi x n _ (Nat.le_refl _) (by omega) h3
    have h4 : kf f x n = j := by omega
    rw [h4]; exact ⟨hj, e⟩
  · rintro ⟨h1, h2⟩; exact ⟨_, h1, h2⟩
-- room is made at K, x comes in
def shf (f : Nat → Int32) (k n : Nat) : Nat → Int32 := fun j => if k < j ∧ j ≤ n then f (j - 1) else f j
def ins (f : Nat → Int32) (K n : Nat) (x : Int32) : Nat → Int32 := fun j => if j < K then f j else if j = K then x else if j ≤ n then f (j - 1) else f j
theorem shf_0 (f : Nat → Int32) (n : Nat) : shf f n n = f := by
  funext j
  unfold shf
  rw [if_neg (by omega)]
theorem shf_s {f : Nat → Int32} {k n : Nat} (h0 : 0 < k) (hk : k ≤ n) : upd (shf f k n) k (shf f k n (k - 1)) = shf f (k - 1) n := by
  funext j
  by_cases e : j = k
  · subst e
    rw [pk_us]
    unfold shf
    rw [if_neg (by omega), if_pos (by omega)]
  · rw [pk_un e]
    unfold shf
    by_cases h : k < j ∧ j ≤ n
    · rw [if_pos h, if_pos (by omega)]
    · rw [if_neg h, if_neg (by omega)]
theorem shf_e {f : Nat → Int32} {K n : Nat} (x : Int32) : upd (shf f K n) K x = ins f K n x := by
  funext j
  by_cases e : j = K
  · subst e
    rw [pk_us]
    unfold ins
    rw [if_neg (by omega), if_pos rfl]
  · rw [pk_un e]
    unfold shf ins
    by_cases h : j < K
    · rw [if_neg (by omega), if_pos h]
    · rw [if_neg h, if_neg e]
      by_cases h2 : j ≤ n
      · rw [if_pos (by omega), if_pos h2]
      · rw [if_neg (by omega), if_neg h2]
abbrev inW (a : sA) (g : sG) (i : sA) (cnt : Nat) (x : Int32) : sx_M := cW (va_up (va_up a 3 (ins (a 3) (kf (a 3) x cnt) cnt x)) 4 (upd (a 4) cnt x)) g (va_up i 2 (va_up (i 2) 2 (nI (cnt + 1))))

set_option maxHeartbeats 4000000 in
set_option maxRecDepth 100000 in
theorem c_El_indexOf (l : Launch) (D : va_G) (E : sx_E) (B : Nat) (A : Nat → Prop) (hB : 29 ≤ B) {a : sA} {g : sG} {i : sA} {cnt : Nat} (hc : i 2 2 = nI cnt) (hcn : cnt ≤ 120) (hs : inc (a 3) cnt) (x : Int32) : sM l D E B A yEl_indexOf prog_5_method_3_code 3 (some .int) 1 23 [.inr (2, 0), .inl x] (cW a g i) (fun r w' => ((∃ j, j < cnt ∧ a 3 j = x ∧ r = some (.inl (nI j))) ∨ (r = some (.inl (-1)) ∧ ¬ ∃ j, j < cnt ∧ a 3 j = x)) ∧ w' = cW a g i) := by
  refine sx_m0 (ls := lEl_indexOf) (cs := csAll) (by decide +kernel) kEl_indexOf (hEl_indexOf l D E B A hB) (by simp) (fun w' h => by rcases h.1 with ⟨_, _, _, h⟩ | ⟨h, _⟩ <;> cases h) ?_
  intro Z hZ
  have hm := kf_mem (x := x) hs
  have hK := kf_le (a 3) x cnt
  generalize hKe : kf (a 3) x cnt = K at *
  refine z_aload_n hZ gEl_indexOf_0 rfl ?_
  refine z_iload_n hZ gEl_indexOf_1 rfl ?_
  refine z_cv hZ gEl_indexOf_2 rfl rfl (Nat.le_of_ble_eq_true rfl) (Nat.le_of_ble_eq_true rfl) ⟨⟨2, _, _, rfl, by decide, rfl⟩, fun l D E B A hB => c_El_firstNotBelow l D E B A hB hc hcn hs x⟩ (fun r2 w2 p2 => ?_)
  obtain ⟨rfl, rfl⟩ := p2
  rw [hKe]
  show Z (2 + 3) _ (.inl (nI K) :: []) _
  refine z_istore_n hZ gEl_indexOf_5 rfl ?_
  refine z_iload_n hZ gEl_indexOf_6 rfl ?_
  refine z_aload_n hZ gEl_indexOf_7 rfl ?_
  refine z_get hZ gEl_indexOf_8 (by omega) rfl (by rw [hc]; rfl) ?_
  refine z_cmpge hZ gEl_indexOf_11 (fun c11 => ?_) (fun c11 => ?_)
  · have ct11 := c11
    have hge : cnt ≤ K := (nI_leI (by omega) (by omega)).mp ct11
    refine z_iconst hZ gEl_indexOf_28 _ rfl ?_
    refine z_iret hZ gEl_indexOf_29 ?_
    first
      | exact ⟨Or.inr ⟨rfl, fun h => by have := (hm.mp h).1; omega⟩, rfl⟩
      | exact ⟨Or.inr ⟨rfl, fun h => by
          rw [nI_clamp (by omega)] at ct21
          exact ct21 (hm.mp h).2⟩, rfl⟩
      | exact ⟨Or.inl ⟨K, hlt, by rw [nI_clamp (by omega)] at cf21; exact cf21, rfl⟩, rfl⟩
  · have cf11 := c11
    have hlt : K < cnt := Nat.not_le.mp fun h9 => cf11 ((nI_leI (by omega) (by omega)).mpr h9)
    refine z_aload_n hZ gEl_indexOf_14 rfl ?_
    refine z_get hZ gEl_indexOf_15 (by omega) rfl rfl ?_
    refine z_iload_n hZ gEl_indexOf_18 rfl ?_
    refine z_iald hZ gEl_indexOf_19 (by omega) rfl (vp_in_nI (by omega) (by decide)) ?_
    refine z_iload_n hZ gEl_indexOf_20 rfl ?_
    refine z_cmpne hZ gEl_indexOf_21 (fun c21 => ?_) (fun c21 => ?_)
    · have ct21 := c21
      refine z_iconst hZ gEl_indexOf_28 _ rfl ?_
      refine z_iret hZ gEl_indexOf_29 ?_
      first
        | exact ⟨Or.inr ⟨rfl, fun h => by have := (hm.mp h).1; omega⟩, rfl⟩
        | exact ⟨Or.inr ⟨rfl, fun h => by
            rw [nI_clamp (by omega)] at ct21
            exact ct21 (hm.mp h).2⟩, rfl⟩
        | exact ⟨Or.inl ⟨K, hlt, by rw [nI_clamp (by omega)] at cf21; exact cf21, rfl⟩, rfl⟩
    · have cf21 := c21
      refine z_iload_n hZ gEl_indexOf_24 rfl ?_
      refine z_goto hZ gEl_indexOf_25 ?_
      refine z_iret hZ gEl_indexOf_29 ?_
      first
        | exact ⟨Or.inr ⟨rfl, fun h => by have := (hm.mp h).1; omega⟩, rfl⟩
        | exact ⟨Or.inr ⟨rfl, fun h => by
            rw [nI_clamp (by omega)] at ct21
            exact ct21 (hm.mp h).2⟩, rfl⟩
        | exact ⟨Or.inl ⟨K, hlt, by rw [nI_clamp (by omega)] at cf21; exact cf21, rfl⟩, rfl⟩

set_option maxHeartbeats 4000000 in
set_option maxRecDepth 100000 in
theorem c_El_include (l : Launch) (D : va_G) (E : sx_E) (B : Nat) (A : Nat → Prop) (hB : 29 ≤ B) {a : sA} {g : sG} {i : sA} {cnt : Nat} (hc : i 2 2 = nI cnt) (hcn : cnt ≤ 120) (hs : inc (a 3) cnt) (x : Int32) : sM l D E B A yEl_include prog_5_method_4_code 4 (some .boolean) 1 23 [.inr (2, 0), .inl x] (cW a g i) (fun r w' => (r = some (.inl 1) ∧ (∃ j, j < cnt ∧ a 3 j = x) ∧ w' = cW a g i) ∨ (r = some (.inl 0) ∧ (¬ ∃ j, j < cnt ∧ a 3 j = x) ∧ cnt = 120 ∧ w' = cW a g i) ∨ (r = some (.inl 1) ∧ (¬ ∃ j, j < cnt ∧ a 3 j = x) ∧ cnt < 120 ∧ w' = inW a g i cnt x)) := by
  refine sx_m0 (ls := lEl_include) (cs := csAll) (by decide +kernel) kEl_include (hEl_include l D E B A hB) (by simp) ⟨fun w' h => (by rcases h with ⟨h, _⟩ | ⟨h, _⟩ | ⟨h, _⟩ <;> cases h), fun y w' h => (by rcases h with ⟨h, _⟩ | ⟨h, _⟩ | ⟨h, _⟩ <;> cases h <;> decide)⟩ ?_
  intro Z hZ
  have hm := kf_mem (x := x) hs
  have hK := kf_le (a 3) x cnt
  generalize hKe : kf (a 3) x cnt = K at *
  have loop : ∀ n k, k = K + n → k ≤ cnt → cnt < 120 → (¬ ∃ j, j < cnt ∧ a 3 j = x) → Z 42 [some (.inr (2, 0)), some (.inl x), some (.inl (nI K)), some (.inl (nI k))] [] (cW (va_up a 3 (shf (a 3) k cnt)) g i) := by
    intro n
    induction n with
    | zero =>
      intro k hk hk2 hlt hno
      have e : k = K := by omega
      subst e
      refine z_iload_n hZ gEl_include_42 rfl ?_
      refine z_iload_n hZ gEl_include_43 rfl ?_
      refine z_cmple hZ gEl_include_44 (fun c44 => ?_) (fun c44 => absurd (nI_le (Nat.le_refl k) (by omega)) c44)
      refine z_aload_n hZ gEl_include_67 rfl ?_
      refine z_get hZ gEl_include_68 (by omega) rfl rfl ?_
      refine z_iload_n hZ gEl_include_71 rfl ?_
      refine z_iload_n hZ gEl_include_72 rfl ?_
      refine z_iastW hZ gEl_include_73 (by omega) rfl (vp_in_nI (by omega) (by decide)) cW_a3 ?_
      refine z_aload_n hZ gEl_include_74 rfl ?_
      refine z_get hZ gEl_include_75 (by omega) rfl rfl ?_
      refine z_aload_n hZ gEl_include_78 rfl ?_
      refine z_get hZ gEl_include_79 (by omega) rfl (by rw [hc]; rfl) ?_
      refine z_iload_n hZ gEl_include_82 rfl ?_
      refine z_iastW hZ gEl_include_83 (by omega) rfl (vp_in_nI (by omega) (by decide)) cW_a4 ?_
      refine z_aload_n hZ gEl_include_84 rfl ?_
      refine z_dup hZ gEl_include_85 ?_
      refine z_get hZ gEl_include_86 (by omega) rfl (by rw [hc]; rfl) ?_
      refine z_iconst hZ gEl_include_89 _ rfl ?_
      refine z_iadd hZ gEl_include_90 _ (i1 cnt) ?_
      refine z_putW hZ gEl_include_91 (by omega) rfl (Or.inl (by decide)) (Nat.le_of_ble_eq_true rfl) cW_i2_2 ?_
      refine z_iconst hZ gEl_include_94 _ rfl ?_
      refine z_iret hZ gEl_include_95 ?_
      refine Or.inr (Or.inr ⟨rfl, hno, hlt, ?_⟩)
      rw [nI_clamp (by omega), nI_clamp (by omega)]
      show cW _ _ _ = cW _ _ _
      congr 1
      rw [va_up_self, shf_e, va_uu, va_up_ne _ _ (by decide), hKe]
    | succ n ih =>
      intro k hk hk2 hlt hno
      refine z_iload_n hZ gEl_include_42 rfl ?_
      refine z_iload_n hZ gEl_include_43 rfl ?_
      refine z_cmple hZ gEl_include_44 (fun c44 => absurd c44 (nI_ge (by omega) (by omega))) (fun c44 => ?_)
      refine z_aload_n hZ gEl_include_47 rfl ?_
      refine z_get hZ gEl_include_48 (by omega) rfl rfl ?_
      refine z_iload_n hZ gEl_include_51 rfl ?_
      refine z_aload_n hZ gEl_include_52 rfl ?_
      refine z_get hZ gEl_include_53 (by omega) rfl rfl ?_
      refine z_iload_n hZ gEl_include_56 rfl ?_
      refine z_iconst hZ gEl_include_57 _ rfl ?_
      refine z_isub hZ gEl_include_58 _ (nI_sub1 (by omega)) ?_
      refine z_iald hZ gEl_include_59 (by omega) rfl (vp_in_nI (by omega) (by decide)) ?_
      refine z_iastW hZ gEl_include_60 (by omega) rfl (vp_in_nI (by omega) (by decide)) cW_a3 ?_
      rw [nI_clamp (by omega), nI_clamp (by omega), va_up_self, shf_s (by omega) hk2, va_uu]
      refine z_iinc hZ gEl_include_61 rfl _ (nI_dec (by omega)) rfl ?_
      refine z_goto hZ gEl_include_64 ?_
      exact ih (k - 1) (by omega) (by omega) hlt hno
  refine z_aload_n hZ gEl_include_0 rfl ?_
  refine z_iload_n hZ gEl_include_1 rfl ?_
  refine z_cv hZ gEl_include_2 rfl rfl (Nat.le_of_ble_eq_true rfl) (Nat.le_of_ble_eq_true rfl) ⟨⟨2, _, _, rfl, by decide, rfl⟩, fun l D E B A hB => c_El_firstNotBelow l D E B A hB hc hcn hs x⟩ (fun r2 w2 p2 => ?_)
  obtain ⟨rfl, rfl⟩ := p2
  rw [hKe]
  show Z (2 + 3) _ (.inl (nI K) :: []) _
  refine z_istore_n hZ gEl_include_5 rfl ?_
  refine z_iload_n hZ gEl_include_6 rfl ?_
  refine z_aload_n hZ gEl_include_7 rfl ?_
  refine z_get hZ gEl_include_8 (by omega) rfl (by rw [hc]; rfl) ?_
  refine z_cmpge hZ gEl_include_11 (fun c11 => ?_) (fun c11 => ?_)
  · have ct11 := c11
    have hge : cnt ≤ K := (nI_leI (by omega) (by omega)).mp ct11
    have hno : ¬ ∃ j, j < cnt ∧ a 3 j = x := fun h => by have := (hm.mp h).1; omega
    refine z_aload_n hZ gEl_include_26 rfl ?_
    refine z_get hZ gEl_include_27 (by omega) rfl (by rw [hc]; rfl) ?_
    refine z_bipush hZ gEl_include_30 _ i120 ?_
    refine z_cmplt hZ gEl_include_32 (fun c32 => ?_) (fun c32 => ?_)
    · have ct32 := c32
      have hl120 : cnt < 120 := (nI_ltI (by omega) (by decide)).mp ct32
      refine z_aload_n hZ gEl_include_37 rfl ?_
      refine z_get hZ gEl_include_38 (by omega) rfl (by rw [hc]; rfl) ?_
      refine z_istore_n hZ gEl_include_41 rfl ?_
      have h9 := loop (cnt - K) cnt (by omega) (Nat.le_refl _) hl120 hno
      rw [shf_0, va_id a rfl] at h9
      exact h9
    · have cf32 := c32
      have hg120 : cnt = 120 := by
        have : ¬ cnt < 120 := fun h9 => cf32 ((nI_ltI (by omega) (by decide)).mpr h9)
        omega
      refine z_iconst hZ gEl_include_35 _ rfl ?_
      refine z_iret hZ gEl_include_36 ?_
      exact Or.inr (Or.inl ⟨rfl, hno, hg120, rfl⟩)
  · have cf11 := c11
    have hlt : K < cnt := Nat.not_le.mp fun h9 => cf11 ((nI_leI (by omega) (by omega)).mpr h9)
    refine z_aload_n hZ gEl_include_14 rfl ?_
    refine z_get hZ gEl_include_15 (by omega) rfl rfl ?_
    refine z_iload_n hZ gEl_include_18 rfl ?_
    refine z_iald hZ gEl_include_19 (by omega) rfl (vp_in_nI (by omega) (by decide)) ?_
    refine z_iload_n hZ gEl_include_20 rfl ?_
    refine z_cmpne hZ gEl_include_21 (fun c21 => ?_) (fun c21 => ?_)
    · have ct21 := c21
      have hno : ¬ ∃ j, j < cnt ∧ a 3 j = x := fun h => by
        rw [nI_clamp (by omega)] at ct21
        exact ct21 (hm.mp h).2
      refine z_aload_n hZ gEl_include_26 rfl ?_
      refine z_get hZ gEl_include_27 (by omega) rfl (by rw [hc]; rfl) ?_
      refine z_bipush hZ gEl_include_30 _ i120 ?_
      refine z_cmplt hZ gEl_include_32 (fun c32 => ?_) (fun c32 => ?_)
      · have ct32 := c32
        have hl120 : cnt < 120 := (nI_ltI (by omega) (by decide)).mp ct32
        refine z_aload_n hZ gEl_include_37 rfl ?_
        refine z_get hZ gEl_include_38 (by omega) rfl (by rw [hc]; rfl) ?_
        refine z_istore_n hZ gEl_include_41 rfl ?_
        have h9 := loop (cnt - K) cnt (by omega) (Nat.le_refl _) hl120 hno
        rw [shf_0, va_id a rfl] at h9
        exact h9
      · have cf32 := c32
        have hg120 : cnt = 120 := by
          have : ¬ cnt < 120 := fun h9 => cf32 ((nI_ltI (by omega) (by decide)).mpr h9)
          omega
        refine z_iconst hZ gEl_include_35 _ rfl ?_
        refine z_iret hZ gEl_include_36 ?_
        exact Or.inr (Or.inl ⟨rfl, hno, hg120, rfl⟩)
    · have cf21 := c21
      refine z_iconst hZ gEl_include_24 _ rfl ?_
      refine z_iret hZ gEl_include_25 ?_
      exact Or.inl ⟨rfl, hm.mpr ⟨hlt, by rw [nI_clamp (by omega)] at cf21; exact cf21⟩, rfl⟩

