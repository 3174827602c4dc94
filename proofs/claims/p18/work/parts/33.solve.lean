-- systems modulo p
def gM (p d : Nat) (Q : Nat → Nat → Int32) (S : Nat → Nat → Nat) : Prop := ∀ r c, r < d → c < d → Q r c = nI (S r c) ∧ S r c < p
def swp (S : Nat → Nat → Nat) (x y : Nat) : Nat → Nat → Nat := fun r => if r = x then S y else if r = y then S x else S r
def clr (S : Nat → Nat → Nat) (p col row v : Nat) : Nat → Nat → Nat := fun r c => if r = row then S row c * v % p else (S r c + (p - S r col) * (S row c * v % p)) % p
abbrev sW (a : sA) (g : sG) (i : sA) (Q : Nat → Nat → Int32) : sx_M := cW a (va_up g 20 Q) i
theorem sW_g (a : sA) (g : sG) (i : sA) (Q R : Nat → Nat → Int32) : cW a (va_up (va_up g 20 Q) 20 R) i = sW a g i R := by rw [va_uu]

set_option maxHeartbeats 4000000 in
set_option maxRecDepth 100000 in
theorem c_Cm_swapRows (l : Launch) (D : va_G) (E : sx_E) (B : Nat) (A : Nat → Prop) (hB : 29 ≤ B) {a : sA} {g : sG} {i : sA} {p d x y : Nat} {Q : Nat → Nat → Int32} {S : Nat → Nat → Nat} (hd : d ≤ 16) (hx : x < d) (hy : y < d) (hS : gM p d Q S) : sM l D E B A yCm_swapRows prog_2_method_8_code 6 none 0 0 [.inr (13, 0), .inl (nI x), .inl (nI y), .inl (nI d)] (sW a g i Q) (fun r w' => r = none ∧ ∃ R : Nat → Nat → Int32, w' = sW a g i R ∧ gM p d R (swp S x y)) := by
  refine sx_m0 (ls := lCm_swapRows) (cs := noCalls) (by decide +kernel) kCm_swapRows (fun pc i h1 h2 => sx_nc (ls := lCm_swapRows) (by decide) pc i h1 h2) (by simp) (fun x w' h => by cases h.1) ?_
  intro Z hZ
  have ex : (nI x).toNatClampNeg = x := nI_clamp (by omega)
  have ey : (nI y).toNatClampNeg = y := nI_clamp (by omega)
  have loop : ∀ n j Q x5, n + j = d → (∀ r c, r < d → c < d → Q r c = nI (if c < j then swp S x y r c else S r c)) → Z 3 [some (.inr (13, 0)), some (.inl (nI x)), some (.inl (nI y)), some (.inl (nI d)), some (.inl (nI j)), x5] [] (sW a g i Q) := by
    intro n
    induction n with
    | zero =>
      intro j Q x5 hn hQ
      have e : j = d := by omega
      subst e
      refine z_iload hZ gCm_swapRows_3 rfl ?_
      refine z_iload_n hZ gCm_swapRows_5 rfl ?_
      refine z_cmpge hZ gCm_swapRows_6 (fun c6 => ?_) (fun c6 => absurd (nI_le (Nat.le_refl j) (by omega)) c6)
      refine z_vret hZ gCm_swapRows_55 ?_
      refine ⟨rfl, Q, rfl, fun r c hr hc => ⟨by rw [hQ r c hr hc, if_pos hc], ?_⟩⟩
      unfold swp
      by_cases e1 : r = x
      · rw [if_pos e1]; exact (hS y c hy hc).2
      · rw [if_neg e1]
        by_cases e2 : r = y
        · rw [if_pos e2]; exact (hS x c hx hc).2
        · rw [if_neg e2]; exact (hS r c hr hc).2
    | succ n ih =>
      intro j Q x5 hn hQ
      have hj : j < d := by omega
      have ej : (nI j).toNatClampNeg = j := nI_clamp (by omega)
      have q1 := hQ x j hx hj
      have q2 := hQ y j hy hj
      rw [if_neg (Nat.lt_irrefl j)] at q1 q2
      refine z_iload hZ gCm_swapRows_3 rfl ?_
      refine z_iload_n hZ gCm_swapRows_5 rfl ?_
      refine z_cmpge hZ gCm_swapRows_6 (fun c6 => absurd c6 (nI_ge (by omega) (by omega))) (fun c6 => ?_)
      refine z_aload_n hZ gCm_swapRows_9 rfl ?_
      refine z_get hZ gCm_swapRows_10 (by omega) rfl rfl ?_
      refine z_iload_n hZ gCm_swapRows_13 rfl ?_
      refine z_aald hZ gCm_swapRows_14 (by omega) rfl (vp_in_nI (by omega) (by decide)) ?_
      rw [ex]
      refine z_iload hZ gCm_swapRows_15 rfl ?_
      refine z_ialg hZ gCm_swapRows_17 (by omega) rfl (by omega) (vp_in_nI (by omega) (by decide)) ?_
      rw [ej, va_up_self, q1]
      refine z_istore hZ gCm_swapRows_18 rfl ?_
      refine z_aload_n hZ gCm_swapRows_20 rfl ?_
      refine z_get hZ gCm_swapRows_21 (by omega) rfl rfl ?_
      refine z_iload_n hZ gCm_swapRows_24 rfl ?_
      refine z_aald hZ gCm_swapRows_25 (by omega) rfl (vp_in_nI (by omega) (by decide)) ?_
      rw [ex]
      refine z_iload hZ gCm_swapRows_26 rfl ?_
      refine z_aload_n hZ gCm_swapRows_28 rfl ?_
      refine z_get hZ gCm_swapRows_29 (by omega) rfl rfl ?_
      refine z_iload_n hZ gCm_swapRows_32 rfl ?_
      refine z_aald hZ gCm_swapRows_33 (by omega) rfl (vp_in_nI (by omega) (by decide)) ?_
      rw [ey]
      refine z_iload hZ gCm_swapRows_34 rfl ?_
      refine z_ialg hZ gCm_swapRows_36 (by omega) rfl (by omega) (vp_in_nI (by omega) (by decide)) ?_
      rw [ej, va_up_self, q2]
      refine z_iasgW hZ gCm_swapRows_37 (by omega) rfl (by omega) (vp_in_nI (by omega) (by decide)) cW_g20 ?_
      rw [ej, va_up_self, sW_g]
      refine z_aload_n hZ gCm_swapRows_38 rfl ?_
      refine z_get hZ gCm_swapRows_39 (by omega) rfl rfl ?_
      refine z_iload_n hZ gCm_swapRows_42 rfl ?_
      refine z_aald hZ gCm_swapRows_43 (by omega) rfl (vp_in_nI (by omega) (by decide)) ?_
      rw [ey]
      refine z_iload hZ gCm_swapRows_44 rfl ?_
      refine z_iload hZ gCm_swapRows_46 rfl ?_
      refine z_iasgW hZ gCm_swapRows_48 (by omega) rfl (by omega) (vp_in_nI (by omega) (by decide)) cW_g20 ?_
      rw [ej, va_up_self, sW_g]
      refine z_iinc hZ gCm_swapRows_49 rfl _ (i1 j) rfl ?_
      refine z_goto hZ gCm_swapRows_52 ?_
      refine ih (j + 1) _ _ (by omega) (fun r c hr hc => ?_)
      by_cases ec : c = j
      · subst ec
        rw [if_pos (Nat.lt_succ_self c)]
        unfold swp
        by_cases e2 : r = y
        · subst e2
          rw [va_up_self, pk_us]
          by_cases e1 : r = x
          · subst e1; rw [if_pos rfl]
          · rw [if_neg e1, if_pos rfl]
        · rw [va_up_ne _ _ e2]
          by_cases e1 : r = x
          · subst e1; rw [va_up_self, pk_us, if_pos rfl]
          · rw [va_up_ne _ _ e1, if_neg e1, if_neg e2]
            have := hQ r c hr hc
            rw [if_neg (Nat.lt_irrefl c)] at this
            exact this
      · have hh : va_up (va_up Q x (upd (Q x) j (nI (S y j)))) y (upd (va_up Q x (upd (Q x) j (nI (S y j))) y) j (nI (S x j))) r c = Q r c := by
          by_cases e2 : r = y
          · subst e2
            rw [va_up_self, pk_un ec]
            by_cases e1 : r = x
            · subst e1; rw [va_up_self, pk_un ec]
            · rw [va_up_ne _ _ e1]
          · rw [va_up_ne _ _ e2]
            by_cases e1 : r = x
            · subst e1; rw [va_up_self, pk_un ec]
            · rw [va_up_ne _ _ e1]
        rw [hh, hQ r c hr hc]
        by_cases h9 : c < j
        · rw [if_pos h9, if_pos (by omega)]
        · rw [if_neg h9, if_neg (by omega)]
  refine z_iconst hZ gCm_swapRows_0 _ i0 ?_
  refine z_istore hZ gCm_swapRows_1 rfl ?_
  exact loop d 0 Q _ (by omega) (fun r c hr hc => by rw [if_neg (Nat.not_lt_zero c)]; exact (hS r c hr hc).1)

theorem zm {p s y : Nat} (hs : s < p) : (s + (p - 0) * y) % p = s := by rw [Nat.sub_zero, Nat.add_mul_mod_self_left, Nat.mod_eq_of_lt hs]
theorem bd2 {p s x y : Nat} (hp : p < 1092) (hs : s < p) (hy : y < p) : s + (p - x) * y < 2 ^ 31 := by
  have : (p - x) * y ≤ 1092 * 1092 := Nat.mul_le_mul (by omega) (by omega)
  omega
theorem bd1 {p x y : Nat} (hp : p < 1092) (hx : x < p) (hy : y < p) : x * y < 2 ^ 31 := by
  have : x * y ≤ 1092 * 1092 := Nat.mul_le_mul (by omega) (by omega)
  omega
theorem pp92 {p : Nat} (hp : p < 1092) : p * p < 2 ^ 31 := by
  have : p * p ≤ 1092 * 1092 := Nat.mul_le_mul (by omega) (by omega)
  omega

set_option maxHeartbeats 4000000 in
set_option maxRecDepth 100000 in
theorem c_Cm_clearColumn (l : Launch) (D : va_G) (E : sx_E) (B : Nat) (A : Nat → Prop) (hB : 29 ≤ B) {a : sA} {g : sG} {i : sA} {p d col row : Nat} {Q : Nat → Nat → Int32} {S : Nat → Nat → Nat} (hm : i 12 0 = nI p) (hpr : isPr p) (hp : p < 1092) (hd : d ≤ 16) (hcol : col < d) (hrow : row < d) (hS : gM p d Q S) (hnz : S row col ≠ 0) (hz0 : ∀ c, c < col → S row c = 0) : sM l D E B A yCm_clearColumn prog_2_method_9_code 9 none 1 29 [.inr (13, 0), .inl (nI col), .inl (nI row), .inl (nI d), .inr (12, 0)] (sW a g i Q) (fun r w' => r = none ∧ ∃ (v : Nat) (R : Nat → Nat → Int32), w' = sW a g i R ∧ v < p ∧ (p : Int) ∣ (v : Int) * (S row col : Int) - 1 ∧ gM p d R (clr S p col row v)) := by
  refine sx_m0 (ls := lCm_clearColumn) (cs := csAll) (by decide +kernel) kCm_clearColumn (hCm_clearColumn l D E B A hB) (by simp) (fun x w' h => by cases h.1) ?_
  intro Z hZ
  have hp1 : 1 < p := hpr.1
  have hp0 : 0 < p := by omega
  have ec : (nI col).toNatClampNeg = col := nI_clamp (by omega)
  have er : (nI row).toNatClampNeg = row := nI_clamp (by omega)
  obtain ⟨hQ0, hS0⟩ := hS row col hrow hcol
  -- the rows below and above
  have rows : ∀ v, v < p → (p : Int) ∣ (v : Int) * (S row col : Int) - 1 → ∀ n t Q x7 x8, n + t = d → (∀ r c, r < d → c < d → Q r c = nI (if r = row ∨ r < t then clr S p col row v r c else S r c)) → Z 58 [some (.inr (13, 0)), some (.inl (nI col)), some (.inl (nI row)), some (.inl (nI d)), some (.inr (12, 0)), some (.inl (nI v)), some (.inl (nI t)), x7, x8] [] (sW a g i Q) := by
    intro v hv hvi
    have hlt : ∀ r c, r < d → c < d → clr S p col row v r c < p := fun r c _ _ => by
      unfold clr
      split <;> exact Nat.mod_lt _ hp0
    have hrc : ∀ c, clr S p col row v row c = S row c * v % p := fun c => if_pos rfl
    intro n
    induction n with
    | zero =>
      intro t Q x7 x8 hn hQ
      have e : t = d := by omega
      subst e
      refine z_iload hZ gCm_clearColumn_58 rfl ?_
      refine z_iload_n hZ gCm_clearColumn_60 rfl ?_
      refine z_cmpge hZ gCm_clearColumn_61 (fun c61 => ?_) (fun c61 => absurd (nI_le (Nat.le_refl t) (by omega)) c61)
      refine z_vret hZ gCm_clearColumn_143 ?_
      exact ⟨rfl, v, Q, rfl, hv, hvi, fun r c hr hc => ⟨by rw [hQ r c hr hc, if_pos (Or.inr hr)], hlt r c hr hc⟩⟩
    | succ n ih =>
      intro t Q x7 x8 hn hQ
      have ht : t < d := by omega
      have et : (nI t).toNatClampNeg = t := nI_clamp (by omega)
      have next : ∀ Q x7 x8, (∀ r c, r < d → c < d → Q r c = nI (if r = row ∨ r < t + 1 then clr S p col row v r c else S r c)) → Z 137 [some (.inr (13, 0)), some (.inl (nI col)), some (.inl (nI row)), some (.inl (nI d)), some (.inr (12, 0)), some (.inl (nI v)), some (.inl (nI t)), x7, x8] [] (sW a g i Q) := by
        intro Q x7 x8 hQ
        refine z_iinc hZ gCm_clearColumn_137 rfl _ (i1 t) rfl ?_
        refine z_goto hZ gCm_clearColumn_140 ?_
        exact ih (t + 1) Q _ _ (by omega) hQ
      have hsame : ∀ r c, r ≠ t → (if r = row ∨ r < t + 1 then clr S p col row v r c else S r c) = (if r = row ∨ r < t then clr S p col row v r c else S r c) := fun r c hrt => by
        by_cases h1 : r = row ∨ r < t
        · rw [if_pos h1, if_pos (h1.imp id (fun h => by omega))]
        · rw [if_neg h1, if_neg (fun h => h1 (h.imp id (fun h => by omega)))]
      have inner : t ≠ row → ∀ m j Q, m + j = d → col ≤ j → (∀ r c, r < d → c < d → r ≠ t → Q r c = nI (if r = row ∨ r < t then clr S p col row v r c else S r c)) → (∀ c, c < d → Q t c = nI (if c < j then clr S p col row v t c else S t c)) → Z 89 [some (.inr (13, 0)), some (.inl (nI col)), some (.inl (nI row)), some (.inl (nI d)), some (.inr (12, 0)), some (.inl (nI v)), some (.inl (nI t)), some (.inl (nI (S t col))), some (.inl (nI j))] [] (sW a g i Q) := by
        intro htr m
        induction m with
        | zero =>
          intro j Q hmj hcj h1 h2
          have e : j = d := by omega
          subst e
          refine z_iload hZ gCm_clearColumn_89 rfl ?_
          refine z_iload_n hZ gCm_clearColumn_91 rfl ?_
          refine z_cmpge hZ gCm_clearColumn_92 (fun c92 => ?_) (fun c92 => absurd (nI_le (Nat.le_refl j) (by omega)) c92)
          refine next Q _ _ (fun r c hr hc => ?_)
          by_cases e9 : r = t
          · subst e9; rw [h2 c hc, if_pos hc, if_pos (Or.inr (Nat.lt_succ_self r))]
          · rw [h1 r c hr hc e9, hsame r c e9]
        | succ m ihm =>
          intro j Q hmj hcj h1 h2
          have hj : j < d := by omega
          have ej : (nI j).toNatClampNeg = j := nI_clamp (by omega)
          have hrow2 := h1 row j hrow hj (Ne.symm htr)
          rw [if_pos (Or.inl rfl), hrc] at hrow2
          have htj := h2 j hj
          rw [if_neg (Nat.lt_irrefl j)] at htj
          have hstj := (hS t j ht hj).2
          have hstc := (hS t col ht hcol).2
          have hml := Nat.mod_lt (S row j * v) hp0
          have hclr : clr S p col row v t j = (S t j + (p - S t col) * (S row j * v % p)) % p := if_neg htr
          refine z_iload hZ gCm_clearColumn_89 rfl ?_
          refine z_iload_n hZ gCm_clearColumn_91 rfl ?_
          refine z_cmpge hZ gCm_clearColumn_92 (fun c92 => absurd c92 (nI_ge (by omega) (by omega))) (fun c92 => ?_)
          refine z_aload_n hZ gCm_clearColumn_95 rfl ?_
          refine z_get hZ gCm_clearColumn_96 (by omega) rfl rfl ?_
          refine z_iload hZ gCm_clearColumn_99 rfl ?_
          refine z_aald hZ gCm_clearColumn_101 (by omega) rfl (vp_in_nI (by omega) (by decide)) ?_
          rw [et]
          refine z_iload hZ gCm_clearColumn_102 rfl ?_
          refine z_aload hZ gCm_clearColumn_104 rfl ?_
          refine z_aload_n hZ gCm_clearColumn_106 rfl ?_
          refine z_get hZ gCm_clearColumn_107 (by omega) rfl rfl ?_
          refine z_iload hZ gCm_clearColumn_110 rfl ?_
          refine z_aald hZ gCm_clearColumn_112 (by omega) rfl (vp_in_nI (by omega) (by decide)) ?_
          rw [et]
          refine z_iload hZ gCm_clearColumn_113 rfl ?_
          refine z_ialg hZ gCm_clearColumn_115 (by omega) rfl (by omega) (vp_in_nI (by omega) (by decide)) ?_
          rw [ej, va_up_self, htj]
          refine z_iload hZ gCm_clearColumn_116 rfl ?_
          refine z_aload_n hZ gCm_clearColumn_118 rfl ?_
          refine z_get hZ gCm_clearColumn_119 (by omega) rfl rfl ?_
          refine z_iload_n hZ gCm_clearColumn_122 rfl ?_
          refine z_aald hZ gCm_clearColumn_123 (by omega) rfl (vp_in_nI (by omega) (by decide)) ?_
          rw [er]
          refine z_iload hZ gCm_clearColumn_124 rfl ?_
          refine z_ialg hZ gCm_clearColumn_126 (by omega) rfl (by omega) (vp_in_nI (by omega) (by decide)) ?_
          rw [ej, va_up_self, hrow2]
          refine z_cv hZ gCm_clearColumn_127 rfl rfl (Nat.le_of_ble_eq_true rfl) (Nat.le_of_ble_eq_true rfl) ⟨⟨12, _, _, rfl, by decide, rfl⟩, fun l D E B A hB => c_Re_minusTimes l D E B A hB hm hp0 (pp92 hp) (s := S t j) (x := S t col) (y := S row j * v % p) (Nat.le_of_lt hstc) (bd2 hp hstj hml)⟩ (fun r127 w127 p127 => ?_)
          obtain ⟨rfl, rfl⟩ := p127
          rw [← hclr]
          show Z (127 + 3) _ (.inl (nI (clr S p col row v t j)) :: .inl (nI j) :: .inr (20, t + 1) :: []) _
          refine z_iasgW hZ gCm_clearColumn_130 (by omega) rfl (by omega) (vp_in_nI (by omega) (by decide)) cW_g20 ?_
          rw [ej, va_up_self, sW_g]
          refine z_iinc hZ gCm_clearColumn_131 rfl _ (i1 j) rfl ?_
          refine z_goto hZ gCm_clearColumn_134 ?_
          refine ihm (j + 1) _ (by omega) (by omega) (fun r c hr hc hrt => ?_) (fun c hc => ?_)
          · rw [va_up_ne _ _ hrt]; exact h1 r c hr hc hrt
          · rw [va_up_self]
            by_cases e9 : c = j
            · subst e9; rw [pk_us, if_pos (Nat.lt_succ_self c)]
            · rw [pk_un e9, h2 c hc]
              by_cases h9 : c < j
              · rw [if_pos h9, if_pos (by omega)]
              · rw [if_neg h9, if_neg (by omega)]
      refine z_iload hZ gCm_clearColumn_58 rfl ?_
      refine z_iload_n hZ gCm_clearColumn_60 rfl ?_
      refine z_cmpge hZ gCm_clearColumn_61 (fun c61 => absurd c61 (nI_ge (by omega) (by omega))) (fun c61 => ?_)
      refine z_aload_n hZ gCm_clearColumn_64 rfl ?_
      refine z_get hZ gCm_clearColumn_65 (by omega) rfl rfl ?_
      refine z_iload hZ gCm_clearColumn_68 rfl ?_
      refine z_aald hZ gCm_clearColumn_70 (by omega) rfl (vp_in_nI (by omega) (by decide)) ?_
      rw [et]
      refine z_iload_n hZ gCm_clearColumn_71 rfl ?_
      refine z_ialg hZ gCm_clearColumn_72 (by omega) rfl (by omega) (vp_in_nI (by omega) (by decide)) ?_
      rw [ec, va_up_self]
      refine z_istore hZ gCm_clearColumn_73 rfl ?_
      refine z_iload hZ gCm_clearColumn_75 rfl ?_
      refine z_iload_n hZ gCm_clearColumn_77 rfl ?_
      refine z_cmpeq hZ gCm_clearColumn_78 (fun c78 => ?_) (fun c78 => ?_)
      · have ct78 := c78
        have htr : t = row := (nI_eq (by omega) (by omega)).mp ct78
        first
          | (have h8 : t = row := htr
             exact next Q _ _ (fun r c hr hc => by
              rw [hQ r c hr hc]
              by_cases e9 : r = t
              · rw [if_pos (Or.inl (e9.trans h8)), if_pos (Or.inl (e9.trans h8))]
              · rw [hsame r c e9]))
          | exact next Q _ _ (fun r c hr hc => by
              by_cases e9 : r = t
              · subst e9
                rw [hQ r c hr hc, if_neg (by rintro (h9 | h9); exact htr h9; omega), if_pos (Or.inr (Nat.lt_succ_self r))]
                have : clr S p col row v r c = (S r c + (p - S r col) * (S row c * v % p)) % p := if_neg htr
                rw [this, hz, zm (hS r c hr hc).2]
              · rw [hQ r c hr hc, hsame r c e9])
      · have cf78 := c78
        have htr : t ≠ row := fun h9 => cf78 (by rw [h9])
        have hq : Q t col = nI (S t col) := by
          rw [hQ t col ht hcol, if_neg]
          rintro (h9 | h9)
          · exact htr h9
          · omega
        rw [hq]
        refine z_iload hZ gCm_clearColumn_81 rfl ?_
        refine z_ifeq hZ gCm_clearColumn_83 (fun c83 => ?_) (fun c83 => ?_)
        · have ct83 := c83
          have hz : S t col = 0 := (nI_eq (Nat.lt_trans (hS t col ht hcol).2 (by omega)) (by decide)).mp ct83
          first
            | (have h8 : t = row := htr
               exact next Q _ _ (fun r c hr hc => by
                rw [hQ r c hr hc]
                by_cases e9 : r = t
                · rw [if_pos (Or.inl (e9.trans h8)), if_pos (Or.inl (e9.trans h8))]
                · rw [hsame r c e9]))
            | exact next Q _ _ (fun r c hr hc => by
                by_cases e9 : r = t
                · subst e9
                  rw [hQ r c hr hc, if_neg (by rintro (h9 | h9); exact htr h9; omega), if_pos (Or.inr (Nat.lt_succ_self r))]
                  have : clr S p col row v r c = (S r c + (p - S r col) * (S row c * v % p)) % p := if_neg htr
                  rw [this, hz, zm (hS r c hr hc).2]
                · rw [hQ r c hr hc, hsame r c e9])
        · have cf83 := c83
          refine z_iload_n hZ gCm_clearColumn_86 rfl ?_
          refine z_istore hZ gCm_clearColumn_87 rfl ?_
          refine inner htr (d - col) col Q (by omega) (Nat.le_refl col) (fun r c hr hc _ => hQ r c hr hc) (fun c hc => ?_)
          rw [hQ t c ht hc, if_neg (by rintro (h9 | h9); exact htr h9; omega)]
          by_cases h9 : c < col
          · rw [if_pos h9]
            have : clr S p col row v t c = (S t c + (p - S t col) * (S row c * v % p)) % p := if_neg htr
            rw [this, hz0 c h9, Nat.zero_mul, Nat.zero_mod, Nat.mul_zero, Nat.add_zero, Nat.mod_eq_of_lt (hS t c ht hc).2]
          · rw [if_neg h9]
  have first1 : ∀ v, v < p → (p : Int) ∣ (v : Int) * (S row col : Int) - 1 → ∀ n j Q x7 x8, n + j = d → col ≤ j → (∀ r c, r < d → c < d → Q r c = nI (if r = row ∧ c < j then S row c * v % p else S r c)) → Z 18 [some (.inr (13, 0)), some (.inl (nI col)), some (.inl (nI row)), some (.inl (nI d)), some (.inr (12, 0)), some (.inl (nI v)), some (.inl (nI j)), x7, x8] [] (sW a g i Q) := by
    intro v hv hvi n
    induction n with
    | zero =>
      intro j Q x7 x8 hn hcj hQ
      have e : j = d := by omega
      subst e
      refine z_iload hZ gCm_clearColumn_18 rfl ?_
      refine z_iload_n hZ gCm_clearColumn_20 rfl ?_
      refine z_cmpge hZ gCm_clearColumn_21 (fun c21 => ?_) (fun c21 => absurd (nI_le (Nat.le_refl j) (by omega)) c21)
      refine z_iconst hZ gCm_clearColumn_55 _ i0 ?_
      refine z_istore hZ gCm_clearColumn_56 rfl ?_
      refine rows v hv hvi j 0 Q _ _ (by omega) (fun r c hr hc => ?_)
      rw [hQ r c hr hc]
      by_cases e9 : r = row
      · subst e9
        rw [if_pos ⟨rfl, hc⟩, if_pos (Or.inl rfl)]
        unfold clr; rw [if_pos rfl]
      · rw [if_neg (fun h => e9 h.1), if_neg (by rintro (h | h); exact e9 h; omega)]
    | succ n ih =>
      intro j Q x7 x8 hn hcj hQ
      have hj : j < d := by omega
      have ej : (nI j).toNatClampNeg = j := nI_clamp (by omega)
      have hq := hQ row j hrow hj
      rw [if_neg (fun h => Nat.lt_irrefl j h.2)] at hq
      have hsr := (hS row j hrow hj).2
      refine z_iload hZ gCm_clearColumn_18 rfl ?_
      refine z_iload_n hZ gCm_clearColumn_20 rfl ?_
      refine z_cmpge hZ gCm_clearColumn_21 (fun c21 => absurd c21 (nI_ge (by omega) (by omega))) (fun c21 => ?_)
      refine z_aload_n hZ gCm_clearColumn_24 rfl ?_
      refine z_get hZ gCm_clearColumn_25 (by omega) rfl rfl ?_
      refine z_iload_n hZ gCm_clearColumn_28 rfl ?_
      refine z_aald hZ gCm_clearColumn_29 (by omega) rfl (vp_in_nI (by omega) (by decide)) ?_
      rw [er]
      refine z_iload hZ gCm_clearColumn_30 rfl ?_
      refine z_aload hZ gCm_clearColumn_32 rfl ?_
      refine z_aload_n hZ gCm_clearColumn_34 rfl ?_
      refine z_get hZ gCm_clearColumn_35 (by omega) rfl rfl ?_
      refine z_iload_n hZ gCm_clearColumn_38 rfl ?_
      refine z_aald hZ gCm_clearColumn_39 (by omega) rfl (vp_in_nI (by omega) (by decide)) ?_
      rw [er]
      refine z_iload hZ gCm_clearColumn_40 rfl ?_
      refine z_ialg hZ gCm_clearColumn_42 (by omega) rfl (by omega) (vp_in_nI (by omega) (by decide)) ?_
      rw [ej, va_up_self, hq]
      refine z_iload hZ gCm_clearColumn_43 rfl ?_
      refine z_cv hZ gCm_clearColumn_45 rfl rfl (Nat.le_of_ble_eq_true rfl) (Nat.le_of_ble_eq_true rfl) ⟨⟨12, _, _, rfl, by decide, rfl⟩, fun l D E B A hB => c_Re_times l D E B A hB hm hp0 (pp92 hp) (x := S row j) (y := v) (bd1 hp hsr hv)⟩ (fun r45 w45 p45 => ?_)
      obtain ⟨rfl, rfl⟩ := p45
      show Z (45 + 3) _ (.inl (nI (S row j * v % p)) :: .inl (nI j) :: .inr (20, row + 1) :: []) _
      refine z_iasgW hZ gCm_clearColumn_48 (by omega) rfl (by omega) (vp_in_nI (by omega) (by decide)) cW_g20 ?_
      rw [ej, va_up_self, sW_g]
      refine z_iinc hZ gCm_clearColumn_49 rfl _ (i1 j) rfl ?_
      refine z_goto hZ gCm_clearColumn_52 ?_
      refine ih (j + 1) _ _ _ (by omega) (by omega) (fun r c hr hc => ?_)
      by_cases e9 : r = row
      · subst e9
        rw [va_up_self]
        by_cases e10 : c = j
        · subst e10; rw [pk_us, if_pos ⟨rfl, Nat.lt_succ_self c⟩]
        · rw [pk_un e10, hQ r c hr hc]
          by_cases h9 : c < j
          · rw [if_pos ⟨rfl, h9⟩, if_pos ⟨rfl, by omega⟩]
          · rw [if_neg (fun h => h9 h.2), if_neg (fun h => h9 (by omega))]
      · rw [va_up_ne _ _ e9, hQ r c hr hc, if_neg (fun h => e9 h.1), if_neg (fun h => e9 h.1)]
  refine z_aload hZ gCm_clearColumn_0 rfl ?_
  refine z_aload_n hZ gCm_clearColumn_2 rfl ?_
  refine z_get hZ gCm_clearColumn_3 (by omega) rfl rfl ?_
  refine z_iload_n hZ gCm_clearColumn_6 rfl ?_
  refine z_aald hZ gCm_clearColumn_7 (by omega) rfl (vp_in_nI (by omega) (by decide)) ?_
  rw [er]
  refine z_iload_n hZ gCm_clearColumn_8 rfl ?_
  refine z_ialg hZ gCm_clearColumn_9 (by omega) rfl (by omega) (vp_in_nI (by omega) (by decide)) ?_
  rw [ec, va_up_self, hQ0]
  refine z_cv hZ gCm_clearColumn_10 rfl rfl (Nat.le_of_ble_eq_true rfl) (Nat.le_of_ble_eq_true rfl) ⟨⟨12, _, _, rfl, by decide, rfl⟩, fun l D E B A hB => c_Re_reciprocal l D E B A hB hm hp0 (pp92 hp) (num := S row col) (by omega)⟩ (fun r10 w10 p10 => ?_)
  obtain ⟨v, rfl, hv, _, hvi, rfl⟩ := p10
  have hvi := hvi hpr.2 hp1 (fun h9 => by have := Nat.le_of_dvd (Nat.pos_of_ne_zero hnz) h9; omega)
  show Z (10 + 3) _ (.inl (nI v) :: []) _
  refine z_istore hZ gCm_clearColumn_13 rfl ?_
  refine z_iload_n hZ gCm_clearColumn_15 rfl ?_
  refine z_istore hZ gCm_clearColumn_16 rfl ?_
  refine first1 v hv hvi (d - col) col Q _ _ (by omega) (Nat.le_refl col) (fun r c hr hc => ?_)
  by_cases h9 : r = row ∧ c < col
  · rw [if_pos h9, (hS r c hr hc).1, h9.1, hz0 c h9.2, Nat.zero_mul, Nat.zero_mod]
  · rw [if_neg h9]; exact (hS r c hr hc).1

