-- the reference: the classes
theorem upd_id {f : Nat → Int32} {j : Nat} {v : Int32} (h : f j = v) : upd f j v = f := by
  funext x
  by_cases e : x = j
  · subst e; rw [pk_us, h]
  · rw [pk_un e]
theorem upd_upd {f : Nat → Int32} {j : Nat} {u v : Int32} : upd (upd f j u) j v = upd f j v := by
  funext x
  by_cases e : x = j
  · subst e; rw [pk_us, pk_us]
  · rw [pk_un e, pk_un e, pk_un e]
-- the elements as the reference holds them
def elM (a i : sA) (s : Nat → Nat) (n : Nat) : Prop := i 0 3 = nI n ∧ (∀ j, j < n → a 2 j = nI (s j)) ∧ ∀ j, j < n → s j < 8 ^ 8
theorem elM_fp {a i : sA} {s : Nat → Nat} {n c : Nat} {r : Option sx_V} (h : elM a i s n) (hs : ∀ j k, j < k → k < n → s j < s k) (hc : c ∈ Gl s n) (hf : fp (a 2) n (nI c) r) : ∃ j, j < n ∧ s j = c ∧ j = ixf s n c ∧ r = some (.inl (nI j)) := by
  obtain ⟨m, hm, rfl⟩ := Gl_mem.mp hc
  rcases hf with ⟨j, hj, hx, _, hr⟩ | ⟨hno, _⟩
  · have hx2 : s j = s m := by
      rw [h.2.1 j hj] at hx
      exact (nI_eq (Nat.lt_trans (h.2.2 j hj) (by decide)) (Nat.lt_trans (h.2.2 m hm) (by decide))).mp hx
    exact ⟨j, hj, hx2, by rw [← hx2, ixf_ok hs hj], hr⟩
  · exact absurd (h.2.1 m hm) (hno m hm)
theorem dI_free {s : Nat → Nat} {n : Nat} {f6 f7 f8 : Nat → Int32} {re ix : Nat → Nat} {cnt t : Nat} (hG : gg_ok (Gl s n) pm pid piv) (h : dI s n f6 f7 f8 re cnt t) (ht : t < n) (hf : f6 t = -1) (hix : ∀ k, k < n → ix k < n ∧ s (ix k) = pm (pm (piv (s k)) (s t)) (s k)) : ∀ k, k < n → f6 (ix k) = -1 := by
  intro k hk
  obtain ⟨h0, hA, hB, hC, hD, hE, hF, hH⟩ := h
  obtain ⟨h1, h2⟩ := hix k hk
  have hst : s t ∈ Gl s n := Gl_mem.mpr ⟨t, ht, rfl⟩
  have hsk : s (ix k) ∈ Gl s n := Gl_mem.mpr ⟨_, h1, rfl⟩
  rcases hA (ix k) h1 with h | ⟨l, hl, hl2⟩
  · exact h
  · have h3 := (hB (ix k) l h1 hl).mp hl2
    have h4 : cnj s n (s t) (s (ix k)) := (cnj_by hG hsk hst).2 ⟨k, hk, h2.symm⟩
    have h5 := (hB t l ht hl).mpr (cnj_trans hG h3 (cnj_symm hG hst hsk h4))
    rw [hf] at h5
    exact absurd h5.symm (nI_m1 (by omega))
theorem ga6_one {f : Nat → Int32} {v : Int32} (hv : v ≠ -1) {ix : Nat → Nat} {n k : Nat} (hfr : ∀ q, q < n → f (ix q) = -1) (hk : k < n) : upd (ga6 f v ix k) (ix k) v = ga6 f v ix (k + 1) := by
  show _ = if ga6 f v ix k (ix k) = -1 then upd (ga6 f v ix k) (ix k) v else ga6 f v ix k
  by_cases e : ga6 f v ix k (ix k) = -1
  · rw [if_pos e]
  · rw [if_neg e]
    obtain ⟨h1, h2, h3⟩ := ga6_eq (f := f) hv (ix := ix) (ix k) k
    by_cases h4 : ∃ q, q < k ∧ ix q = ix k
    · exact upd_id (h1 h4 (hfr k hk))
    · exact absurd ((h2 h4).trans (hfr k hk)) e

theorem i_addsub (x y : Int32) : x + (y - x) = y := by
  rw [Int32.add_comm, Int32.sub_add_cancel]
theorem i_s1 (n : Nat) : nI (n + 1) - nI n = Int32.ofInt 1 := by
  rw [← i1 n, Int32.add_comm, Int32.add_sub_cancel]
theorem i_s0 (n : Nat) : nI n - nI n = Int32.ofInt 0 := by
  rw [Int32.sub_self]; rfl

set_option maxHeartbeats 4000000 in
set_option maxRecDepth 100000 in
theorem c_Mo_classify (l : Launch) (D : va_G) (E : sx_E) (B : Nat) (A : Nat → Prop) (hB : 11 ≤ B) {a : sA} {i : sA} {gen : Nat → Nat} {gc : Nat} (hg : ∀ k, k < gc → isP (gen k)) {s : Nat → Nat} {n : Nat} (hS : elS gen gc s n) (hel : elM a i s n) : sM l D E B A yMo_classify prog_9_method_10_code 6 (some .boolean) 2 45 [.inr (0, 0)] (mW a i) (fun r w' => ∃ a' i' : sA, w' = mW a' i' ∧ frA [3, 4, 5] a a' ∧ frM [6] i i' ∧ ((r = some (.inl 1) ∧ ∃ (k : Nat) (kl re : Nat → Nat), clS s n k kl re ∧ k ≤ 16 ∧ i' 0 6 = nI k ∧ (∀ j, j < n → a' 3 j = nI (kl (s j))) ∧ ∀ l, l < k → a' 5 l = nI (re l) ∧ a' 4 l = nI (kc_s (Gl s n) kl l)) ∨ (r = some (.inl 0) ∧ cMany s n))) := by
  refine sx_m0 (ls := lMo_classify) (cs := csAll) (by decide +kernel) kMo_classify (hMo_classify l D E B A hB) (by simp) (⟨fun w' h => (by obtain ⟨_, _, _, _, _, ⟨h, _⟩ | ⟨h, _⟩⟩ := h <;> cases h), fun x9 w' h => (by obtain ⟨_, _, _, _, _, ⟨h, _⟩ | ⟨h, _⟩⟩ := h <;> (injection h with h; injection h with h; subst h; simp))⟩) ?_
  intro Z hZ
  have hG := elS_gg hg hS
  have hn := hS.2.1
  have hs := hS.2.2.1
  have hP : ∀ j, j < n → isP (s j) := fun j hj => elS_P hg hS (Gl_mem.mpr ⟨j, hj, rfl⟩)
  have hel' : ∀ a' i' : sA, frA [3, 4, 5] a a' → frM [6] i i' → elM a' i' s n := fun a' i' h1 h2 => ⟨by rw [h2 3 (by decide)]; exact hel.1, by rw [h1 2 (by decide)]; exact hel.2.1, hel.2.2⟩
  have inner : ∀ (t cnt : Nat) (f6 f7 f8 : Nat → Int32) (re : Nat → Nat) (i' : sA), t < n → cnt < 16 → f6 t = -1 → dI s n f6 f7 f8 re cnt t → frM [6] i i' → i' 0 6 = nI cnt →
      (∀ (a2 : sA) x2 x3 x4 x5, frA [3, 4, 5] a a2 → a2 3 = ga6 f6 (nI cnt) (fun k => ixf s n (pm (pm (piv (s k)) (s t)) (s k))) n → a2 4 = upd f7 cnt (nI (gaN f6 (nI cnt) (fun k => ixf s n (pm (pm (piv (s k)) (s t)) (s k))) n)) → a2 5 = upd f8 cnt (nI (s t)) → Z 181 [some (.inr (0, 0)), some (.inl (nI t)), x2, x3, x4, x5] [] (mW a2 i')) →
      ∀ m q (a2 : sA) x3 x4 x5, m + q = n → frA [3, 4, 5] a a2 → a2 3 = ga6 f6 (nI cnt) (fun k => ixf s n (pm (pm (piv (s k)) (s t)) (s k))) q → a2 4 = upd f7 cnt (nI (gaN f6 (nI cnt) (fun k => ixf s n (pm (pm (piv (s k)) (s t)) (s k))) q)) → a2 5 = upd f8 cnt (nI (s t)) → Z 89 [some (.inr (0, 0)), some (.inl (nI t)), some (.inl (nI q)), x3, x4, x5] [] (mW a2 i') := by
    intro t cnt f6 f7 f8 re i' ht hcnt hf6 hdI hfi hi6 hend m
    have hi3 : i' 0 3 = nI n := by rw [hfi 3 (by decide)]; exact hel.1
    have hxin : ∀ k, k < n → pm (pm (piv (s k)) (s t)) (s k) ∈ Gl s n := fun k hk => gg_m hG (gg_m hG (gg_i hG (Gl_mem.mpr ⟨k, hk, rfl⟩)) (Gl_mem.mpr ⟨t, ht, rfl⟩)) (Gl_mem.mpr ⟨k, hk, rfl⟩)
    obtain ⟨ix, hixd⟩ : ∃ ix : Nat → Nat, ix = fun k => ixf s n (pm (pm (piv (s k)) (s t)) (s k)) := ⟨_, rfl⟩
    rw [← hixd] at hend ⊢
    have hix : ∀ k, k < n → ix k < n ∧ s (ix k) = pm (pm (piv (s k)) (s t)) (s k) := fun k hk => by
      obtain ⟨j, hj, he⟩ := Gl_mem.mp (hxin k hk)
      rw [hixd]
      show ixf s n _ < n ∧ s (ixf s n _) = _
      rw [← he, ixf_ok hs hj]
      exact ⟨hj, rfl⟩
    have hfree := dI_free hG hdI ht hf6 hix
    induction m with
    | zero =>
      intro q a2 x3 x4 x5 hm hfa h3 h4 h5
      have e9 : q = n := by omega
      subst e9
      refine z_iload_n hZ gMo_classify_89 rfl ?_
      refine z_aload_n hZ gMo_classify_90 rfl ?_
      refine z_get hZ gMo_classify_91 (by omega) rfl (by rw [hi3]; rfl) ?_
      refine z_cmpge hZ gMo_classify_94 (fun c94 => ?_) (fun c94 => absurd (nI_le (Nat.le_refl q) (by omega)) c94)
      exact hend a2 _ _ _ _ hfa h3 h4 h5
    | succ m ih =>
      intro q a2 x3 x4 x5 hm hfa h3 h4 h5
      have hq : q < n := by omega
      have eq0 : (nI q).toNatClampNeg = q := nI_clamp (by omega)
      have et : (nI t).toNatClampNeg = t := nI_clamp (by omega)
      have ec : (nI cnt).toNatClampNeg = cnt := nI_clamp (by omega)
      have he2 := hel' a2 i' hfa hfi
      have fq := he2.2.1 q hq
      have ft := he2.2.1 t ht
      have hgn := gaN_le f6 (nI cnt) ix q
      have hx1 : ix q < n := (hix q hq).1
      have ex1 : (nI (ix q)).toNatClampNeg = ix q := nI_clamp (by omega)
      have e4 : a2 4 cnt = nI (gaN f6 (nI cnt) ix q) := by rw [h4, pk_us]
      have fin : ∀ (v : Nat), v = gaN f6 (nI cnt) ix (q + 1) → Z 162 [some (.inr (0, 0)), some (.inl (nI t)), some (.inl (nI q)), some (.inl (nI (piv (s q)))), some (.inl (nI (pm (pm (piv (s q)) (s t)) (s q)))), some (.inl (nI (ix q)))] [.inl (nI v - nI (gaN f6 (nI cnt) ix q)), .inl (nI (gaN f6 (nI cnt) ix q)), .inl (nI cnt), .inr (4, 0)] (mW a2 i') := by
        intro v hv
        refine z_iadd hZ gMo_classify_162 _ (i_addsub _ _) ?_
        refine z_iastW hZ gMo_classify_163 (by omega) rfl (vp_in_nI (by omega) (by decide)) mW_a4 ?_
        rw [ec]
        refine z_aload_n hZ gMo_classify_164 rfl ?_
        refine z_get hZ gMo_classify_165 (by omega) rfl rfl ?_
        refine z_iload hZ gMo_classify_168 rfl ?_
        refine z_aload_n hZ gMo_classify_170 rfl ?_
        refine z_get hZ gMo_classify_171 (by omega) rfl (by rw [hi6]; rfl) ?_
        refine z_iastW hZ gMo_classify_174 (by omega) rfl (vp_in_nI (by omega) (by decide)) mW_a3 ?_
        rw [ex1]
        refine z_iinc hZ gMo_classify_175 rfl _ (i1 q) rfl ?_
        refine z_goto hZ gMo_classify_178 ?_
        refine ih (q + 1) _ _ _ _ (by omega) (frA_up (frA_up hfa (by decide)) (by decide)) ?_ ?_ ?_
        · rw [va_up_self, va_up_ne _ _ (by decide), h3, ga6_one (nI_m1 (by omega)) hfree hq]
        · rw [va_up_ne _ _ (by decide), va_up_self, h4, upd_upd, hv]
        · rw [va_up_ne _ _ (by decide), va_up_ne _ _ (by decide), h5]
      refine z_iload_n hZ gMo_classify_89 rfl ?_
      refine z_aload_n hZ gMo_classify_90 rfl ?_
      refine z_get hZ gMo_classify_91 (by omega) rfl (by rw [hi3]; rfl) ?_
      refine z_cmpge hZ gMo_classify_94 (fun c94 => absurd c94 (nI_ge (by omega) (by omega))) (fun c94 => ?_)
      refine z_aload_n hZ gMo_classify_97 rfl ?_
      refine z_get hZ gMo_classify_98 (by omega) rfl rfl ?_
      refine z_iload_n hZ gMo_classify_101 rfl ?_
      refine z_iald hZ gMo_classify_102 (by omega) rfl (vp_in_nI (by omega) (by decide)) ?_
      rw [eq0, fq]
      refine z_cs hZ gMo_classify_103 rfl rfl (Nat.le_of_ble_eq_true rfl) (Nat.le_of_ble_eq_true rfl) (fun l9 D E B A hB => c_Mo_inverted l9 D E B A hB (hP q hq) _) (fun r103 w103 p103 => ?_)
      obtain ⟨rfl, rfl⟩ := p103
      show Z (103 + 3) _ (.inl (nI (piv (s q))) :: []) _
      refine z_istore_n hZ gMo_classify_106 rfl ?_
      refine z_iload_n hZ gMo_classify_107 rfl ?_
      refine z_aload_n hZ gMo_classify_108 rfl ?_
      refine z_get hZ gMo_classify_109 (by omega) rfl rfl ?_
      refine z_iload_n hZ gMo_classify_112 rfl ?_
      refine z_iald hZ gMo_classify_113 (by omega) rfl (vp_in_nI (by omega) (by decide)) ?_
      rw [et, ft]
      refine z_cs hZ gMo_classify_114 rfl rfl (Nat.le_of_ble_eq_true rfl) (Nat.le_of_ble_eq_true rfl) (fun l9 D E B A hB => c_Mo_product l9 D E B A hB (a := piv (s q)) (b := s t) (piv_ok (hP q hq)).1 (hP t ht).1 _) (fun r114 w114 p114 => ?_)
      obtain ⟨rfl, rfl⟩ := p114
      show Z (114 + 3) _ (.inl (nI (pm (piv (s q)) (s t))) :: []) _
      refine z_aload_n hZ gMo_classify_117 rfl ?_
      refine z_get hZ gMo_classify_118 (by omega) rfl rfl ?_
      refine z_iload_n hZ gMo_classify_121 rfl ?_
      refine z_iald hZ gMo_classify_122 (by omega) rfl (vp_in_nI (by omega) (by decide)) ?_
      rw [eq0, fq]
      refine z_cs hZ gMo_classify_123 rfl rfl (Nat.le_of_ble_eq_true rfl) (Nat.le_of_ble_eq_true rfl) (fun l9 D E B A hB => c_Mo_product l9 D E B A hB (a := pm (piv (s q)) (s t)) (b := s q) (pm_lt _ _) (hP q hq).1 _) (fun r123 w123 p123 => ?_)
      obtain ⟨rfl, rfl⟩ := p123
      show Z (123 + 3) _ (.inl (nI (pm (pm (piv (s q)) (s t)) (s q))) :: []) _
      refine z_istore hZ gMo_classify_126 rfl ?_
      refine z_aload_n hZ gMo_classify_128 rfl ?_
      refine z_iload hZ gMo_classify_129 rfl ?_
      refine z_cv hZ gMo_classify_131 rfl rfl (Nat.le_of_ble_eq_true rfl) (Nat.le_of_ble_eq_true rfl) ⟨⟨0, _, _, rfl, by decide, rfl⟩, fun l9 D E B A hB => c_Mo_find l9 D E B A hB (cnt := n) (x := nI (pm (pm (piv (s q)) (s t)) (s q))) hi3 hn⟩ (fun r131 w131 p131 => ?_)
      obtain ⟨h131, rfl⟩ := p131
      obtain ⟨j9, hj9, hj8, hj7, rfl⟩ := elM_fp he2 hs (hxin q hq) h131
      have ej9 : j9 = ix q := by rw [hj7, hixd]
      subst ej9
      show Z (131 + 3) _ (.inl (nI (ix q)) :: []) _
      refine z_istore hZ gMo_classify_134 rfl ?_
      refine z_aload_n hZ gMo_classify_136 rfl ?_
      refine z_get hZ gMo_classify_137 (by omega) rfl rfl ?_
      refine z_aload_n hZ gMo_classify_140 rfl ?_
      refine z_get hZ gMo_classify_141 (by omega) rfl (by rw [hi6]; rfl) ?_
      refine z_dup2 hZ gMo_classify_144 ?_
      refine z_iald hZ gMo_classify_145 (by omega) rfl (vp_in_nI (by omega) (by decide)) ?_
      rw [ec, e4]
      refine z_aload_n hZ gMo_classify_146 rfl ?_
      refine z_get hZ gMo_classify_147 (by omega) rfl rfl ?_
      refine z_iload hZ gMo_classify_150 rfl ?_
      refine z_iald hZ gMo_classify_152 (by omega) rfl (vp_in_nI (by omega) (by decide)) ?_
      rw [ex1, h3]
      refine z_iconst hZ gMo_classify_153 _ im1 ?_
      refine z_cmpne hZ gMo_classify_154 (fun c154 => ?_) (fun c154 => ?_)
      · have ct154 := c154
        have h9 := fin (gaN f6 (nI cnt) ix q) (by rw [show gaN f6 (nI cnt) ix (q + 1) = if ga6 f6 (nI cnt) ix q (ix q) = -1 then gaN f6 (nI cnt) ix q + 1 else gaN f6 (nI cnt) ix q from rfl, if_neg c154])
        refine z_iconst hZ gMo_classify_161 _ (i_s0 (gaN f6 (nI cnt) ix q)).symm ?_
        exact h9
      · have cf154 := c154
        have h9 := fin (gaN f6 (nI cnt) ix q + 1) (by rw [show gaN f6 (nI cnt) ix (q + 1) = if ga6 f6 (nI cnt) ix q (ix q) = -1 then gaN f6 (nI cnt) ix q + 1 else gaN f6 (nI cnt) ix q from rfl, if_pos c154])
        refine z_iconst hZ gMo_classify_157 _ (i_s1 (gaN f6 (nI cnt) ix q)).symm ?_
        refine z_goto hZ gMo_classify_158 ?_
        exact h9
  have outer : ∀ m t cnt (re : Nat → Nat) (a' i' : sA) x2 x3 x4 x5, m + t = n → frA [3, 4, 5] a a' → frM [6] i i' → i' 0 6 = nI cnt → dI s n (a' 3) (a' 4) (a' 5) re cnt t → Z 30 [some (.inr (0, 0)), some (.inl (nI t)), x2, x3, x4, x5] [] (mW a' i') := by
    intro m
    induction m with
    | zero =>
      intro t cnt re a' i' x2 x3 x4 x5 hm hfa hfi hi6 hdI
      have e9 : t = n := by omega
      subst e9
      have hi3 : i' 0 3 = nI t := by rw [hfi 3 (by decide)]; exact hel.1
      refine z_iload_n hZ gMo_classify_30 rfl ?_
      refine z_aload_n hZ gMo_classify_31 rfl ?_
      refine z_get hZ gMo_classify_32 (by omega) rfl (by rw [hi3]; rfl) ?_
      refine z_cmpge hZ gMo_classify_35 (fun c35 => ?_) (fun c35 => absurd (nI_le (Nat.le_refl t) (by omega)) c35)
      refine z_iconst hZ gMo_classify_197 _ rfl ?_
      refine z_iret hZ gMo_classify_198 ?_
      obtain ⟨kl, hC, q1, q2⟩ := dI_end hg hS hdI
      exact ⟨a', i', rfl, hfa, hfi, Or.inl ⟨rfl, cnt, kl, re, hC, hdI.1, hi6, q1, q2⟩⟩
    | succ m ih =>
      intro t cnt re a' i' x2 x3 x4 x5 hm hfa hfi hi6 hdI
      have ht : t < n := by omega
      have et : (nI t).toNatClampNeg = t := nI_clamp (by omega)
      have hi3 : i' 0 3 = nI n := by rw [hfi 3 (by decide)]; exact hel.1
      have hc16 := hdI.1
      have ft := (hel' a' i' hfa hfi).2.1 t ht
      refine z_iload_n hZ gMo_classify_30 rfl ?_
      refine z_aload_n hZ gMo_classify_31 rfl ?_
      refine z_get hZ gMo_classify_32 (by omega) rfl (by rw [hi3]; rfl) ?_
      refine z_cmpge hZ gMo_classify_35 (fun c35 => absurd c35 (nI_ge (by omega) (by omega))) (fun c35 => ?_)
      refine z_aload_n hZ gMo_classify_38 rfl ?_
      refine z_get hZ gMo_classify_39 (by omega) rfl rfl ?_
      refine z_iload_n hZ gMo_classify_42 rfl ?_
      refine z_iald hZ gMo_classify_43 (by omega) rfl (vp_in_nI (by omega) (by decide)) ?_
      rw [et]
      refine z_iconst hZ gMo_classify_44 _ im1 ?_
      refine z_cmpeq hZ gMo_classify_45 (fun c45 => ?_) (fun c45 => ?_)
      · have ct45 := c45
        refine z_aload_n hZ gMo_classify_51 rfl ?_
        refine z_get hZ gMo_classify_52 (by omega) rfl (by rw [hi6]; rfl) ?_
        refine z_bipush hZ gMo_classify_55 _ i16 ?_
        refine z_cmpne hZ gMo_classify_57 (fun c57 => ?_) (fun c57 => ?_)
        · have ct57 := c57
          have hc : cnt < 16 := by
            by_cases e9 : cnt = 16
            · subst e9; exact absurd rfl c57
            · omega
          have ec : (nI cnt).toNatClampNeg = cnt := nI_clamp (by omega)
          refine z_aload_n hZ gMo_classify_62 rfl ?_
          refine z_get hZ gMo_classify_63 (by omega) rfl rfl ?_
          refine z_aload_n hZ gMo_classify_66 rfl ?_
          refine z_get hZ gMo_classify_67 (by omega) rfl (by rw [hi6]; rfl) ?_
          refine z_aload_n hZ gMo_classify_70 rfl ?_
          refine z_get hZ gMo_classify_71 (by omega) rfl rfl ?_
          refine z_iload_n hZ gMo_classify_74 rfl ?_
          refine z_iald hZ gMo_classify_75 (by omega) rfl (vp_in_nI (by omega) (by decide)) ?_
          rw [et, ft]
          refine z_iastW hZ gMo_classify_76 (by omega) rfl (vp_in_nI (by omega) (by decide)) mW_a5 ?_
          rw [ec]
          refine z_aload_n hZ gMo_classify_77 rfl ?_
          refine z_get hZ gMo_classify_78 (by omega) rfl rfl ?_
          refine z_aload_n hZ gMo_classify_81 rfl ?_
          refine z_get hZ gMo_classify_82 (by omega) rfl (by rw [hi6]; rfl) ?_
          refine z_iconst hZ gMo_classify_85 _ i0 ?_
          refine z_iastW hZ gMo_classify_86 (by omega) rfl (vp_in_nI (by omega) (by decide)) mW_a4 ?_
          rw [ec]
          refine z_iconst hZ gMo_classify_87 _ i0 ?_
          refine z_istore_n hZ gMo_classify_88 rfl ?_
          refine inner t cnt (a' 3) (a' 4) (a' 5) re i' ht hc ct45 hdI hfi hi6 ?_ n 0 _ _ _ _ (by omega) (frA_up (frA_up hfa (by decide)) (by decide)) ?_ ?_ ?_
          rotate_left
          · rw [va_up_ne _ _ (by decide), va_up_ne _ _ (by decide)]; rfl
          · rw [va_up_self, va_up_ne _ _ (by decide)]; rfl
          · rw [va_up_ne _ _ (by decide), va_up_self]
          intro a2 y2 y3 y4 y5 hfa2 h3 h4 h5
          have hnew := dI_new (ix := fun k => ixf s n (pm (pm (piv (s k)) (s t)) (s k))) hG hs hdI hc ht ct45 (fun k hk => by
            obtain ⟨j, hj, he⟩ := Gl_mem.mp (gg_m hG (gg_m hG (gg_i hG (Gl_mem.mpr ⟨k, hk, rfl⟩)) (Gl_mem.mpr ⟨t, ht, rfl⟩)) (Gl_mem.mpr ⟨k, hk, rfl⟩) : pm (pm (piv (s k)) (s t)) (s k) ∈ Gl s n)
            show ixf s n _ < n ∧ s (ixf s n _) = _
            rw [← he, ixf_ok hs hj]
            exact ⟨hj, rfl⟩)
          rw [← h3, ← h4, ← h5] at hnew
          refine z_aload_n hZ gMo_classify_181 rfl ?_
          refine z_dup hZ gMo_classify_182 ?_
          refine z_get hZ gMo_classify_183 (by omega) rfl (by rw [hi6]; rfl) ?_
          refine z_iconst hZ gMo_classify_186 _ rfl ?_
          refine z_iadd hZ gMo_classify_187 _ (i1 cnt) ?_
          refine z_putW hZ gMo_classify_188 (by omega) rfl (Or.inl (by decide)) (Nat.le_of_ble_eq_true rfl) mW_i0_6 ?_
          refine z_iinc hZ gMo_classify_191 rfl _ (i1 t) rfl ?_
          refine z_goto hZ gMo_classify_194 ?_
          exact ih (t + 1) (cnt + 1) _ a2 _ _ _ _ _ (by omega) hfa2 (frM_up hfi (by decide)) (by rw [va_up_self, va_up_self]) hnew
        · have cf57 := c57
          have e16 : cnt = 16 := (nI_eq (by omega) (by decide)).mp c57
          subst e16
          refine z_iconst hZ gMo_classify_60 _ rfl ?_
          refine z_iret hZ gMo_classify_61 ?_
          exact ⟨a', i', rfl, hfa, hfi, Or.inr ⟨rfl, dI_many hG hdI ht ct45⟩⟩
      · have cf45 := c45
        refine z_goto hZ gMo_classify_48 ?_
        refine z_iinc hZ gMo_classify_191 rfl _ (i1 t) rfl ?_
        refine z_goto hZ gMo_classify_194 ?_
        exact ih (t + 1) cnt re a' i' _ _ _ _ (by omega) hfa hfi hi6 (dI_skip hdI cf45)
  have clean : ∀ m t (a' i' : sA) x2 x3 x4 x5, m + t = n → frA [3, 4, 5] a a' → frM [6] i i' → i' 0 6 = nI 0 → (∀ j, j < t → a' 3 j = -1) → Z 7 [some (.inr (0, 0)), some (.inl (nI t)), x2, x3, x4, x5] [] (mW a' i') := by
    intro m
    induction m with
    | zero =>
      intro t a' i' x2 x3 x4 x5 hm hfa hfi hi6 hcl
      have e9 : t = n := by omega
      subst e9
      have hi3 : i' 0 3 = nI t := by rw [hfi 3 (by decide)]; exact hel.1
      refine z_iload_n hZ gMo_classify_7 rfl ?_
      refine z_aload_n hZ gMo_classify_8 rfl ?_
      refine z_get hZ gMo_classify_9 (by omega) rfl (by rw [hi3]; rfl) ?_
      refine z_cmpge hZ gMo_classify_12 (fun c12 => ?_) (fun c12 => absurd (nI_le (Nat.le_refl t) (by omega)) c12)
      refine z_iconst hZ gMo_classify_28 _ i0 ?_
      refine z_istore_n hZ gMo_classify_29 rfl ?_
      refine outer t 0 0 (fun _ => 0) a' i' _ _ _ _ (by omega) hfa hfi hi6 ⟨by decide, fun j hj => Or.inl (hcl j hj), fun j l _ hl => absurd hl (Nat.not_lt_zero l), fun j hj => absurd hj (Nat.not_lt_zero j), fun l hl => absurd hl (Nat.not_lt_zero l), fun l l' _ hl => absurd hl (Nat.not_lt_zero l'), fun j l _ hl => absurd hl (Nat.not_lt_zero l), fun l hl => absurd hl (Nat.not_lt_zero l)⟩
    | succ m ih =>
      intro t a' i' x2 x3 x4 x5 hm hfa hfi hi6 hcl
      have et : (nI t).toNatClampNeg = t := nI_clamp (by omega)
      have hi3 : i' 0 3 = nI n := by rw [hfi 3 (by decide)]; exact hel.1
      refine z_iload_n hZ gMo_classify_7 rfl ?_
      refine z_aload_n hZ gMo_classify_8 rfl ?_
      refine z_get hZ gMo_classify_9 (by omega) rfl (by rw [hi3]; rfl) ?_
      refine z_cmpge hZ gMo_classify_12 (fun c12 => absurd c12 (nI_ge (by omega) (by omega))) (fun c12 => ?_)
      refine z_aload_n hZ gMo_classify_15 rfl ?_
      refine z_get hZ gMo_classify_16 (by omega) rfl rfl ?_
      refine z_iload_n hZ gMo_classify_19 rfl ?_
      refine z_iconst hZ gMo_classify_20 _ im1 ?_
      refine z_iastW hZ gMo_classify_21 (by omega) rfl (vp_in_nI (by omega) (by decide)) mW_a3 ?_
      rw [et]
      refine z_iinc hZ gMo_classify_22 rfl _ (i1 t) rfl ?_
      refine z_goto hZ gMo_classify_25 ?_
      refine ih (t + 1) _ i' _ _ _ _ (by omega) (frA_up hfa (by decide)) hfi hi6 (fun j hj => ?_)
      rw [va_up_self]
      by_cases e9 : j = t
      · subst e9; rw [pk_us]
      · rw [pk_un e9]; exact hcl j (by omega)
  refine z_aload_n hZ gMo_classify_0 rfl ?_
  refine z_iconst hZ gMo_classify_1 _ i0 ?_
  refine z_putW hZ gMo_classify_2 (by omega) rfl (Or.inl (by decide)) (Nat.le_of_ble_eq_true rfl) mW_i0_6 ?_
  refine z_iconst hZ gMo_classify_5 _ i0 ?_
  refine z_istore_n hZ gMo_classify_6 rfl ?_
  exact clean n 0 a _ _ _ _ _ (by omega) (fun _ _ => rfl) (frM_up (fun _ _ => rfl) (by decide)) (by rw [va_up_self, va_up_self]) (fun j hj => absurd hj (Nat.not_lt_zero j))

