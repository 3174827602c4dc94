def dI (s : Nat → Nat) (n : Nat) (f6 f7 f8 : Nat → Int32) (re : Nat → Nat) (cnt t : Nat) : Prop :=
  cnt ≤ 16 ∧ (∀ j, j < n → f6 j = -1 ∨ ∃ l, l < cnt ∧ f6 j = nI l) ∧ (∀ j l, j < n → l < cnt → (f6 j = nI l ↔ cnj s n (re l) (s j))) ∧ (∀ j, j < t → f6 j ≠ -1) ∧ (∀ l, l < cnt → ∃ j, j < t ∧ s j = re l) ∧ (∀ l l', l < l' → l' < cnt → re l < re l') ∧ (∀ j l, j < n → l < cnt → f6 j = nI l → re l ≤ s j) ∧ (∀ l, l < cnt → f8 l = nI (re l) ∧ f7 l = nI ((List.range n).countP (fun j => decide (f6 j = nI l))))
def cMany (s : Nat → Nat) (n : Nat) : Prop := ∃ es : List Nat, es.length = 17 ∧ (∀ x, x ∈ es → x ∈ Gl s n) ∧ es.Pairwise (fun x y => ¬ cnj s n x y)
theorem dI_many {s : Nat → Nat} {n : Nat} {f6 f7 f8 : Nat → Int32} {re : Nat → Nat} {t : Nat} (hG : gg_ok (Gl s n) pm pid piv) (h : dI s n f6 f7 f8 re 16 t) (ht : t < n) (hf : f6 t = -1) : cMany s n := by
  obtain ⟨-, hA, hB, hC, hD, hE, -, -⟩ := h
  have hre : ∀ l, l < 16 → re l ∈ Gl s n := fun l hl => by
    obtain ⟨j, hj, e⟩ := hD l hl
    exact Gl_mem.mpr ⟨j, by omega, e⟩
  have hst : s t ∈ Gl s n := Gl_mem.mpr ⟨t, ht, rfl⟩
  refine ⟨s t :: (List.range 16).map re, by simp, fun x hx => ?_, List.pairwise_cons.mpr ⟨fun x hx hc => ?_, ?_⟩⟩
  · rcases List.mem_cons.mp hx with rfl | hx
    · exact hst
    · obtain ⟨l, hl, rfl⟩ := List.mem_map.mp hx
      exact hre l (List.mem_range.mp hl)
  · obtain ⟨l, hl, rfl⟩ := List.mem_map.mp hx
    have hl' := List.mem_range.mp hl
    have h1 := (hB t l ht hl').mpr (cnj_symm hG hst (hre l hl') hc)
    rw [hf] at h1
    exact nI_m1 (by omega) h1.symm
  · refine List.pairwise_map.mpr (List.Pairwise.imp_of_mem (fun {u v} hu hv huv hc => ?_) List.pairwise_lt_range)
    have hu' := List.mem_range.mp hu
    have hv' := List.mem_range.mp hv
    obtain ⟨j, hj, e⟩ := hD v hv'
    have h1 := (hB j u (by omega) hu').mpr (by rw [e]; exact hc)
    have h2 := (hB j v (by omega) hv').mpr (by rw [e]; exact cnj_rfl hG (hre v hv'))
    have h3 := (nI_eq (by omega) (by omega)).mp (h1.symm.trans h2)
    omega
theorem dI_skip {s : Nat → Nat} {n : Nat} {f6 f7 f8 : Nat → Int32} {re : Nat → Nat} {cnt t : Nat} (h : dI s n f6 f7 f8 re cnt t) (hf : f6 t ≠ -1) : dI s n f6 f7 f8 re cnt (t + 1) := by
  obtain ⟨h0, hA, hB, hC, hD, hE, hF, hH⟩ := h
  refine ⟨h0, hA, hB, fun j hj => ?_, fun l hl => ?_, hE, hF, hH⟩
  · by_cases e : j = t
    · subst e; exact hf
    · exact hC j (by omega)
  · obtain ⟨j, hj, e⟩ := hD l hl
    exact ⟨j, by omega, e⟩
theorem dI_new {s : Nat → Nat} {n : Nat} {f6 f7 f8 : Nat → Int32} {re ix : Nat → Nat} {cnt t : Nat} (hG : gg_ok (Gl s n) pm pid piv) (hs : ∀ j k, j < k → k < n → s j < s k) (h : dI s n f6 f7 f8 re cnt t) (hc : cnt < 16) (ht : t < n) (hf : f6 t = -1) (hix : ∀ k, k < n → ix k < n ∧ s (ix k) = pm (pm (piv (s k)) (s t)) (s k)) : dI s n (ga6 f6 (nI cnt) ix n) (upd f7 cnt (nI (gaN f6 (nI cnt) ix n))) (upd f8 cnt (nI (s t))) (va_up re cnt (s t)) (cnt + 1) (t + 1) := by
  obtain ⟨h0, hA, hB, hC, hD, hE, hF, hH⟩ := h
  have hv : nI cnt ≠ -1 := nI_m1 (by omega)
  have hm : ∀ j, j < n → s j ∈ Gl s n := fun j hj => Gl_mem.mpr ⟨j, hj, rfl⟩
  have hre : ∀ l, l < cnt → re l ∈ Gl s n := fun l hl => by
    obtain ⟨j, hj, e⟩ := hD l hl
    exact Gl_mem.mpr ⟨j, by omega, e⟩
  have hq : ∀ j, j < n → ((∃ q, q < n ∧ ix q = j) ↔ cnj s n (s t) (s j)) := fun j hj => by
    rw [cnj_by hG (hm j hj) (hm t ht)]
    constructor
    · rintro ⟨q, hq, e⟩; exact ⟨q, hq, by rw [← (hix q hq).2, e]⟩
    · rintro ⟨q, hq, e⟩; exact ⟨q, hq, up_inj hs (hix q hq).1 hj (by rw [(hix q hq).2, e])⟩
  have hcf : ∀ j, j < n → cnj s n (s t) (s j) → f6 j = -1 := fun j hj hc9 => by
    rcases hA j hj with e | ⟨l, hl, e⟩
    · exact e
    · have h1 := (hB j l hj hl).mp e
      have h2 := (hB t l ht hl).mpr (cnj_trans hG h1 (cnj_symm hG (hm t ht) (hm j hj) hc9))
      rw [hf] at h2
      exact absurd h2.symm (nI_m1 (by omega))
  have hn1 : ∀ j, j < n → cnj s n (s t) (s j) → ga6 f6 (nI cnt) ix n j = nI cnt := fun j hj hc9 => (ga6_eq hv j n).1 ((hq j hj).mpr hc9) (hcf j hj hc9)
  have hn2 : ∀ j, j < n → ¬ cnj s n (s t) (s j) → ga6 f6 (nI cnt) ix n j = f6 j := fun j hj hc9 => (ga6_eq hv j n).2.1 fun h9 => hc9 ((hq j hj).mp h9)
  have hold : ∀ j l, j < n → l < cnt → (ga6 f6 (nI cnt) ix n j = nI l ↔ f6 j = nI l) := fun j l hj hl => by
    by_cases hc9 : cnj s n (s t) (s j)
    · rw [hn1 j hj hc9, hcf j hj hc9]
      constructor
      · intro e; have := (nI_eq (by omega) (by omega)).mp e; omega
      · intro e; exact absurd e.symm (nI_m1 (by omega))
    · rw [hn2 j hj hc9]
  have hnew : ∀ j, j < n → (ga6 f6 (nI cnt) ix n j = nI cnt ↔ cnj s n (s t) (s j)) := fun j hj => by
    constructor
    · intro e
      refine Classical.byContradiction fun hc9 => ?_
      rw [hn2 j hj hc9] at e
      rcases hA j hj with e2 | ⟨l, hl, e2⟩
      · rw [e2] at e; exact nI_m1 (by omega) e.symm
      · rw [e2] at e; have := (nI_eq (by omega) (by omega)).mp e; omega
    · exact hn1 j hj
  refine ⟨by omega, fun j hj => ?_, fun j l hj hl => ?_, fun j hj => ?_, fun l hl => ?_, fun l l' h1 h2 => ?_, fun j l hj hl e => ?_, fun l hl => ?_⟩
  · by_cases hc9 : cnj s n (s t) (s j)
    · right; exact ⟨cnt, by omega, hn1 j hj hc9⟩
    · rw [hn2 j hj hc9]
      rcases hA j hj with e | ⟨l, hl, e⟩
      · left; exact e
      · right; exact ⟨l, by omega, e⟩
  · by_cases e : l = cnt
    · subst e; rw [va_up_self]; exact hnew j hj
    · rw [va_up_ne _ _ e, hold j l hj (by omega)]; exact hB j l hj (by omega)
  · by_cases e : j = t
    · subst e; rw [hn1 j ht (cnj_rfl hG (hm j ht))]; exact hv
    · have h9 := hC j (by omega)
      rw [(ga6_eq hv j n).2.2 h9]; exact h9
  · by_cases e : l = cnt
    · subst e; rw [va_up_self]; exact ⟨t, by omega, rfl⟩
    · rw [va_up_ne _ _ e]
      obtain ⟨j, hj, e2⟩ := hD l (by omega)
      exact ⟨j, by omega, e2⟩
  · by_cases e : l' = cnt
    · subst e
      rw [va_up_self, va_up_ne _ _ (by omega)]
      obtain ⟨j, hj, e2⟩ := hD l (by omega)
      rw [← e2]; exact hs j t hj ht
    · rw [va_up_ne _ _ e, va_up_ne _ _ (by omega)]; exact hE l l' h1 (by omega)
  · by_cases e1 : l = cnt
    · subst e1
      rw [va_up_self]
      have hc9 := (hnew j hj).mp e
      refine Nat.not_lt.mp fun h9 => ?_
      have hjt : j < t := by
        refine Nat.not_le.mp fun h10 => ?_
        by_cases e2 : t = j
        · subst e2; omega
        · have := hs t j (by omega) hj; omega
      exact hC j hjt (hcf j hj hc9)
    · rw [va_up_ne _ _ e1]
      exact hF j l hj (by omega) ((hold j l hj (by omega)).mp e)
  · by_cases e1 : l = cnt
    · subst e1
      rw [pk_us, pk_us, va_up_self]
      refine ⟨rfl, ?_⟩
      rw [gaN_eq hv (n := n) n (fun q hq => (hix q hq).1)]
      congr 1
      refine List.countP_congr fun j hj => ?_
      have hj' := List.mem_range.mp hj
      by_cases hc9 : cnj s n (s t) (s j)
      · rw [hn1 j hj' hc9, hcf j hj' hc9]; simp [hv]
      · have h9 : ¬ ga6 f6 (nI l) ix n j = nI l := fun h10 => hc9 ((hnew j hj').mp h10)
        rw [hn2 j hj' hc9] at h9 ⊢
        simp [h9]
    · rw [pk_un e1, pk_un e1, va_up_ne _ _ e1]
      obtain ⟨h1, h2⟩ := hH l (by omega)
      refine ⟨h1, ?_⟩
      rw [h2]
      congr 1
      refine List.countP_congr fun j hj => ?_
      have := hold j l (List.mem_range.mp hj) (by omega)
      simp [this]
-- at the end
def ixf (s : Nat → Nat) (n x : Nat) : Nat := ((List.range n).find? (fun j => s j == x)).getD 0
theorem ixf_ok {s : Nat → Nat} {n j : Nat} (hs : ∀ j k, j < k → k < n → s j < s k) (hj : j < n) : ixf s n (s j) = j := by
  unfold ixf
  cases hf : (List.range n).find? (fun i => s i == s j) with
  | none =>
    have := List.find?_eq_none.mp hf j (List.mem_range.mpr hj)
    simp at this
  | some q =>
    have h1 := List.find?_some hf
    have h2 := List.mem_range.mp (List.mem_of_find?_eq_some hf)
    have h3 : s q = s j := by simpa using h1
    exact up_inj hs h2 hj h3
theorem dI_end {gen : Nat → Nat} {gc : Nat} (hg : ∀ k, k < gc → isP (gen k)) {s : Nat → Nat} {n : Nat} {f6 f7 f8 : Nat → Int32} {re : Nat → Nat} {cnt : Nat} (hS : elS gen gc s n) (h : dI s n f6 f7 f8 re cnt n) : ∃ kl : Nat → Nat, clS s n cnt kl re ∧ (∀ j, j < n → f6 j = nI (kl (s j))) ∧ (∀ l, l < cnt → f8 l = nI (re l) ∧ f7 l = nI (kc_s (Gl s n) kl l)) := by
  have hG := elS_gg hg hS
  obtain ⟨h0, hA, hB, hC, hD, hE, hF, hH⟩ := h
  have hs := hS.2.2.1
  have hm : ∀ j, j < n → s j ∈ Gl s n := fun j hj => Gl_mem.mpr ⟨j, hj, rfl⟩
  have hkl : ∀ j, j < n → ∃ l, l < cnt ∧ f6 j = nI l ∧ (f6 (ixf s n (s j))).toNatClampNeg = l := fun j hj => by
    rcases hA j hj with e | ⟨l, hl, e⟩
    · exact absurd e (hC j hj)
    · exact ⟨l, hl, e, by rw [ixf_ok hs hj, e, nI_clamp (by omega)]⟩
  have hf : ∀ j, j < n → f6 j = nI ((f6 (ixf s n (s j))).toNatClampNeg) := fun j hj => by
    obtain ⟨l, hl, e, e2⟩ := hkl j hj
    rw [e2]; exact e
  have hre : ∀ l, l < cnt → re l ∈ Gl s n ∧ (f6 (ixf s n (re l))).toNatClampNeg = l := fun l hl => by
    obtain ⟨j, hj, e⟩ := hD l hl
    obtain ⟨l', hl', e1, e2⟩ := hkl j hj
    have h1 := (hB j l hj hl).mpr (by rw [e]; exact cnj_rfl hG (Gl_mem.mpr ⟨j, hj, e⟩))
    have h2 := (nI_eq (by omega) (by omega)).mp (e1.symm.trans h1)
    exact ⟨Gl_mem.mpr ⟨j, hj, e⟩, by rw [← e, e2, h2]⟩
  refine ⟨fun x => (f6 (ixf s n x)).toNatClampNeg, ⟨⟨hG, fun x hx => ?_, hre, fun x hx y hy => ?_, ?_, ?_⟩, fun x hx => ?_, hE⟩, hf, fun l hl => ⟨(hH l hl).1, ?_⟩⟩
  · obtain ⟨j, hj, rfl⟩ := Gl_mem.mp hx
    obtain ⟨l, hl, e, e2⟩ := hkl j hj
    show (f6 (ixf s n (s j))).toNatClampNeg < cnt
    rw [e2]; exact hl
  · obtain ⟨j, hj, rfl⟩ := Gl_mem.mp hx
    obtain ⟨k, hk, rfl⟩ := Gl_mem.mp hy
    obtain ⟨l, hl, e, e2⟩ := hkl j hj
    obtain ⟨l', hl', e', e2'⟩ := hkl k hk
    show (f6 (ixf s n (s j))).toNatClampNeg = (f6 (ixf s n (s k))).toNatClampNeg ↔ cnj s n (s j) (s k)
    rw [e2, e2']
    have h1 := (hB j l hj hl).mp e
    have h2 := (hB k l' hk hl').mp e'
    constructor
    · rintro rfl
      exact cnj_trans hG (cnj_symm hG (hre l hl).1 (hm j hj) h1) h2
    · intro h3
      have h4 := (hB k l hk hl).mpr (cnj_trans hG h1 h3)
      exact (nI_eq (by omega) (by omega)).mp (h4.symm.trans e')
  · -- the identity is the first element
    obtain ⟨j, hj, ej⟩ := Gl_mem.mp (gg_1 hG)
    have hj0 : j = 0 := by
      refine Nat.eq_zero_of_not_pos fun h9 => ?_
      have h1 := hs 0 j h9 hj
      have h2 := pid_le (elS_P hg hS (hm 0 (by omega)))
      omega
    subst hj0
    obtain ⟨l, hl, e, e2⟩ := hkl 0 hj
    show (f6 (ixf s n pid)).toNatClampNeg = 0
    rw [← ej, e2]
    refine Nat.eq_zero_of_not_pos fun h9 => ?_
    have h1 := hE 0 l h9 hl
    have h2 := hF 0 l hj hl e
    obtain ⟨q, hq, eq⟩ := hD 0 (by omega)
    have h3 : s 0 ≤ s q := by
      by_cases e3 : q = 0
      · rw [e3]; exact Nat.le_refl _
      · exact Nat.le_of_lt (hs 0 q (by omega) hq)
    omega
  · obtain ⟨l, hl, _⟩ := hkl 0 hS.1
    omega
  · obtain ⟨j, hj, rfl⟩ := Gl_mem.mp hx
    obtain ⟨l, hl, e, e2⟩ := hkl j hj
    show re (f6 (ixf s n (s j))).toNatClampNeg ≤ s j
    rw [e2]; exact hF j l hj hl e
  · rw [(hH l hl).2]
    congr 1
    unfold kc_s Gl
    rw [List.countP_map]
    refine List.countP_congr fun j hj => ?_
    have hj' := List.mem_range.mp hj
    obtain ⟨l', hl', e, e2⟩ := hkl j hj'
    show decide (f6 j = nI l) = true ↔ decide ((f6 (ixf s n (s j))).toNatClampNeg = l) = true
    rw [e2, e, decide_eq_true_iff, decide_eq_true_iff]
    exact nI_eq (by omega) (by omega)
abbrev dW (a : sA) (g : sG) (i : sA) (f6 f7 f8 : Nat → Int32) (cnt : Nat) : sx_M := gaW a g (va_up i 5 (va_up (i 5) 0 (nI cnt))) f6 f7 f8
theorem dW_ga (a : sA) (g : sG) (i : sA) (f6 f7 f8 h6 h7 h8 : Nat → Int32) (cnt c2 : Nat) : gaW (va_up (va_up (va_up a 8 f8) 7 f7) 6 f6) g (va_up (va_up i 5 (va_up (i 5) 0 (nI cnt))) 5 (va_up ((va_up i 5 (va_up (i 5) 0 (nI cnt))) 5) 0 (nI c2))) h6 h7 h8 = dW a g i h6 h7 h8 c2 := by
  show cW _ _ _ = cW _ _ _
  congr 1
  · funext n
    by_cases e6 : n = 6
    · subst e6; rw [va_up_self, va_up_self]
    · rw [va_up_ne _ _ e6, va_up_ne _ _ e6]
      by_cases e7 : n = 7
      · subst e7; rw [va_up_self, va_up_self]
      · rw [va_up_ne _ _ e7, va_up_ne _ _ e7]
        by_cases e8 : n = 8
        · subst e8; rw [va_up_self, va_up_self]
        · rw [va_up_ne _ _ e8, va_up_ne _ _ e6, va_up_ne _ _ e7, va_up_ne _ _ e8, va_up_ne _ _ e8]
  · rw [va_up_self, va_uu, va_uu]

set_option maxHeartbeats 4000000 in
set_option maxRecDepth 100000 in
theorem c_Co_divide (l : Launch) (D : va_G) (E : sx_E) (B : Nat) (A : Nat → Prop) (hB : 29 ≤ B) {a : sA} {g : sG} {i : sA} {gen : Nat → Nat} {gc : Nat} (hg : ∀ k, k < gc → isP (gen k)) {s : Nat → Nat} {n : Nat} (hS : elS gen gc s n) (hel : elH a i s n) : sM l D E B A yCo_divide prog_4_method_2_code 3 (some .boolean) 3 71 [.inr (5, 0), .inr (2, 0)] (cW a g i) (fun r w' => ∃ (f6 f7 f8 : Nat → Int32) (cnt : Nat), w' = dW a g i f6 f7 f8 cnt ∧ ((r = some (.inl 1) ∧ ∃ kl re : Nat → Nat, clS s n cnt kl re ∧ cnt ≤ 16 ∧ (∀ j, j < n → f6 j = nI (kl (s j))) ∧ (∀ l, l < cnt → f8 l = nI (re l) ∧ f7 l = nI (kc_s (Gl s n) kl l))) ∨ (r = some (.inl 0) ∧ cMany s n))) := by
  refine sx_m0 (ls := lCo_divide) (cs := csAll) (by decide +kernel) kCo_divide (hCo_divide l D E B A hB) (by simp) ⟨fun w' h => (by obtain ⟨_, _, _, _, _, ⟨h, _⟩ | ⟨h, _⟩⟩ := h <;> cases h), fun y w' h => (by obtain ⟨_, _, _, _, _, ⟨h, _⟩ | ⟨h, _⟩⟩ := h <;> cases h <;> decide)⟩ ?_
  intro Z hZ
  have hn := hel.2.1
  have hG := elS_gg hg hS
  have hP : ∀ j, j < n → isP (s j) := fun j hj => elS_P hg hS (Gl_mem.mpr ⟨j, hj, rfl⟩)
  have hs := hS.2.2.1
  have e3 : ∀ f6 f7 f8 : Nat → Int32, (va_up (va_up (va_up a 8 f8) 7 f7) 6 f6) 3 = a 3 := fun f6 f7 f8 => by rw [va_up_ne _ _ (by decide), va_up_ne _ _ (by decide), va_up_ne _ _ (by decide)]
  have e22 : ∀ c : Nat, (va_up i 5 (va_up (i 5) 0 (nI c))) 2 2 = i 2 2 := fun c => by rw [va_up_ne _ _ (by decide)]
  have hel2 : ∀ (f6 f7 f8 : Nat → Int32) (c : Nat), elH (va_up (va_up (va_up a 8 f8) 7 f7) 6 f6) (va_up i 5 (va_up (i 5) 0 (nI c))) s n := fun f6 f7 f8 c => by
    unfold elH; rw [e3, e22]; exact hel
  have loop : ∀ d t f6 f7 f8 re cnt, d + t = n → dI s n f6 f7 f8 re cnt t → Z 15 [some (.inr (5, 0)), some (.inr (2, 0)), some (.inl (nI t))] [] (dW a g i f6 f7 f8 cnt) := by
    intro d
    induction d with
    | zero =>
      intro t f6 f7 f8 re cnt hd hI
      have e : t = n := by omega
      subst e
      refine z_iload_n hZ gCo_divide_15 rfl ?_
      refine z_aload_n hZ gCo_divide_16 rfl ?_
      refine z_get hZ gCo_divide_17 (by omega) rfl (by rw [e22, hel.1]; rfl) ?_
      refine z_cmpge hZ gCo_divide_20 (fun c20 => ?_) (fun c20 => absurd (nI_le (Nat.le_refl t) (by omega)) c20)
      refine z_iconst hZ gCo_divide_61 _ rfl ?_
      refine z_iret hZ gCo_divide_62 ?_
      obtain ⟨kl, h1, h2, h3⟩ := dI_end hg hS hI
      exact ⟨f6, f7, f8, cnt, rfl, Or.inl ⟨rfl, kl, re, h1, hI.1, h2, h3⟩⟩
    | succ d ih =>
      intro t f6 f7 f8 re cnt hd hI
      have ht : t < n := by omega
      have h16 := hI.1
      have et : (nI t).toNatClampNeg = t := nI_clamp (by omega)
      have hcj : ∀ k, ∃ j, k < n → j < n ∧ s j = pm (pm (piv (s k)) (s t)) (s k) := fun k => by
        by_cases hk : k < n
        · have hk' : s k ∈ Gl s n := Gl_mem.mpr ⟨k, hk, rfl⟩
          obtain ⟨j, hj, e⟩ := Gl_mem.mp (gg_m hG (gg_m hG (gg_i hG hk') (Gl_mem.mpr ⟨t, ht, rfl⟩)) hk')
          exact ⟨j, fun _ => ⟨hj, e⟩⟩
        · exact ⟨0, fun h => absurd h hk⟩
      have hix : ∃ ix : Nat → Nat, ∀ k, k < n → ix k < n ∧ s (ix k) = pm (pm (piv (s k)) (s t)) (s k) := ⟨fun k => Classical.choose (hcj k), fun k => Classical.choose_spec (hcj k)⟩
      obtain ⟨ix, hix⟩ := hix
      refine z_iload_n hZ gCo_divide_15 rfl ?_
      refine z_aload_n hZ gCo_divide_16 rfl ?_
      refine z_get hZ gCo_divide_17 (by omega) rfl (by rw [e22, hel.1]; rfl) ?_
      refine z_cmpge hZ gCo_divide_20 (fun c20 => absurd c20 (nI_ge (by omega) (by omega))) (fun c20 => ?_)
      refine z_aload_n hZ gCo_divide_23 rfl ?_
      refine z_get hZ gCo_divide_24 (by omega) rfl rfl ?_
      refine z_iload_n hZ gCo_divide_27 rfl ?_
      refine z_iald hZ gCo_divide_28 (by omega) rfl (vp_in_nI (by omega) (by decide)) ?_
      rw [et, va_up_self]
      refine z_iconst hZ gCo_divide_29 _ im1 ?_
      refine z_cmpne hZ gCo_divide_30 (fun c30 => ?_) (fun c30 => ?_)
      · have ct30 := c30
        refine z_iinc hZ gCo_divide_55 rfl _ (i1 t) rfl ?_
        refine z_goto hZ gCo_divide_58 ?_
        first | exact ih (t + 1) f6 f7 f8 re cnt (by omega) (dI_skip hI ct30) | exact ih (t + 1) _ _ _ _ _ (by omega) (dI_new hG hs hI hlt ht cf30 hix)
      · have cf30 := c30
        refine z_aload_n hZ gCo_divide_33 rfl ?_
        refine z_get hZ gCo_divide_34 (by omega) rfl (by rw [va_up_self, va_up_self]; rfl) ?_
        refine z_bipush hZ gCo_divide_37 _ i16 ?_
        refine z_cmplt hZ gCo_divide_39 (fun c39 => ?_) (fun c39 => ?_)
        · have ct39 := c39
          have hlt : cnt < 16 := (nI_ltI (by omega) (by decide)).mp ct39
          refine z_aload_n hZ gCo_divide_44 rfl ?_
          refine z_aload_n hZ gCo_divide_45 rfl ?_
          refine z_get hZ gCo_divide_46 (by omega) rfl rfl ?_
          refine z_iload_n hZ gCo_divide_49 rfl ?_
          refine z_iald hZ gCo_divide_50 (by omega) rfl (vp_in_nI (by omega) (by decide)) ?_
          rw [et, e3, hel.2.2.1 t ht]
          refine z_aload_n hZ gCo_divide_51 rfl ?_
          refine z_cv hZ gCo_divide_52 rfl rfl (Nat.le_of_ble_eq_true rfl) (Nat.le_of_ble_eq_true rfl) ⟨⟨5, _, _, rfl, by decide, rfl⟩, fun l D E B A hB => c_Co_gather l D E B A hB (hel2 f6 f7 f8 cnt) (by rw [va_up_self, va_up_self]) hlt hP (hP t ht) hix⟩ (fun r52 w52 p52 => ?_)
          obtain ⟨rfl, rfl⟩ := p52
          show Z (52 + 3) _ [] _
          have e6 : (va_up (va_up (va_up a 8 f8) 7 f7) 6 f6) 6 = f6 := va_up_self _ _ _
          have e7 : (va_up (va_up (va_up a 8 f8) 7 f7) 6 f6) 7 = f7 := by rw [va_up_ne _ _ (by decide), va_up_self]
          have e8 : (va_up (va_up (va_up a 8 f8) 7 f7) 6 f6) 8 = f8 := by rw [va_up_ne _ _ (by decide), va_up_ne _ _ (by decide), va_up_self]
          rw [e6, e7, e8, dW_ga]
          refine z_iinc hZ gCo_divide_55 rfl _ (i1 t) rfl ?_
          refine z_goto hZ gCo_divide_58 ?_
          first | exact ih (t + 1) f6 f7 f8 re cnt (by omega) (dI_skip hI ct30) | exact ih (t + 1) _ _ _ _ _ (by omega) (dI_new hG hs hI hlt ht cf30 hix)
        · have cf39 := c39
          have hge : cnt = 16 := by
            have : ¬ cnt < 16 := fun h9 => cf39 ((nI_ltI (by omega) (by decide)).mpr h9)
            omega
          subst hge
          refine z_iconst hZ gCo_divide_42 _ rfl ?_
          refine z_iret hZ gCo_divide_43 ?_
          exact ⟨f6, f7, f8, 16, rfl, Or.inr ⟨rfl, dI_many hG hI ht cf30⟩⟩
  refine z_aload_n hZ gCo_divide_0 rfl ?_
  refine z_iconst hZ gCo_divide_1 _ i0 ?_
  refine z_putW hZ gCo_divide_2 (by omega) rfl (Or.inl (by decide)) (Nat.le_of_ble_eq_true rfl) cW_i5_0 ?_
  refine z_aload_n hZ gCo_divide_5 rfl ?_
  refine z_get hZ gCo_divide_6 (by omega) rfl rfl ?_
  refine z_iconst hZ gCo_divide_9 _ im1 ?_
  refine z_cs hZ gCo_divide_10 rfl rfl (Nat.le_of_ble_eq_true rfl) (Nat.le_of_ble_eq_true rfl) (fun l D E B A hB => c_Ar_fill l D E B A (n := 6) (N := 120) (f := a 6) (by omega) (by decide) (-1) _ rfl) (fun r10 w10 p10 => ?_)
  obtain ⟨rfl, rfl⟩ := p10
  show Z (10 + 3) _ [] _
  rw [cW_a6]
  refine z_iconst hZ gCo_divide_13 _ i0 ?_
  refine z_istore_n hZ gCo_divide_14 rfl ?_
  have h9 := loop n 0 (fl (-1) 120 (a 6)) (a 7) (a 8) (fun _ => 0) 0 (by omega) ⟨by decide, fun j hj => Or.inl (if_pos (by omega)), fun j l _ hl => absurd hl (Nat.not_lt_zero l), fun j hj => absurd hj (Nat.not_lt_zero j), fun l hl => absurd hl (Nat.not_lt_zero l), fun l l' _ hl => absurd hl (Nat.not_lt_zero l'), fun j l _ hl => absurd hl (Nat.not_lt_zero l), fun l hl => absurd hl (Nat.not_lt_zero l)⟩
  have e1 : dW a g i (fl (-1) 120 (a 6)) (a 7) (a 8) 0 = cW (va_up a 6 (fl (-1) 120 (a 6))) g (va_up i 5 (va_up (i 5) 0 (nI 0))) := by
    show cW _ _ _ = cW _ _ _
    rw [va_id a (k := 8) rfl, va_id a (k := 7) rfl]
  rw [e1] at h9
  exact h9

