-- all are found
theorem sp_sum {p d f n : Nat} {X : Nat → Nat → Int} {F : Nat → Nat → Int} (h : ∀ m, m < n → sp p d f X (F m)) : sp p d f X (fun t => si (fun m => F m t) (List.range n)) := by
  have h1 : ∀ m, ∃ c : Nat → Int, m < n → vq p d (F m) (fun t => si (fun s => c s * X s t) (List.range f)) := fun m => by
    by_cases e : m < n
    · obtain ⟨c, hc⟩ := h m e
      exact ⟨c, fun _ => hc⟩
    · exact ⟨fun _ => 0, fun h9 => absurd h9 e⟩
  refine ⟨fun s => si (fun m => Classical.choose (h1 m) s) (List.range n), fun t ht => ?_⟩
  show (p : Int) ∣ si (fun m => F m t) (List.range n) - si (fun s => si (fun m => Classical.choose (h1 m) s) (List.range n) * X s t) (List.range f)
  have e : si (fun s => si (fun m => Classical.choose (h1 m) s) (List.range n) * X s t) (List.range f) = si (fun m => si (fun s => Classical.choose (h1 m) s * X s t) (List.range f)) (List.range n) := by
    rw [si_swap]
    exact si_congr fun s _ => (si_mulr _ _ _).symm
  rw [e]
  exact si_cong fun m hm => Classical.choose_spec (h1 m) (List.mem_range.mp hm) t ht
theorem spI_full {p d f : Nat} {A0 : Nat → Nat → Nat} {X : Nat → Nat → Int} {ev fs : Nat → Nat} (hp : isPr p) (hA : ∀ v : Nat → Int, vq p d (fa_it (mv (iM A0) d) p v) (mv (iM A0) d v)) (h : spI p d A0 p f X ev fs) : f = d := by
  have h1 : d ≤ f := sp_ge hp.1 hp.2 (U := X) fun v => by
    obtain ⟨F, hF1, hF2⟩ := eg_dec hp.2 (iM A0) d p (Nat.le_refl p) v (eg_zero hp.1 hp.2 (iM A0) d v (hA v))
    obtain ⟨c, hc⟩ := sp_sum (F := F) (fun m hm => h.2.2.1 m (F m) hm (hF1 m hm))
    exact ⟨c, vq_trans hF2 hc⟩
  have h2 := li_le hp.1 hp.2 h.2.1
  omega
def enI (f fr : Nat) (ev : Nat → Nat) (h : Nat → Int32) : Prop := ∀ t, t < f → (t = 0 ∨ ev (t - 1) ≠ ev t) → ∃ e, t < e ∧ e ≤ f ∧ h (fr + t) = nI (fr + e) ∧ (∀ s, t ≤ s → s < e → ev s = ev t) ∧ (e < f → ev e ≠ ev t)
theorem enI_step {f fr num N : Nat} {ev : Nat → Nat} {h : Nat → Int32} (hE : enI f fr ev h) (hev : ∀ t, t < f → ev t < num) (hN : 0 < N) : enI (f + N) fr (nv f ev (fun _ => num)) (upd h (fr + f) (nI (fr + (f + N)))) := by
  intro t ht h1
  by_cases e : t < f
  · rw [nv_l e] at h1 ⊢
    have h1 : t = 0 ∨ ev (t - 1) ≠ ev t := by
      rcases h1 with h1 | h1
      · exact Or.inl h1
      · rw [nv_l (by omega)] at h1; exact Or.inr h1
    obtain ⟨x, hx1, hx2, hx3, hx4, hx5⟩ := hE t e h1
    refine ⟨x, hx1, by omega, by rw [pk_un (by omega)]; exact hx3, fun s hs1 hs2 => by rw [nv_l (by omega)]; exact hx4 s hs1 hs2, fun _ => ?_⟩
    by_cases e2 : x < f
    · rw [nv_l e2]; exact hx5 e2
    · rw [nv_r (by omega)]
      have := hev t e
      omega
  · have e3 : t = f := Classical.byContradiction fun h9 => by
      rcases h1 with h1 | h1
      · omega
      · rw [nv_r (by omega), nv_r (by omega)] at h1
        exact h1 rfl
    subst e3
    refine ⟨t + N, by omega, Nat.le_refl _, pk_us, fun s hs1 _ => by rw [nv_r hs1, nv_r (Nat.le_refl t)], fun h9 => absurd h9 (Nat.lt_irrefl _)⟩
theorem enI_same {f fr num : Nat} {ev : Nat → Nat} {h : Nat → Int32} (hE : enI f fr ev h) : enI f fr (nv f ev (fun _ => num)) h := by
  intro t ht h1
  rw [nv_l ht] at h1 ⊢
  have h1 : t = 0 ∨ ev (t - 1) ≠ ev t := by
    rcases h1 with h1 | h1
    · exact Or.inl h1
    · rw [nv_l (by omega)] at h1; exact Or.inr h1
  obtain ⟨x, hx1, hx2, hx3, hx4, hx5⟩ := hE t ht h1
  exact ⟨x, hx1, hx2, hx3, fun s hs1 hs2 => by rw [nv_l (by omega)]; exact hx4 s hs1 hs2, fun h9 => by rw [nv_l h9]; exact hx5 h9⟩
def paI (p d k fr : Nat) (bs : Nat → Nat → Nat) (f : Nat) (X : Nat → Nat → Int) (M : Nat → Nat → Int32) : Prop := ∀ t, t < f → ∀ l, l < k → ∃ v : Nat, v < p ∧ M t l = nI v ∧ (p : Int) ∣ (v : Int) - si (fun j => X t j * (bs (fr + j) l : Int)) (List.range d)
theorem paI_nv {p d k fr f : Nat} {bs : Nat → Nat → Nat} {X Y : Nat → Nat → Int} {M : Nat → Nat → Int32} (h : paI p d k fr bs f X M) : paI p d k fr bs f (nv f X Y) M := fun t ht l hl => by
  rw [nv_l ht]; exact h t ht l hl
def frA (L : List Nat) (a a' : sA) : Prop := ∀ x, x ∉ L → a' x = a x
def frG (L : List Nat) (g g' : sG) : Prop := ∀ x, x ∉ L → g' x = g x
theorem frA_up {L : List Nat} {a a' : sA} {n : Nat} {f : Nat → Int32} (h : frA L a a') (hn : n ∈ L) : frA L a (va_up a' n f) := fun x hx => by
  have hne : x ≠ n := fun e => hx (by rw [e]; exact hn)
  rw [va_up_ne _ _ hne]; exact h x hx
theorem frG_up {L : List Nat} {g g' : sG} {n : Nat} {f : Nat → Nat → Int32} (h : frG L g g') (hn : n ∈ L) : frG L g (va_up g' n f) := fun x hx => by
  have hne : x ≠ n := fun e => hx (by rw [e]; exact hn)
  rw [va_up_ne _ _ hne]; exact h x hx


set_option maxHeartbeats 4000000 in
set_option maxRecDepth 100000 in
theorem c_Cm_split (l : Launch) (D : va_G) (E : sx_E) (B : Nat) (A : Nat → Prop) (hB : 29 ≤ B) {a : sA} {g : sG} {i : sA} {p d k fr : Nat} {A0 bs : Nat → Nat → Nat} (hm : i 12 0 = nI p) (hpr : isPr p) (hp : p < 1092) (h13 : i 13 0 = nI k) (hk : k ≤ 16) (hfd : fr + d ≤ k) (hb : gM p k (g 14) bs) (hA0 : gM p d (g 19) A0) (hfull : ∀ v : Nat → Int, vq p d (fa_it (mv (iM A0) d) p v) (mv (iM A0) d v)) : sM l D E B A yCm_split prog_2_method_5_code 8 none 3 82 [.inr (13, 0), .inl (nI fr), .inl (nI d), .inr (12, 0)] (cW a g i) (fun r w' => r = none ∧ ∃ (a' : sA) (g' : sG) (num : Nat) (X : Nat → Nat → Int) (ev fs : Nat → Nat) (bs' : Nat → Nat → Nat), w' = cW a' g' i ∧ frA [15, 16, 18, 21] a a' ∧ frG [14, 17, 20] g g' ∧ num ≤ p ∧ spI p d A0 num d X ev fs ∧ gM p k (g' 14) bs' ∧ (∀ r, r < fr ∨ fr + d ≤ r → bs' r = bs r) ∧ (∀ t l, t < d → l < k → (p : Int) ∣ (bs' (fr + t) l : Int) - si (fun j => X t j * (bs (fr + j) l : Int)) (List.range d)) ∧ (∀ c, c < fr ∨ fr + d ≤ c → a' 15 c = a 15 c ∧ a' 16 c = a 16 c) ∧ (∀ t, t < d → a' 15 (fr + t) = a 15 (fr + fs t)) ∧ enI d fr ev (a' 16)) := by
  refine sx_m0 (ls := lCm_split) (cs := csAll) (by decide +kernel) kCm_split (hCm_split l D E B A hB) (by simp) (fun x w' h => by cases h.1) ?_
  intro Z hZ
  have hp1 : 1 < p := hpr.1
  have hd16 : d ≤ 16 := by omega
  -- the parts become the basis
  have copy : ∀ (a1 : sA) (g1 : sG), frA [16, 18, 21] a a1 → frG [17, 20] g g1 → ∀ (X : Nat → Nat → Int) (ev fs : Nat → Nat) (num : Nat), num ≤ p → spI p d A0 num d X ev fs → paI p d k fr bs d X (g1 17) → (∀ t, t < d → a1 18 t = a 15 (fr + fs t)) → enI d fr ev (a1 16) → (∀ c, c < fr ∨ fr + d ≤ c → a1 16 c = a 16 c) →
      ∀ n t (a' : sA) (g' : sG) x6 x7, n + t = d → frA [15] a1 a' → frG [14] g1 g' → (∀ r, r < fr ∨ fr + t ≤ r → g' 14 r = g 14 r) → (∀ s, s < t → ∀ l, l < k → g' 14 (fr + s) l = g1 17 s l) → (∀ c, c < fr ∨ fr + t ≤ c → a' 15 c = a 15 c) → (∀ s, s < t → a' 15 (fr + s) = a1 18 s) → Z 114 [some (.inr (13, 0)), some (.inl (nI fr)), some (.inl (nI d)), some (.inr (12, 0)), some (.inl (nI d)), some (.inl (nI t)), x6, x7] [] (cW a' g' i) := by
    intro a1 g1 hfa hfg X ev fs num hnp hsp hpa h18 hen h16 n
    induction n with
    | zero =>
      intro t a' g' x6 x7 hn hf1 hf2 hg1 hg2 ha1 ha2
      have e : t = d := by omega
      subst e
      refine z_iload hZ gCm_split_114 rfl ?_
      refine z_iload hZ gCm_split_116 rfl ?_
      refine z_cmpge hZ gCm_split_118 (fun c118 => ?_) (fun c118 => absurd (nI_le (Nat.le_refl t) (by omega)) c118)
      refine z_vret hZ gCm_split_168 ?_
      refine ⟨rfl, a', g', num, X, ev, fs, fun r l => if r < fr ∨ fr + t ≤ r then bs r l else (g' 14 r l).toNatClampNeg, rfl, fun x hx => ?_, fun x hx => ?_, hnp, hsp, fun r l hr hl => ?_, fun r hr => funext fun l => if_pos hr, fun s l hs hl => ?_, fun c hc => ⟨ha1 c hc, ?_⟩, fun s hs => ?_, ?_⟩
      · rw [hf1 x (by simp at hx ⊢; omega)]; exact hfa x (by simp at hx ⊢; omega)
      · rw [hf2 x (by simp at hx ⊢; omega)]; exact hfg x (by simp at hx ⊢; omega)
      · show g' 14 r l = nI (if r < fr ∨ fr + t ≤ r then bs r l else (g' 14 r l).toNatClampNeg) ∧ (if r < fr ∨ fr + t ≤ r then bs r l else (g' 14 r l).toNatClampNeg) < p
        by_cases h9 : r < fr ∨ fr + t ≤ r
        · rw [if_pos h9, hg1 r h9]
          exact hb r l hr hl
        · obtain ⟨v, hv1, hv2, _⟩ := hpa (r - fr) (by omega) l hl
          have e9 := hg2 (r - fr) (by omega) l hl
          rw [show fr + (r - fr) = r by omega] at e9
          rw [if_neg h9, e9, hv2, nI_clamp (by omega)]
          exact ⟨rfl, hv1⟩
      · obtain ⟨v, hv1, hv2, hv3⟩ := hpa s hs l hl
        show (p : Int) ∣ ((if fr + s < fr ∨ fr + t ≤ fr + s then bs (fr + s) l else (g' 14 (fr + s) l).toNatClampNeg : Nat) : Int) - _
        rw [if_neg (by omega), hg2 s hs l hl, hv2, nI_clamp (by omega)]
        exact hv3
      · rw [hf1 16 (by decide)]; exact h16 c hc
      · rw [ha2 s hs]; exact h18 s hs
      · rw [hf1 16 (by decide)]; exact hen
    | succ n ih =>
      intro t a' g' x6 x7 hn hf1 hf2 hg1 hg2 ha1 ha2
      have ht : t < d := by omega
      have et : (nI t).toNatClampNeg = t := nI_clamp (by omega)
      have eft : (nI (fr + t)).toNatClampNeg = fr + t := nI_clamp (by omega)
      have e17 : g' 17 = g1 17 := hf2 17 (by decide)
      have e18 : a' 18 = a1 18 := hf1 18 (by decide)
      refine z_iload hZ gCm_split_114 rfl ?_
      refine z_iload hZ gCm_split_116 rfl ?_
      refine z_cmpge hZ gCm_split_118 (fun c118 => absurd c118 (nI_ge (by omega) (by omega))) (fun c118 => ?_)
      refine z_aload_n hZ gCm_split_121 rfl ?_
      refine z_get hZ gCm_split_122 (by omega) rfl rfl ?_
      refine z_iload hZ gCm_split_125 rfl ?_
      refine z_aald hZ gCm_split_127 (by omega) rfl (vp_in_nI (by omega) (by decide)) ?_
      rw [et]
      refine z_iconst hZ gCm_split_128 _ i0 ?_
      refine z_aload_n hZ gCm_split_129 rfl ?_
      refine z_get hZ gCm_split_130 (by omega) rfl rfl ?_
      refine z_iload_n hZ gCm_split_133 rfl ?_
      refine z_iload hZ gCm_split_134 rfl ?_
      refine z_iadd hZ gCm_split_136 _ (nI_add fr t) ?_
      refine z_aald hZ gCm_split_137 (by omega) rfl (vp_in_nI (by omega) (by decide)) ?_
      rw [eft]
      refine z_iconst hZ gCm_split_138 _ i0 ?_
      refine z_aload_n hZ gCm_split_139 rfl ?_
      refine z_get hZ gCm_split_140 (by omega) rfl (by rw [h13]; rfl) ?_
      refine z_cs hZ gCm_split_143 rfl rfl (Nat.le_of_ble_eq_true rfl) (Nat.le_of_ble_eq_true rfl) ⟨17, t, 14, fr + t, 16, 16, 16, 16, 0, 0, k, g' 17, g' 14, rfl, by decide, by decide, rfl, rfl, by omega, by omega, by omega, by omega, by decide, by decide, rfl⟩ (fun r143 w143 p143 => ?_)
      obtain ⟨rfl, rfl⟩ := p143
      rw [cW_g14]
      show Z (143 + 3) _ [] _
      refine z_aload_n hZ gCm_split_146 rfl ?_
      refine z_get hZ gCm_split_147 (by omega) rfl rfl ?_
      refine z_iload_n hZ gCm_split_150 rfl ?_
      refine z_iload hZ gCm_split_151 rfl ?_
      refine z_iadd hZ gCm_split_153 _ (nI_add fr t) ?_
      refine z_aload_n hZ gCm_split_154 rfl ?_
      refine z_get hZ gCm_split_155 (by omega) rfl rfl ?_
      refine z_iload hZ gCm_split_158 rfl ?_
      refine z_iald hZ gCm_split_160 (by omega) rfl (vp_in_nI (by omega) (by decide)) ?_
      rw [et]
      refine z_iastW hZ gCm_split_161 (by omega) rfl (vp_in_nI (by omega) (by decide)) cW_a15 ?_
      rw [eft]
      refine z_iinc hZ gCm_split_162 rfl _ (i1 t) rfl ?_
      refine z_goto hZ gCm_split_165 ?_
      refine ih (t + 1) _ _ _ _ (by omega) (frA_up hf1 (by decide)) (frG_up hf2 (by decide)) (fun r hr => ?_) (fun s hs l hl => ?_) (fun c hc => ?_) (fun s hs => ?_)
      · rw [va_up_self, va_up_ne _ _ (by omega)]; exact hg1 r (by omega)
      · rw [va_up_self]
        by_cases e : s = t
        · subst e; rw [va_up_self, cpy0, if_pos hl, e17]
        · rw [va_up_ne _ _ (by omega)]; exact hg2 s (by omega) l hl
      · rw [va_up_self, pk_un (by omega)]; exact ha1 c (by omega)
      · rw [va_up_self]
        by_cases e : s = t
        · subst e; rw [pk_us, e18]
        · rw [pk_un (by omega)]; exact ha2 s (by omega)
  have done : ∀ (a1 : sA) (g1 : sG), frA [16, 18, 21] a a1 → frG [17, 20] g g1 → ∀ (X : Nat → Nat → Int) (ev fs : Nat → Nat) (num : Nat), num ≤ p → spI p d A0 num d X ev fs → paI p d k fr bs d X (g1 17) → (∀ t, t < d → a1 18 t = a 15 (fr + fs t)) → enI d fr ev (a1 16) → (∀ c, c < fr ∨ fr + d ≤ c → a1 16 c = a 16 c) → ∀ x5 x6 x7, Z 111 [some (.inr (13, 0)), some (.inl (nI fr)), some (.inl (nI d)), some (.inr (12, 0)), some (.inl (nI d)), x5, x6, x7] [] (cW a1 g1 i) := by
    intro a1 g1 hfa hfg X ev fs num hnp hsp hpa h18 hen h16 x5 x6 x7
    refine z_iconst hZ gCm_split_111 _ i0 ?_
    refine z_istore hZ gCm_split_112 rfl ?_
    exact copy a1 g1 hfa hfg X ev fs num hnp hsp hpa h18 hen h16 d 0 a1 g1 _ _ (by omega) (fun _ _ => rfl) (fun _ _ => rfl) (fun r _ => by rw [hfg 14 (by decide)]) (fun s hs => absurd hs (Nat.not_lt_zero s)) (fun c _ => by rw [hfa 15 (by decide)]) (fun s hs => absurd hs (Nat.not_lt_zero s))
  have main : ∀ n num f (X : Nat → Nat → Int) (ev fs : Nat → Nat) (a' : sA) (g' : sG) x6 x7, n + num = p → spI p d A0 num f X ev fs → frA [16, 18, 21] a a' → frG [17, 20] g g' → paI p d k fr bs f X (g' 17) → (∀ t, t < f → a' 18 t = a 15 (fr + fs t)) → enI f fr ev (a' 16) → (∀ c, c < fr ∨ fr + d ≤ c → a' 16 c = a 16 c) → Z 6 [some (.inr (13, 0)), some (.inl (nI fr)), some (.inl (nI d)), some (.inr (12, 0)), some (.inl (nI f)), some (.inl (nI num)), x6, x7] [] (cW a' g' i) := by
    intro n
    induction n with
    | zero =>
      intro num f X ev fs a' g' x6 x7 hn hsp hfa hfg hpa h18 hen h16
      have e : num = p := by omega
      subst e
      have ef := spI_full hpr hfull hsp
      subst ef
      refine z_iload hZ gCm_split_6 rfl ?_
      refine z_aload_n hZ gCm_split_8 rfl ?_
      refine z_get hZ gCm_split_9 (by omega) rfl (by rw [hm]; rfl) ?_
      refine z_cmpge hZ gCm_split_12 (fun c12 => ?_) (fun c12 => absurd (nI_le (Nat.le_refl num) (by omega)) c12)
      exact done a' g' hfa hfg X ev fs num (by omega) hsp hpa h18 hen h16 _ _ _
    | succ n ih =>
      intro num f X ev fs a' g' x6 x7 hn hsp hfa hfg hpa h18 hen h16
      have hnum : num < p := by omega
      have hfd9 := li_le hpr.1 hpr.2 hsp.2.1
      by_cases efd : f = d
      · subst efd
        refine z_iload hZ gCm_split_6 rfl ?_
        refine z_aload_n hZ gCm_split_8 rfl ?_
        refine z_get hZ gCm_split_9 (by omega) rfl (by rw [hm]; rfl) ?_
        refine z_cmpge hZ gCm_split_12 (fun c12 => absurd c12 (nI_ge (by omega) (by omega))) (fun c12 => ?_)
        refine z_iload hZ gCm_split_15 rfl ?_
        refine z_iload_n hZ gCm_split_17 rfl ?_
        refine z_cmpge hZ gCm_split_18 (fun c18 => ?_) (fun c18 => absurd (nI_le (Nat.le_refl f) (by omega)) c18)
        exact done a' g' hfa hfg X ev fs num (by omega) hsp hpa h18 hen h16 _ _ _
      · have hfd1 : f < d := by omega
        have e20 : cW a' g' i = sW a' g' i (g' 20) := by
          show cW _ _ _ = cW _ _ _
          rw [va_id g' (k := 20) rfl]
        have hA19 : gM p d (g' 19) A0 := by rw [hfg 19 (by decide)]; exact hA0
        have inner : ∀ (S : Nat → Nat → Nat) (sb : Nat → Option Nat), rr p d (fun r c => (ssM A0 p num r c : Int)) (fun r c => (S r c : Int)) sb → ∀ m q (a2 : sA) (g2 : sG), m + q = d → frA [18, 21] a' a2 → frG [17, 20] g' g2 → gM p d (g2 20) S → (∀ c, c < d → a2 21 c = obv (sb c)) → paI p d k fr bs (f + (rr_fr q sb).length) (nv f X (fun q => rr_X (fun r c => (S r c : Int)) sb (frN d sb q))) (g2 17) → (∀ t, t < f + (rr_fr q sb).length → a2 18 t = a 15 (fr + nv f fs (frN d sb) t)) → Z 42 [some (.inr (13, 0)), some (.inl (nI fr)), some (.inl (nI d)), some (.inr (12, 0)), some (.inl (nI (f + (rr_fr q sb).length))), some (.inl (nI num)), some (.inl (nI f)), some (.inl (nI q))] [] (cW a2 g2 i) := by
          intro S sb hrr
          obtain ⟨hNd, hstep⟩ := spI_step hpr hnum hsp hrr
          have out : ∀ (a2 : sA) (g2 : sG) x7, frA [18, 21] a' a2 → frG [17, 20] g' g2 → paI p d k fr bs (f + (rr_fr d sb).length) (nv f X (fun q => rr_X (fun r c => (S r c : Int)) sb (frN d sb q))) (g2 17) → (∀ t, t < f + (rr_fr d sb).length → a2 18 t = a 15 (fr + nv f fs (frN d sb) t)) → Z 85 [some (.inr (13, 0)), some (.inl (nI fr)), some (.inl (nI d)), some (.inr (12, 0)), some (.inl (nI (f + (rr_fr d sb).length))), some (.inl (nI num)), some (.inl (nI f)), x7] [] (cW a2 g2 i) := by
            intro a2 g2 x7 hf1 hf2 hpa2 h182
            have hfa2 : frA [16, 18, 21] a a2 := fun x hx => by rw [hf1 x (by simp at hx ⊢; omega)]; exact hfa x hx
            have hfg2 : frG [17, 20] g g2 := fun x hx => by rw [hf2 x hx]; exact hfg x hx
            have e16 : a2 16 = a' 16 := hf1 16 (by decide)
            by_cases hN : (rr_fr d sb).length = 0
            · rw [hN] at hstep hpa2 h182 ⊢
              refine z_iload hZ gCm_split_85 rfl ?_
              refine z_iload hZ gCm_split_87 rfl ?_
              refine z_cmple hZ gCm_split_89 (fun c89 => ?_) (fun c89 => absurd (nI_le (Nat.le_refl f) (by omega)) c89)
              refine z_iinc hZ gCm_split_105 rfl _ (i1 num) rfl ?_
              refine z_goto hZ gCm_split_108 ?_
              exact ih (num + 1) f _ _ _ a2 g2 _ _ (by omega) hstep hfa2 hfg2 hpa2 h182 (by rw [e16]; exact enI_same hen) (fun c hc => by rw [e16]; exact h16 c hc)
            · have hN0 : 0 < (rr_fr d sb).length := Nat.pos_of_ne_zero hN
              have eff : (nI (fr + f)).toNatClampNeg = fr + f := nI_clamp (by omega)
              refine z_iload hZ gCm_split_85 rfl ?_
              refine z_iload hZ gCm_split_87 rfl ?_
              refine z_cmple hZ gCm_split_89 (fun c89 => absurd c89 (nI_ge (by omega) (by omega))) (fun c89 => ?_)
              refine z_aload_n hZ gCm_split_92 rfl ?_
              refine z_get hZ gCm_split_93 (by omega) rfl rfl ?_
              refine z_iload_n hZ gCm_split_96 rfl ?_
              refine z_iload hZ gCm_split_97 rfl ?_
              refine z_iadd hZ gCm_split_99 _ (nI_add fr f) ?_
              refine z_iload_n hZ gCm_split_100 rfl ?_
              refine z_iload hZ gCm_split_101 rfl ?_
              refine z_iadd hZ gCm_split_103 _ (nI_add fr _) ?_
              refine z_iastW hZ gCm_split_104 (by omega) rfl (vp_in_nI (by omega) (by decide)) cW_a16 ?_
              rw [eff]
              refine z_iinc hZ gCm_split_105 rfl _ (i1 num) rfl ?_
              refine z_goto hZ gCm_split_108 ?_
              refine ih (num + 1) (f + (rr_fr d sb).length) _ _ _ _ g2 _ _ (by omega) hstep (frA_up hfa2 (by decide)) hfg2 hpa2 (fun t ht => ?_) ?_ (fun c hc => ?_)
              · rw [va_up_ne _ _ (by decide)]; exact h182 t ht
              · rw [va_up_self, e16]; exact enI_step hen (fun t ht => (hsp.1 t ht).1) hN0
              · rw [va_up_self, pk_un (by omega), e16]; exact h16 c hc
          intro m
          induction m with
          | zero =>
            intro q a2 g2 hmq hf1 hf2 hS2 h21 hpa2 h182
            have e : q = d := by omega
            subst e
            refine z_iload hZ gCm_split_42 rfl ?_
            refine z_iload_n hZ gCm_split_44 rfl ?_
            refine z_cmpge hZ gCm_split_45 (fun c45 => ?_) (fun c45 => absurd (nI_le (Nat.le_refl q) (by omega)) c45)
            exact out a2 g2 _ hf1 hf2 hpa2 h182
          | succ m ihm =>
            intro q a2 g2 hmq hf1 hf2 hS2 h21 hpa2 h182
            have hq : q < d := by omega
            have eq0 : (nI q).toNatClampNeg = q := nI_clamp (by omega)
            obtain ⟨R, hR1, hR2, hR3⟩ := rr_fr_pre (sb := sb) (m := q) d (by omega)
            have hlen : (rr_fr d sb).length = (rr_fr q sb).length + R.length := by rw [hR1, List.length_append]
            by_cases hful : f + (rr_fr q sb).length = d
            · have hR0 : R.length = 0 := by omega
              have hRe : rr_fr q sb = rr_fr d sb := by rw [hR1, List.eq_nil_of_length_eq_zero hR0, List.append_nil]
              rw [hRe] at hful hpa2 h182 ⊢
              refine z_iload hZ gCm_split_42 rfl ?_
              refine z_iload_n hZ gCm_split_44 rfl ?_
              refine z_cmpge hZ gCm_split_45 (fun c45 => absurd c45 (nI_ge (by omega) (by omega))) (fun c45 => ?_)
              refine z_iload hZ gCm_split_48 rfl ?_
              refine z_iload_n hZ gCm_split_50 rfl ?_
              refine z_cmpge hZ gCm_split_51 (fun c51 => ?_) (fun c51 => absurd (by rw [hful]; exact nI_le (Nat.le_refl d) (by omega)) c51)
              exact out a2 g2 _ hf1 hf2 hpa2 h182
            · have hlt : f + (rr_fr q sb).length < d := by omega
              have h21q := h21 q hq
              cases hs : sb q with
              | some r =>
                rw [hs] at h21q
                have h21q : a2 21 q = nI r := h21q
                have hr := (hrr.2.1 q r hq hs).1
                have hfr : rr_fr (q + 1) sb = rr_fr q sb := by rw [rr_fr_s, if_neg (by rw [hs]; exact fun h9 => (by cases h9)), List.append_nil]
                refine z_iload hZ gCm_split_42 rfl ?_
                refine z_iload_n hZ gCm_split_44 rfl ?_
                refine z_cmpge hZ gCm_split_45 (fun c45 => absurd c45 (nI_ge (by omega) (by omega))) (fun c45 => ?_)
                refine z_iload hZ gCm_split_48 rfl ?_
                refine z_iload_n hZ gCm_split_50 rfl ?_
                refine z_cmpge hZ gCm_split_51 (fun c51 => absurd c51 (nI_ge (by omega) (by omega))) (fun c51 => ?_)
                refine z_aload_n hZ gCm_split_54 rfl ?_
                refine z_get hZ gCm_split_55 (by omega) rfl rfl ?_
                refine z_iload hZ gCm_split_58 rfl ?_
                refine z_iald hZ gCm_split_60 (by omega) rfl (vp_in_nI (by omega) (by decide)) ?_
                rw [eq0, h21q]
                refine z_iconst hZ gCm_split_61 _ im1 ?_
                refine z_cmpne hZ gCm_split_62 (fun c62 => ?_) (fun c62 => absurd c62 (nI_m1 (by omega)))
                refine z_iinc hZ gCm_split_79 rfl _ (i1 q) rfl ?_
                refine z_goto hZ gCm_split_82 ?_
                have h9 := ihm (q + 1) a2 g2 (by omega) hf1 hf2 hS2 h21 (by rw [hfr]; exact hpa2) (by rw [hfr]; exact h182)
                rw [hfr] at h9
                exact h9
              | none =>
                rw [hs] at h21q
                have h21q : a2 21 q = -1 := h21q
                have hfr : (rr_fr (q + 1) sb).length = (rr_fr q sb).length + 1 := by rw [rr_fr_s, if_pos hs, List.length_append]; rfl
                obtain ⟨_, hfN⟩ := frN_at hq hs
                have hb2 : gM p k (g2 14) bs := by rw [hf2 14 (by decide), hfg 14 (by decide)]; exact hb
                refine z_iload hZ gCm_split_42 rfl ?_
                refine z_iload_n hZ gCm_split_44 rfl ?_
                refine z_cmpge hZ gCm_split_45 (fun c45 => absurd c45 (nI_ge (by omega) (by omega))) (fun c45 => ?_)
                refine z_iload hZ gCm_split_48 rfl ?_
                refine z_iload_n hZ gCm_split_50 rfl ?_
                refine z_cmpge hZ gCm_split_51 (fun c51 => absurd c51 (nI_ge (by omega) (by omega))) (fun c51 => ?_)
                refine z_aload_n hZ gCm_split_54 rfl ?_
                refine z_get hZ gCm_split_55 (by omega) rfl rfl ?_
                refine z_iload hZ gCm_split_58 rfl ?_
                refine z_iald hZ gCm_split_60 (by omega) rfl (vp_in_nI (by omega) (by decide)) ?_
                rw [eq0, h21q]
                refine z_iconst hZ gCm_split_61 _ im1 ?_
                refine z_cmpne hZ gCm_split_62 (fun c62 => absurd rfl c62) (fun c62 => ?_)
                refine z_aload_n hZ gCm_split_65 rfl ?_
                refine z_iload hZ gCm_split_66 rfl ?_
                refine z_iload_n hZ gCm_split_68 rfl ?_
                refine z_iload_n hZ gCm_split_69 rfl ?_
                refine z_iload hZ gCm_split_70 rfl ?_
                refine z_aload_n hZ gCm_split_72 rfl ?_
                refine z_cv hZ gCm_split_73 rfl rfl (Nat.le_of_ble_eq_true rfl) (Nat.le_of_ble_eq_true rfl) ⟨⟨13, _, _, rfl, by decide, rfl⟩, fun l9 D E B A hB => c_Cm_takeSolution l9 D E B A hB (f := q) (fr := fr) (pl := f + (rr_fr q sb).length) hm hpr hp h13 hk hfd hq (by omega) hb2 hS2 (fun j r hj h9 => (hrr.2.1 j r hj h9).1) h21⟩ (fun r73 w73 p73 => ?_)
                obtain ⟨rfl, M, rfl, hM1, hM2⟩ := p73
                show Z (73 + 3) _ [] _
                refine z_iinc hZ gCm_split_76 rfl _ (i1 _) rfl ?_
                refine z_iinc hZ gCm_split_79 rfl _ (i1 q) rfl ?_
                refine z_goto hZ gCm_split_82 ?_
                have h9 := ihm (q + 1) _ (va_up g2 17 M) (by omega) (frA_up (n := 18) (f := upd (a2 18) (f + (rr_fr q sb).length) (a2 15 (fr + q))) hf1 (by decide)) (frG_up hf2 (by decide)) (by rw [va_up_ne _ _ (by decide)]; exact hS2) (by rw [va_up_ne _ _ (by decide)]; exact h21) (fun t ht l hl => ?_) (fun t ht => ?_)
                · rw [hfr] at h9
                  exact h9
                · rw [va_up_self]
                  rw [hfr] at ht
                  by_cases e : t = f + (rr_fr q sb).length
                  · subst e
                    rw [nv_r (Nat.le_add_right _ _), Nat.add_sub_cancel_left, hfN]
                    exact ⟨_, tk_lt (hb (fr + q) l (by omega) hl).2 d, hM2 l hl, tk_ok hq hs (fun j r hj h9 => Nat.le_of_lt (hS2 r q (hrr.2.1 j r hj h9).1 hq).2)⟩
                  · rw [hM1 t e]
                    exact hpa2 t (by omega) l hl
                · rw [va_up_self]
                  rw [hfr] at ht
                  by_cases e : t = f + (rr_fr q sb).length
                  · subst e
                    rw [pk_us, nv_r (Nat.le_add_right _ _), Nat.add_sub_cancel_left, hfN, hf1 15 (by decide), hfa 15 (by decide)]
                  · rw [pk_un e]
                    exact h182 t (by omega)
        refine z_iload hZ gCm_split_6 rfl ?_
        refine z_aload_n hZ gCm_split_8 rfl ?_
        refine z_get hZ gCm_split_9 (by omega) rfl (by rw [hm]; rfl) ?_
        refine z_cmpge hZ gCm_split_12 (fun c12 => absurd c12 (nI_ge (by omega) (by omega))) (fun c12 => ?_)
        refine z_iload hZ gCm_split_15 rfl ?_
        refine z_iload_n hZ gCm_split_17 rfl ?_
        refine z_cmpge hZ gCm_split_18 (fun c18 => absurd c18 (nI_ge (by omega) (by omega))) (fun c18 => ?_)
        refine z_iload hZ gCm_split_21 rfl ?_
        refine z_istore hZ gCm_split_23 rfl ?_
        refine z_aload_n hZ gCm_split_25 rfl ?_
        refine z_iload hZ gCm_split_26 rfl ?_
        refine z_iload_n hZ gCm_split_28 rfl ?_
        refine z_aload_n hZ gCm_split_29 rfl ?_
        rw [e20]
        refine z_cv hZ gCm_split_30 rfl rfl (Nat.le_of_ble_eq_true rfl) (Nat.le_of_ble_eq_true rfl) ⟨⟨13, _, _, rfl, by decide, rfl⟩, fun l9 D E B A hB => c_Cm_setSystem l9 D E B A hB hm hpr hp hd16 (Nat.le_of_lt hnum) hA19⟩ (fun r30 w30 p30 => ?_)
        obtain ⟨rfl, Q1, rfl, hQ1⟩ := p30
        show Z (30 + 3) _ [] _
        refine z_aload_n hZ gCm_split_33 rfl ?_
        refine z_iload_n hZ gCm_split_34 rfl ?_
        refine z_aload_n hZ gCm_split_35 rfl ?_
        refine z_cv hZ gCm_split_36 rfl rfl (Nat.le_of_ble_eq_true rfl) (Nat.le_of_ble_eq_true rfl) ⟨⟨13, _, _, rfl, by decide, rfl⟩, fun l9 D E B A hB => c_Cm_solve l9 D E B A hB hm hpr hp hd16 hQ1⟩ (fun r36 w36 p36 => ?_)
        obtain ⟨rfl, b, Q2, S, sb, rfl, hQ2, hrr, hbv⟩ := p36
        show Z (36 + 3) _ [] _
        refine z_iconst hZ gCm_split_39 _ i0 ?_
        refine z_istore hZ gCm_split_40 rfl ?_
        exact inner S sb hrr d 0 (va_up a' 21 b) (va_up g' 20 Q2) (by omega) (frA_up (fun _ _ => rfl) (by decide)) (frG_up (fun _ _ => rfl) (by decide)) (by rw [va_up_self]; exact hQ2) (by rw [va_up_self]; exact hbv) (by rw [va_up_ne _ _ (by decide)]; exact paI_nv hpa) (fun t ht => by have ht : t < f := ht; rw [va_up_ne _ _ (by decide), nv_l ht]; exact h18 t ht)
  refine z_iconst hZ gCm_split_0 _ i0 ?_
  refine z_istore hZ gCm_split_1 rfl ?_
  refine z_iconst hZ gCm_split_3 _ i0 ?_
  refine z_istore hZ gCm_split_4 rfl ?_
  exact main p 0 0 (fun _ _ => 0) (fun _ => 0) (fun _ => 0) a g _ _ (by omega) spI_0 (fun _ _ => rfl) (fun _ _ => rfl) (fun t ht => absurd ht (Nat.not_lt_zero t)) (fun t ht => absurd ht (Nat.not_lt_zero t)) (fun t ht => absurd ht (Nat.not_lt_zero t)) (fun _ _ => rfl)

