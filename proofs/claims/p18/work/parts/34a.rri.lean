-- pure: how the system is solved
def sv (S : Nat → Nat → Nat) (d : Nat) (x : Nat → Int) (r : Nat) : Int := si (fun j => (S r j : Int) * x j) (List.range d)
def kz (p d : Nat) (S : Nat → Nat → Nat) (x : Nat → Int) : Prop := ∀ r, r < d → (p : Int) ∣ sv S d x r
theorem md_p (p n : Nat) : (p : Int) ∣ ((n % p : Nat) : Int) - (n : Int) := by
  have h := Nat.div_add_mod n p
  have h2 : (n : Int) = (p : Int) * ((n / p : Nat) : Int) + ((n % p : Nat) : Int) := by
    rw [← Int.natCast_mul, ← Int.natCast_add, h]
  exact ⟨-((n / p : Nat) : Int), by grind⟩
theorem swp_r (S : Nat → Nat → Nat) (x y r : Nat) : ∃ q, swp S x y r = S q ∧ (q = x ∨ q = y ∨ q = r) := by
  unfold swp
  by_cases e1 : r = x
  · exact ⟨y, if_pos e1, Or.inr (Or.inl rfl)⟩
  · by_cases e2 : r = y
    · exact ⟨x, by rw [if_neg e1, if_pos e2], Or.inl rfl⟩
    · exact ⟨r, by rw [if_neg e1, if_neg e2], Or.inr (Or.inr rfl)⟩
theorem swp_b (S : Nat → Nat → Nat) (x y r : Nat) : ∃ q, S r = swp S x y q ∧ (q = x ∨ q = y ∨ q = r) := by
  unfold swp
  by_cases e1 : r = x
  · refine ⟨y, ?_, Or.inr (Or.inl rfl)⟩
    by_cases e2 : y = x
    · rw [if_pos e2, e1, e2]
    · rw [if_neg e2, if_pos rfl, e1]
  · by_cases e2 : r = y
    · exact ⟨x, by rw [if_pos rfl, e2], Or.inl rfl⟩
    · exact ⟨r, by rw [if_neg e1, if_neg e2], Or.inr (Or.inr rfl)⟩
theorem kz_swp {p d x y : Nat} {S : Nat → Nat → Nat} (hx : x < d) (hy : y < d) (u : Nat → Int) : kz p d S u ↔ kz p d (swp S x y) u := by
  constructor
  · intro h r hr
    obtain ⟨q, e, hq⟩ := swp_r S x y r
    have hqd : q < d := by rcases hq with h1 | h1 | h1 <;> omega
    unfold sv
    rw [e]
    exact h q hqd
  · intro h r hr
    obtain ⟨q, e, hq⟩ := swp_b S x y r
    have hqd : q < d := by rcases hq with h1 | h1 | h1 <;> omega
    unfold sv
    rw [e]
    exact h q hqd
theorem clr_1 (S : Nat → Nat → Nat) (p col row v c : Nat) : (p : Int) ∣ (clr S p col row v row c : Int) - (v : Int) * (S row c : Int) := by
  unfold clr
  rw [if_pos rfl]
  have := md_p p (S row c * v)
  rw [Int.natCast_mul, Int.mul_comm (S row c : Int)] at this
  exact this
theorem clr_2 {S : Nat → Nat → Nat} {p col row v r c : Nat} (hr : r ≠ row) (h : S r col ≤ p) : (p : Int) ∣ (clr S p col row v r c : Int) - ((S r c : Int) - (S r col : Int) * (v : Int) * (S row c : Int)) := by
  unfold clr
  rw [if_neg hr]
  have h1 := md_p p (S r c + (p - S r col) * (S row c * v % p))
  have h2 := md_p p (S row c * v)
  rw [Int.natCast_add, Int.natCast_mul, Int.natCast_sub h] at h1
  rw [Int.natCast_mul] at h2
  obtain ⟨k1, h1⟩ := h1
  obtain ⟨k2, h2⟩ := h2
  refine ⟨k1 + ((p : Int) - S r col) * k2 + (S row c : Int) * v, ?_⟩
  grind
theorem sv_row (S : Nat → Nat → Nat) (p d col row v : Nat) (u : Nat → Int) : (p : Int) ∣ sv (clr S p col row v) d u row - (v : Int) * sv S d u row := by
  unfold sv
  rw [← si_mul]
  refine si_cong fun c _ => ?_
  obtain ⟨k, h⟩ := clr_1 S p col row v c
  exact ⟨k * u c, by grind⟩
theorem sv_oth {S : Nat → Nat → Nat} {p d col row v r : Nat} (hr : r ≠ row) (h : S r col ≤ p) (u : Nat → Int) : (p : Int) ∣ sv (clr S p col row v) d u r - (sv S d u r - (S r col : Int) * (v : Int) * sv S d u row) := by
  unfold sv
  rw [← si_mul, ← si_sub]
  refine si_cong fun c _ => ?_
  obtain ⟨k, h⟩ := clr_2 (v := v) (c := c) hr h
  exact ⟨k * u c, by grind⟩
theorem kz_clr {p d col row v : Nat} {S : Nat → Nat → Nat} (hrow : row < d) (hle : ∀ r, r < d → S r col ≤ p) (hv : (p : Int) ∣ (v : Int) * (S row col : Int) - 1) (u : Nat → Int) : kz p d S u ↔ kz p d (clr S p col row v) u := by
  have h0 := sv_row S p d col row v u
  constructor
  · intro h r hr
    by_cases e : r = row
    · subst e
      obtain ⟨k1, h1⟩ := h0
      obtain ⟨k2, h2⟩ := h r hr
      exact ⟨k1 + v * k2, by grind⟩
    · obtain ⟨k1, h1⟩ := sv_oth (d := d) (v := v) e (hle r hr) u
      obtain ⟨k2, h2⟩ := h r hr
      obtain ⟨k3, h3⟩ := h row hrow
      exact ⟨k1 + k2 - (S r col : Int) * v * k3, by grind⟩
  · intro h
    have hR : (p : Int) ∣ sv S d u row := by
      obtain ⟨k1, h1⟩ := h0
      obtain ⟨k2, h2⟩ := h row hrow
      obtain ⟨k3, h3⟩ := hv
      exact ⟨(k2 - k1) * (S row col : Int) - k3 * sv S d u row, by grind⟩
    intro r hr
    by_cases e : r = row
    · subst e; exact hR
    · obtain ⟨k1, h1⟩ := sv_oth (d := d) (v := v) e (hle r hr) u
      obtain ⟨k2, h2⟩ := h r hr
      obtain ⟨k3, h3⟩ := hR
      exact ⟨k2 - k1 + (S r col : Int) * v * k3, by grind⟩
abbrev rrI (p d : Nat) (S0 S : Nat → Nat → Nat) (sb : Nat → Option Nat) (s col : Nat) : Prop :=
  s ≤ col ∧ (∀ r c, r < d → c < d → S r c < p) ∧ (∀ u, kz p d S0 u ↔ kz p d S u) ∧
  (∀ c r, c < col → sb c = some r → r < s ∧ S r c = 1 ∧ ∀ r', r' < d → r' ≠ r → S r' c = 0) ∧
  (∀ c c' r, c < col → c' < col → sb c = some r → sb c' = some r → c = c') ∧
  (∀ r c, s ≤ r → r < d → c < col → S r c = 0) ∧ (∀ r, r < s → ∃ c, c < col ∧ sb c = some r)
theorem rrI.le {p d s col : Nat} {S0 S : Nat → Nat → Nat} {sb : Nat → Option Nat} (h : rrI p d S0 S sb s col) : s ≤ col := h.1
theorem rrI.lt {p d s col : Nat} {S0 S : Nat → Nat → Nat} {sb : Nat → Option Nat} (h : rrI p d S0 S sb s col) : ∀ r c, r < d → c < d → S r c < p := h.2.1
theorem rrI.ker {p d s col : Nat} {S0 S : Nat → Nat → Nat} {sb : Nat → Option Nat} (h : rrI p d S0 S sb s col) : ∀ u, kz p d S0 u ↔ kz p d S u := h.2.2.1
theorem rrI.one {p d s col : Nat} {S0 S : Nat → Nat → Nat} {sb : Nat → Option Nat} (h : rrI p d S0 S sb s col) : ∀ c r, c < col → sb c = some r → r < s ∧ S r c = 1 ∧ ∀ r', r' < d → r' ≠ r → S r' c = 0 := h.2.2.2.1
theorem rrI.inj {p d s col : Nat} {S0 S : Nat → Nat → Nat} {sb : Nat → Option Nat} (h : rrI p d S0 S sb s col) : ∀ c c' r, c < col → c' < col → sb c = some r → sb c' = some r → c = c' := h.2.2.2.2.1
theorem rrI.low {p d s col : Nat} {S0 S : Nat → Nat → Nat} {sb : Nat → Option Nat} (h : rrI p d S0 S sb s col) : ∀ r c, s ≤ r → r < d → c < col → S r c = 0 := h.2.2.2.2.2.1
theorem rrI.has {p d s col : Nat} {S0 S : Nat → Nat → Nat} {sb : Nat → Option Nat} (h : rrI p d S0 S sb s col) : ∀ r, r < s → ∃ c, c < col ∧ sb c = some r := h.2.2.2.2.2.2
theorem rrI_0 {p d : Nat} {S : Nat → Nat → Nat} {sb : Nat → Option Nat} (h : ∀ r c, r < d → c < d → S r c < p) : rrI p d S S sb 0 0 :=
  ⟨Nat.le_refl 0, h, fun _ => Iff.rfl, fun c _ hc => absurd hc (Nat.not_lt_zero c), fun c _ _ hc => absurd hc (Nat.not_lt_zero c), fun _ c _ _ hc => absurd hc (Nat.not_lt_zero c), fun r hr => absurd hr (Nat.not_lt_zero r)⟩
def obU (sb : Nat → Option Nat) (c : Nat) (v : Option Nat) : Nat → Option Nat := fun x => if x = c then v else sb x
theorem obU_s (sb : Nat → Option Nat) (c : Nat) (v : Option Nat) : obU sb c v c = v := if_pos rfl
theorem obU_n (sb : Nat → Option Nat) {c x : Nat} (v : Option Nat) (h : x ≠ c) : obU sb c v x = sb x := if_neg h
theorem rrI_none {p d s col : Nat} {S0 S : Nat → Nat → Nat} {sb : Nat → Option Nat} (h : rrI p d S0 S sb s col) (hz : ∀ r, s ≤ r → r < d → S r col = 0) : rrI p d S0 S (obU sb col none) s (col + 1) := by
  refine ⟨Nat.le_succ_of_le h.le, h.lt, h.ker, fun c r hc he => ?_, fun c c' r hc hc' he he' => ?_, fun r c hr hrd hc => ?_, fun r hr => ?_⟩
  · by_cases e : c = col
    · subst e; rw [obU_s] at he; cases he
    · rw [obU_n _ _ e] at he; exact h.one c r (by omega) he
  · by_cases e : c = col
    · subst e; rw [obU_s] at he; cases he
    · by_cases e' : c' = col
      · subst e'; rw [obU_s] at he'; cases he'
      · rw [obU_n _ _ e] at he; rw [obU_n _ _ e'] at he'; exact h.inj c c' r (by omega) (by omega) he he'
  · by_cases e : c = col
    · subst e; exact hz r hr hrd
    · exact h.low r c hr hrd (by omega)
  · obtain ⟨c, hc, he⟩ := h.has r hr
    exact ⟨c, by omega, by rw [obU_n _ _ (by omega)]; exact he⟩
theorem rrI_swp {p d s col ch : Nat} {S0 S : Nat → Nat → Nat} {sb : Nat → Option Nat} (h : rrI p d S0 S sb s col) (hc1 : s ≤ ch) (hc2 : ch < d) : rrI p d S0 (swp S ch s) sb s col := by
  have hlo : ∀ r, r < s → swp S ch s r = S r := fun r hr => by unfold swp; rw [if_neg (by omega), if_neg (by omega)]
  have hhi : ∀ r, s ≤ r → r < d → ∃ q, s ≤ q ∧ q < d ∧ swp S ch s r = S q := fun r hr hrd => by
    obtain ⟨q, e, hq⟩ := swp_r S ch s r
    exact ⟨q, by omega, by omega, e⟩
  refine ⟨h.le, fun r c hr hc => ?_, fun u => (h.ker u).trans (kz_swp hc2 (by omega) u), fun c r hc he => ?_, h.inj, fun r c hr hrd hc => ?_, h.has⟩
  · obtain ⟨q, e, hq⟩ := swp_r S ch s r
    rw [e]; exact h.lt q c (by omega) hc
  · obtain ⟨h1, h2, h3⟩ := h.one c r hc he
    refine ⟨h1, by rw [hlo r h1]; exact h2, fun r' hr' hne => ?_⟩
    by_cases e : r' < s
    · rw [hlo r' e]; exact h3 r' hr' hne
    · obtain ⟨q, hq1, hq2, e⟩ := hhi r' (by omega) hr'
      rw [e]; exact h.low q c hq1 hq2 hc
  · obtain ⟨q, hq1, hq2, e⟩ := hhi r hr hrd
    rw [e]; exact h.low q c hq1 hq2 hc
theorem clr_z {S : Nat → Nat → Nat} {p col row v r c : Nat} (hz : S row c = 0) (hl : S r c < p) : clr S p col row v r c = S r c := by
  unfold clr
  by_cases e : r = row
  · rw [if_pos e, e, hz, Nat.zero_mul, Nat.zero_mod]
  · rw [if_neg e, hz, Nat.zero_mul, Nat.zero_mod, Nat.mul_zero, Nat.add_zero, Nat.mod_eq_of_lt hl]
theorem inv_m {p v y : Nat} (hp : 1 < p) (h : (p : Int) ∣ (v : Int) * (y : Int) - 1) : y * v % p = 1 := by
  obtain ⟨k, hk⟩ := h
  have h1 : ((y * v : Nat) : Int) = 1 + p * k := by rw [Int.natCast_mul]; grind
  have h2 : ((y * v % p : Nat) : Int) = 1 := by
    rw [Int.natCast_emod, h1, Int.add_mul_emod_self_left]
    exact Int.emod_eq_of_lt (by decide) (by omega)
  omega
theorem rrI_some {p d s col v : Nat} {S0 S : Nat → Nat → Nat} {sb : Nat → Option Nat} (hp : 1 < p) (h : rrI p d S0 S sb s col) (hs : s < d) (hcol : col < d) (hv : (p : Int) ∣ (v : Int) * (S s col : Int) - 1) : rrI p d S0 (clr S p col s v) (obU sb col (some s)) (s + 1) (col + 1) := by
  have hz : ∀ c, c < col → S s c = 0 := fun c hc => h.low s c (Nat.le_refl s) hs hc
  have hold : ∀ r c, r < d → c < col → clr S p col s v r c = S r c := fun r c hr hc => clr_z (hz c hc) (h.lt r c hr (by omega))
  have hone : S s col * v % p = 1 := inv_m hp hv
  have hc1 : clr S p col s v s col = 1 := by unfold clr; rw [if_pos rfl, hone]
  have hc0 : ∀ r, r < d → r ≠ s → clr S p col s v r col = 0 := fun r hr hne => by
    unfold clr
    have := h.lt r col hr hcol
    rw [if_neg hne, hone, Nat.mul_one, Nat.add_sub_cancel' (by omega), Nat.mod_self]
  refine ⟨Nat.succ_le_succ h.le, fun r c hr hc => ?_, fun u => (h.ker u).trans (kz_clr hs (fun r hr => Nat.le_of_lt (h.lt r col hr hcol)) hv u), fun c r hc he => ?_, fun c c' r hc hc' he he' => ?_, fun r c hr hrd hc => ?_, fun r hr => ?_⟩
  · unfold clr; split <;> exact Nat.mod_lt _ (by omega)
  · by_cases e : c = col
    · subst e; rw [obU_s] at he; cases he
      exact ⟨Nat.lt_succ_self s, hc1, hc0⟩
    · rw [obU_n _ _ e] at he
      obtain ⟨h1, h2, h3⟩ := h.one c r (by omega) he
      exact ⟨by omega, by rw [hold r c (by omega) (by omega)]; exact h2, fun r' hr' hne => by rw [hold r' c hr' (by omega)]; exact h3 r' hr' hne⟩
  · by_cases e : c = col
    · by_cases e' : c' = col
      · omega
      · subst e; rw [obU_s] at he; cases he
        rw [obU_n _ _ e'] at he'
        exact absurd (h.one c' s (by omega) he').1 (Nat.lt_irrefl s)
    · rw [obU_n _ _ e] at he
      by_cases e' : c' = col
      · subst e'; rw [obU_s] at he'; cases he'
        exact absurd (h.one c s (by omega) he).1 (Nat.lt_irrefl s)
      · rw [obU_n _ _ e'] at he'
        exact h.inj c c' r (by omega) (by omega) he he'
  · by_cases e : c = col
    · subst e; exact hc0 r hrd (by omega)
    · rw [hold r c hrd (by omega)]; exact h.low r c (by omega) hrd (by omega)
  · by_cases e : r = s
    · exact ⟨col, Nat.lt_succ_self col, by rw [obU_s, e]⟩
    · obtain ⟨c, hc, he⟩ := h.has r (by omega)
      exact ⟨c, by omega, by rw [obU_n _ _ (by omega)]; exact he⟩
theorem rrI_rr {p d s : Nat} {S0 S : Nat → Nat → Nat} {sb : Nat → Option Nat} (h : rrI p d S0 S sb s d) : rr p d (fun r c => (S0 r c : Int)) (fun r c => (S r c : Int)) sb := by
  refine ⟨fun x => h.ker x, fun c r hc he => ?_, h.inj, fun r hr hn j hj => ?_⟩
  · obtain ⟨h1, h2, h3⟩ := h.one c r hc he
    have := h.le
    refine ⟨by omega, ?_, fun r' hr' hne => ?_⟩
    · show (p : Int) ∣ (S r c : Int) - 1
      rw [h2]; exact Int.dvd_zero _
    · show (p : Int) ∣ (S r' c : Int)
      rw [h3 r' hr' hne]; exact Int.dvd_zero _
  · have hs : s ≤ r := Nat.le_of_not_lt fun h9 => by
      obtain ⟨c, hc, he⟩ := h.has r h9
      exact hn c hc he
    show (p : Int) ∣ (S r j : Int)
    rw [h.low r j hs hr hj]; exact Int.dvd_zero _

