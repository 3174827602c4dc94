-- pure: a solved system (each solved column has its 1 alone in its row), its kernel by the free columns
def rr (p d : Nat) (S0 S : Nat → Nat → Int) (sb : Nat → Option Nat) : Prop :=
  (∀ x : Nat → Int, (∀ r, r < d → (p : Int) ∣ si (fun j => S0 r j * x j) (List.range d)) ↔ (∀ r, r < d → (p : Int) ∣ si (fun j => S r j * x j) (List.range d))) ∧
  (∀ c r, c < d → sb c = some r → r < d ∧ (p : Int) ∣ S r c - 1 ∧ ∀ r', r' < d → r' ≠ r → (p : Int) ∣ S r' c) ∧
  (∀ c c' r, c < d → c' < d → sb c = some r → sb c' = some r → c = c') ∧
  (∀ r, r < d → (∀ c, c < d → sb c ≠ some r) → ∀ j, j < d → (p : Int) ∣ S r j)
def rr_X (S : Nat → Nat → Int) (sb : Nat → Option Nat) (f j : Nat) : Int := if j = f then 1 else match sb j with
  | some r => -(S r f)
  | none => 0
def rr_fr (d : Nat) (sb : Nat → Option Nat) : List Nat := (List.range d).filter (fun c => decide (sb c = none))
theorem rr_sol {p d : Nat} {S0 S : Nat → Nat → Int} {sb : Nat → Option Nat} (h : rr p d S0 S sb) {f : Nat} (hf : f < d) (hfn : sb f = none) : ∀ r, r < d → (p : Int) ∣ si (fun j => S0 r j * rr_X S sb f j) (List.range d) := by
  refine (h.1 _).mpr fun r hr => ?_
  by_cases hc : ∃ c, c < d ∧ sb c = some r
  · obtain ⟨c, hcd, hcr⟩ := hc
    have h1 := h.2.1 c r hcd hcr
    have hcf : c ≠ f := fun e => by rw [e, hfn] at hcr; cases hcr
    have h2 : (p : Int) ∣ si (fun j => S r j * rr_X S sb f j) (List.range d) - si (fun j => ib (decide (j = f)) * S r f - ib (decide (j = c)) * S r f) (List.range d) := si_cong fun j hj => by
      have hjd := List.mem_range.mp hj
      by_cases e1 : j = f
      · subst e1
        simp [rr_X, ib, Ne.symm hcf]
      · by_cases e2 : j = c
        · subst e2
          simp only [rr_X, ib, hcr, if_neg e1]
          obtain ⟨q, hq⟩ := h1.2.1
          refine ⟨-(q * S r f), ?_⟩
          simp [e1]
          grind
        · simp only [rr_X, ib, if_neg e1]
          cases hs : sb j with
          | none => simp [e1, e2]
          | some r' =>
            have hr' : r ≠ r' := fun e => e2 (h.2.2.1 j c r' hjd hcd hs (e ▸ hcr))
            have h3 := (h.2.1 j r' hjd hs).2.2 r hr hr'
            simp [e1, e2]
            exact Int.dvd_mul_of_dvd_left h3
    have h4 : si (fun j => ib (decide (j = f)) * S r f - ib (decide (j = c)) * S r f) (List.range d) = 0 := by
      rw [si_sub, si_one (fun _ => S r f) f List.nodup_range (List.mem_range.mpr hf), si_one (fun _ => S r f) c List.nodup_range (List.mem_range.mpr hcd), Int.sub_self]
    rw [h4, Int.sub_zero] at h2
    exact h2
  · exact si_dvd fun j hj => Int.dvd_mul_of_dvd_left (h.2.2.2 r hr (fun c hcd e => hc ⟨c, hcd, e⟩) j (List.mem_range.mp hj))
theorem rr_ker {p d : Nat} {S0 S : Nat → Nat → Int} {sb : Nat → Option Nat} (h : rr p d S0 S sb) {x : Nat → Int} (hx : ∀ r, r < d → (p : Int) ∣ si (fun j => S0 r j * x j) (List.range d)) : vq p d x (fun j => si (fun f => x f * rr_X S sb f j) (rr_fr d sb)) := by
  have hx2 := (h.1 x).mp hx
  intro j hj
  show (p : Int) ∣ x j - si (fun f => x f * rr_X S sb f j) (rr_fr d sb)
  unfold rr_fr
  rw [si_filter]
  cases hs : sb j with
  | none =>
    have h1 : si (fun f => ib (decide (sb f = none)) * (x f * rr_X S sb f j)) (List.range d) = si (fun f => ib (decide (f = j)) * x f) (List.range d) := si_congr fun f _ => by
      by_cases e : f = j
      · subst e; simp [ib, hs, rr_X]
      · simp [ib, rr_X, hs, e, Ne.symm e]
    rw [h1, si_one x j List.nodup_range (List.mem_range.mpr hj), Int.sub_self]
    exact Int.dvd_zero _
  | some r =>
    have h1 := h.2.1 j r hj hs
    have h2 := hx2 r h1.1
    have h3 : (p : Int) ∣ si (fun c => S r c * x c) (List.range d) - si (fun c => ib (decide (c = j)) * x c - ib (decide (sb c = none)) * (x c * rr_X S sb c j)) (List.range d) := si_cong fun c hc => by
      have hcd := List.mem_range.mp hc
      by_cases e : c = j
      · subst e
        obtain ⟨q, hq⟩ := h1.2.1
        refine ⟨q * x c, ?_⟩
        simp [ib, hs]
        grind
      · cases hs2 : sb c with
        | none =>
          have h4 : rr_X S sb c j = -(S r c) := by simp [rr_X, Ne.symm e, hs]
          rw [h4]
          simp [ib, e]
          exact ⟨0, by grind⟩
        | some r' =>
          have hr' : r ≠ r' := fun e9 => e (h.2.2.1 c j r' hcd hj hs2 (e9 ▸ hs))
          have h5 := (h.2.1 c r' hcd hs2).2.2 r h1.1 hr'
          simp [ib, e]
          exact Int.dvd_mul_of_dvd_left h5
    have h6 := Int.dvd_sub h2 h3
    have h7 : ∀ a b : Int, a - (a - b) = b := fun a b => by omega
    rw [h7, si_sub, si_one x j List.nodup_range (List.mem_range.mpr hj)] at h6
    exact h6
