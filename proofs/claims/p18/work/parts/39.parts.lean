-- pure: the parts of a space, number by number
theorem ss_c {A0 : Nat → Nat → Nat} {p num : Nat} (h : num ≤ p) (r j : Nat) : (p : Int) ∣ (ssM A0 p num r j : Int) - ((A0 r j : Int) - ib (decide (j = r)) * (num : Int)) := by
  by_cases e : r = j
  · subst e
    unfold ssM
    rw [if_pos rfl]
    obtain ⟨k, hk⟩ := md_p p (A0 r r + (p - num))
    rw [Int.natCast_add, Int.natCast_sub h] at hk
    have e1 : ib (decide (r = r)) = 1 := by simp [ib]
    rw [e1]
    exact ⟨k + 1, by grind⟩
  · unfold ssM
    rw [if_neg e]
    have e1 : ib (decide (j = r)) = 0 := by simp [ib, Ne.symm e]
    rw [e1]
    exact ⟨0, by grind⟩
abbrev iM (A0 : Nat → Nat → Nat) : Nat → Nat → Int := fun r c => (A0 r c : Int)
theorem ss_ker {A0 : Nat → Nat → Nat} {p d num : Nat} (h : num ≤ p) (x : Nat → Int) : (∀ r, r < d → (p : Int) ∣ si (fun j => (ssM A0 p num r j : Int) * x j) (List.range d)) ↔ vq p d (mv (iM A0) d x) (fun t => (num : Int) * x t) := by
  have key : ∀ r, r < d → (p : Int) ∣ si (fun j => (ssM A0 p num r j : Int) * x j) (List.range d) - (mv (iM A0) d x r - (num : Int) * x r) := fun r hr => by
    have h1 : mv (iM A0) d x r - (num : Int) * x r = si (fun j => (A0 r j : Int) * x j - ib (decide (j = r)) * ((num : Int) * x j)) (List.range d) := by
      rw [si_sub, si_one (fun j => (num : Int) * x j) r List.nodup_range (List.mem_range.mpr hr)]
      rfl
    rw [h1]
    refine si_cong fun j _ => ?_
    obtain ⟨k, hk⟩ := ss_c (A0 := A0) h r j
    exact ⟨k * x j, by grind⟩
  constructor
  · intro h2 r hr
    obtain ⟨k1, h3⟩ := key r hr
    obtain ⟨k2, h4⟩ := h2 r hr
    exact ⟨k2 - k1, by grind⟩
  · intro h2 r hr
    obtain ⟨k1, h3⟩ := key r hr
    obtain ⟨k2, h4⟩ := h2 r hr
    have h4 : mv (iM A0) d x r - (num : Int) * x r = (p : Int) * k2 := h4
    exact ⟨k1 + k2, by grind⟩
theorem rr_Xf {S : Nat → Nat → Int} {sb : Nat → Option Nat} {f j : Nat} (h : sb j = none) : rr_X S sb f j = if j = f then 1 else 0 := by
  unfold rr_X
  by_cases e : j = f
  · rw [if_pos e, if_pos e]
  · rw [if_neg e, if_neg e, h]
def frN (d : Nat) (sb : Nat → Option Nat) (q : Nat) : Nat := (rr_fr d sb).getD q 0
theorem frN_mem {d : Nat} {sb : Nat → Option Nat} {q : Nat} (h : q < (rr_fr d sb).length) : frN d sb q < d ∧ sb (frN d sb q) = none := by
  have h1 : frN d sb q ∈ rr_fr d sb := by
    unfold frN
    rw [List.getD_eq_getElem?_getD, List.getElem?_eq_getElem h]
    exact List.getElem_mem h
  have h2 := List.mem_filter.mp h1
  exact ⟨List.mem_range.mp h2.1, of_decide_eq_true h2.2⟩
theorem rr_fr_s (m : Nat) (sb : Nat → Option Nat) : rr_fr (m + 1) sb = rr_fr m sb ++ if sb m = none then [m] else [] := by
  unfold rr_fr
  rw [List.range_succ, List.filter_append]
  by_cases h : sb m = none
  · rw [if_pos h]; simp [h]
  · rw [if_neg h]; simp [h]
theorem rr_fr_pre {sb : Nat → Option Nat} {m : Nat} : ∀ d, m ≤ d → ∃ R, rr_fr d sb = rr_fr m sb ++ R ∧ (∀ x, x ∈ R → m ≤ x) ∧ ((∃ x, m ≤ x ∧ x < d ∧ sb x = none) → R ≠ [])
  | 0, h => ⟨[], by rw [show m = 0 by omega, List.append_nil], fun x hx => (by cases hx), fun ⟨x, _, h2, _⟩ => absurd h2 (Nat.not_lt_zero x)⟩
  | d + 1, h => by
    by_cases e : m = d + 1
    · subst e
      exact ⟨[], by rw [List.append_nil], fun x hx => (by cases hx), fun ⟨x, h1, h2, _⟩ => by omega⟩
    · obtain ⟨R, h1, h2, h3⟩ := rr_fr_pre (sb := sb) (m := m) d (by omega)
      refine ⟨R ++ if sb d = none then [d] else [], by rw [rr_fr_s, h1, List.append_assoc], fun x hx => ?_, fun ⟨x, hx1, hx2, hx3⟩ h9 => ?_⟩
      · rcases List.mem_append.mp hx with hx | hx
        · exact h2 x hx
        · by_cases hs : sb d = none
          · rw [if_pos hs] at hx
            have := List.mem_singleton.mp hx
            omega
          · rw [if_neg hs] at hx; cases hx
      · obtain ⟨h10, h11⟩ := List.append_eq_nil_iff.mp h9
        by_cases hs : x = d
        · subst hs; rw [if_pos hx3] at h11; cases h11
        · exact h3 ⟨x, hx1, by omega, hx3⟩ h10
theorem frN_at {sb : Nat → Option Nat} {d m : Nat} (hm : m < d) (hs : sb m = none) : (rr_fr m sb).length < (rr_fr d sb).length ∧ frN d sb (rr_fr m sb).length = m := by
  obtain ⟨R, h1, _⟩ := rr_fr_pre (sb := sb) (m := m + 1) d hm
  rw [rr_fr_s, if_pos hs] at h1
  constructor
  · rw [h1]; simp
  · unfold frN
    rw [h1, List.append_assoc, List.getD_eq_getElem?_getD, List.getElem?_append_right (Nat.le_refl _), Nat.sub_self]
    rfl
theorem frN_inj {d : Nat} {sb : Nat → Option Nat} {q r : Nat} (hq : q < (rr_fr d sb).length) (hr : r < (rr_fr d sb).length) (h : frN d sb q = frN d sb r) : q = r := by
  unfold frN at h
  rw [List.getD_eq_getElem?_getD, List.getD_eq_getElem?_getD, List.getElem?_eq_getElem hq, List.getElem?_eq_getElem hr] at h
  have hn : (rr_fr d sb).Nodup := List.Pairwise.filter _ List.nodup_range
  rcases Nat.lt_trichotomy q r with h9 | h9 | h9
  · exact absurd h (List.pairwise_iff_getElem.mp hn q r hq hr h9)
  · exact h9
  · exact absurd h.symm (List.pairwise_iff_getElem.mp hn r q hr hq h9)
theorem frN_map {d : Nat} {sb : Nat → Option Nat} : (List.range (rr_fr d sb).length).map (frN d sb) = rr_fr d sb := by
  refine List.ext_getElem (by simp) (fun n h1 h2 => ?_)
  simp [frN, List.getD_eq_getElem?_getD, List.getElem?_eq_getElem h2]
theorem rr_li {p d : Nat} {S : Nat → Nat → Int} {sb : Nat → Option Nat} : li p d (rr_fr d sb).length (fun s => rr_X S sb (frN d sb s)) := by
  intro c hc s hs
  obtain ⟨h1, h2⟩ := frN_mem hs
  have h3 := hc _ h1
  have h4 : si (fun q => c q * rr_X S sb (frN d sb q) (frN d sb s)) (List.range (rr_fr d sb).length) = si (fun q => ib (decide (q = s)) * c q) (List.range (rr_fr d sb).length) := si_congr fun q hq => by
    rw [rr_Xf h2]
    by_cases e : q = s
    · subst e; simp [ib]
    · have : frN d sb s ≠ frN d sb q := fun h9 => e (frN_inj (List.mem_range.mp hq) hs h9.symm)
      simp [ib, e, this]
  have h3 : (p : Int) ∣ si (fun q => c q * rr_X S sb (frN d sb q) (frN d sb s)) (List.range (rr_fr d sb).length) - 0 := h3
  rw [Int.sub_zero, h4, si_one c s List.nodup_range (List.mem_range.mpr hs)] at h3
  exact h3
-- what has been found below a number
abbrev spI (p d : Nat) (A0 : Nat → Nat → Nat) (num f : Nat) (X : Nat → Nat → Int) (ev fs : Nat → Nat) : Prop :=
  (∀ t, t < f → ev t < num ∧ fs t < d ∧ vq p d (mv (iM A0) d (X t)) (fun j => (ev t : Int) * X t j)) ∧ li p d f X ∧
  (∀ c x, c < num → vq p d (mv (iM A0) d x) (fun j => (c : Int) * x j) → sp p d f X x) ∧
  (∀ s t, s < f → t < f → ev s = ev t → X s (fs t) = if s = t then 1 else 0) ∧ (∀ s t, s ≤ t → t < f → ev s ≤ ev t)
def nX (f : Nat) (X : Nat → Nat → Int) (S : Nat → Nat → Int) (sb : Nat → Option Nat) (d : Nat) : Nat → Nat → Int := fun t => if t < f then X t else rr_X S sb (frN d sb (t - f))
def nv {α : Type} (f : Nat) (u v : Nat → α) : Nat → α := fun t => if t < f then u t else v (t - f)
theorem nv_l {α : Type} {f t : Nat} {u v : Nat → α} (h : t < f) : nv f u v t = u t := if_pos h
theorem nv_r {α : Type} {f t : Nat} {u v : Nat → α} (h : f ≤ t) : nv f u v t = v (t - f) := if_neg (by omega)
theorem spI_0 {p d : Nat} {A0 : Nat → Nat → Nat} {X : Nat → Nat → Int} {ev fs : Nat → Nat} : spI p d A0 0 0 X ev fs :=
  ⟨fun t h => absurd h (Nat.not_lt_zero t), fun _ _ s h => absurd h (Nat.not_lt_zero s), fun c _ h => absurd h (Nat.not_lt_zero c), fun s _ h => absurd h (Nat.not_lt_zero s), fun _ t _ h => absurd h (Nat.not_lt_zero t)⟩
theorem spI_step {p d num f : Nat} {A0 : Nat → Nat → Nat} {X : Nat → Nat → Int} {ev fs : Nat → Nat} (hp : isPr p) (hnum : num < p) (h : spI p d A0 num f X ev fs) {S : Nat → Nat → Int} {sb : Nat → Option Nat} (hr : rr p d (fun r c => (ssM A0 p num r c : Int)) S sb) :
    f + (rr_fr d sb).length ≤ d ∧ spI p d A0 (num + 1) (f + (rr_fr d sb).length) (nv f X (fun q => rr_X S sb (frN d sb q))) (nv f ev (fun _ => num)) (nv f fs (frN d sb)) := by
  obtain ⟨h1, h2, h3, h4, h5⟩ := h
  have hX : ∀ q, nv f X (fun q => rr_X S sb (frN d sb q)) (f + q) = rr_X S sb (frN d sb q) := fun q => by rw [nv_r (Nat.le_add_right f q), Nat.add_sub_cancel_left]
  have heig : ∀ q, q < (rr_fr d sb).length → vq p d (mv (iM A0) d (rr_X S sb (frN d sb q))) (fun j => (num : Int) * rr_X S sb (frN d sb q) j) := fun q hq => by
    obtain ⟨g1, g2⟩ := frN_mem hq
    exact (ss_ker (Nat.le_of_lt hnum) _).mp (rr_sol hr g1 g2)
  have hli : li p d (f + (rr_fr d sb).length) (nv f X (fun q => rr_X S sb (frN d sb q))) := by
    refine li_eig hp.2 (a := iM A0) (lam := ev) (mu := num) hnum ?_ (fun s hs => ?_) (fun s hs1 hs2 => ?_) ?_
    · intro c hc
      refine h2 c (fun t ht => ?_)
      have h9 : (p : Int) ∣ si (fun s => c s * nv f X (fun q => rr_X S sb (frN d sb q)) s t) (List.range f) - 0 := hc t ht
      have e9 : si (fun s => c s * nv f X (fun q => rr_X S sb (frN d sb q)) s t) (List.range f) = si (fun s => c s * X s t) (List.range f) := si_congr fun s hs => by rw [nv_l (List.mem_range.mp hs)]
      rw [e9] at h9
      exact h9
    · rw [nv_l hs]; exact ⟨(h1 s hs).1, (h1 s hs).2.2⟩
    · rw [nv_r hs1]; exact heig (s - f) (by omega)
    · have e : (fun s => nv f X (fun q => rr_X S sb (frN d sb q)) (f + s)) = fun s => rr_X S sb (frN d sb s) := funext hX
      rw [e]; exact rr_li
  refine ⟨li_le hp.1 hp.2 hli, fun t ht => ?_, hli, fun c x hc hx => ?_, fun s t hs ht he => ?_, fun s t hst ht => ?_⟩
  · by_cases e : t < f
    · rw [nv_l e, nv_l e, nv_l e]
      exact ⟨Nat.lt_succ_of_lt (h1 t e).1, (h1 t e).2⟩
    · rw [nv_r (by omega), nv_r (by omega), nv_r (by omega)]
      exact ⟨Nat.lt_succ_self num, (frN_mem (by omega)).1, heig (t - f) (by omega)⟩
  · by_cases e : c < num
    · obtain ⟨u, hu⟩ := h3 c x e hx
      refine ⟨fun s => if s < f then u s else 0, fun t ht => ?_⟩
      show (p : Int) ∣ x t - si _ _
      rw [List.range_add, si_app, si_map]
      have e1 : si (fun s => (if s < f then u s else 0) * nv f X (fun q => rr_X S sb (frN d sb q)) s t) (List.range f) = si (fun s => u s * X s t) (List.range f) := si_congr fun s hs => by
        rw [if_pos (List.mem_range.mp hs), nv_l (List.mem_range.mp hs)]
      have e2 : si (fun s => (if f + s < f then u (f + s) else 0) * nv f X (fun q => rr_X S sb (frN d sb q)) (f + s) t) (List.range (rr_fr d sb).length) = 0 := si_z fun s _ => by rw [if_neg (by omega), Int.zero_mul]
      rw [e1, e2, Int.add_zero]
      exact hu t ht
    · have e : c = num := by omega
      subst e
      have hk := rr_ker hr ((ss_ker (Nat.le_of_lt hnum) x).mpr hx)
      refine ⟨fun s => if s < f then 0 else x (frN d sb (s - f)), fun t ht => ?_⟩
      show (p : Int) ∣ x t - si _ _
      rw [List.range_add, si_app, si_map]
      have e1 : si (fun s => (if s < f then 0 else x (frN d sb (s - f))) * nv f X (fun q => rr_X S sb (frN d sb q)) s t) (List.range f) = 0 := si_z fun s hs => by rw [if_pos (List.mem_range.mp hs), Int.zero_mul]
      have e2 : si (fun s => (if f + s < f then 0 else x (frN d sb (f + s - f))) * nv f X (fun q => rr_X S sb (frN d sb q)) (f + s) t) (List.range (rr_fr d sb).length) = si (fun q => x q * rr_X S sb q t) (rr_fr d sb) := by
        rw [← frN_map (d := d) (sb := sb), si_map, frN_map]
        refine si_congr fun s _ => ?_
        rw [if_neg (by omega), hX, Nat.add_sub_cancel_left]
      rw [e1, e2, Int.zero_add]
      exact hk t ht
  · by_cases e1 : s < f
    · by_cases e2 : t < f
      · rw [nv_l e1, nv_l e2] at he
        rw [nv_l e1, nv_l e2]
        exact h4 s t e1 e2 he
      · rw [nv_l e1, nv_r (by omega)] at he
        have := (h1 s e1).1
        omega
    · by_cases e2 : t < f
      · rw [nv_r (by omega), nv_l e2] at he
        have := (h1 t e2).1
        omega
      · rw [nv_r (by omega), nv_r (by omega), rr_Xf (frN_mem (by omega)).2]
        by_cases e3 : s = t
        · rw [if_pos (by rw [e3]), if_pos e3]
        · rw [if_neg (fun h9 => e3 (by have := frN_inj (by omega) (by omega) h9; omega)), if_neg e3]
  · by_cases e2 : t < f
    · rw [nv_l (by omega), nv_l e2]; exact h5 s t hst e2
    · rw [nv_r (by omega) (t := t)]
      by_cases e1 : s < f
      · rw [nv_l e1]; exact Nat.le_of_lt (h1 s e1).1
      · rw [nv_r (by omega)]; exact Nat.le_refl num

