-- pure: what the rows span; the end of the splitting
theorem sp_mul {p d f : Nat} {X : Nat → Nat → Int} {F : Nat → Int} (c : Int) (h : sp p d f X F) : sp p d f X (fun t => c * F t) := by
  obtain ⟨u, hu⟩ := h
  refine ⟨fun s => c * u s, vq_trans (vq_mul c hu) (vq_eq fun t _ => ?_)⟩
  show c * si (fun s => u s * X s t) (List.range f) = _
  rw [← si_mul]
  exact si_congr fun s _ => by grind
theorem sp_vq {p d f : Nat} {X : Nat → Nat → Int} {F G : Nat → Int} (h : sp p d f X F) (he : vq p d G F) : sp p d f X G := by
  obtain ⟨u, hu⟩ := h
  exact ⟨u, vq_trans he hu⟩
theorem sp_tr {p k : Nat} {b b' : Nat → Nat → Int} (h : ∀ j, j < k → sp p k k b' (b j)) (ha : ∀ v, sp p k k b v) (v : Nat → Int) : sp p k k b' v := by
  obtain ⟨c, hc⟩ := ha v
  exact sp_vq (sp_sum (F := fun j t => c j * b j t) (n := k) fun j hj => sp_mul (c j) (h j hj)) hc
theorem sp_self {p d f : Nat} {X : Nat → Nat → Int} {j : Nat} (hj : j < f) : sp p d f X (X j) := by
  refine ⟨fun s => ib (decide (s = j)), vq_eq fun t _ => ?_⟩
  exact (si_one (fun s => X s t) j List.nodup_range (List.mem_range.mpr hj)).symm
theorem sp_part {p k fr d : Nat} {b : Nat → Nat → Int} (hk : fr + d ≤ k) {F : Nat → Int} {c : Nat → Int} (h : vq p k F (fun l => si (fun s => c s * b (fr + s) l) (List.range d))) : sp p k k b F := by
  refine sp_vq (sp_sum (F := fun s l => c s * b (fr + s) l) (n := d) fun s hs => ?_) h
  exact sp_mul (c s) (sp_self (X := b) (by omega))
theorem cov_1 {P : Nat → Nat → Prop} {h : Nat → Int32} (hP : ∀ f d, P f d → d = 1) : ∀ (ds : List Nat) {fr to : Nat}, cov P h fr ds to → ∀ r, fr ≤ r → r < to → P r 1
  | [], _, _, e, r, h1, h2 => by have e : _ = _ := e; omega
  | d :: ds, fr, to, e, r, h1, h2 => by
    have hd := hP fr d e.2.1
    subst hd
    by_cases e9 : r = fr
    · rw [e9]; exact e.2.1
    · exact cov_1 hP ds e.2.2 r (by omega) h2
-- a row that is scalar for all classes
theorem ln_0 {p k : Nat} {Am : Nat → Nat → Nat → Nat} (hk : 0 < k) (hone : ∀ x l, x < k → l < k → Am x 0 l = if l = x then 1 else 0) {u : Nat → Int} {x : Nat} (hx : x < k) {lam : Int} (h : vq p k (Tm Am k x u) (fun l => lam * u l)) : (p : Int) ∣ u x - lam * u 0 := by
  have h1 := h 0 hk
  have e : Tm Am k x u 0 = u x := by
    have e1 : si (fun l => (Am x 0 l : Int) * u l) (List.range k) = si (fun l => ib (decide (l = x)) * u l) (List.range k) := si_congr fun l hl => by
      rw [hone x l hx (List.mem_range.mp hl)]
      by_cases e9 : l = x
      · simp [ib, e9]
      · simp [ib, e9]
    show si (fun l => (Am x 0 l : Int) * u l) (List.range k) = u x
    rw [e1, si_one u x List.nodup_range (List.mem_range.mpr hx)]
  rw [e] at h1
  exact h1
theorem blO_nz {p k fr d : Nat} {Am : Nat → Nat → Nat → Nat} {bs : Nat → Nat → Nat} {pv : Nat → Nat} (hp1 : 1 < p) (hk : 0 < k) (hone : ∀ x l, x < k → l < k → Am x 0 l = if l = x then 1 else 0) (h : blO p k Am bs pv k fr d) {j : Nat} (hj : j < d) : ¬ (p : Int) ∣ (bs (fr + j) 0 : Int) := fun h9 => by
  obtain ⟨_, h2, _, h4⟩ := h
  obtain ⟨hpk, hv⟩ := h2 j j hj hj
  rw [if_pos rfl] at hv
  obtain ⟨lam, hl⟩ := h4 _ hpk
  have h5 := ln_0 hk hone hpk (hl j hj)
  obtain ⟨q1, h5⟩ := h5
  obtain ⟨q2, h9⟩ := h9
  have h6 : (bs (fr + j) (pv (fr + j)) : Int) = 1 := by rw [hv]; rfl
  have h7 : (p : Int) ∣ 1 := ⟨q1 + lam * q2, by have h5 : (bs (fr + j) (pv (fr + j)) : Int) - lam * (bs (fr + j) 0 : Int) = p * q1 := h5; grind⟩
  have := Int.le_of_dvd (by decide) h7
  omega
theorem blO_one {p k fr d : Nat} {Am : Nat → Nat → Nat → Nat} {bs : Nat → Nat → Nat} {pv : Nat → Nat} (hp : isPr p) (hk : 0 < k) (hone : ∀ x l, x < k → l < k → Am x 0 l = if l = x then 1 else 0) (h : blO p k Am bs pv k fr d) : d = 1 := Classical.byContradiction fun hn => by
  have hd : 1 < d := by have := h.1; omega
  have hnz := blO_nz hp.1 hk hone h (j := 1) hd
  obtain ⟨_, h2, _, h4⟩ := h
  obtain ⟨hpk, hv⟩ := h2 0 0 (by omega) (by omega)
  obtain ⟨_, hv1⟩ := h2 1 0 hd (by omega)
  rw [if_pos rfl] at hv
  rw [if_neg (by decide)] at hv1
  obtain ⟨lam, hl⟩ := h4 _ hpk
  obtain ⟨q1, h5⟩ := ln_0 hk hone hpk (hl 0 (by omega))
  obtain ⟨q2, h6⟩ := ln_0 hk hone hpk (hl 1 hd)
  have e1 : (bs (fr + 0) (pv (fr + 0)) : Int) = 1 := by rw [hv]; rfl
  have e2 : (bs (fr + 1) (pv (fr + 0)) : Int) = 0 := by rw [hv1]; rfl
  have h5 : (bs (fr + 0) (pv (fr + 0)) : Int) - lam * (bs (fr + 0) 0 : Int) = p * q1 := h5
  have h6 : (bs (fr + 1) (pv (fr + 0)) : Int) - lam * (bs (fr + 1) 0 : Int) = p * q2 := h6
  rw [e1] at h5
  rw [e2] at h6
  have h7 : (p : Int) ∣ lam * (bs (fr + 1) 0 : Int) := ⟨-q2, by grind⟩
  rcases nt_mul hp.2 h7 with h8 | h8
  · obtain ⟨q3, h8⟩ := h8
    have h9 : (p : Int) ∣ 1 := ⟨q1 + q3 * (bs (fr + 0) 0 : Int), by grind⟩
    have := Int.le_of_dvd (by decide) h9
    have := hp.1
    omega
  · exact hnz h8

