-- pure: a block of the basis, and what a class does on it
def ph (bs : Nat → Nat → Nat) (fr d : Nat) (c : Nat → Int) (l : Nat) : Int := si (fun j => c j * (bs (fr + j) l : Int)) (List.range d)
abbrev bV (bs : Nat → Nat → Nat) (r : Nat) : Nat → Int := fun l => (bs r l : Int)
abbrev Tm (Am : Nat → Nat → Nat → Nat) (k x : Nat) (v : Nat → Int) : Nat → Int := mv (fun j l => (Am x j l : Int)) k v
def pvO (k : Nat) (bs : Nat → Nat → Nat) (pv : Nat → Nat) (fr d : Nat) : Prop := ∀ s t, s < d → t < d → pv (fr + t) < k ∧ bs (fr + s) (pv (fr + t)) = if s = t then 1 else 0
def inO (p k : Nat) (Am : Nat → Nat → Nat → Nat) (bs : Nat → Nat → Nat) (fr d : Nat) : Prop := ∀ x j, x < k → j < d → sp p k d (fun s => bV bs (fr + s)) (Tm Am k x (bV bs (fr + j)))
theorem ph_pv {k fr d : Nat} {bs : Nat → Nat → Nat} {pv : Nat → Nat} (h : pvO k bs pv fr d) (c : Nat → Int) {t : Nat} (ht : t < d) : ph bs fr d c (pv (fr + t)) = c t := by
  unfold ph
  have e : si (fun j => c j * (bs (fr + j) (pv (fr + t)) : Int)) (List.range d) = si (fun j => ib (decide (j = t)) * c j) (List.range d) := si_congr fun j hj => by
    rw [(h j t (List.mem_range.mp hj) ht).2]
    by_cases e : j = t
    · simp [ib, e]
    · simp [ib, e]
  rw [e, si_one c t List.nodup_range (List.mem_range.mpr ht)]
theorem ph_inj {p k fr d : Nat} {bs : Nat → Nat → Nat} {pv : Nat → Nat} (h : pvO k bs pv fr d) {c c' : Nat → Int} (he : vq p k (ph bs fr d c) (ph bs fr d c')) : vq p d c c' := fun t ht => by
  have h1 := he (pv (fr + t)) (h t t ht ht).1
  rw [ph_pv h c ht, ph_pv h c' ht] at h1
  exact h1
theorem ph_cong {p k fr d : Nat} {bs : Nat → Nat → Nat} {c c' : Nat → Int} (he : vq p d c c') : vq p k (ph bs fr d c) (ph bs fr d c') := fun l _ => si_cong fun j hj => by
  obtain ⟨q, hq⟩ := he j (List.mem_range.mp hj)
  exact ⟨q * (bs (fr + j) l : Int), by grind⟩
theorem ac_ok {p k fr d x : Nat} {Am : Nat → Nat → Nat → Nat} {bs : Nat → Nat → Nat} {pv : Nat → Nat} (t j : Nat) : (p : Int) ∣ (acM p k (Am x) pv bs fr t j : Int) - Tm Am k x (bV bs (fr + j)) (pv (fr + t)) := acS_ok p (fun l => Am x (pv (fr + t)) l) (fun l => bs (fr + j) l) k
theorem ac_b {p k fr d x : Nat} {Am : Nat → Nat → Nat → Nat} {bs : Nat → Nat → Nat} {pv : Nat → Nat} (hp : pvO k bs pv fr d) (hi : inO p k Am bs fr d) (hx : x < k) {j : Nat} (hj : j < d) : vq p k (Tm Am k x (bV bs (fr + j))) (ph bs fr d (fun s => (acM p k (Am x) pv bs fr s j : Int))) := by
  obtain ⟨u, hu⟩ := hi x j hx hj
  have hu : vq p k (Tm Am k x (bV bs (fr + j))) (ph bs fr d u) := hu
  refine vq_trans hu (ph_cong fun t ht => ?_)
  have h1 := hu (pv (fr + t)) (hp t t ht ht).1
  rw [ph_pv hp u ht] at h1
  obtain ⟨q1, h1⟩ := h1
  obtain ⟨q2, h2⟩ := ac_ok (p := p) (k := k) (fr := fr) (d := d) (x := x) (Am := Am) (bs := bs) (pv := pv) t j
  exact ⟨-(q1 + q2), by grind⟩
theorem ac_ph {p k fr d x : Nat} {Am : Nat → Nat → Nat → Nat} {bs : Nat → Nat → Nat} {pv : Nat → Nat} (hp : pvO k bs pv fr d) (hi : inO p k Am bs fr d) (hx : x < k) (c : Nat → Int) : vq p k (Tm Am k x (ph bs fr d c)) (ph bs fr d (mv (iM (acM p k (Am x) pv bs fr)) d c)) := by
  have e1 : ∀ q, Tm Am k x (ph bs fr d c) q = si (fun j => c j * Tm Am k x (bV bs (fr + j)) q) (List.range d) := fun q => by
    have := mv_si (fun j l => (Am x j l : Int)) k (fun j l => c j * (bs (fr + j) l : Int)) (List.range d) q
    refine this.trans (si_congr fun j _ => mv_mul _ _ _ _ _)
  have e2 : ∀ q, ph bs fr d (mv (iM (acM p k (Am x) pv bs fr)) d c) q = si (fun j => c j * ph bs fr d (fun s => (acM p k (Am x) pv bs fr s j : Int)) q) (List.range d) := fun q => by
    unfold ph mv
    have e3 : ∀ s, si (fun j => (acM p k (Am x) pv bs fr s j : Int) * c j) (List.range d) * (bs (fr + s) q : Int) = si (fun j => c j * ((acM p k (Am x) pv bs fr s j : Int) * (bs (fr + s) q : Int))) (List.range d) := fun s => by
      rw [← si_mulr]
      exact si_congr fun j _ => by grind
    rw [si_congr fun s _ => e3 s, si_swap]
    exact si_congr fun j _ => si_mul _ _ _
  intro q hq
  rw [e1, e2]
  refine si_cong fun j hj => ?_
  obtain ⟨z, hz⟩ := ac_b hp hi hx (List.mem_range.mp hj) q hq
  exact ⟨c j * z, by grind⟩
theorem it_ph {p k fr d x : Nat} {Am : Nat → Nat → Nat → Nat} {bs : Nat → Nat → Nat} {pv : Nat → Nat} (hp : pvO k bs pv fr d) (hi : inO p k Am bs fr d) (hx : x < k) (c : Nat → Int) : ∀ n, vq p k (fa_it (Tm Am k x) n (ph bs fr d c)) (ph bs fr d (fa_it (mv (iM (acM p k (Am x) pv bs fr)) d) n c)) := by
  intro n
  induction n with
  | zero => exact vq_rfl _
  | succ n ih =>
    rw [fa_succ, fa_succ]
    exact vq_trans (mv_cong _ ih k) (ac_ph hp hi hx _)
theorem ac_full {p k fr d x : Nat} {Am : Nat → Nat → Nat → Nat} {bs : Nat → Nat → Nat} {pv : Nat → Nat} (hp : pvO k bs pv fr d) (hi : inO p k Am bs fr d) (hx : x < k) (hT : ∀ v : Nat → Int, vq p k (fa_it (Tm Am k x) p v) (Tm Am k x v)) (v : Nat → Int) : vq p d (fa_it (mv (iM (acM p k (Am x) pv bs fr)) d) p v) (mv (iM (acM p k (Am x) pv bs fr)) d v) :=
  ph_inj hp (vq_trans (vq_symm (it_ph hp hi hx v p)) (vq_trans (hT _) (ac_ph hp hi hx v)))
theorem sm_eq {p n m : Nat} (hn : n < p) (hm : m < p) (h : (p : Int) ∣ (n : Int) - (m : Int)) : n = m := by
  obtain ⟨q, hq⟩ := h
  have h1 : ((n : Int) - m) % p = 0 := by rw [hq]; exact Int.mul_emod_right _ _
  rcases Nat.le_total n m with h2 | h2
  · have h3 : (p : Int) ∣ ((m - n : Nat) : Int) := ⟨-q, by rw [Int.natCast_sub h2]; grind⟩
    have h4 := Int.natCast_dvd_natCast.mp h3
    rcases Nat.eq_zero_or_pos (m - n) with h5 | h5
    · omega
    · have := Nat.le_of_dvd h5 h4; omega
  · have h3 : (p : Int) ∣ ((n - m : Nat) : Int) := ⟨q, by rw [Int.natCast_sub h2]; exact hq⟩
    have h4 := Int.natCast_dvd_natCast.mp h3
    rcases Nat.eq_zero_or_pos (n - m) with h5 | h5
    · omega
    · have := Nat.le_of_dvd h5 h4; omega
theorem run_sp {p d num t0 e : Nat} {A0 : Nat → Nat → Nat} {X : Nat → Nat → Int} {ev fs : Nat → Nat} (hp : isPr p) (hnp : num ≤ p) (h : spI p d A0 num d X ev fs) (h0 : t0 < e) (he : e ≤ d) (hall : ∀ s, s < d → ev s = ev t0 → t0 ≤ s ∧ s < e) {c : Nat → Int} (hc : vq p d (mv (iM A0) d c) (fun j => (ev t0 : Int) * c j)) : ∃ u : Nat → Int, vq p d c (fun j => si (fun q => u q * X (t0 + q) j) (List.range (e - t0))) := by
  obtain ⟨w, hw⟩ := li_sp hp.1 hp.2 h.2.1 c
  have hlt : ∀ s, s < d → ev s < p := fun s hs => Nat.lt_of_lt_of_le (h.1 s hs).1 hnp
  have hz : ∀ s, s < d → (p : Int) ∣ w s * ((ev s : Int) - (ev t0 : Int)) := by
    refine h.2.1 (fun s => w s * ((ev s : Int) - (ev t0 : Int))) (fun t ht => ?_)
    show (p : Int) ∣ si (fun s => w s * ((ev s : Int) - (ev t0 : Int)) * X s t) (List.range d) - 0
    obtain ⟨q1, h1⟩ := hc t ht
    obtain ⟨q2, h2⟩ := hw t ht
    have h3 := mv_cong (iM A0) hw d t ht
    rw [mv_si] at h3
    obtain ⟨q3, h3⟩ := h3
    have h4 : (p : Int) ∣ si (fun s => mv (iM A0) d (fun j => w s * X s j) t) (List.range d) - si (fun s => w s * ((ev s : Int) * X s t)) (List.range d) := si_cong fun s hs => by
      obtain ⟨q5, h5⟩ := (h.1 s (List.mem_range.mp hs)).2.2 t ht
      rw [mv_mul]
      exact ⟨w s * q5, by grind⟩
    obtain ⟨q4, h4⟩ := h4
    have h6 : si (fun s => w s * ((ev s : Int) - (ev t0 : Int)) * X s t) (List.range d) = si (fun s => w s * ((ev s : Int) * X s t)) (List.range d) - (ev t0 : Int) * si (fun s => w s * X s t) (List.range d) := by
      rw [← si_mul, ← si_sub]
      exact si_congr fun s _ => by grind
    rw [h6]
    exact ⟨q1 - q3 - q4 + (ev t0 : Int) * q2, by grind⟩
  have hw0 : ∀ s, s < d → ¬ (t0 ≤ s ∧ s < e) → (p : Int) ∣ w s := fun s hs hn => by
    rcases nt_mul hp.2 (hz s hs) with h1 | h1
    · exact h1
    · exact absurd (hall s hs (sm_eq (hlt s hs) (hlt t0 (by omega)) h1)) hn
  refine ⟨fun q => w (t0 + q), fun t ht => ?_⟩
  have hsum : si (fun s => w s * X s t) (List.range d) = si (fun s => w s * X s t) (List.range t0) + si (fun q => w (t0 + q) * X (t0 + q) t) (List.range (e - t0)) + si (fun q => w (e + q) * X (e + q) t) (List.range (d - e)) := by
    have e1 : d = t0 + (e - t0) + (d - e) := by omega
    have e2 : t0 + (e - t0) = e := by omega
    conv => lhs; rw [e1]
    rw [List.range_add, List.range_add, si_app, si_app, si_map, si_map, e2]
  obtain ⟨q1, h1⟩ := hw t ht
  have h1 : c t - si (fun s => w s * X s t) (List.range d) = (p : Int) * q1 := h1
  have hA : (p : Int) ∣ si (fun s => w s * X s t) (List.range t0) := si_dvd fun s hs => by
    have := List.mem_range.mp hs
    exact Int.dvd_mul_of_dvd_left (hw0 s (by omega) (by omega))
  have hB : (p : Int) ∣ si (fun q => w (e + q) * X (e + q) t) (List.range (d - e)) := si_dvd fun s hs => by
    have := List.mem_range.mp hs
    exact Int.dvd_mul_of_dvd_left (hw0 (e + s) (by omega) (by omega))
  obtain ⟨q2, hA⟩ := hA
  obtain ⟨q3, hB⟩ := hB
  exact ⟨q1 + q2 + q3, by grind⟩

