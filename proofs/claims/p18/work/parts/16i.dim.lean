-- pure: independent vectors, spanning vectors
def li (p d f : Nat) (U : Nat → Nat → Int) : Prop := ∀ c : Nat → Int, vq p d (fun t => si (fun s => c s * U s t) (List.range f)) (fun _ => 0) → ∀ s, s < f → (p : Int) ∣ c s
def sp (p d f : Nat) (U : Nat → Nat → Int) (v : Nat → Int) : Prop := ∃ c : Nat → Int, vq p d v (fun t => si (fun s => c s * U s t) (List.range f))
theorem li_le {p : Nat} (hp1 : 1 < p) (hp : ∀ m, m ∣ p → m = 1 ∨ m = p) {d f : Nat} {U : Nat → Nat → Int} (h : li p d f U) : f ≤ d := Classical.byContradiction fun hn => by
  obtain ⟨x, ⟨s, hs, hx⟩, h2⟩ := ln_hs hp1 hp d (List.range f) (fun t s => U s t) List.nodup_range (by rw [List.length_range]; omega)
  refine hx (h x (fun t ht => ?_) s (List.mem_range.mp hs))
  show (p : Int) ∣ si (fun s => x s * U s t) (List.range f) - 0
  rw [Int.sub_zero]
  have h3 : si (fun s => x s * U s t) (List.range f) = si (fun s => U s t * x s) (List.range f) := si_congr fun s _ => Int.mul_comm _ _
  rw [h3]
  exact h2 t ht
theorem li_sp {p : Nat} (hp1 : 1 < p) (hp : ∀ m, m ∣ p → m = 1 ∨ m = p) {d : Nat} {U : Nat → Nat → Int} (h : li p d d U) (v : Nat → Int) : sp p d d U v := by
  obtain ⟨x, ⟨s, hs, hx⟩, h2⟩ := ln_hs hp1 hp d (List.range (d + 1)) (fun t s => if s = d then v t else U s t) List.nodup_range (by rw [List.length_range]; omega)
  have h3 : ∀ t, t < d → (p : Int) ∣ si (fun s => x s * U s t) (List.range d) + x d * v t := by
    intro t ht
    have h4 := h2 t ht
    rw [List.range_succ, si_app, si_cons, si_nil] at h4
    have h5 : si (fun s => (if s = d then v t else U s t) * x s) (List.range d) = si (fun s => x s * U s t) (List.range d) := si_congr fun s hs => by
      have := List.mem_range.mp hs
      rw [if_neg (by omega), Int.mul_comm]
    rw [h5] at h4
    simp only [if_true] at h4
    rw [Int.add_zero, Int.mul_comm (v t)] at h4
    exact h4
  have hxd : ¬ (p : Int) ∣ x d := fun hd => by
    have h6 : ∀ s, s < d → (p : Int) ∣ x s := h x (fun t ht => by
      show (p : Int) ∣ si (fun s => x s * U s t) (List.range d) - 0
      rw [Int.sub_zero]
      have h7 := Int.dvd_sub (h3 t ht) (Int.dvd_mul_of_dvd_left (c := v t) hd)
      rw [Int.add_sub_cancel] at h7
      exact h7)
    have hs' := List.mem_range.mp hs
    by_cases e : s = d
    · subst e; exact hx hd
    · exact hx (h6 s (by omega))
  obtain ⟨b, hb⟩ := nt_inv hp hxd
  refine ⟨fun s => -(b * x s), fun t ht => ?_⟩
  have h8 : si (fun s => -(b * x s) * U s t) (List.range d) = -b * si (fun s => x s * U s t) (List.range d) := by
    rw [← si_mul]
    exact si_congr fun s _ => by grind
  show (p : Int) ∣ v t - si (fun s => -(b * x s) * U s t) (List.range d)
  rw [h8]
  obtain ⟨q, hq⟩ := h3 t ht
  obtain ⟨r, hr⟩ := hb
  refine ⟨b * q - r * v t, ?_⟩
  grind
theorem sp_ge {p : Nat} (hp1 : 1 < p) (hp : ∀ m, m ∣ p → m = 1 ∨ m = p) {d f : Nat} {U : Nat → Nat → Int} (h : ∀ v : Nat → Int, sp p d f U v) : d ≤ f := Classical.byContradiction fun hn => by
  obtain ⟨y, ⟨s, hs, hy⟩, h2⟩ := ln_hs hp1 hp f (List.range d) (fun s t => U s t) List.nodup_range (by rw [List.length_range]; omega)
  apply hy
  obtain ⟨c, hc⟩ := h (fun t => ib (decide (t = s)))
  have h3 : y s = si (fun t => ib (decide (t = s)) * y t) (List.range d) := (si_one y s List.nodup_range hs).symm
  have h4 : (p : Int) ∣ si (fun t => ib (decide (t = s)) * y t) (List.range d) - si (fun t => si (fun r => c r * U r t) (List.range f) * y t) (List.range d) := si_cong fun t ht => by
    rw [← Int.sub_mul]
    exact Int.dvd_mul_of_dvd_left (hc t (List.mem_range.mp ht))
  have h5 : (p : Int) ∣ si (fun t => si (fun r => c r * U r t) (List.range f) * y t) (List.range d) := by
    have h6 : si (fun t => si (fun r => c r * U r t) (List.range f) * y t) (List.range d) = si (fun r => c r * si (fun t => U r t * y t) (List.range d)) (List.range f) := by
      have h7 : ∀ t, t ∈ List.range d → si (fun r => c r * U r t) (List.range f) * y t = si (fun r => c r * (U r t * y t)) (List.range f) := fun t _ => by
        rw [← si_mulr]
        exact si_congr fun r _ => Int.mul_assoc _ _ _
      rw [si_congr h7, si_swap]
      exact si_congr fun r _ => si_mul _ _ _
    rw [h6]
    exact si_dvd fun r hr => Int.dvd_mul_of_dvd_right (h2 r (List.mem_range.mp hr))
  rw [h3]
  have h8 := Int.dvd_add h4 h5
  rw [Int.sub_add_cancel] at h8
  exact h8
-- eigenvectors of other numbers come beside those found
theorem li_eig {p : Nat} (hp : ∀ m, m ∣ p → m = 1 ∨ m = p) {a : Nat → Nat → Int} {d f g : Nat} {U : Nat → Nat → Int} {lam : Nat → Nat} {mu : Nat} (hmu : mu < p)
    (h : li p d f U) (he : ∀ s, s < f → lam s < mu ∧ vq p d (mv a d (U s)) (fun t => (lam s : Int) * U s t)) (he2 : ∀ s, f ≤ s → s < f + g → vq p d (mv a d (U s)) (fun t => (mu : Int) * U s t))
    (h2 : li p d g (fun s => U (f + s))) : li p d (f + g) U := by
  intro c hc
  have hr : List.range (f + g) = List.range f ++ (List.range g).map (fun s => f + s) := List.range_add
  have hsum : ∀ F : Nat → Int, si F (List.range (f + g)) = si F (List.range f) + si (fun s => F (f + s)) (List.range g) := fun F => by rw [hr, si_app, si_map]
  have h3 : ∀ s, s < f → (p : Int) ∣ c s * ((lam s : Int) - (mu : Int)) := by
    refine h (fun s => c s * ((lam s : Int) - (mu : Int))) (fun t ht => ?_)
    show (p : Int) ∣ si (fun s => c s * ((lam s : Int) - (mu : Int)) * U s t) (List.range f) - 0
    -- a - mu of the sum
    have h4 := mv_cong (p := p) a hc d t ht
    have h5 : mv a d (fun _ => 0) t = 0 := si_z fun j _ => Int.mul_zero _
    have h6 : mv a d (fun t => si (fun s => c s * U s t) (List.range (f + g))) t = si (fun s => c s * mv a d (U s) t) (List.range (f + g)) := by
      rw [mv_si]
      exact si_congr fun s _ => mv_mul _ _ _ _ _
    rw [h5, h6, Int.sub_zero] at h4
    have h7 : (p : Int) ∣ (mu : Int) * si (fun s => c s * U s t) (List.range (f + g)) - (mu : Int) * 0 := vq_mul (mu : Int) hc t ht
    rw [Int.mul_zero, Int.sub_zero, ← si_mul] at h7
    have h8 := Int.dvd_sub h4 h7
    rw [← si_sub, hsum] at h8
    have h9 : (p : Int) ∣ si (fun s => c (f + s) * mv a d (U (f + s)) t - (mu : Int) * (c (f + s) * U (f + s) t)) (List.range g) := si_dvd fun s hs => by
      have h10 := vq_mul (c (f + s)) (he2 (f + s) (by omega) (by have := List.mem_range.mp hs; omega)) t ht
      have h11 : c (f + s) * mv a d (U (f + s)) t - (mu : Int) * (c (f + s) * U (f + s) t) = c (f + s) * mv a d (U (f + s)) t - c (f + s) * ((mu : Int) * U (f + s) t) := by grind
      rw [h11]
      exact h10
    have h12 := Int.dvd_sub h8 h9
    rw [Int.add_sub_cancel] at h12
    rw [Int.sub_zero]
    have h13 : (p : Int) ∣ si (fun s => c s * ((lam s : Int) - (mu : Int)) * U s t) (List.range f) - si (fun s => c s * mv a d (U s) t - (mu : Int) * (c s * U s t)) (List.range f) := si_cong fun s hs => by
      obtain ⟨r, hr9⟩ := (he s (List.mem_range.mp hs)).2 t ht
      exact ⟨-(c s * r), by grind⟩
    have h14 := Int.dvd_add h13 h12
    rw [Int.sub_add_cancel] at h14
    exact h14
  have h15 : ∀ s, s < f → (p : Int) ∣ c s := fun s hs => by
    rcases nt_mul hp (h3 s hs) with h16 | h16
    · exact h16
    · exfalso
      have hlt := (he s hs).1
      have h17 := Int.dvd_neg.mpr h16
      have h18 : (p : Int) ≤ -((lam s : Int) - (mu : Int)) := Int.le_of_dvd (by omega) h17
      omega
  have h19 : ∀ s, s < g → (p : Int) ∣ c (f + s) := by
    refine h2 (fun s => c (f + s)) (fun t ht => ?_)
    have h20 : (p : Int) ∣ si (fun s => c s * U s t) (List.range (f + g)) - 0 := hc t ht
    rw [Int.sub_zero, hsum] at h20
    have h21 : (p : Int) ∣ si (fun s => c s * U s t) (List.range f) := si_dvd fun s hs => Int.dvd_mul_of_dvd_left (h15 s (List.mem_range.mp hs))
    have h22 := Int.dvd_sub h20 h21
    rw [Int.add_comm, Int.add_sub_cancel] at h22
    show (p : Int) ∣ si (fun s => c (f + s) * U (f + s) t) (List.range g) - 0
    rw [Int.sub_zero]
    exact h22
  intro s hs
  by_cases e : s < f
  · exact h15 s e
  · have := h19 (s - f) (by omega)
    rwa [show f + (s - f) = s by omega] at this
