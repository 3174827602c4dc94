-- the whole space as one block
abbrev e1M : Nat → Nat → Nat := fun r l => if r = l then 1 else 0
theorem e_sum {k l : Nat} (c : Nat → Int) (hl : l < k) : si (fun s => c s * (e1M s l : Int)) (List.range k) = c l := by
  have e : si (fun s => c s * (e1M s l : Int)) (List.range k) = si (fun s => ib (decide (s = l)) * c s) (List.range k) := si_congr fun s _ => by
    show c s * ((if s = l then 1 else 0 : Nat) : Int) = _
    by_cases e9 : s = l
    · simp [ib, e9]
    · simp [ib, e9]
  rw [e, si_one c l List.nodup_range (List.mem_range.mpr hl)]
theorem e_sp {p k : Nat} (v : Nat → Int) : sp p k k (bV e1M) v := ⟨v, vq_eq fun t ht => (e_sum v ht).symm⟩
theorem blO_e {p k : Nat} {Am : Nat → Nat → Nat → Nat} (hk : 0 < k) (hid : ∀ q l, q < k → l < k → Am 0 q l = if l = q then 1 else 0) : blO p k Am e1M (fun c => c) 1 0 k := by
  refine ⟨hk, fun s t hs ht => ?_, fun x j hx hj => ?_, fun y hy => ⟨1, fun j hj => ?_⟩⟩
  · rw [Nat.zero_add, Nat.zero_add]; exact ⟨ht, rfl⟩
  · have h1 : (fun s => bV e1M (0 + s)) = bV e1M := funext fun s => by rw [Nat.zero_add]
    rw [h1]; exact e_sp _
  · have ey : y = 0 := by omega
    subst ey
    refine vq_eq fun q hq => ?_
    rw [Int.one_mul]
    have e1 : si (fun l => (Am 0 q l : Int) * bV e1M (0 + j) l) (List.range k) = si (fun l => ib (decide (l = q)) * bV e1M (0 + j) l) (List.range k) := si_congr fun l hl => by
      rw [hid q l hq (List.mem_range.mp hl)]
      by_cases e9 : l = q
      · simp [ib, e9]
      · simp [ib, e9]
    show si (fun l => (Am 0 q l : Int) * bV e1M (0 + j) l) (List.range k) = _
    rw [e1, si_one (bV e1M (0 + j)) q List.nodup_range (List.mem_range.mpr hq)]
theorem mx_r {u v : Nat} (h : v ≤ u) (hu : u < 2 ^ 31) : (if nI u < nI v then nI v else nI u) = nI u := if_neg (nI_nlt h hu)
def cmO (p k : Nat) (Am : Nat → Nat → Nat → Nat) (W : Nat → Nat → Nat) : Prop := (∀ r, r < k → W r 0 = 1 ∧ ∀ x q, x < k → q < k → (p : Int) ∣ (W r x : Int) * (W r q : Int) - si (fun l => (Am x q l : Int) * (W r l : Int)) (List.range k)) ∧ ∀ v, sp p k k (bV W) v
theorem al11 {A w v b : Int} : A * w - v * (A * b) = A * (w - b * v) := by grind
theorem al7 {p z1 z3 z4 lam bx b0 v wx : Int} (h1 : bx - lam * b0 = p * z1) (h3 : v * b0 - 1 = p * z3) (h4 : wx - bx * v = p * z4) : wx = lam + p * (z4 + z1 * v + lam * z3) := by grind
theorem al8 {p s v t lam bq z2 z6 : Int} (h2 : t - lam * bq = p * z2) (h6 : s - v * t = p * z6) : s = lam * (bq * v) + p * (z6 + v * z2) := by grind
theorem al9 {p lam Y W bq v wq z5 : Int} (h5 : wq - bq * v = p * z5) : (lam + p * Y) * wq - (lam * (bq * v) + p * W) = p * (Y * wq + lam * z5 - W) := by grind
theorem al10 {p w b v b0 z1 z2 : Int} (h1 : w - b * v = p * z1) (h2 : v * b0 - 1 = p * z2) : b - b0 * w = p * (-(b0 * z1) - b * z2) := by grind
theorem cm_sc {p k : Nat} {Am : Nat → Nat → Nat → Nat} {bs : Nat → Nat → Nat} {pv v : Nat → Nat} (hp : isPr p) (hk : 0 < k) (hone : ∀ x l, x < k → l < k → Am x 0 l = if l = x then 1 else 0) (hbl : ∀ r, r < k → blO p k Am bs pv k r 1) (hsp : ∀ u, sp p k k (bV bs) u) (hv : ∀ r, r < k → v r < p ∧ (p : Int) ∣ (v r : Int) * (bs r 0 : Int) - 1) : cmO p k Am (fun r c => bs r c * v r % p) := by
  have hmd : ∀ r c, (p : Int) ∣ ((bs r c * v r % p : Nat) : Int) - (bs r c : Int) * (v r : Int) := fun r c => by
    have := md_p p (bs r c * v r)
    rw [Int.natCast_mul] at this
    exact this
  refine ⟨fun r hr => ⟨inv_m hp.1 (hv r hr).2, fun x q hx hq => ?_⟩, ?_⟩
  · obtain ⟨lam, hl⟩ := (hbl r hr).2.2.2 x hx
    have hl := hl 0 (by omega)
    rw [Nat.add_zero] at hl
    obtain ⟨z1, h1⟩ := ln_0 hk hone hx hl
    obtain ⟨z2, h2⟩ := hl q hq
    obtain ⟨z3, h3⟩ := (hv r hr).2
    obtain ⟨z4, h4⟩ := hmd r x
    obtain ⟨z5, h5⟩ := hmd r q
    have h6 : (p : Int) ∣ si (fun l => (Am x q l : Int) * ((bs r l * v r % p : Nat) : Int)) (List.range k) - (v r : Int) * Tm Am k x (bV bs r) q := by
      show (p : Int) ∣ _ - (v r : Int) * si (fun l => (Am x q l : Int) * (bs r l : Int)) (List.range k)
      rw [← si_mul]
      refine si_cong fun l _ => ?_
      rw [show (Am x q l : Int) * ((bs r l * v r % p : Nat) : Int) - (v r : Int) * ((Am x q l : Int) * (bs r l : Int)) = (Am x q l : Int) * (((bs r l * v r % p : Nat) : Int) - (bs r l : Int) * (v r : Int)) from al11]
      exact Int.dvd_mul_of_dvd_right (hmd r l)
    obtain ⟨z6, h6⟩ := h6
    have h1 : (bs r x : Int) - lam * (bs r 0 : Int) = p * z1 := h1
    have h2 : Tm Am k x (bV bs r) q - lam * (bs r q : Int) = p * z2 := h2
    -- W x = lam, W q = bs q * v
    have h7 : ((bs r x * v r % p : Nat) : Int) = lam + p * (z4 + z1 * v r + lam * z3) := al7 h1 h3 h4
    show (p : Int) ∣ ((bs r x * v r % p : Nat) : Int) * ((bs r q * v r % p : Nat) : Int) - si (fun l => (Am x q l : Int) * ((bs r l * v r % p : Nat) : Int)) (List.range k)
    have h8 : si (fun l => (Am x q l : Int) * ((bs r l * v r % p : Nat) : Int)) (List.range k) = lam * ((bs r q : Int) * v r) + p * (z6 + v r * z2) := al8 h2 h6
    rw [h7, h8]
    exact ⟨(z4 + z1 * v r + lam * z3) * ((bs r q * v r % p : Nat) : Int) + lam * z5 - (z6 + v r * z2), al9 h5⟩
  · refine sp_tr (b := bV bs) (fun r hr => ?_) hsp
    refine sp_vq (sp_mul (bs r 0 : Int) (sp_self (X := bV (fun r c => bs r c * v r % p)) hr)) (fun l _ => ?_)
    obtain ⟨z1, h1⟩ := hmd r l
    obtain ⟨z2, h2⟩ := (hv r hr).2
    show (p : Int) ∣ (bs r l : Int) - (bs r 0 : Int) * ((bs r l * v r % p : Nat) : Int)
    exact ⟨-((bs r 0 : Int) * z1) - (bs r l : Int) * z2, al10 h1 h2⟩

