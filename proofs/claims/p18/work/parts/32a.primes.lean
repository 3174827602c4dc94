theorem isPr_chk {n : Nat} (h1 : 1 < n) (h2 : n < 1156) (h : ∀ k, k < 34 → 2 ≤ k → k * k ≤ n → n % k ≠ 0) : isPr n := by
  refine ⟨h1, fun m hm => ?_⟩
  obtain ⟨k, hk⟩ := hm
  have h0 : ∀ u v : Nat, n = u * v → u ≠ 1 → u ≤ v → False := fun u v huv hu1 huv2 => by
    have hu0 : u ≠ 0 := fun e => by rw [e, Nat.zero_mul] at huv; omega
    have h3 : u * u ≤ n := by rw [huv]; exact Nat.mul_le_mul_left u huv2
    have h4 : u < 34 := Nat.lt_of_not_le fun h9 => by
      have := Nat.mul_le_mul h9 h9
      omega
    exact h u h4 (by omega) h3 (by rw [huv]; exact Nat.mul_mod_right u v)
  by_cases hm1 : m = 1
  · exact Or.inl hm1
  · by_cases hk1 : k = 1
    · right; rw [hk, hk1, Nat.mul_one]
    · exfalso
      rcases Nat.le_total m k with h5 | h5
      · exact h0 m k hk hm1 h5
      · exact h0 k m (by rw [hk, Nat.mul_comm]) hk1 h5
def tT : List Nat := [0, 22, 11, 10, 7, 6, 5, 4, 5, 4, 3, 2, 3, 4, 2, 2, 6, 6, 2, 10, 2, 2, 1, 2, 3, 4, 2, 4, 1, 2, 1, 10, 3, 2, 3, 2, 1, 4, 5, 2, 1, 2, 1, 4, 2, 4, 1, 6, 2, 4, 2, 2, 1, 2, 2, 6, 2, 4, 1, 12, 1, 6, 5, 2, 3, 2, 1, 4, 2, 2, 1, 8, 1, 4, 2, 2, 3, 6, 1, 4, 3, 2, 1, 2, 4, 12, 2, 4, 1, 2, 2, 6, 3, 4, 3, 2, 1, 4, 2, 2, 1, 6, 1, 6, 3, 2, 1, 6, 1, 10, 3, 2, 1, 2, 2, 4, 2, 8, 6, 2, 2]
theorem tT_all : (List.range 121).all (fun e => decide (e = 0) || (decide (1 ≤ tT.getD e 0) && decide (tT.getD e 0 < 300) && decide (tT.getD e 0 * e + 1 < 1092) && decide (480 < (tT.getD e 0 * e + 1) * (tT.getD e 0 * e + 1)) && (List.range 34).all (fun k => decide (k < 2) || decide (tT.getD e 0 * e + 1 < k * k) || decide ((tT.getD e 0 * e + 1) % k ≠ 0)))) = true := by decide +kernel
theorem tT_ok (e : Nat) (h : e < 121) (h0 : 0 < e) : 1 ≤ tT.getD e 0 ∧ tT.getD e 0 < 300 ∧ tT.getD e 0 * e + 1 < 1092 ∧ 480 < (tT.getD e 0 * e + 1) * (tT.getD e 0 * e + 1) ∧ ∀ k, k < 34 → 2 ≤ k → k * k ≤ tT.getD e 0 * e + 1 → (tT.getD e 0 * e + 1) % k ≠ 0 := by
  have h1 := List.all_eq_true.mp tT_all e (List.mem_range.mpr h)
  rw [Bool.or_eq_true] at h1
  rcases h1 with h1 | h1
  · have := of_decide_eq_true h1; omega
  · rw [Bool.and_eq_true, Bool.and_eq_true, Bool.and_eq_true, Bool.and_eq_true] at h1
    obtain ⟨⟨⟨⟨a1, a2⟩, a3⟩, a4⟩, a5⟩ := h1
    refine ⟨of_decide_eq_true a1, of_decide_eq_true a2, of_decide_eq_true a3, of_decide_eq_true a4, fun k hk1 hk2 hk3 => ?_⟩
    have h2 := List.all_eq_true.mp a5 k (List.mem_range.mpr hk1)
    rw [Bool.or_eq_true, Bool.or_eq_true] at h2
    rcases h2 with (h2 | h2) | h2
    · have := of_decide_eq_true h2; omega
    · have := of_decide_eq_true h2; omega
    · exact of_decide_eq_true h2
-- the prime of an order and an exponent
def isPm (n e p : Nat) : Prop := isPr p ∧ 4 * n < p * p ∧ (∃ t, 1 ≤ t ∧ p = t * e + 1) ∧ ∀ t, 1 ≤ t → isPr (t * e + 1) → 4 * n < (t * e + 1) * (t * e + 1) → p ≤ t * e + 1
-- primitive roots
def oB (g p : Nat) : Nat → Nat → Bool
  | 0, x => x == 1
  | f + 1, x => x != 1 && oB g p f (x * g % p)
def gT : List Nat := [0, 0, 1, 2, 0, 2, 0, 3, 0, 0, 0, 2, 0, 2, 0, 0, 0, 3, 0, 2, 0, 0, 0, 5, 0, 0, 0, 0, 0, 2, 0, 3, 0, 0, 0, 0, 0, 2, 0, 0, 0, 6, 0, 3, 0, 0, 0, 5, 0, 0, 0, 0, 0, 2, 0, 0, 0, 0, 0, 2, 0, 2, 0, 0, 0, 0, 0, 2, 0, 0, 0, 7, 0, 5, 0, 0, 0, 0, 0, 3, 0, 0, 0, 2, 0, 0, 0, 0, 0, 3, 0, 0, 0, 0, 0, 0, 0, 5, 0, 0, 0, 2, 0, 5, 0, 0, 0, 2, 0, 6, 0, 0, 0, 3, 0, 0, 0, 0, 0, 0, 0, 0, 0, 0, 0, 0, 0, 3, 0, 0, 0, 2, 0, 0, 0, 0, 0, 3, 0, 2, 0, 0, 0, 0, 0, 0, 0, 0, 0, 2, 0, 6, 0, 0, 0, 0, 0, 5, 0, 0, 0, 0, 0, 2, 0, 0, 0, 5, 0, 0, 0, 0, 0, 2, 0, 0, 0, 0, 0, 2, 0, 2, 0, 0, 0, 0, 0, 0, 0, 0, 0, 19, 0, 5, 0, 0, 0, 2, 0, 3, 0, 0, 0, 0, 0, 0, 0, 0, 0, 0, 0, 2, 0, 0, 0, 0, 0, 0, 0, 0, 0, 0, 0, 3, 0, 0, 0, 2, 0, 6, 0, 0, 0, 3, 0, 0, 0, 0, 0, 7, 0, 7, 0, 0, 0, 0, 0, 0, 0, 0, 0, 6, 0, 0, 0, 0, 0, 3, 0, 0, 0, 0, 0, 5, 0, 0, 0, 0, 0, 2, 0, 6, 0, 0, 0, 0, 0, 5, 0, 0, 0, 3, 0, 3, 0, 0, 0, 0, 0, 0, 0, 0, 0, 2, 0, 0, 0, 0, 0, 0, 0, 0, 0, 0, 0, 0, 0, 5, 0, 0, 0, 17, 0, 10, 0, 0, 0, 2, 0, 0, 0, 0, 0, 0, 0, 0, 0, 0, 0, 0, 0, 3, 0, 0, 0, 0, 0, 10, 0, 0, 0, 0, 0, 0, 0, 0, 0, 2, 0, 2, 0, 0, 0, 3, 0, 0, 0, 0, 0, 7, 0, 0, 0, 0, 0, 0, 0, 6, 0, 0, 0, 0, 0, 2, 0, 0, 0, 0, 0, 2, 0, 0, 0, 5, 0, 0, 0, 0, 0, 2, 0, 0, 0, 0, 0, 0, 0, 5, 0, 0, 0, 3, 0, 0, 0, 0, 0, 0, 0, 21, 0, 0, 0, 0, 0, 0, 0, 0, 0, 2, 0, 2, 0, 0, 0, 0, 0, 0, 0, 0, 0, 7, 0, 5, 0, 0, 0, 0, 0, 15, 0, 0, 0, 2, 0, 0, 0, 0, 0, 3, 0, 0, 0, 0, 0, 0, 0, 13, 0, 0, 0, 2, 0, 3, 0, 0, 0, 2, 0, 0, 0, 0, 0, 0, 0, 0, 0, 0, 0, 13, 0, 0, 0, 0, 0, 0, 0, 3, 0, 0, 0, 2, 0, 0, 0, 0, 0, 0, 0, 7, 0, 0, 0, 5, 0, 0, 0, 0, 0, 2, 0, 0, 0, 0, 0, 0, 0, 0, 0, 0, 0, 3, 0, 2, 0, 0, 0, 0, 0, 0, 0, 0, 0, 0, 0, 0, 0, 0, 0, 0, 0, 2, 0, 0, 0, 0, 0, 2, 0, 0, 0, 0, 0, 0, 0, 0, 0, 2, 0, 0, 0, 0, 0, 2, 0, 0, 0, 0, 0, 3, 0, 3, 0, 0, 0, 0, 0, 5, 0, 0, 0, 0, 0, 0, 0, 0, 0, 2, 0, 0, 0, 0, 0, 3, 0, 0, 0, 0, 0, 7, 0, 7, 0, 0, 0, 0, 0, 3, 0, 0, 0, 0, 0, 2, 0, 0, 0, 3, 0, 2, 0, 0, 0, 0, 0, 0, 0, 0, 0, 0, 0, 3, 0, 0, 0, 0, 0, 0, 0, 0, 0, 3, 0, 11, 0, 0, 0, 5, 0, 0, 0, 0, 0, 2, 0, 0, 0, 0, 0, 2, 0, 2, 0, 0, 0, 0, 0, 0, 0, 0, 0, 0, 0, 5, 0, 0, 0, 2, 0, 0, 0, 0, 0, 5, 0, 0, 0, 0, 0, 0, 0, 3, 0, 0, 0, 0, 0, 0, 0, 0, 0, 2, 0, 0, 0, 0, 0, 0, 0, 2, 0, 0, 0, 0, 0, 0, 0, 0, 0, 11, 0, 0, 0, 0, 0, 0, 0, 5, 0, 0, 0, 0, 0, 6, 0, 0, 0, 0, 0, 3, 0, 0, 0, 5, 0, 0, 0, 0, 0, 0, 0, 3, 0, 0, 0, 0, 0, 2, 0, 0, 0, 6, 0, 0, 0, 0, 0, 0, 0, 11, 0, 0, 0, 2, 0, 0, 0, 0, 0, 0, 0, 0, 0, 0, 0, 0, 0, 2, 0, 0, 0, 0, 0, 0, 0, 0, 0, 2, 0, 0, 0, 0, 0, 0, 0, 0, 0, 0, 0, 3, 0, 3, 0, 0, 0, 0, 0, 0, 0, 0, 0, 2, 0, 3, 0, 0, 0, 2, 0, 2, 0, 0, 0, 0, 0, 0, 0, 0, 0, 11, 0, 0, 0, 0, 0, 0, 0, 0, 0, 0, 0, 0, 0, 2, 0, 0, 0, 3, 0, 2, 0, 0, 0, 5, 0, 0, 0, 0, 0, 0, 0, 0, 0, 0, 0, 0, 0, 2, 0, 0, 0, 3, 0, 2, 0, 0, 0, 5, 0, 0, 0, 0, 0, 0, 0, 0, 0, 0, 0, 0, 0, 0, 0, 0, 0, 0, 0, 2, 0, 0, 0, 17, 0, 0, 0, 0, 0, 0, 0, 7, 0, 0, 0, 0, 0, 0, 0, 0, 0, 3, 0, 0, 0, 0, 0, 0, 0, 5, 0, 0, 0, 2, 0, 0, 0, 0, 0, 2, 0, 0, 0, 0, 0, 3, 0, 0, 0, 0, 0, 0, 0, 0, 0, 0, 0, 0, 0, 5, 0, 0, 0, 6, 0, 0, 0, 0, 0, 3, 0, 0, 0, 0, 0, 5, 0, 0, 0, 0, 0, 0, 0, 6, 0, 0, 0, 0, 0, 7, 0, 0, 0, 0, 0, 0, 0, 0, 0, 0, 0, 11, 0, 0, 0, 3, 0, 0, 0, 0, 0, 2, 0, 10, 0, 0, 0, 0, 0, 0, 0, 0, 0, 14, 0, 5, 0, 0, 0, 0, 0, 3, 0, 0, 0, 0, 0, 0, 0, 0, 0, 3, 0, 7, 0, 0, 0, 0, 0, 0, 0, 0, 0, 2, 0, 3, 0, 0, 0, 0, 0, 6, 0, 0, 0, 0, 0, 0, 0, 0, 0, 0, 0, 0, 0, 0, 0, 0, 0, 3, 0, 0, 0, 2]
set_option maxRecDepth 100000 in
theorem gT_ok : (List.range 1092).all (fun p => decide (p < 2) || (List.range 34).any (fun k => decide (2 ≤ k) && decide (k * k ≤ p) && p % k == 0) || oB (gT.getD p 0) p (p - 2) (gT.getD p 0 % p)) = true := by decide +kernel
theorem oB_ok (g p : Nat) : ∀ f j, oB g p f (g ^ j % p) = true → (∀ q, j ≤ q → q < j + f → g ^ q % p ≠ 1) ∧ g ^ (j + f) % p = 1
  | 0, j, h => ⟨fun q h1 h2 => absurd h1 (by omega), by simpa [oB] using h⟩
  | f + 1, j, h => by
    unfold oB at h
    rw [Bool.and_eq_true] at h
    have h2 : g ^ j % p * g % p = g ^ (j + 1) % p := by rw [Nat.pow_succ, Nat.mod_mul_mod]
    rw [h2] at h
    obtain ⟨h3, h4⟩ := oB_ok g p f (j + 1) h.2
    refine ⟨fun q h5 h6 => ?_, by rw [show j + (f + 1) = j + 1 + f by omega]; exact h4⟩
    by_cases e : q = j
    · subst e; simpa using h.1
    · exact h3 q (by omega) (by omega)
theorem prim {p : Nat} (hp : isPr p) (hp2 : p < 1092) : ∃ g : Nat, (∀ q, 1 ≤ q → q < p - 1 → g ^ q % p ≠ 1) ∧ g ^ (p - 1) % p = 1 := by
  have h1 := List.all_eq_true.mp gT_ok p (List.mem_range.mpr hp2)
  have hp1 := hp.1
  rw [Bool.or_eq_true, Bool.or_eq_true] at h1
  rcases h1 with (h1 | h1) | h1
  · have := of_decide_eq_true h1; omega
  · exfalso
    obtain ⟨k, hk, h2⟩ := List.any_eq_true.mp h1
    rw [Bool.and_eq_true, Bool.and_eq_true] at h2
    exact isPr_no (of_decide_eq_true h2.1.1) (of_decide_eq_true h2.1.2) (by simpa using h2.2) hp
  · have h2 : gT.getD p 0 % p = gT.getD p 0 ^ 1 % p := by rw [Nat.pow_one]
    rw [h2] at h1
    obtain ⟨h3, h4⟩ := oB_ok _ p (p - 2) 1 h1
    exact ⟨gT.getD p 0, fun q h5 h6 => h3 q h5 (by omega), by rw [show p - 1 = 1 + (p - 2) by omega]; exact h4⟩
-- a root of order e: the e-th power is 1, no earlier one
def rtO (p e z : Nat) : Prop := z ^ e % p = 1 ∧ ∀ j, 1 ≤ j → j < e → z ^ j % p ≠ 1
theorem root_ex {p e t : Nat} (hp : isPr p) (hp2 : p < 1092) (he : 0 < e) (ht : 1 ≤ t) (hpt : p = t * e + 1) : ∃ z, 1 ≤ z ∧ z < p ∧ rtO p e z := by
  obtain ⟨g, h1, h2⟩ := prim hp hp2
  have hp1 := hp.1
  have hte : t * e = p - 1 := by omega
  have hpow : ∀ j, (g ^ t % p) ^ j % p = g ^ (t * j) % p := fun j => by rw [Nat.pow_mul, ← Nat.pow_mod]
  have ho : rtO p e (g ^ t % p) := by
    refine ⟨by rw [hpow, hte]; exact h2, fun j hj1 hj2 => ?_⟩
    rw [hpow]
    have h3 : t * j < t * e := Nat.mul_lt_mul_of_pos_left hj2 (by omega)
    have h4 : t * 1 ≤ t * j := Nat.mul_le_mul_left t hj1
    exact h1 (t * j) (by omega) (by omega)
  refine ⟨g ^ t % p, Nat.pos_of_ne_zero fun h0 => ?_, Nat.mod_lt _ (by omega), ho⟩
  have h5 := ho.1
  rw [h0, Nat.zero_pow he, Nat.zero_mod] at h5
  omega
-- the least root
def isRt (p e z : Nat) : Prop := 1 ≤ z ∧ z < p ∧ rtO p e z ∧ ∀ y, 1 ≤ y → y < z → ¬ rtO p e y
theorem i300 : (Int16.ofInt 300).toInt32 = nI 300 := by decide +kernel
abbrev rW (a : sA) (g : sG) (i : sA) (x y : Int32) : sx_M := cW a g (va_up i 12 (va_up (va_up (i 12) 0 x) 1 y))
theorem rW_1 (a : sA) (g : sG) (i : sA) (x y z : Int32) : cW a g (va_up (va_up i 12 (va_up (va_up (i 12) 0 x) 1 y)) 12 (va_up ((va_up i 12 (va_up (va_up (i 12) 0 x) 1 y)) 12) 1 z)) = rW a g i x z := by rw [va_up_self, va_uu, va_uu]
theorem rW_0 (a : sA) (g : sG) (i : sA) (x z : Int32) : cW a g (va_up (va_up i 12 (va_up (i 12) 0 x)) 12 (va_up ((va_up i 12 (va_up (i 12) 0 x)) 12) 1 z)) = rW a g i x z := by rw [va_up_self, va_uu]

