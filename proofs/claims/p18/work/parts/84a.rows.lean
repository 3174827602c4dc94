-- pure: rows that come out of the same map are the same; sorted they lie alike
def sqF (p n s : Nat) : Prop := ∃ d, 1 ≤ d ∧ d < p ∧ d * d % p * s % p = n % p
theorem sq_neg {p d : Nat} (h : d ≤ p) : (p - d) * (p - d) % p = d * d % p := by
  obtain ⟨c, rfl⟩ : ∃ c, p = d + c := ⟨p - d, by omega⟩
  rw [Nat.add_sub_cancel_left]
  have e : c * c + (d + c) * (2 * d) = d * d + (d + c) * (d + c) := by grind
  have e1 : (c * c + (d + c) * (2 * d)) % (d + c) = c * c % (d + c) := Nat.add_mul_mod_self_left _ _ _
  have e2 : (d * d + (d + c) * (d + c)) % (d + c) = d * d % (d + c) := Nat.add_mul_mod_self_left _ _ _
  rw [← e1, e, e2]
theorem dg_same {p n s d d' : Nat} (hp3 : 3 ≤ p) (hodd : p % 2 = 1) (h : dgO p n s d) (h' : dgM p n s d') (hs : sqF p n s) : d = d' := by
  obtain ⟨d0, h1, h2, h3⟩ := hs
  have hex : ∃ d1, 1 ≤ d1 ∧ d1 ≤ (p - 1) / 2 ∧ d1 * d1 % p * s % p = n % p := by
    by_cases e : d0 ≤ (p - 1) / 2
    · exact ⟨d0, h1, e, h3⟩
    · exact ⟨p - d0, by omega, by omega, by rw [sq_neg (by omega)]; exact h3⟩
  obtain ⟨d1, a1, a2, a3⟩ := hex
  obtain ⟨b1, b2, b3, b4⟩ := h
  obtain ⟨c1, c2, c3, c4⟩ := h'
  have e1 : d' ≤ d1 := Nat.le_of_not_lt fun h9 => c3 d1 a1 h9 a3
  have e2 : d ≤ d1 := Nat.le_of_not_lt fun h9 => b3 d1 a1 h9 a3
  have e3 := c4 (by omega)
  have e4 : d * d % p * s % p = n % p := by
    by_cases e : d < (p - 1) / 2
    · exact b4 e
    · have : d = d1 := by omega
      rw [this]; exact a3
  have e5 : d' ≤ d := Nat.le_of_not_lt fun h9 => c3 d b1 h9 e4
  have e6 : d ≤ d' := Nat.le_of_not_lt fun h9 => b3 d' c1 h9 e3
  omega
theorem pr_odd {p : Nat} (hp : isPr p) (h : 3 ≤ p) : p % 2 = 1 := by
  rcases Nat.mod_two_eq_zero_or_one p with h0 | h1
  · rcases hp.2 2 (Nat.dvd_of_mod_eq_zero h0) with h9 | h9 <;> omega
  · exact h1
theorem pg_onto {k : Nat} {f : Nat → Nat} (h1 : ∀ j, j < k → f j < k) (h2 : ∀ j j', j < k → j' < k → f j = f j' → j = j') {r : Nat} (hr : r < k) : ∃ j, j < k ∧ f j = r := Classical.byContradiction fun hn => by
  have hs : (List.range k).map f ⊆ (List.range k).erase r := fun u hu => by
    obtain ⟨j, hj, rfl⟩ := List.mem_map.mp hu
    have hj := List.mem_range.mp hj
    exact (List.nodup_range.mem_erase_iff).mpr ⟨fun e => hn ⟨j, hj, e⟩, List.mem_range.mpr (h1 j hj)⟩
  have hnd : ((List.range k).map f).Nodup := List.pairwise_map.mpr (List.Pairwise.imp_of_mem (fun {u v} hu hv huv he => by
    have := h2 u v (List.mem_range.mp hu) (List.mem_range.mp hv) he
    omega) List.pairwise_lt_range)
  have h3 := hnd.length_le_of_subset hs
  rw [List.length_map, List.length_erase, List.length_range] at h3
  simp [hr] at h3
  omega
-- two orders of the same rows
theorem so_half {dg : Nat → Int32} {V : Nat → Nat → Int32} {k : Nat} {f g : Nat → Nat} (hf1 : ∀ j, j < k → f j < k) (hf2 : ∀ j j', j < k → j' < k → f j = f j' → j = j') (hg1 : ∀ j, j < k → g j < k) (hg2 : ∀ j j', j < k → j' < k → g j = g j' → j = j') (hfs : ∀ s t, s < t → t < k → ¬ cbO dg V k (f t) (f s)) (hgs : ∀ s t, s < t → t < k → ¬ cbO dg V k (g t) (g s)) {j : Nat} (hj : j < k) : ¬ cbO dg V k (f j) (g j) := fun hc => by
  have hirr : ∀ x, ¬ cbO dg V k x x := fun x h => cb_as h h
  have hq : ∀ i, i ≤ j → ∃ q, q < j ∧ g q = f i := fun i hi => by
    obtain ⟨q, hq1, hq2⟩ := pg_onto hg1 hg2 (hf1 i (by omega))
    refine ⟨q, Nat.lt_of_not_le fun h9 => ?_, hq2⟩
    rcases cb_or (f i) hc with h8 | h8
    · by_cases e : i = j
      · rw [e] at h8; exact hirr _ h8
      · exact hfs i j (by omega) hj h8
    · rw [← hq2] at h8
      by_cases e : q = j
      · rw [e] at h8; exact hirr _ h8
      · exact hgs j q (by omega) hq1 h8
  have hs : (List.range (j + 1)).map f ⊆ (List.range j).map g := fun u hu => by
    obtain ⟨i, hi, rfl⟩ := List.mem_map.mp hu
    obtain ⟨q, h1, h2⟩ := hq i (by have := List.mem_range.mp hi; omega)
    exact List.mem_map.mpr ⟨q, List.mem_range.mpr h1, h2⟩
  have hnd : ((List.range (j + 1)).map f).Nodup := List.pairwise_map.mpr (List.Pairwise.imp_of_mem (fun {u v} hu hv huv he => by
    have h1 := List.mem_range.mp hu
    have h2 := List.mem_range.mp hv
    have := hf2 u v (by omega) (by omega) he
    omega) List.pairwise_lt_range)
  have h3 := hnd.length_le_of_subset hs
  rw [List.length_map, List.length_map, List.length_range, List.length_range] at h3
  omega
theorem cb_none {dg : Nat → Int32} {V : Nat → Nat → Int32} {k x y : Nat} (h1 : ¬ cbO dg V k x y) (h2 : ¬ cbO dg V k y x) : dg x = dg y ∧ ∀ q, 1 ≤ q → q < k → V x q = V y q := by
  have e : dg x = dg y := i_eq3 (fun h => h1 (Or.inl h)) (fun h => h2 (Or.inl h))
  refine ⟨e, ?_⟩
  rcases fst_ne (V x) (V y) k with h | ⟨j, hj1, hj2, hne, hall⟩
  · exact h
  · exfalso
    by_cases h3 : V x j < V y j
    · exact h1 (Or.inr ⟨e, j, hj1, hj2, h3, hall⟩)
    · by_cases h4 : V y j < V x j
      · exact h2 (Or.inr ⟨e.symm, j, hj1, hj2, h4, fun l h5 h6 => (hall l h5 h6).symm⟩)
      · exact hne (i_eq3 h3 h4)
-- a row of the class and a row of the reference, from the same map
theorem row_same {p k n : Nat} {sz iv iv' sq W : Nat → Nat} {dg dg' ind ker : Int32} {V V' : Nat → Int32} (hp : isPr p) (hp3 : 3 ≤ p) (hsz : ∀ j, j < k → ¬ p ∣ sz j) (hiv : ∀ j, j < k → iv' j = iv j) (h : rwO p k n sz iv sq W dg V ind ker) (h' : rmO p k n sz iv' W dg' V') (hF : ∀ sh : Nat → Nat, (∀ j, j < k → sh j < p ∧ (p : Int) ∣ (sh j : Int) * (sz j : Int) - (W j : Int)) → sqF p n (acS p sh (fun q => W (iv q)) k)) : dg' = dg ∧ ∀ q, q < k → V' q = V q := by
  obtain ⟨sh, d, v, hsh, hdg, hd, hV, _⟩ := h
  obtain ⟨ov, d', vv, hov, hdg', hd', hV'⟩ := h'
  have hp1 := hp.1
  have hsum : acS p ov (fun _ => 1) k = acS p sh (fun q => W (iv q)) k := by
    have h1 := acS_ok p ov (fun _ => 1) k
    have h2 := acS_ok p sh (fun q => W (iv q)) k
    have h3 : (p : Int) ∣ si (fun q => (ov q : Int) * ((1 : Nat) : Int)) (List.range k) - si (fun q => (sh q : Int) * ((W (iv q) : Nat) : Int)) (List.range k) := si_cong fun q hq => by
      have hq := List.mem_range.mp hq
      have a1 := (hov q hq).2
      have a2 := dv_ml ((W (iv q) : Nat) : Int) (hsh q hq).2
      rw [hiv q hq] at a1
      have a3 : (p : Int) ∣ (sz q : Int) * ((ov q : Int) * ((1 : Nat) : Int) - (sh q : Int) * ((W (iv q) : Nat) : Int)) := by
        have a4 := dv_tr (b := ((W (iv q) : Nat) : Int) * (W q : Int)) (by rw [Int.mul_comm ((W (iv q) : Nat) : Int) (W q : Int)]; exact a1) (dv_sy a2)
        have e9 : (ov q : Int) * (sz q : Int) - ((W (iv q) : Nat) : Int) * ((sh q : Int) * (sz q : Int)) = (sz q : Int) * ((ov q : Int) * ((1 : Nat) : Int) - (sh q : Int) * ((W (iv q) : Nat) : Int)) := by grind
        rw [e9] at a4
        exact a4
      exact nt_euclid hp.2 (hsz q hq) a3
    have h4 := dv_tr h1 (dv_tr h3 (dv_sy h2))
    have h5 := acS_lt (show 0 < p by omega) ov (fun _ => 1) k
    have h6 := acS_lt (show 0 < p by omega) sh (fun q => W (iv q)) k
    have := dv_0 h4 (by omega) (by omega)
    omega
  rw [hsum] at hdg'
  have e := dg_same hp3 (pr_odd hp hp3) hdg hdg' (hF sh hsh)
  subst e
  refine ⟨by rw [hd, hd'], fun q hq => ?_⟩
  obtain ⟨q1, q2, q3⟩ := hV' q hq
  rw [q1, hV q hq]
  congr 1
  have hm : sh q * d % p < p := Nat.mod_lt _ (by omega)
  refine dv_can hp (hsz q hq) q2 hm q3 ?_
  have a1 := md_dv (p := p) (y := sh q * d)
  have a2 := dv_ml (sz q : Int) a1
  have a3 := dv_ml (d : Int) (hsh q hq).2
  rw [Int.natCast_mul] at a2
  have e1 : (d : Int) * ((sh q : Int) * (sz q : Int)) = (sz q : Int) * ((sh q : Int) * (d : Int)) := by grind
  rw [e1] at a3
  rw [Int.mul_comm]
  exact dv_tr a2 a3

