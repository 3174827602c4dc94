-- pure: Fermat, least numbers, the numbers of a group
theorem least {P : Nat → Prop} : ∀ n, P n → ∃ m, m ≤ n ∧ P m ∧ ∀ j, j < m → ¬ P j := by
  intro n
  induction n using Nat.strongRecOn with
  | _ n ih =>
    intro hn
    by_cases h : ∃ j, j < n ∧ P j
    · obtain ⟨j, hj, hp⟩ := h
      obtain ⟨m, h1, h2, h3⟩ := ih j hj hp
      exact ⟨m, by omega, h2, h3⟩
    · exact ⟨n, Nat.le_refl n, hn, fun j hj hp => h ⟨j, hj, hp⟩⟩
theorem tp_ln {α : Type} (C : List α) : ∀ m, (tp_all C m).length = C.length ^ m
  | 0 => rfl
  | m + 1 => by
    unfold tp_all
    simp [Nat.pow_succ, Nat.mul_comm, List.length_flatMap]
    rw [List.map_const', List.sum_replicate_nat, tp_ln C m, Nat.mul_comm]
theorem flt {p : Nat} (hp : isPr p) (b : Nat) : (p : Int) ∣ (b : Int) ^ p - (b : Int) := by
  have h := tp_cong0 (C := List.range b) List.nodup_range hp.1 hp.2 (fun _ => true) (fun _ _ => rfl)
  rw [List.countP_true, List.countP_true, tp_ln, List.length_range] at h
  rw [Int.natCast_pow] at h
  exact h
theorem flt1 {p : Nat} (hp : isPr p) {b : Nat} (hb : ¬ p ∣ b) : (p : Int) ∣ (b : Int) ^ (p - 1) - 1 := by
  have h := flt hp b
  have hp1 := hp.1
  have e : (b : Int) ^ p - (b : Int) = (b : Int) * ((b : Int) ^ (p - 1) - 1) := by
    rw [Int.mul_sub, Int.mul_one, show p = (p - 1) + 1 by omega, Int.pow_succ, Nat.add_sub_cancel, Int.mul_comm]
  rw [e] at h
  exact nt_euclid hp.2 hb h
theorem ovr_ok {p x b : Nat} (hp : isPr p) (hb : ¬ p ∣ b) : (p : Int) ∣ (((x % p) * ((b % p) ^ (p - 2) % p) % p : Nat) : Int) * (b : Int) - (x : Int) := by
  have h := flt1 hp hb
  have hp1 := hp.1
  have e1 : (((x % p) * ((b % p) ^ (p - 2) % p) % p : Nat) : Int) = ((x : Int) * (b : Int) ^ (p - 2)) % (p : Int) := by
    rw [← Int.natCast_pow, ← Int.natCast_mul, ← Int.natCast_emod]
    congr 1
    rw [← Nat.pow_mod, ← Nat.mul_mod]
  rw [e1]
  have h2 : (p : Int) ∣ ((x : Int) * (b : Int) ^ (p - 2)) % (p : Int) - (x : Int) * (b : Int) ^ (p - 2) := by
    rw [Int.emod_def]
    exact ⟨-((x : Int) * (b : Int) ^ (p - 2) / (p : Int)), by rw [Int.mul_neg]; omega⟩
  have e3 : (x : Int) * (b : Int) ^ (p - 2) * (b : Int) - (x : Int) = (x : Int) * ((b : Int) ^ (p - 1) - 1) := by
    rw [Int.mul_assoc, ← Int.pow_succ, show (p - 2).succ = p - 1 by omega, Int.mul_sub, Int.mul_one]
  have e4 : ((x : Int) * (b : Int) ^ (p - 2)) % (p : Int) * (b : Int) - (x : Int) = (((x : Int) * (b : Int) ^ (p - 2)) % (p : Int) - (x : Int) * (b : Int) ^ (p - 2)) * (b : Int) + ((x : Int) * (b : Int) ^ (p - 2) * (b : Int) - (x : Int)) := by
    rw [Int.sub_mul]; omega
  rw [e4, e3]
  exact Int.dvd_add (Int.dvd_mul_of_dvd_left h2) (Int.dvd_mul_of_dvd_right h)
theorem exE {s : Nat → Nat} {n k : Nat} {kl re : Nat → Nat} (h : clS s n k kl re) (hn : 1 ≤ n) : ∃ e, isE re k e ∧ e ≤ n := by
  obtain ⟨m, h1, h2, h3⟩ := least (P := fun e => 0 < e ∧ ∀ c, c < k → pw (re c) e = pid) n ⟨hn, fun c hc => by
    have h9 := gg_lag (kc_g h.1) (kc_re h.1 hc)
    rw [List.length_map, List.length_range] at h9
    exact h9⟩
  exact ⟨m, ⟨h2.1, h2.2, fun j hj hjm => Classical.byContradiction fun h9 => h3 j hjm ⟨hj, fun c hc => Classical.byContradiction fun h8 => h9 ⟨c, hc, h8⟩⟩⟩, h1⟩
theorem exPm {n e : Nat} (hn : n ≤ 120) (he0 : 0 < e) (he1 : e ≤ 120) : ∃ p, isPm n e p ∧ p < 1092 := by
  obtain ⟨ht1, ht2, ht3, ht4, ht5⟩ := tT_ok e (by omega) he0
  generalize tT.getD e 0 = te at *
  have hpe : isPr (te * e + 1) := isPr_chk (by
    have : 1 * 1 ≤ te * e := Nat.mul_le_mul ht1 he0
    omega) (by omega) ht5
  obtain ⟨t, h1, h2, h3⟩ := least (P := fun t => 1 ≤ t ∧ isPr (t * e + 1) ∧ 4 * n < (t * e + 1) * (t * e + 1)) te ⟨ht1, hpe, by omega⟩
  refine ⟨t * e + 1, ⟨h2.2.1, h2.2.2, ⟨t, h2.1, rfl⟩, fun t' h1' h2' h3' => ?_⟩, ?_⟩
  · have : t ≤ t' := Nat.le_of_not_lt fun h9 => h3 t' h9 ⟨h1', h2', h3'⟩
    have := Nat.mul_le_mul_right e this
    omega
  · have := Nat.mul_le_mul_right e h1
    omega
theorem exRt {n e p : Nat} (hp : isPm n e p) (hp2 : p < 1092) (he0 : 0 < e) : ∃ z, isRt p e z := by
  obtain ⟨t, ht, hpt⟩ := hp.2.2.1
  obtain ⟨z, h1, h2, h3⟩ := root_ex hp.1 hp2 he0 ht hpt
  obtain ⟨m, q1, q2, q3⟩ := least (P := fun z => 1 ≤ z ∧ rtO p e z) z ⟨h1, h3⟩
  exact ⟨m, q2.1, by omega, q2.2, fun y hy hyz hr => q3 y hyz ⟨hy, hr⟩⟩
theorem pm_no {n e p q : Nat} (hp : isPm n e p) (he0 : 0 < e) (hq : q < p) (hq2 : 2 ≤ q) : ¬ (isPr q ∧ 4 * n < q * q ∧ (q - 1) % e = 0) := fun ⟨h1, h2, h3⟩ => by
  obtain ⟨t, ht⟩ := Nat.dvd_of_mod_eq_zero h3
  have hqt : q = t * e + 1 := by rw [Nat.mul_comm]; omega
  have ht1 : 1 ≤ t := Nat.pos_of_ne_zero fun h0 => by rw [h0, Nat.zero_mul] at hqt; omega
  have := hp.2.2.2 t ht1 (by rw [← hqt]; exact h1) (by rw [← hqt]; exact h2)
  omega

