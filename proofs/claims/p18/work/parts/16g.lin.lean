-- pure: more unknowns than equations, modulo a prime
theorem nt_mul {p : Nat} (hp : ∀ m, m ∣ p → m = 1 ∨ m = p) {a b : Int} (h : (p : Int) ∣ a * b) : (p : Int) ∣ a ∨ (p : Int) ∣ b := by
  by_cases ha : (p : Int) ∣ a
  · exact Or.inl ha
  · right
    have h1 : ¬ p ∣ a.natAbs := fun h9 => ha (Int.dvd_natAbs.mp (Int.ofNat_dvd.mpr h9))
    refine nt_euclid hp h1 ?_
    rcases Int.natAbs_eq a with e | e
    · rw [← e]; exact h
    · have h2 : (a.natAbs : Int) * b = -(a * b) := by
        have h3 : (a.natAbs : Int) = -a := by omega
        rw [h3, Int.neg_mul]
      rw [h2]
      exact (Int.dvd_neg).mpr h
theorem ln_hs {p : Nat} (hp1 : 1 < p) (hp : ∀ m, m ∣ p → m = 1 ∨ m = p) : ∀ (m : Nat) (S : List Nat) (c : Nat → Nat → Int), S.Nodup → m < S.length → ∃ x : Nat → Int, (∃ s, s ∈ S ∧ ¬ (p : Int) ∣ x s) ∧ ∀ r, r < m → (p : Int) ∣ si (fun s => c r s * x s) S := by
  intro m
  induction m with
  | zero =>
    intro S c _ hS
    cases S with
    | nil => simp at hS
    | cons s S =>
      refine ⟨fun _ => 1, ⟨s, List.mem_cons_self, fun h => ?_⟩, fun r hr => absurd hr (Nat.not_lt_zero r)⟩
      have h9 : (p : Int) ∣ 1 := h
      have := Int.le_of_dvd (by decide) h9
      omega
  | succ m ih =>
    intro S c hnd hS
    by_cases hall : ∀ s, s ∈ S → (p : Int) ∣ c m s
    · obtain ⟨x, h1, h2⟩ := ih S c hnd (by omega)
      refine ⟨x, h1, fun r hr => ?_⟩
      by_cases e : r = m
      · subst e
        exact si_dvd fun s hs => Int.dvd_mul_of_dvd_left (hall s hs)
      · exact h2 r (by omega)
    · have h0 : ∃ s0, s0 ∈ S ∧ ¬ (p : Int) ∣ c m s0 := Classical.byContradiction fun hn => hall fun s hs => Classical.byContradiction fun h9 => hn ⟨s, hs, h9⟩
      obtain ⟨s0, hs0, hc0⟩ := h0
      have hnd' : (S.erase s0).Nodup := hnd.erase s0
      have hlen : (S.erase s0).length = S.length - 1 := by rw [List.length_erase]; simp [hs0]
      obtain ⟨x, ⟨s1, hs1, hx1⟩, h2⟩ := ih (S.erase s0) (fun r s => c r s * c m s0 - c r s0 * c m s) hnd' (by omega)
      have hsum : ∀ f : Nat → Int, si f S = f s0 + si f (S.erase s0) := fun f => by
        rw [si_perm f (List.perm_cons_erase hs0)]; rfl
      have hne : ∀ s, s ∈ S.erase s0 → s ≠ s0 := fun s hs => (hnd.mem_erase_iff.mp hs).1
      refine ⟨fun s => if s = s0 then - si (fun t => c m t * x t) (S.erase s0) else x s * c m s0, ⟨s1, List.mem_of_mem_erase hs1, ?_⟩, fun r hr => ?_⟩
      · show ¬ (p : Int) ∣ (if s1 = s0 then _ else _)
        rw [if_neg (hne s1 hs1)]
        intro h9
        rcases nt_mul hp h9 with h9 | h9
        · exact hx1 h9
        · exact hc0 h9
      · rw [hsum]
        have h3 : si (fun s => c r s * (if s = s0 then - si (fun t => c m t * x t) (S.erase s0) else x s * c m s0)) (S.erase s0) = si (fun s => c r s * (x s * c m s0)) (S.erase s0) := si_congr fun s hs => by rw [if_neg (hne s hs)]
        rw [h3]
        show (p : Int) ∣ c r s0 * (if s0 = s0 then _ else _) + _
        rw [if_pos rfl]
        by_cases e : r = m
        · subst e
          have h4 : si (fun s => c r s * (x s * c r s0)) (S.erase s0) = c r s0 * si (fun t => c r t * x t) (S.erase s0) := by
            rw [← si_mul]
            exact si_congr fun s _ => by rw [← Int.mul_assoc, Int.mul_comm (c r s0)]
          rw [h4, Int.mul_neg, Int.add_left_neg]
          exact Int.dvd_zero _
        · have h5 := h2 r (by omega)
          have h6 : c r s0 * - si (fun t => c m t * x t) (S.erase s0) + si (fun s => c r s * (x s * c m s0)) (S.erase s0) = si (fun s => (c r s * c m s0 - c r s0 * c m s) * x s) (S.erase s0) := by
            rw [Int.mul_neg, ← si_mul, Int.add_comm, ← Int.sub_eq_add_neg, ← si_sub]
            refine si_congr fun s _ => ?_
            rw [Int.sub_mul, Int.mul_assoc, Int.mul_assoc, Int.mul_comm (x s)]
          rw [h6]
          exact h5
-- Bezout, inverses
theorem nt_bez : ∀ (a b : Nat), ∃ u v : Int, u * (a : Int) + v * (b : Int) = (Nat.gcd a b : Int) := by
  intro a b
  induction a, b using Nat.gcd.induction with
  | H0 n => exact ⟨0, 1, by simp⟩
  | H1 m n hm ih =>
    obtain ⟨u, v, h⟩ := ih
    refine ⟨v - u * ((n / m : Nat) : Int), u, ?_⟩
    rw [Nat.gcd_rec, ← h]
    have h3 : (n : Int) = ((n % m : Nat) : Int) + (m : Int) * ((n / m : Nat) : Int) := by
      rw [← Int.natCast_mul, ← Int.natCast_add, Nat.mod_add_div]
    rw [h3, Int.sub_mul, Int.mul_add]
    have h4 : u * ((n / m : Nat) : Int) * (m : Int) = u * ((m : Int) * ((n / m : Nat) : Int)) := by rw [Int.mul_assoc, Int.mul_comm ((n / m : Nat) : Int)]
    rw [h4]
    omega
theorem nt_inv {p : Nat} (hp : ∀ m, m ∣ p → m = 1 ∨ m = p) {a : Int} (ha : ¬ (p : Int) ∣ a) : ∃ b : Int, (p : Int) ∣ a * b - 1 := by
  have hc : Nat.gcd p a.natAbs = 1 := by
    rcases hp _ (Nat.gcd_dvd_left p a.natAbs) with e | e
    · exact e
    · exact absurd (Int.dvd_natAbs.mp (Int.ofNat_dvd.mpr (e ▸ Nat.gcd_dvd_right p a.natAbs))) ha
  obtain ⟨u, v, h⟩ := nt_bez p a.natAbs
  rw [hc] at h
  rcases Int.natAbs_eq a with e | e
  · refine ⟨v, ⟨-u, ?_⟩⟩
    rw [e, Int.mul_comm, Int.mul_neg, Int.mul_comm (p : Int)]
    omega
  · refine ⟨-v, ⟨-u, ?_⟩⟩
    rw [e, Int.neg_mul_neg, Int.mul_comm, Int.mul_neg, Int.mul_comm (p : Int)]
    omega
-- Fermat
theorem tp_len {α : Type} (C : List α) : ∀ m : Nat, (tp_all C m).length = C.length ^ m
  | 0 => rfl
  | m + 1 => by
    show ((tp_all C m).flatMap (fun t => C.map (fun g => g :: t))).length = _
    rw [List.length_flatMap]
    have h1 : ∀ T : List (List α), (T.map (fun t => (C.map (fun g => g :: t)).length)).sum = T.length * C.length := by
      intro T
      induction T with
      | nil => simp
      | cons t T ih => rw [List.map_cons, List.sum_cons, ih, List.length_map, List.length_cons, Nat.add_mul, Nat.one_mul, Nat.add_comm]
    rw [h1, tp_len C m, Nat.pow_succ]
theorem nt_fermat {p : Nat} (hp1 : 1 < p) (hp : ∀ m, m ∣ p → m = 1 ∨ m = p) (a : Nat) : (p : Int) ∣ (a : Int) ^ p - (a : Int) := by
  have h1 := tp_cong0 (C := List.range a) List.nodup_range hp1 hp (fun _ => true) (fun _ _ => rfl)
  rw [List.countP_true, List.countP_true, tp_len, List.length_range, Int.natCast_pow] at h1
  exact h1
