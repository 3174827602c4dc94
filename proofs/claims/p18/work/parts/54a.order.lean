-- pure: the order of rows
theorem i_tr {x y z : Int32} (h1 : x ≤ y) (h2 : y < z) : x < z := by
  rw [Int32.lt_iff_toInt_lt] at h2 ⊢
  rw [Int32.le_iff_toInt_le] at h1
  omega
theorem i_le {x y : Int32} (h : ¬ x < y) : y ≤ x := by
  rw [Int32.lt_iff_toInt_lt] at h
  rw [Int32.le_iff_toInt_le]
  omega
theorem i_asm {x y : Int32} (h : x < y) : ¬ y < x := fun h9 => by
  rw [Int32.lt_iff_toInt_lt] at h h9
  omega
theorem i_eq3 {x y : Int32} (h1 : ¬ x < y) (h2 : ¬ y < x) : x = y := by
  rw [Int32.lt_iff_toInt_lt] at h1 h2
  exact Int32.toInt_inj.mp (by omega)
theorem cb_as {dg : Nat → Int32} {V : Nat → Nat → Int32} {k x y : Nat} (h : cbO dg V k x y) : ¬ cbO dg V k y x := by
  rintro (h2 | ⟨h2, q2, h3, h4, h5, h6⟩)
  · rcases h with h | ⟨h, _⟩
    · exact i_asm h h2
    · exact i_ne h2 h.symm
  · rcases h with h | ⟨h, q1, g3, g4, g5, g6⟩
    · exact i_ne h h2.symm
    · rcases Nat.lt_trichotomy q1 q2 with h7 | h7 | h7
      · exact i_ne g5 (h6 q1 g3 h7).symm
      · rw [h7] at g5; exact i_asm g5 h5
      · exact i_ne h5 (g6 q2 h3 h7).symm
theorem fst_ne (u v : Nat → Int32) : ∀ n, (∀ j, 1 ≤ j → j < n → u j = v j) ∨ ∃ j, 1 ≤ j ∧ j < n ∧ u j ≠ v j ∧ ∀ l, 1 ≤ l → l < j → u l = v l
  | 0 => Or.inl fun j _ h => absurd h (Nat.not_lt_zero j)
  | n + 1 => by
    rcases fst_ne u v n with h | ⟨j, h1, h2, h3, h4⟩
    · by_cases e : 1 ≤ n ∧ u n ≠ v n
      · exact Or.inr ⟨n, e.1, Nat.lt_succ_self n, e.2, h⟩
      · refine Or.inl fun j hj1 hj2 => ?_
        by_cases e2 : j = n
        · subst e2; exact Classical.byContradiction fun h9 => e ⟨hj1, h9⟩
        · exact h j hj1 (by omega)
    · exact Or.inr ⟨j, h1, by omega, h3, h4⟩
theorem cb_or {dg : Nat → Int32} {V : Nat → Nat → Int32} {k x z : Nat} (y : Nat) (h : cbO dg V k x z) : cbO dg V k x y ∨ cbO dg V k y z := by
  by_cases h1 : dg x < dg y
  · exact Or.inl (Or.inl h1)
  · rcases h with h | ⟨h, q, h3, h4, h5, h6⟩
    · exact Or.inr (Or.inl (i_tr (i_le h1) h))
    · by_cases h2 : dg y < dg x
      · exact Or.inr (Or.inl (by rw [← h]; exact h2))
      · have e : dg x = dg y := i_eq3 h1 h2
        rcases fst_ne (V x) (V y) q with h7 | ⟨j, g1, g2, g3, g4⟩
        · by_cases h8 : V x q < V y q
          · exact Or.inl (Or.inr ⟨e, q, h3, h4, h8, h7⟩)
          · exact Or.inr (Or.inr ⟨e.symm.trans h, q, h3, h4, i_tr (i_le h8) h5, fun j a b => (h7 j a b).symm.trans (h6 j a b)⟩)
        · by_cases h8 : V x j < V y j
          · exact Or.inl (Or.inr ⟨e, j, g1, by omega, h8, g4⟩)
          · have h9 : V y j < V x j := Classical.byContradiction fun h10 => g3 (i_eq3 h8 h10)
            exact Or.inr (Or.inr ⟨e.symm.trans h, j, g1, by omega, by rw [← h6 j g1 g2]; exact h9, fun l a b => (g4 l a b).symm.trans (h6 l a (by omega))⟩)

