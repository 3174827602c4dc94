-- pure: a row put in
def plN (pl : Nat → Nat) (t r : Nat) : Nat → Nat := fun j => if j < t then pl j else if j = t then r else pl (j - 1)
def plO (dg : Nat → Int32) (V : Nat → Nat → Int32) (k r : Nat) (pl : Nat → Nat) : Prop := (∀ j, j < r → pl j < r) ∧ (∀ s t, s < t → t < r → pl s ≠ pl t ∧ ¬ cbO dg V k (pl t) (pl s))
theorem plN_ok {dg : Nat → Int32} {V : Nat → Nat → Int32} {k r t : Nat} {pl : Nat → Nat} (h : plO dg V k r pl) (ht : t ≤ r) (h1 : ∀ j, t ≤ j → j < r → cbO dg V k r (pl j)) (h2 : 0 < t → ¬ cbO dg V k r (pl (t - 1))) : plO dg V k (r + 1) (plN pl t r) := by
  have hlow : ∀ j, j < t → ¬ cbO dg V k r (pl j) := fun j hj h9 => by
    by_cases e : j = t - 1
    · rw [e] at h9; exact h2 (by omega) h9
    · rcases cb_or (pl (t - 1)) h9 with h10 | h10
      · exact h2 (by omega) h10
      · exact (h.2 j (t - 1) (by omega) (by omega)).2 h10
  have eA : ∀ j, j < t → plN pl t r j = pl j := fun j hj => if_pos hj
  have eB : plN pl t r t = r := by unfold plN; rw [if_neg (Nat.lt_irrefl t), if_pos rfl]
  have eC : ∀ j, t < j → plN pl t r j = pl (j - 1) := fun j hj => by unfold plN; rw [if_neg (by omega), if_neg (by omega)]
  refine ⟨fun j hj => ?_, fun a b hab hb => ?_⟩
  · rcases Nat.lt_trichotomy j t with e | e | e
    · rw [eA j e]; exact Nat.lt_succ_of_lt (h.1 j (by omega))
    · rw [e, eB]; exact Nat.lt_succ_self r
    · rw [eC j e]; exact Nat.lt_succ_of_lt (h.1 (j - 1) (by omega))
  · rcases Nat.lt_trichotomy b t with e | e | e
    · rw [eA b e, eA a (by omega)]; exact h.2 a b hab (by omega)
    · subst e
      rw [eB, eA a hab]
      exact ⟨Nat.ne_of_lt (h.1 a (by omega)), hlow a hab⟩
    · rw [eC b e]
      rcases Nat.lt_trichotomy a t with e2 | e2 | e2
      · rw [eA a e2]; exact h.2 a (b - 1) (by omega) (by omega)
      · subst e2
        rw [eB]
        exact ⟨Ne.symm (Nat.ne_of_lt (h.1 (b - 1) (by omega))), cb_as (h1 (b - 1) (by omega) (by omega))⟩
      · rw [eC a e2]; exact h.2 (a - 1) (b - 1) (by omega) (by omega)

