-- the list of sets
def nlA (L : List Int32) (x : Int32) : List Int32 := if x ∈ L then L else if L.length < 128 then L ++ [x] else L
def nlM (a : sA) (i : sA) (L : List Int32) : Prop := i 22 7 = nI L.length ∧ L.length ≤ 128 ∧ ∀ j, j < L.length → L[j]? = some (a 28 j)
def frI (i i' : sA) : Prop := ∀ n q, ¬ (n = 22 ∧ q = 7) → i' n q = i n q
theorem nl_mem {a i : sA} {L : List Int32} (h : nlM a i L) (x : Int32) : x ∈ L ↔ ∃ j, j < L.length ∧ a 28 j = x := by
  constructor
  · intro hx
    obtain ⟨j, hj, e⟩ := List.getElem_of_mem hx
    have h1 := h.2.2 j hj
    rw [List.getElem?_eq_getElem hj, e] at h1
    exact ⟨j, hj, (Option.some.inj h1).symm⟩
  · rintro ⟨j, hj, e⟩
    have h1 := h.2.2 j hj
    rw [e] at h1
    exact List.mem_of_getElem? h1
theorem nl_step {a : sA} {g : sG} {i : sA} {L : List Int32} {x : Int32} (h : nlM a i L) {w' : sx_M} (hw : ((∃ j, j < L.length ∧ a 28 j = x) ∧ w' = cW a g i) ∨ ((¬ ∃ j, j < L.length ∧ a 28 j = x) ∧ L.length = 128 ∧ w' = cW a g i) ∨ ((¬ ∃ j, j < L.length ∧ a 28 j = x) ∧ L.length < 128 ∧ w' = cW (va_up a 28 (upd (a 28) L.length x)) g (va_up i 22 (va_up (i 22) 7 (nI (L.length + 1)))))) :
    ∃ a' i' : sA, w' = cW a' g i' ∧ nlM a' i' (nlA L x) ∧ frA [28] a a' ∧ frI i i' := by
  rcases hw with ⟨h1, rfl⟩ | ⟨h1, h2, rfl⟩ | ⟨h1, h2, rfl⟩
  · refine ⟨a, i, rfl, ?_, fun _ _ => rfl, fun _ _ _ => rfl⟩
    unfold nlA
    rw [if_pos ((nl_mem h x).mpr h1)]; exact h
  · refine ⟨a, i, rfl, ?_, fun _ _ => rfl, fun _ _ _ => rfl⟩
    unfold nlA
    rw [if_neg (fun h9 => h1 ((nl_mem h x).mp h9)), if_neg (by omega)]; exact h
  · refine ⟨_, _, rfl, ?_, frA_up (fun _ _ => rfl) (by decide), fun n q hnq => ?_⟩
    · unfold nlA
      rw [if_neg (fun h9 => h1 ((nl_mem h x).mp h9)), if_pos h2]
      refine ⟨?_, by rw [List.length_append]; exact h2, fun j hj => ?_⟩
      · rw [va_up_self, va_up_self, List.length_append]; rfl
      · rw [va_up_self]
        by_cases e : j = L.length
        · subst e
          rw [pk_us, List.getElem?_append_right (Nat.le_refl _), Nat.sub_self]; rfl
        · have hj2 : j < L.length := by
            rw [List.length_append] at hj
            have : [x].length = 1 := rfl
            omega
          rw [pk_un e, List.getElem?_append_left hj2]; exact h.2.2 j hj2
    · by_cases e : n = 22
      · subst e
        rw [va_up_self, va_up_ne _ _ (fun h9 => hnq ⟨rfl, h9⟩)]
      · rw [va_up_ne _ _ e]

