-- the sets in common, if there are at most 128: class and reference count the same
def fewO (ker : Nat → Int32) (k : Nat) : Prop := ∀ L : List Int32, L.Nodup → (∀ x, x ∈ L → inK ker k x) → L.length ≤ 128
theorem inK_le {ker : Nat → Int32} {r k : Nat} (h : r ≤ k) {x : Int32} (hx : inK ker r x) : inK ker k x := by
  obtain ⟨rs, h1, h2, h3⟩ := hx
  exact ⟨rs, h1, fun q hq => Nat.lt_of_lt_of_le (h2 q hq) h, h3⟩
theorem and_self32 (x : Int32) : x &&& x = x := by
  apply Int32.toBitVec_inj.mp
  rw [Int32.toBitVec_and]
  exact BitVec.and_self
theorem inK_s {ker : Nat → Int32} {r : Nat} {x : Int32} : inK ker (r + 1) x ↔ inK ker r x ∨ x = ker r ∨ ∃ y, inK ker r y ∧ x = y &&& ker r := by
  constructor
  · intro h
    refine inK_all (P := fun x => inK ker r x ∨ x = ker r ∨ ∃ y, inK ker r y ∧ x = y &&& ker r) (fun q hq => ?_) (fun x y hx hy => ?_) h
    · by_cases e : q = r
      · subst e; exact Or.inr (Or.inl rfl)
      · exact Or.inl (inK_1 (by omega))
    · rcases hx with hx | rfl | ⟨u, hu, rfl⟩ <;> rcases hy with hy | rfl | ⟨v, hv, rfl⟩
      · exact Or.inl (inK_and hx hy)
      · exact Or.inr (Or.inr ⟨x, hx, rfl⟩)
      · exact Or.inr (Or.inr ⟨x &&& v, inK_and hx hv, by rw [Int32.and_assoc]⟩)
      · exact Or.inr (Or.inr ⟨y, hy, Int32.and_comm _ _⟩)
      · exact Or.inr (Or.inl (and_self32 _))
      · exact Or.inr (Or.inr ⟨v, hv, by rw [Int32.and_comm, Int32.and_assoc, and_self32]⟩)
      · exact Or.inr (Or.inr ⟨u &&& y, inK_and hu hy, by rw [Int32.and_assoc, Int32.and_assoc, Int32.and_comm (ker r) y]⟩)
      · exact Or.inr (Or.inr ⟨u, hu, by rw [Int32.and_assoc, and_self32]⟩)
      · refine Or.inr (Or.inr ⟨u &&& v, inK_and hu hv, ?_⟩)
        rw [Int32.and_assoc, Int32.and_assoc, Int32.and_comm (ker r) (v &&& ker r), Int32.and_assoc, and_self32]
  · rintro (h | rfl | ⟨y, hy, rfl⟩)
    · exact inK_le (by omega) h
    · exact inK_1 (by omega)
    · exact inK_and (inK_le (by omega) hy) (inK_1 (by omega))
-- adding one set
theorem nlA_ok {ker : Nat → Int32} {k : Nat} (hb : fewO ker k) {L : List Int32} (hnd : L.Nodup) (hin : ∀ y, y ∈ L → inK ker k y) {x : Int32} (hx : inK ker k x) : (nlA L x).Nodup ∧ ∀ y, y ∈ nlA L x ↔ y ∈ L ∨ y = x := by
  unfold nlA
  by_cases h1 : x ∈ L
  · rw [if_pos h1]
    refine ⟨hnd, fun y => ⟨Or.inl, ?_⟩⟩
    rintro (h | rfl)
    · exact h
    · exact h1
  · rw [if_neg h1]
    have hnd2 : (L ++ [x]).Nodup := List.nodup_append.mpr ⟨hnd, by simp, fun u hu v hv he => by
      rw [List.mem_singleton.mp hv] at he
      exact h1 (by rw [← he]; exact hu)⟩
    have hl := hb (L ++ [x]) hnd2 (fun y hy => by
      rcases List.mem_append.mp hy with h9 | h9
      · exact hin y h9
      · rw [List.mem_singleton.mp h9]; exact hx)
    rw [List.length_append, List.length_singleton] at hl
    rw [if_pos (by omega)]
    exact ⟨hnd2, fun y => by rw [List.mem_append, List.mem_singleton]⟩
theorem nlFo_ok {ker : Nat → Int32} {k : Nat} (hb : fewO ker k) : ∀ (M L : List Int32), L.Nodup → (∀ y, y ∈ L → inK ker k y) → (∀ y, y ∈ M → inK ker k y) → (M.foldl nlA L).Nodup ∧ ∀ y, y ∈ M.foldl nlA L ↔ y ∈ L ∨ y ∈ M
  | [], L, h1, _, _ => ⟨h1, fun y => by simp⟩
  | x :: M, L, h1, h2, h3 => by
    obtain ⟨q1, q2⟩ := nlA_ok hb h1 h2 (h3 x List.mem_cons_self)
    obtain ⟨q3, q4⟩ := nlFo_ok hb M (nlA L x) q1 (fun y hy => by
      rcases (q2 y).1 hy with h9 | rfl
      · exact h2 y h9
      · exact h3 _ List.mem_cons_self) (fun y hy => h3 y (List.mem_cons_of_mem _ hy))
    refine ⟨q3, fun y => ?_⟩
    show y ∈ M.foldl nlA (nlA L x) ↔ _
    rw [q4 y, q2 y, List.mem_cons]
    constructor
    · rintro ((h | h) | h)
      · exact Or.inl h
      · exact Or.inr (Or.inl h)
      · exact Or.inr (Or.inr h)
    · rintro (h | h | h)
      · exact Or.inl (Or.inl h)
      · exact Or.inl (Or.inr h)
      · exact Or.inr h
theorem nlAll_ok {ker : Nat → Int32} {k : Nat} (hb : fewO ker k) : ∀ r, r ≤ k → (nlAll ker r).Nodup ∧ ∀ x, x ∈ nlAll ker r ↔ inK ker r x
  | 0, _ => ⟨List.nodup_nil, fun x => ⟨fun h => absurd h (List.not_mem_nil), fun h => by
    obtain ⟨rs, h1, h2, _⟩ := h
    cases rs with
    | nil => exact absurd rfl h1
    | cons q rs => exact absurd (h2 q List.mem_cons_self) (Nat.not_lt_zero q)⟩⟩
  | r + 1, hr => by
    obtain ⟨h1, h2⟩ := nlAll_ok hb r (by omega)
    have hk : inK ker k (ker r) := inK_1 (by omega)
    have hin : ∀ y, y ∈ nlAll ker r → inK ker k y := fun y hy => inK_le (by omega) ((h2 y).1 hy)
    obtain ⟨q1, q2⟩ := nlA_ok hb h1 hin hk
    have hin2 : ∀ y, y ∈ nlA (nlAll ker r) (ker r) → inK ker k y := fun y hy => by
      rcases (q2 y).1 hy with h9 | rfl
      · exact hin y h9
      · exact hk
    obtain ⟨q3, q4⟩ := nlFo_ok hb ((nlAll ker r).map (fun y => y &&& ker r)) (nlA (nlAll ker r) (ker r)) q1 hin2 (fun y hy => by
      obtain ⟨u, hu, rfl⟩ := List.mem_map.mp hy
      exact inK_and (hin u hu) hk)
    have e : nlAll ker (r + 1) = ((nlAll ker r).map (fun y => y &&& ker r)).foldl nlA (nlA (nlAll ker r) (ker r)) := by
      show nlF (nlAll ker r) (ker r) (nlAll ker r).length = _
      unfold nlF
      rw [List.take_length]
    rw [e]
    refine ⟨q3, fun x => ?_⟩
    rw [q4 x, q2 x, inK_s, h2 x, List.mem_map]
    constructor
    · rintro ((h | h) | ⟨y, hy, rfl⟩)
      · exact Or.inl h
      · exact Or.inr (Or.inl h)
      · exact Or.inr (Or.inr ⟨y, (h2 y).1 hy, rfl⟩)
    · rintro (h | h | ⟨y, hy, rfl⟩)
      · exact Or.inl (Or.inl h)
      · exact Or.inl (Or.inr h)
      · exact Or.inr ⟨y, (h2 y).2 hy, rfl⟩
theorem inK_rn {ker ker' : Nat → Int32} {k : Nat} {f : Nat → Nat} (hf : ∀ j, j < k → f j < k) (he : ∀ j, j < k → ker' j = ker (f j)) {x : Int32} (h : inK ker' k x) : inK ker k x := by
  refine inK_all (P := inK ker k) (fun r hr => by rw [he r hr]; exact inK_1 (hf r hr)) (fun x y hx hy => inK_and hx hy) h
section SN
variable {gen : Nat → Nat} {gc : Nat} {a : sA} {g : sG} {i a' i' : sA} {s : Nat → Nat} {n k : Nat} {kl re : Nat → Nat} {e p z : Nat} {W : Nat → Nat → Nat} {pl : Nat → Nat}
theorem nr_same (h : rdO gen gc a g i a' i' s n k kl re e p z W pl) (h9 : i 0 2 = 0) (hb : fewO (a 26) k) (L9 : List Int32) (h1 : L9.Nodup) (h2 : ∀ x, x ∈ L9 → inK (keM a' k) k x) (h3 : L9.length < 190 → ∀ x, inK (keM a' k) k x → x ∈ L9) : i 22 7 = nI L9.length := by
  have hE := rw_same h h9
  have hnl := (h.2 h9).2.1.2.2.2.2.2.2.2.2.2.2.2.2
  have hpl := (h.2 h9).2.1.2.2.2.2.2.2.2.2.2.2.2.1.2.2
  have hpi : ∀ j j', j < k → j' < k → pl j = pl j' → j = j' := fun j j' hj hj' he => by
    rcases Nat.lt_trichotomy j j' with q | q | q
    · exact absurd he (hpl.2 j j' q hj').1
    · exact q
    · exact absurd he.symm (hpl.2 j' j q hj).1
  have hke : ∀ j, j < k → keM a' k j = a 26 (pl j) := fun j hj => (e_kernel h (fun _ => hE) h9 j hj).symm
  have hto : ∀ x, inK (keM a' k) k x → inK (a 26) k x := fun x hx => inK_rn hpl.1 hke hx
  have hfrom : ∀ x, inK (a 26) k x → inK (keM a' k) k x := fun x hx => by
    refine inK_all (P := inK (keM a' k) k) (fun r hr => ?_) (fun x y hx hy => inK_and hx hy) hx
    obtain ⟨j, hj, rfl⟩ := pg_onto hpl.1 hpi hr
    rw [← hke j hj]
    exact inK_1 hj
  obtain ⟨q1, q2⟩ := nlAll_ok hb k (Nat.le_refl k)
  have hl9 := hb L9 h1 (fun x hx => hto x (h2 x hx))
  have hsub1 : L9 ⊆ nlAll (a 26) k := fun x hx => (q2 x).2 (hto x (h2 x hx))
  have hsub2 : nlAll (a 26) k ⊆ L9 := fun x hx => h3 (by omega) x (hfrom x ((q2 x).1 hx))
  have l1 := h1.length_le_of_subset hsub1
  have l2 := q1.length_le_of_subset hsub2
  rw [hnl.1, show (nlAll (a 26) k).length = L9.length by omega]
end SN
