-- pure: sums over lists, in the integers
def si {α : Type} (f : α → Int) : List α → Int
  | [] => 0
  | a :: l => f a + si f l
def ib (b : Bool) : Int := if b = true then 1 else 0
theorem si_nil {α : Type} (f : α → Int) : si f [] = 0 := rfl
theorem si_cons {α : Type} (f : α → Int) (a : α) (l : List α) : si f (a :: l) = f a + si f l := rfl
theorem si_app {α : Type} (f : α → Int) : ∀ l l' : List α, si f (l ++ l') = si f l + si f l'
  | [], l' => by simp [si]
  | a :: l, l' => by rw [List.cons_append, si_cons, si_cons, si_app f l l', Int.add_assoc]
theorem si_map {α β : Type} (f : β → Int) (g : α → β) : ∀ l : List α, si f (l.map g) = si (fun a => f (g a)) l
  | [] => rfl
  | a :: l => by rw [List.map_cons, si_cons, si_cons, si_map f g l]
theorem si_flat {α β : Type} (f : β → Int) (g : α → List β) : ∀ l : List α, si f (l.flatMap g) = si (fun a => si f (g a)) l
  | [] => rfl
  | a :: l => by rw [List.flatMap_cons, si_app, si_cons, si_flat f g l]
theorem si_congr {α : Type} {f g : α → Int} : ∀ {l : List α}, (∀ a, a ∈ l → f a = g a) → si f l = si g l
  | [], _ => rfl
  | a :: l, h => by rw [si_cons, si_cons, h a List.mem_cons_self, si_congr (fun b hb => h b (List.mem_cons_of_mem _ hb))]
theorem si_0 {α : Type} : ∀ l : List α, si (fun _ => (0 : Int)) l = 0
  | [] => rfl
  | a :: l => by rw [si_cons, si_0 l]; rfl
theorem si_z {α : Type} {f : α → Int} {l : List α} (h : ∀ a, a ∈ l → f a = 0) : si f l = 0 := (si_congr h).trans (si_0 l)
theorem si_add {α : Type} (f g : α → Int) : ∀ l : List α, si (fun a => f a + g a) l = si f l + si g l
  | [] => rfl
  | a :: l => by rw [si_cons, si_cons, si_cons, si_add f g l]; omega
theorem si_sub {α : Type} (f g : α → Int) : ∀ l : List α, si (fun a => f a - g a) l = si f l - si g l
  | [] => rfl
  | a :: l => by rw [si_cons, si_cons, si_cons, si_sub f g l]; omega
theorem si_mul {α : Type} (c : Int) (f : α → Int) : ∀ l : List α, si (fun a => c * f a) l = c * si f l
  | [] => (Int.mul_zero c).symm
  | a :: l => by rw [si_cons, si_cons, si_mul c f l, Int.mul_add]
theorem si_mulr {α : Type} (c : Int) (f : α → Int) : ∀ l : List α, si (fun a => f a * c) l = si f l * c
  | [] => (Int.zero_mul c).symm
  | a :: l => by rw [si_cons, si_cons, si_mulr c f l, Int.add_mul]
theorem si_swap {α β : Type} (f : α → β → Int) (l' : List β) : ∀ l : List α, si (fun a => si (f a) l') l = si (fun b => si (fun a => f a b) l) l'
  | [] => (si_0 l').symm
  | a :: l => by rw [si_cons, si_swap f l' l, ← si_add]; rfl
theorem si_const {α : Type} (c : Int) : ∀ l : List α, si (fun _ => c) l = l.length * c
  | [] => by simp [si]
  | a :: l => by rw [si_cons, si_const c l, List.length_cons, Int.natCast_add, Int.add_mul]; simp; omega
theorem si_count {α : Type} (p : α → Bool) : ∀ l : List α, si (fun a => ib (p a)) l = (l.countP p : Int)
  | [] => rfl
  | a :: l => by
    rw [si_cons, si_count p l, List.countP_cons, ib]
    by_cases h : p a = true
    · rw [if_pos h, if_pos h, Int.natCast_add]; omega
    · rw [if_neg h, if_neg h]; simp
theorem si_filter {α : Type} (p : α → Bool) (f : α → Int) : ∀ l : List α, si f (l.filter p) = si (fun a => ib (p a) * f a) l
  | [] => rfl
  | a :: l => by
    rw [List.filter_cons, si_cons, ← si_filter p f l, ib]
    by_cases h : p a = true
    · rw [if_pos h, if_pos h, si_cons, Int.one_mul]
    · rw [if_neg h, if_neg h, Int.zero_mul, Int.zero_add]
theorem si_perm {α : Type} (f : α → Int) {l l' : List α} (h : l.Perm l') : si f l = si f l' := by
  induction h with
  | nil => rfl
  | cons x _ ih => rw [si_cons, si_cons, ih]
  | swap x y l => rw [si_cons, si_cons, si_cons, si_cons]; omega
  | trans _ _ ih1 ih2 => exact ih1.trans ih2
theorem si_one {α : Type} [DecidableEq α] (f : α → Int) (b : α) : ∀ {l : List α}, l.Nodup → b ∈ l → si (fun a => ib (decide (a = b)) * f a) l = f b
  | [], _, h => by simp at h
  | a :: l, hn, h => by
    rw [List.nodup_cons] at hn
    rw [si_cons]
    by_cases e : a = b
    · subst e
      rw [si_z (l := l) (fun x hx => ?_)]
      · simp [ib]
      · have : x ≠ a := fun h9 => hn.1 (h9 ▸ hx)
        simp [ib, this]
    · rcases List.mem_cons.mp h with h9 | h9
      · exact absurd h9.symm e
      · rw [si_one f b hn.2 h9]
        simp [ib, e]
-- by the number of a part: g sends each element to its part
theorem si_parts {α : Type} (f : Nat → Int) (g : α → Nat) (k : Nat) {l : List α} (h : ∀ a, a ∈ l → g a < k) : si (fun a => f (g a)) l = si (fun j => (l.countP (fun a => decide (g a = j)) : Int) * f j) (List.range k) := by
  have h1 : si (fun j => (l.countP (fun a => decide (g a = j)) : Int) * f j) (List.range k) = si (fun j => si (fun a => ib (decide (j = g a)) * f j) l) (List.range k) := by
    refine si_congr fun j _ => ?_
    rw [si_mulr, ← si_count]
    congr 1
    refine si_congr fun a _ => ?_
    by_cases e : g a = j
    · subst e; simp
    · simp [ib, e, Ne.symm e]
  rw [h1, si_swap]
  refine si_congr fun a ha => ?_
  exact (si_one f (g a) List.nodup_range (List.mem_range.mpr (h a ha))).symm
-- remainders
theorem dv_add {p a b : Int} (h1 : p ∣ a) (h2 : p ∣ b) : p ∣ a + b := Int.dvd_add h1 h2
theorem si_dvd {α : Type} {p : Int} {f : α → Int} : ∀ {l : List α}, (∀ a, a ∈ l → p ∣ f a) → p ∣ si f l
  | [], _ => Int.dvd_zero p
  | a :: l, h => Int.dvd_add (h a List.mem_cons_self) (si_dvd (fun b hb => h b (List.mem_cons_of_mem _ hb)))
theorem si_cong {α : Type} {p : Int} {f g : α → Int} {l : List α} (h : ∀ a, a ∈ l → p ∣ f a - g a) : p ∣ si f l - si g l := by
  rw [← si_sub]
  exact si_dvd h
