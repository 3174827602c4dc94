-- pure: a free action of a cycle of d steps on a finite set: d divides its size
def fa_it {α : Type} (f : α → α) : Nat → α → α
  | 0, x => x
  | n + 1, x => fa_it f n (f x)
theorem fa_succ {α : Type} (f : α → α) : ∀ (n : Nat) (x : α), fa_it f (n + 1) x = f (fa_it f n x)
  | 0, _ => rfl
  | n + 1, x => fa_succ f n (f x)
theorem fa_add {α : Type} (f : α → α) (m : Nat) : ∀ (n : Nat) (x : α), fa_it f (m + n) x = fa_it f m (fa_it f n x)
  | 0, _ => rfl
  | n + 1, x => fa_add f m n (f x)
theorem fa_mul {α : Type} (f : α → α) {d : Nat} {x : α} (h : fa_it f d x = x) : ∀ k : Nat, fa_it f (d * k) x = x
  | 0 => rfl
  | k + 1 => by rw [Nat.mul_succ, fa_add, h, fa_mul f h k]
theorem fa_gcd {α : Type} (f : α → α) (x : α) : ∀ (a b : Nat), fa_it f a x = x → fa_it f b x = x → fa_it f (Nat.gcd a b) x = x := by
  intro a b
  induction a, b using Nat.gcd.induction with
  | H0 n => intro _ h; rw [Nat.gcd_zero_left]; exact h
  | H1 m n hm ih =>
    intro h1 h2
    rw [Nat.gcd_rec]
    refine ih ?_ h1
    have h3 : n = n % m + m * (n / m) := (Nat.mod_add_div n m).symm
    rw [h3, fa_add, fa_mul f h1] at h2
    exact h2
theorem fa_div {α : Type} [DecidableEq α] (f : α → α) (d : Nat) (hd : 0 < d) : ∀ (N : Nat) (X : List α), X.length ≤ N → X.Nodup → (∀ x, x ∈ X → f x ∈ X) → (∀ x, x ∈ X → fa_it f d x = x) → (∀ x, x ∈ X → ∀ j, 0 < j → j < d → fa_it f j x ≠ x) → d ∣ X.length := by
  intro N
  induction N with
  | zero =>
    intro X h _ _ _ _
    rw [Nat.le_zero.mp h]
    exact Nat.dvd_zero d
  | succ N ih =>
    intro X hlen hnd hf hid hfree
    cases X with
    | nil => exact Nat.dvd_zero d
    | cons x X' =>
      generalize hX : x :: X' = X at *
      have hx : x ∈ X := by rw [← hX]; exact List.mem_cons_self
      have hin : ∀ j, fa_it f j x ∈ X := by
        intro j
        induction j with
        | zero => exact hx
        | succ j ihj => rw [fa_succ]; exact hf _ ihj
      have hOnd : ((List.range d).map (fun j => fa_it f j x)).Nodup := by
        refine List.pairwise_map.mpr (List.Pairwise.imp_of_mem (fun {a b} ha hb hab => ?_) List.pairwise_lt_range)
        intro he
        have hb' : b < d := List.mem_range.mp hb
        have h1 : fa_it f (d - a) (fa_it f a x) = x := by rw [← fa_add, Nat.sub_add_cancel (by omega)]; exact hid x hx
        rw [he, ← fa_add, show d - a + b = b - a + d by omega, fa_add, hid x hx] at h1
        exact hfree x hx (b - a) (by omega) (by omega) h1
      generalize hO : (List.range d).map (fun j => fa_it f j x) = O at hOnd
      have hOm : ∀ y, y ∈ O ↔ ∃ j, j < d ∧ fa_it f j x = y := by
        intro y
        rw [← hO, List.mem_map]
        constructor
        · rintro ⟨j, h1, h2⟩; exact ⟨j, List.mem_range.mp h1, h2⟩
        · rintro ⟨j, h1, h2⟩; exact ⟨j, List.mem_range.mpr h1, h2⟩
      have hOf : ∀ y, y ∈ O → f y ∈ O := by
        intro y hy
        obtain ⟨j, h1, h2⟩ := (hOm y).mp hy
        by_cases h3 : j + 1 < d
        · exact (hOm _).mpr ⟨j + 1, h3, by rw [fa_succ, h2]⟩
        · refine (hOm _).mpr ⟨0, hd, ?_⟩
          have h4 : j + 1 = d := by omega
          have h5 := hid x hx
          rw [← h4, fa_succ, h2] at h5
          rw [h5]; rfl
      have hOi : ∀ (j : Nat) (y : α), y ∈ O → fa_it f j y ∈ O := by
        intro j
        induction j with
        | zero => intro y hy; exact hy
        | succ j ihj => intro y hy; exact ihj _ (hOf y hy)
      have hsplit := List.length_eq_countP_add_countP (fun y => decide (y ∈ O)) (l := X)
      have h1 : List.countP (fun y => decide (y ∈ O)) X = d := by
        rw [List.countP_eq_length_filter]
        have hp : (X.filter (fun y => decide (y ∈ O))).Perm O := by
          refine (List.perm_ext_iff_of_nodup (hnd.sublist List.filter_sublist) hOnd).mpr fun a => ?_
          rw [List.mem_filter]
          constructor
          · intro h; exact of_decide_eq_true h.2
          · intro h
            obtain ⟨j, _, h2⟩ := (hOm a).mp h
            exact ⟨h2 ▸ hin j, decide_eq_true h⟩
        rw [hp.length_eq, ← hO, List.length_map, List.length_range]
      have h2 : d ∣ List.countP (fun y => decide ¬ (decide (y ∈ O)) = true) X := by
        rw [List.countP_eq_length_filter]
        refine ih _ ?_ (hnd.sublist List.filter_sublist) ?_ ?_ ?_
        · rw [← List.countP_eq_length_filter]; omega
        · intro y hy
          rw [List.mem_filter] at hy ⊢
          refine ⟨hf y hy.1, ?_⟩
          have hy2 := hy.2
          simp at hy2 ⊢
          intro h9
          apply hy2
          have h10 := hOi (d - 1) _ h9
          have h11 : fa_it f (d - 1) (f y) = fa_it f d y := by
            rw [show d = (d - 1) + 1 by omega]; rfl
          rw [h11, hid y hy.1] at h10
          exact h10
        · intro y hy; exact hid y (List.mem_filter.mp hy).1
        · intro y hy; exact hfree y (List.mem_filter.mp hy).1
      rw [hsplit, h1]
      exact Nat.dvd_add (Nat.dvd_refl d) h2
-- tuples
def tp_all {α : Type} (C : List α) : Nat → List (List α)
  | 0 => [[]]
  | m + 1 => (tp_all C m).flatMap (fun t => C.map (fun g => g :: t))
theorem tp_mem {α : Type} (C : List α) : ∀ (m : Nat) (t : List α), t ∈ tp_all C m ↔ t.length = m ∧ ∀ g, g ∈ t → g ∈ C
  | 0, t => by
    simp only [tp_all, List.mem_singleton]
    constructor
    · rintro rfl; simp
    · rintro ⟨h, _⟩; exact List.eq_nil_of_length_eq_zero h
  | m + 1, t => by
    simp only [tp_all, List.mem_flatMap, List.mem_map, tp_mem C m]
    constructor
    · rintro ⟨t', ⟨h1, h2⟩, g, hg, rfl⟩
      refine ⟨by rw [List.length_cons, h1], fun x hx => ?_⟩
      rcases List.mem_cons.mp hx with rfl | hx
      · exact hg
      · exact h2 x hx
    · rintro ⟨h1, h2⟩
      cases t with
      | nil => simp at h1
      | cons g t' => exact ⟨t', ⟨by simpa using h1, fun x hx => h2 x (List.mem_cons_of_mem _ hx)⟩, g, h2 g List.mem_cons_self, rfl⟩
theorem tp_nodup {α : Type} (C : List α) (hC : C.Nodup) : ∀ m : Nat, (tp_all C m).Nodup
  | 0 => by simp [tp_all]
  | m + 1 => by
    refine List.pairwise_flatMap.mpr ⟨fun t _ => ?_, ?_⟩
    · refine List.pairwise_map.mpr (List.Pairwise.imp (fun {a b} hab he => hab ?_) hC)
      exact (List.cons.inj he).1
    · refine List.Pairwise.imp (fun {t t'} hne x hx y hy he => hne ?_) (tp_nodup C hC m)
      obtain ⟨g, _, rfl⟩ := List.mem_map.mp hx
      obtain ⟨g', _, rfl⟩ := List.mem_map.mp hy
      exact (List.cons.inj he).2
def tp_rot {α : Type} : List α → List α
  | [] => []
  | g :: t => t ++ [g]
theorem tp_rot_it {α : Type} : ∀ (a b : List α), fa_it tp_rot a.length (a ++ b) = b ++ a
  | [], b => by simp [fa_it]
  | g :: a, b => by
    have h := tp_rot_it a (b ++ [g])
    simp only [List.length_cons, fa_it, List.cons_append, tp_rot]
    rw [List.append_assoc, h, List.append_assoc]
    rfl
theorem tp_rot_all {α : Type} (t : List α) : fa_it tp_rot t.length t = t := by
  have h := tp_rot_it t []
  simpa using h
theorem tp_rot_len {α : Type} (t : List α) : (tp_rot t).length = t.length := by
  cases t <;> simp [tp_rot]
theorem tp_rot_mem {α : Type} (t : List α) (x : α) : x ∈ tp_rot t ↔ x ∈ t := by
  cases t with
  | nil => simp [tp_rot]
  | cons g t => simp [tp_rot, or_comm]
theorem tp_rot_1 {α : Type} : ∀ (g : α) (t : List α), tp_rot (g :: t) = g :: t → ∀ x, x ∈ t → x = g
  | g, [], _, x, hx => by simp at hx
  | g, h :: t, e, x, hx => by
    have e1 : h :: (t ++ [g]) = g :: h :: t := e
    obtain ⟨rfl, e2⟩ := List.cons.inj e1
    have e3 : tp_rot (h :: t) = h :: t := e2
    rcases List.mem_cons.mp hx with rfl | hx
    · rfl
    · exact tp_rot_1 h t e3 x hx
-- p prime: a tuple of p places that comes back after fewer steps is constant
theorem tp_free {α : Type} {p : Nat} (hp : ∀ m, m ∣ p → m = 1 ∨ m = p) {t : List α} (ht : t.length = p) {j : Nat} (h0 : 0 < j) (hj : j < p) (h : fa_it tp_rot j t = t) : tp_rot t = t := by
  have h1 := fa_gcd tp_rot t j p h (by rw [← ht]; exact tp_rot_all t)
  rcases hp _ (Nat.gcd_dvd_right j p) with e | e
  · rw [e] at h1; exact h1
  · exfalso
    have := Nat.gcd_le_left p h0
    omega
-- tuples over C with a property that turning keeps: modulo p only the constant ones count
theorem tp_cong0 {α : Type} [DecidableEq α] {C : List α} (hC : C.Nodup) {p : Nat} (hp1 : 1 < p) (hp : ∀ m, m ∣ p → m = 1 ∨ m = p) (P : List α → Bool)
    (hP : ∀ t : List α, (∀ g, g ∈ t → g ∈ C) → P (tp_rot t) = P t) :
    (p : Int) ∣ ((tp_all C p).countP P : Int) - (C.countP (fun g => P (List.replicate p g)) : Int) := by
  have hin : ∀ t, t ∈ tp_all C p → ∀ g, g ∈ t → g ∈ C := fun t ht g hg => ((tp_mem C p t).mp ht).2 g hg
  have hnd := tp_nodup C hC p
  -- the ones that move
  have h1 : p ∣ ((tp_all C p).filter (fun t => P t && !decide (tp_rot t = t))).length := by
    refine fa_div tp_rot p (by omega) _ _ (Nat.le_refl _) (hnd.sublist List.filter_sublist) (fun t ht => ?_) (fun t ht => ?_) (fun t ht j hj hjp he => ?_)
    · rw [List.mem_filter] at ht ⊢
      have ht1 := (tp_mem C p t).mp ht.1
      refine ⟨(tp_mem C p _).mpr ⟨by rw [tp_rot_len]; exact ht1.1, fun g hg => ht1.2 g ((tp_rot_mem t g).mp hg)⟩, ?_⟩
      have ht2 := ht.2
      rw [Bool.and_eq_true] at ht2 ⊢
      refine ⟨by rw [hP t (hin t ht.1)]; exact ht2.1, ?_⟩
      have h9 := ht2.2
      simp at h9 ⊢
      intro h10
      apply h9
      have h11 : fa_it tp_rot (p - 1) (tp_rot (tp_rot t)) = tp_rot t := by
        have := tp_rot_all (tp_rot t)
        rw [tp_rot_len, ht1.1] at this
        rw [show p = (p - 1) + 1 by omega] at this
        exact this
      have h12 : fa_it tp_rot (p - 1) (tp_rot t) = t := by
        have := tp_rot_all t
        rw [ht1.1] at this
        rw [show p = (p - 1) + 1 by omega] at this
        exact this
      rw [h10, h12] at h11
      exact h11.symm
    · have ht1 := (tp_mem C p t).mp (List.mem_filter.mp ht).1
      have := tp_rot_all t
      rw [ht1.1] at this
      exact this
    · have ht1 := (tp_mem C p t).mp (List.mem_filter.mp ht).1
      have h2 := tp_free hp ht1.1 hj hjp he
      have h3 := (List.mem_filter.mp ht).2
      simp [h2] at h3
  -- the ones that stand
  have h2 : ((tp_all C p).filter (fun t => P t && decide (tp_rot t = t))).length = C.countP (fun g => P (List.replicate p g)) := by
    rw [List.countP_eq_length_filter]
    have h3 : ((tp_all C p).filter (fun t => P t && decide (tp_rot t = t))).Perm ((C.filter (fun g => P (List.replicate p g))).map (fun g => List.replicate p g)) := by
      refine (List.perm_ext_iff_of_nodup (hnd.sublist List.filter_sublist) ?_).mpr fun t => ?_
      · refine List.pairwise_map.mpr (List.Pairwise.imp (fun {a b} hab he => hab ?_) (hC.sublist List.filter_sublist))
        have h4 : (List.replicate p a)[0]? = (List.replicate p b)[0]? := by rw [he]
        rw [List.getElem?_replicate, List.getElem?_replicate, if_pos (by omega), if_pos (by omega)] at h4
        exact Option.some.inj h4
      · rw [List.mem_filter, List.mem_map]
        constructor
        · rintro ⟨h4, h5⟩
          rw [Bool.and_eq_true] at h5
          have h6 := of_decide_eq_true h5.2
          have h7 := (tp_mem C p t).mp h4
          cases t with
          | nil => simp at h7; omega
          | cons g t =>
            have h8 := tp_rot_1 g t h6
            have h9 : g :: t = List.replicate p g := by
              refine List.eq_replicate_iff.mpr ⟨h7.1, fun b hb => ?_⟩
              rcases List.mem_cons.mp hb with rfl | hb
              · rfl
              · exact h8 b hb
            have hgC := h7.2 g List.mem_cons_self
            refine ⟨g, List.mem_filter.mpr ⟨hgC, ?_⟩, h9.symm⟩
            have h10 := h5.1
            rw [h9] at h10
            exact h10
        · rintro ⟨g, hg, rfl⟩
          obtain ⟨hgC, hgP⟩ := List.mem_filter.mp hg
          refine ⟨(tp_mem C p _).mpr ⟨List.length_replicate, fun x hx => by rw [(List.mem_replicate.mp hx).2]; exact hgC⟩, ?_⟩
          rw [Bool.and_eq_true]
          refine ⟨hgP, decide_eq_true ?_⟩
          cases p with
          | zero => rfl
          | succ p =>
            rw [List.replicate_succ]
            show List.replicate p g ++ [g] = _
            rw [← List.replicate_succ', List.replicate_succ]
    rw [h3.length_eq, List.length_map]
  have h3 := List.length_eq_countP_add_countP (fun t => decide (tp_rot t = t)) (l := (tp_all C p).filter P)
  rw [← List.countP_eq_length_filter] at h3
  rw [List.countP_filter, List.countP_filter] at h3
  have h4 : List.countP (fun a => decide (tp_rot a = a) && P a) (tp_all C p) = C.countP (fun g => P (List.replicate p g)) := by
    rw [← h2, ← List.countP_eq_length_filter]
    exact List.countP_congr fun t _ => by rw [Bool.and_comm]
  have h5 : List.countP (fun a => (decide ¬ decide (tp_rot a = a) = true) && P a) (tp_all C p) = ((tp_all C p).filter (fun t => P t && !decide (tp_rot t = t))).length := by
    rw [← List.countP_eq_length_filter]
    refine List.countP_congr fun t _ => ?_
    rw [Bool.and_comm]
    simp
  rw [h4, h5] at h3
  obtain ⟨c, hc⟩ := h1
  rw [h3, hc]
  exact ⟨c, by rw [Int.natCast_add, Int.natCast_mul]; omega⟩
