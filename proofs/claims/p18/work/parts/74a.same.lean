-- pure: the tables are the same for both
theorem inc_u {s s' : Nat → Nat} {n n' : Nat} (h : ∀ j k, j < k → k < n → s j < s k) (h' : ∀ j k, j < k → k < n' → s' j < s' k) (hr : ∀ c, (∃ j, j < n ∧ s j = c) ↔ ∃ j, j < n' ∧ s' j = c) : ∀ j, j < n → j < n' ∧ s' j = s j := by
  intro j
  induction j using Nat.strongRecOn with
  | _ j ih =>
    intro hj
    obtain ⟨j', hj', he⟩ := (hr (s j)).1 ⟨j, hj, rfl⟩
    rcases Nat.lt_trichotomy j' j with hlt | heq | hgt
    · have h1 := (ih j' hlt (by omega)).2
      have := h j' j hlt hj
      omega
    · subst heq; exact ⟨hj', he⟩
    · obtain ⟨m, hm, hme⟩ := (hr (s' j)).2 ⟨j, by omega, rfl⟩
      have h1 := h' j j' hgt hj'
      have hmj : m < j := by
        rcases Nat.lt_trichotomy m j with h2 | h2 | h2
        · exact h2
        · subst h2; omega
        · have := h j m h2 hm; omega
      have h3 := (ih m hmj hm).2
      have := h' m j hmj (by omega)
      omega
theorem elS_u {gen : Nat → Nat} {gc : Nat} {s s' : Nat → Nat} {n n' : Nat} (h : elS gen gc s n) (h' : elS gen gc s' n') : n' = n ∧ ∀ j, j < n → s' j = s j := by
  have hr : ∀ c, (∃ j, j < n ∧ s j = c) ↔ ∃ j, j < n' ∧ s' j = c := fun c => (h.2.2.2 c).symm.trans (h'.2.2.2 c)
  have h1 := inc_u h.2.2.1 h'.2.2.1 hr
  have h2 := inc_u h'.2.2.1 h.2.2.1 (fun c => (hr c).symm)
  have hn : n' = n := by
    have a1 := h.1
    have a2 := h'.1
    have b1 := (h1 (n - 1) (by omega)).1
    have b2 := (h2 (n' - 1) (by omega)).1
    omega
  exact ⟨hn, fun j hj => (h1 j hj).2⟩
theorem cl_low {s : Nat → Nat} {n k : Nat} {kl re : Nat → Nat} (h : clS s n k kl re) (c : Nat) : (c ∈ Gl s n ∧ ∀ y, y ∈ Gl s n → cnj s n c y → c ≤ y) ↔ ∃ l, l < k ∧ re l = c := by
  constructor
  · rintro ⟨hc, hl⟩
    have hk := kc_lt h.1 hc
    refine ⟨kl c, hk, ?_⟩
    have h1 := h.2.1 c hc
    have h2 := hl (re (kl c)) (kc_re h.1 hk) ((kc_iff h.1 hc (kc_re h.1 hk)).1 (kc_kr h.1 hk).symm)
    omega
  · rintro ⟨l, hl, rfl⟩
    refine ⟨kc_re h.1 hl, fun y hy hc => ?_⟩
    have h1 := (kc_iff h.1 (kc_re h.1 hl) hy).2 hc
    rw [kc_kr h.1 hl] at h1
    have h2 := h.2.1 y hy
    rw [← h1] at h2
    exact h2
theorem clS_u {s : Nat → Nat} {n k k' : Nat} {kl re kl' re' : Nat → Nat} (h : clS s n k kl re) (h' : clS s n k' kl' re') : k' = k ∧ (∀ x, x ∈ Gl s n → kl' x = kl x) ∧ ∀ l, l < k → re' l = re l := by
  have hr : ∀ c, (∃ j, j < k ∧ re j = c) ↔ ∃ j, j < k' ∧ re' j = c := fun c => (cl_low h c).symm.trans (cl_low h' c)
  have h1 := inc_u h.2.2 h'.2.2 hr
  have h2 := inc_u h'.2.2 h.2.2 (fun c => (hr c).symm)
  have hk : k' = k := by
    have a1 : 0 < k := h.1.2.2.2.2.2
    have a2 : 0 < k' := h'.1.2.2.2.2.2
    have b1 := (h1 (k - 1) (by omega)).1
    have b2 := (h2 (k' - 1) (by omega)).1
    omega
  refine ⟨hk, fun x hx => ?_, fun l hl => (h1 l hl).2⟩
  have a1 := kc_lt h.1 hx
  have a2 := kc_lt h'.1 hx
  rw [hk] at a2
  have e1 := (h1 (kl' x) a2).2
  -- the least of the class of x
  have b1 : re (kl' x) = re (kl x) := by
    rw [← e1]
    have c1 : cnj s n x (re' (kl' x)) := (kc_iff h'.1 hx (kc_re h'.1 (by omega))).1 (kc_kr h'.1 (by omega)).symm
    have c2 : cnj s n x (re (kl x)) := (kc_iff h.1 hx (kc_re h.1 a1)).1 (kc_kr h.1 a1).symm
    have hG := kc_g h.1
    have d1 := ((cl_low h' (re' (kl' x))).2 ⟨_, by omega, rfl⟩).2 (re (kl x)) (kc_re h.1 a1) (cnj_trans hG (cnj_symm hG hx (kc_re h'.1 (by omega)) c1) c2)
    have d2 := ((cl_low h (re (kl x))).2 ⟨_, a1, rfl⟩).2 (re' (kl' x)) (kc_re h'.1 (by omega)) (cnj_trans hG (cnj_symm hG hx (kc_re h.1 a1) c2) c1)
    omega
  have e2 := congrArg kl b1
  rw [kc_kr h.1 a2, kc_kr h.1 a1] at e2
  exact e2
theorem gMany_no {gen : Nat → Nat} {gc : Nat} {s : Nat → Nat} {n : Nat} (h : elS gen gc s n) : ¬ gMany gen gc := fun ⟨es, h1, h2, h3⟩ => by
  have hs : es ⊆ Gl s n := fun c hc => Gl_mem.mpr ((h.2.2.2 c).1 (h3 c hc))
  have := h2.length_le_of_subset hs
  rw [h1, List.length_map, List.length_range] at this
  have := h.2.1
  omega
theorem cMany_no {s : Nat → Nat} {n k : Nat} {kl re : Nat → Nat} (h : clS s n k kl re) (hk : k ≤ 16) : ¬ cMany s n := fun ⟨es, h1, h2, h3⟩ => by
  have hn : (es.map kl).Nodup := List.pairwise_map.mpr (List.Pairwise.imp_of_mem (fun {x y} hx hy hxy he => hxy ((kc_iff h.1 (h2 x hx) (h2 y hy)).1 he)) h3)
  have hs : es.map kl ⊆ List.range k := fun c hc => by
    obtain ⟨x, hx, rfl⟩ := List.mem_map.mp hc
    exact List.mem_range.mpr (kc_lt h.1 (h2 x hx))
  have := hn.length_le_of_subset hs
  rw [List.length_map, h1, List.length_range] at this
  omega
theorem kc_s_cg {G : List Nat} {kl kl' : Nat → Nat} (h : ∀ x, x ∈ G → kl' x = kl x) (l : Nat) : kc_s G kl' l = kc_s G kl l := List.countP_congr fun x hx => by rw [h x hx]
-- the order by places
theorem cb_rn {dg dg' : Nat → Int32} {V V' : Nat → Nat → Int32} {k x y x' y' : Nat} (hx : dg' x = dg x' ∧ ∀ j, j < k → V' x j = V x' j) (hy : dg' y = dg y' ∧ ∀ j, j < k → V' y j = V y' j) : cbO dg' V' k x y ↔ cbO dg V k x' y' := by
  unfold cbO
  rw [hx.1, hy.1]
  constructor
  · rintro (h | ⟨h, q, h1, h2, h3, h4⟩)
    · exact Or.inl h
    · rw [hx.2 q h2, hy.2 q h2] at h3
      exact Or.inr ⟨h, q, h1, h2, h3, fun j j1 j2 => by rw [← hx.2 j (by omega), ← hy.2 j (by omega)]; exact h4 j j1 j2⟩
  · rintro (h | ⟨h, q, h1, h2, h3, h4⟩)
    · exact Or.inl h
    · rw [← hx.2 q h2, ← hy.2 q h2] at h3
      exact Or.inr ⟨h, q, h1, h2, h3, fun j j1 j2 => by rw [hx.2 j (by omega), hy.2 j (by omega)]; exact h4 j j1 j2⟩
def srO (dg : Nat → Int32) (V : Nat → Nat → Int32) (k x : Nat) : Prop := ∀ s t, s < x → s < t → t < k → ¬ cbO dg V k t s
theorem sr_ex {dg dg' : Nat → Int32} {V V' : Nat → Nat → Int32} {k x y : Nat} (hxy : x < y) (hy : y < k) (hd : ∀ w, dg' w = dg (tw x y w)) (hV : ∀ w j, j < k → V' w j = V (tw x y w) j) (h : srO dg V k x) (hi : ∀ t, x < t → t < y → ¬ cbO dg V k t x) (hc : cbO dg V k y x) : srO dg' V' k x ∧ ∀ t, x < t → t < y + 1 → ¬ cbO dg' V' k t x := by
  have hcb : ∀ w w', cbO dg' V' k w w' ↔ cbO dg V k (tw x y w) (tw x y w') := fun w w' => cb_rn ⟨hd w, hV w⟩ ⟨hd w', hV w'⟩
  have ex : tw x y x = y := by unfold tw; rw [if_pos rfl]
  have ey : tw x y y = x := by unfold tw; rw [if_neg (by omega), if_pos rfl]
  have eo : ∀ w, w ≠ x → w ≠ y → tw x y w = w := fun w h1 h2 => by unfold tw; rw [if_neg h1, if_neg h2]
  refine ⟨fun s t h1 h2 h3 => ?_, fun t h1 h2 => ?_⟩
  · rw [hcb, eo s (by omega) (by omega)]
    by_cases e1 : t = x
    · rw [e1, ex]; exact h s y h1 (by omega) hy
    · by_cases e2 : t = y
      · rw [e2, ey]; exact h s x h1 h1 (by omega)
      · rw [eo t e1 e2]; exact h s t h1 h2 h3
  · rw [hcb, ex]
    by_cases e2 : t = y
    · rw [e2, ey]; exact cb_as hc
    · rw [eo t (by omega) e2]
      rcases cb_or t hc with h9 | h9
      · exact cb_as h9
      · exact absurd h9 (hi t h1 (by omega))

