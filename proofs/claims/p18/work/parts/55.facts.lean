-- pure: what the tables of the elements and of the classes give
theorem gI_elS {gen : Nat → Nat} {gc cnt : Nat} {f3 f4 : Nat → Int32} {e : Nat → Nat} (hg : ∀ k, k < gc → isP (gen k)) (h : gI gen gc f3 f4 e cnt) (hcl : gClosed gen gc e cnt cnt) : ∃ s : Nat → Nat, elS gen gc s cnt ∧ (∀ j, j < cnt → f3 j = nI (s j)) ∧ ∀ j, j < cnt → s j < 8 ^ 8 := by
  have hA := fun c => gAll (c := c) h hcl
  obtain ⟨h1, h2, h3, h4, h5, h6, h7, h8⟩ := h
  have hP : ∀ k, k < cnt → e k < 8 ^ 8 := fun k hk => (inS_P hg (h4 k hk).2).1
  have hs : ∀ j, j < cnt → ∃ k, k < cnt ∧ f3 j = nI (e k) ∧ (f3 j).toNatClampNeg = e k := fun j hj => by
    obtain ⟨k, hk, he⟩ := h5 j hj
    exact ⟨k, hk, he, by rw [he]; exact nI_clamp (Nat.lt_trans (hP k hk) (by decide))⟩
  refine ⟨fun j => (f3 j).toNatClampNeg, ⟨h2, h1, fun j k hjk hk => ?_, fun c => ⟨fun hc => ?_, fun hc => ?_⟩⟩, fun j hj => ?_, fun j hj => ?_⟩
  · have hlt := h3 j k hjk hk
    obtain ⟨x, hx, ex, cx⟩ := hs j (by omega)
    obtain ⟨y, hy, ey, cy⟩ := hs k hk
    show (f3 j).toNatClampNeg < (f3 k).toNatClampNeg
    rw [cx, cy]
    rw [ex, ey] at hlt
    exact (nI_ltI (Nat.lt_trans (hP x hx) (by decide)) (Nat.lt_trans (hP y hy) (by decide))).mp hlt
  · obtain ⟨k, hk, rfl⟩ := hA c hc
    obtain ⟨j, hj, he⟩ := h6 k hk
    refine ⟨j, hj, ?_⟩
    show (f3 j).toNatClampNeg = e k
    rw [he]
    exact nI_clamp (Nat.lt_trans (hP k hk) (by decide))
  · obtain ⟨j, hj, rfl⟩ := hc
    obtain ⟨x, hx, ex, cx⟩ := hs j hj
    show inS gen gc (f3 j).toNatClampNeg
    rw [cx]
    exact (h4 x hx).2
  · obtain ⟨x, hx, ex, cx⟩ := hs j hj
    show f3 j = nI (f3 j).toNatClampNeg
    rw [cx, ex]
  · obtain ⟨x, hx, ex, cx⟩ := hs j hj
    show (f3 j).toNatClampNeg < 8 ^ 8
    rw [cx]
    exact hP x hx
theorem gg_cpw {G : List Nat} {mul : Nat → Nat → Nat} {one : Nat} {inv : Nat → Nat} (h : gg_ok G mul one inv) {g x y : Nat} (hg : g ∈ G) (e : mul g y = mul x g) : ∀ m, mul g (gg_pw mul one y m) = mul (gg_pw mul one x m) g
  | 0 => by
    show mul g one = mul one g
    rw [gg_r1 h hg, gg_l1 h hg]
  | m + 1 => by
    show mul g (mul (gg_pw mul one y m) y) = mul (mul (gg_pw mul one x m) x) g
    rw [← gg_as h, gg_cpw h hg e m, gg_as h, e, gg_as h]
theorem kl_pw {s : Nat → Nat} {n k : Nat} {kl re : Nat → Nat} (h : clS s n k kl re) {x y : Nat} (hx : x ∈ Gl s n) (hy : y ∈ Gl s n) (e : kl x = kl y) (m : Nat) : kl (pw x m) = kl (pw y m) := by
  obtain ⟨g, hg, hc⟩ := (kc_iff h.1 hx hy).1 e
  exact (kc_iff h.1 (gg_pm (kc_g h.1) hx m) (gg_pm (kc_g h.1) hy m)).2 ⟨g, hg, gg_cpw (kc_g h.1) hg hc m⟩
theorem isE_all {s : Nat → Nat} {n k e : Nat} {kl re : Nat → Nat} (h : clS s n k kl re) (he : isE re k e) {x : Nat} (hx : x ∈ Gl s n) : pw x e = pid := by
  have hk := kc_lt h.1 hx
  have h1 := kl_pw h hx (kc_re h.1 hk) (kc_kr h.1 hk).symm e
  rw [he.2.1 _ hk] at h1
  have h2 := (kc_one h.1 (gg_1 (kc_g h.1))).2 rfl
  rw [h2] at h1
  exact (kc_one h.1 (gg_pm (kc_g h.1) hx e)).1 h1
theorem isPm_pw {s : Nat → Nat} {n k e p : Nat} {kl re : Nat → Nat} (h : clS s n k kl re) (he : isE re k e) (hp : isPm n e p) {x : Nat} (hx : x ∈ Gl s n) : pw x p = x := by
  obtain ⟨t, ht, hpt⟩ := hp.2.2.1
  rw [hpt, Nat.mul_comm]
  show pm (gg_pw pm pid x (e * t)) x = x
  rw [gg_pz (kc_g h.1) hx (isE_all h he hx) t, gg_l1 (kc_g h.1) hx]
theorem pm_nd {s : Nat → Nat} {n k e p : Nat} {kl re : Nat → Nat} (h : clS s n k kl re) (he : isE re k e) (hp : isPm n e p) : ¬ p ∣ n := by
  have h9 := gg_np (kc_g h.1) hp.1.1 hp.1.2 (fun x hx => isPm_pw h he hp hx)
  rw [List.length_map, List.length_range] at h9
  exact h9
theorem sz_dv {s : Nat → Nat} {n k : Nat} {kl re : Nat → Nat} (h : clS s n k kl re) {q : Nat} (hq : q < k) : kc_s (Gl s n) kl q ∣ n := by
  have h9 := kc_stab h.1 hq
  rw [List.length_map, List.length_range] at h9
  exact ⟨_, h9.symm⟩
theorem sz_nd {s : Nat → Nat} {n k e p : Nat} {kl re : Nat → Nat} (h : clS s n k kl re) (he : isE re k e) (hp : isPm n e p) {q : Nat} (hq : q < k) : ¬ p ∣ kc_s (Gl s n) kl q := fun h9 => pm_nd h he hp (Nat.dvd_trans h9 (sz_dv h hq))
theorem sz_le {s : Nat → Nat} {n : Nat} {kl : Nat → Nat} (q : Nat) : kc_s (Gl s n) kl q ≤ n := by
  have h9 := List.countP_le_length (p := fun x => decide (kl x = q)) (l := Gl s n)
  rw [List.length_map, List.length_range] at h9
  exact h9
abbrev Amo (s : Nat → Nat) (n : Nat) (kl re : Nat → Nat) (x y l : Nat) : Nat := kc_n (Gl s n) pm piv kl x y (re l)
theorem Am_le {s : Nat → Nat} {n : Nat} {kl re : Nat → Nat} (x y l : Nat) : Amo s n kl re x y l ≤ n := by
  have h9 := List.countP_le_length (p := fun g => decide (kl g = x) && decide (kl (pm (piv g) (re l)) = y)) (l := Gl s n)
  rw [List.length_map, List.length_range] at h9
  exact h9
theorem Am_id {s : Nat → Nat} {n k : Nat} {kl re : Nat → Nat} (h : clS s n k kl re) {q l : Nat} (hl : l < k) : Amo s n kl re 0 q l = if l = q then 1 else 0 := by
  have h9 : ((Amo s n kl re 0 q l : Nat) : Int) = ib (decide (l = q)) := kc_a0 h.1 hl
  by_cases e : l = q
  · rw [if_pos e]; simp [e, ib] at h9; subst e; omega
  · rw [if_neg e]; simp [e, ib] at h9; exact h9
theorem Am_comm {s : Nat → Nat} {n k : Nat} {kl re : Nat → Nat} (h : clS s n k kl re) (x y : Nat) {l : Nat} (hl : l < k) : Amo s n kl re x y l = Amo s n kl re y x l := kc_n_comm h.1 (kc_re h.1 hl) x y
theorem Am_T {s : Nat → Nat} {n k e p : Nat} {kl re : Nat → Nat} (h : clS s n k kl re) (he : isE re k e) (hp : isPm n e p) (x : Nat) (hx : x < k) (v : Nat → Int) : vq p k (fa_it (Tm (Amo s n kl re) k x) p v) (Tm (Amo s n kl re) k x v) := fun q hq => fr_op h.1 hp.1.1 hp.1.2 (fun x hx => isPm_pw h he hp hx) hx v hq
theorem Am_cm {s : Nat → Nat} {n k p : Nat} {kl re : Nat → Nat} (h : clS s n k kl re) (y z : Nat) (v : Nat → Int) : vq p k (Tm (Amo s n kl re) k y (Tm (Amo s n kl re) k z v)) (Tm (Amo s n kl re) k z (Tm (Amo s n kl re) k y v)) := fun q hq => by
  have h9 := kc_op_comm h.1 y z v q
  have h10 : Tm (Amo s n kl re) k y (Tm (Amo s n kl re) k z v) q = Tm (Amo s n kl re) k z (Tm (Amo s n kl re) k y v) q := h9
  rw [h10, Int.sub_self]
  exact Int.dvd_zero _
