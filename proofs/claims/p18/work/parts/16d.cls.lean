-- pure: a group with its classes: k classes, kl sends an element to its class, re a class to an element of it
def kc_ok (G : List Nat) (mul : Nat → Nat → Nat) (one : Nat) (inv : Nat → Nat) (k : Nat) (kl : Nat → Nat) (re : Nat → Nat) : Prop :=
  gg_ok G mul one inv ∧ (∀ x, x ∈ G → kl x < k) ∧ (∀ i, i < k → re i ∈ G ∧ kl (re i) = i) ∧ (∀ x, x ∈ G → ∀ y, y ∈ G → (kl x = kl y ↔ ∃ g, g ∈ G ∧ mul g y = mul x g)) ∧ kl one = 0 ∧ 0 < k
section KC
variable {G : List Nat} {mul : Nat → Nat → Nat} {one : Nat} {inv : Nat → Nat} {k : Nat} {kl re : Nat → Nat}
theorem kc_g (h : kc_ok G mul one inv k kl re) : gg_ok G mul one inv := h.1
theorem kc_lt (h : kc_ok G mul one inv k kl re) {x : Nat} (hx : x ∈ G) : kl x < k := h.2.1 x hx
theorem kc_re (h : kc_ok G mul one inv k kl re) {i : Nat} (hi : i < k) : re i ∈ G := (h.2.2.1 i hi).1
theorem kc_kr (h : kc_ok G mul one inv k kl re) {i : Nat} (hi : i < k) : kl (re i) = i := (h.2.2.1 i hi).2
theorem kc_iff (h : kc_ok G mul one inv k kl re) {x y : Nat} (hx : x ∈ G) (hy : y ∈ G) : kl x = kl y ↔ ∃ g, g ∈ G ∧ mul g y = mul x g := h.2.2.2.1 x hx y hy
-- the conjugate of x by g
theorem kc_conj (h : kc_ok G mul one inv k kl re) {x g : Nat} (hx : x ∈ G) (hg : g ∈ G) : kl (mul (mul (inv g) x) g) = kl x := by
  have hG := kc_g h
  refine (kc_iff h (gg_m hG (gg_m hG (gg_i hG hg) hx) hg) hx).mpr ⟨inv g, gg_i hG hg, ?_⟩
  rw [gg_as hG (mul (inv g) x) g, gg_ri hG hg, gg_r1 hG (gg_m hG (gg_i hG hg) hx)]
-- x y and y x are in one class
theorem kc_comm (h : kc_ok G mul one inv k kl re) {x y : Nat} (hx : x ∈ G) (hy : y ∈ G) : kl (mul x y) = kl (mul y x) := by
  have hG := kc_g h
  exact (kc_iff h (gg_m hG hx hy) (gg_m hG hy hx)).mpr ⟨x, hx, (gg_as hG x y x).symm⟩
-- how many x of class i have x^-1 z in class j
def kc_n (G : List Nat) (mul : Nat → Nat → Nat) (inv kl : Nat → Nat) (i j z : Nat) : Nat := G.countP (fun x => decide (kl x = i) && decide (kl (mul (inv x) z) = j))
-- a permutation of the group that keeps a property keeps its count
theorem gg_cnt (hG : gg_ok G mul one inv) {p q : Nat → Bool} (f : Nat → Nat) (hf : ∀ x, x ∈ G → f x ∈ G) (hi : ∀ x, x ∈ G → ∀ y, y ∈ G → f x = f y → x = y) (hpq : ∀ x, x ∈ G → p x = q (f x)) : G.countP p = G.countP q := by
  have hnd := gg_nd hG
  have hm : (G.map f).Nodup := List.pairwise_map.mpr (List.Pairwise.imp_of_mem (fun {a b} ha hb hab he => hab (hi a ha b hb he)) hnd)
  have hp : (G.map f).Perm G := by
    have hsub : G.map f ⊆ G := fun y hy => by obtain ⟨x, hx, rfl⟩ := List.mem_map.mp hy; exact hf x hx
    refine (List.perm_ext_iff_of_nodup hm hnd).mpr fun a => ⟨fun h => hsub h, fun ha => Classical.byContradiction fun hn => ?_⟩
    have h1 : (a :: G.map f).Nodup := List.nodup_cons.mpr ⟨hn, hm⟩
    have h2 := h1.length_le_of_subset (l₂ := G) (fun y hy => by
      rcases List.mem_cons.mp hy with rfl | hy
      · exact ha
      · exact hsub hy)
    rw [List.length_cons, List.length_map] at h2
    omega
  rw [← hp.countP_eq q, List.countP_map]
  exact List.countP_congr fun x hx => by rw [hpq x hx]; rfl
theorem kc_n_conj (h : kc_ok G mul one inv k kl re) {z z' : Nat} (hz : z ∈ G) (hz' : z' ∈ G) (he : kl z = kl z') (i j : Nat) : kc_n G mul inv kl i j z = kc_n G mul inv kl i j z' := by
  have hG := kc_g h
  obtain ⟨g, hg, e⟩ := (kc_iff h hz hz').mp he
  -- z' = g^-1 z g
  have e2 : z' = mul (mul (inv g) z) g := by
    rw [gg_as hG, ← e, ← gg_as hG, gg_li hG hg, gg_l1 hG hz']
  refine gg_cnt hG (fun x => mul (mul (inv g) x) g) (fun x hx => gg_m hG (gg_m hG (gg_i hG hg) hx) hg) (fun x hx y hy exy => ?_) (fun x hx => ?_)
  · exact gg_lc hG (gg_i hG hg) hx hy (gg_rc hG hg (gg_m hG (gg_i hG hg) hx) (gg_m hG (gg_i hG hg) hy) exy)
  · have hc : mul (inv g) (mul x g) ∈ G := gg_m hG (gg_i hG hg) (gg_m hG hx hg)
    have h1 : inv (mul (mul (inv g) x) g) = mul (mul (inv g) (inv x)) g := by
      refine (gg_iu hG (gg_m hG (gg_m hG (gg_i hG hg) hx) hg) (gg_m hG (gg_m hG (gg_i hG hg) (gg_i hG hx)) hg) ?_).symm
      rw [gg_as hG, ← gg_as hG g, ← gg_as hG g, gg_ri hG hg, gg_l1 hG (gg_i hG hx), gg_as hG, ← gg_as hG x, gg_ri hG hx, gg_l1 hG hg, gg_li hG hg]
    have h2 : mul (inv (mul (mul (inv g) x) g)) z' = mul (mul (inv g) (mul (inv x) z)) g := by
      rw [h1, e2, gg_as hG, ← gg_as hG g, ← gg_as hG g, gg_ri hG hg, gg_l1 hG hz, gg_as hG, gg_as hG, gg_as hG]
    rw [kc_conj h hx hg, h2, kc_conj h (gg_m hG (gg_i hG hx) hz) hg]
theorem gg_inv_z (hG : gg_ok G mul one inv) {x z : Nat} (hx : x ∈ G) (hz : z ∈ G) : mul (inv (mul (inv x) z)) z = mul (mul (inv z) x) z := by
  have h1 : inv (mul (inv x) z) = mul (inv z) x := by
    refine (gg_iu hG (gg_m hG (gg_i hG hx) hz) (gg_m hG (gg_i hG hz) hx) ?_).symm
    rw [gg_as hG, ← gg_as hG z, gg_ri hG hz, gg_l1 hG hx, gg_li hG hx]
  rw [h1]
theorem kc_n_comm (h : kc_ok G mul one inv k kl re) {z : Nat} (hz : z ∈ G) (i j : Nat) : kc_n G mul inv kl i j z = kc_n G mul inv kl j i z := by
  have hG := kc_g h
  refine gg_cnt hG (fun x => mul (inv x) z) (fun x hx => gg_m hG (gg_i hG hx) hz) (fun x hx y hy e => ?_) (fun x hx => ?_)
  · have e1 : inv x = inv y := gg_rc hG hz (gg_i hG hx) (gg_i hG hy) e
    rw [← gg_ii hG hx, e1, gg_ii hG hy]
  · rw [gg_inv_z hG hx hz, kc_conj h hx hz, Bool.and_comm]
-- the constants
def kc_a (G : List Nat) (mul : Nat → Nat → Nat) (inv kl re : Nat → Nat) (i j l : Nat) : Int := (kc_n G mul inv kl i j (re l) : Int)
theorem kc_a_z (h : kc_ok G mul one inv k kl re) {z : Nat} (hz : z ∈ G) (i j : Nat) : kc_a G mul inv kl re i j (kl z) = (kc_n G mul inv kl i j z : Int) := by
  unfold kc_a
  rw [kc_n_conj h (kc_re h (kc_lt h hz)) hz (kc_kr h (kc_lt h hz)) i j]
theorem kc_a_comm (h : kc_ok G mul one inv k kl re) {l : Nat} (hl : l < k) (i j : Nat) : kc_a G mul inv kl re i j l = kc_a G mul inv kl re j i l := by
  unfold kc_a
  rw [kc_n_comm h (kc_re h hl)]
theorem kc_sum (h : kc_ok G mul one inv k kl re) {z : Nat} (hz : z ∈ G) (i : Nat) (f : Nat → Int) : si (fun x => ib (decide (kl x = i)) * f (kl (mul (inv x) z))) G = si (fun j => (kc_n G mul inv kl i j z : Int) * f j) (List.range k) := by
  have hG := kc_g h
  rw [← si_filter (fun x => decide (kl x = i)) (fun x => f (kl (mul (inv x) z))) G]
  rw [si_parts f (fun x => kl (mul (inv x) z)) k (fun x hx => kc_lt h (gg_m hG (gg_i hG (List.mem_filter.mp hx).1) hz))]
  refine si_congr fun j _ => ?_
  congr 2
  rw [List.countP_filter]
  unfold kc_n
  refine List.countP_congr fun x _ => ?_
  rw [Bool.and_comm]
theorem si_bij (hG : gg_ok G mul one inv) (f : Nat → Int) (g : Nat → Nat) (hf : ∀ x, x ∈ G → g x ∈ G) (hi : ∀ x, x ∈ G → ∀ y, y ∈ G → g x = g y → x = y) : si (fun x => f (g x)) G = si f G := by
  have hnd := gg_nd hG
  have hm : (G.map g).Nodup := List.pairwise_map.mpr (List.Pairwise.imp_of_mem (fun {a b} ha hb hab he => hab (hi a ha b hb he)) hnd)
  have hp : (G.map g).Perm G := by
    have hsub : G.map g ⊆ G := fun y hy => by obtain ⟨x, hx, rfl⟩ := List.mem_map.mp hy; exact hf x hx
    refine (List.perm_ext_iff_of_nodup hm hnd).mpr fun a => ⟨fun h => hsub h, fun ha => Classical.byContradiction fun hn => ?_⟩
    have h1 : (a :: G.map g).Nodup := List.nodup_cons.mpr ⟨hn, hm⟩
    have h2 := h1.length_le_of_subset (l₂ := G) (fun y hy => by
      rcases List.mem_cons.mp hy with rfl | hy
      · exact ha
      · exact hsub hy)
    rw [List.length_cons, List.length_map] at h2
    omega
  rw [← si_map f g G]
  exact si_perm f hp
-- associativity
theorem kc_assoc (h : kc_ok G mul one inv k kl re) {l : Nat} (hl : l < k) (i j q : Nat) : si (fun m => kc_a G mul inv kl re i m l * kc_a G mul inv kl re j q m) (List.range k) = si (fun m => kc_a G mul inv kl re i j m * kc_a G mul inv kl re m q l) (List.range k) := by
  have hG := kc_g h
  have hz := kc_re h hl
  -- the left side
  have e1 : si (fun m => kc_a G mul inv kl re i m l * kc_a G mul inv kl re j q m) (List.range k) = si (fun x => ib (decide (kl x = i)) * si (fun y => ib (decide (kl y = j)) * ib (decide (kl (mul (inv y) (mul (inv x) (re l))) = q))) G) G := by
    have := kc_sum h hz i (fun m => kc_a G mul inv kl re j q m)
    unfold kc_a at this ⊢
    rw [← this]
    refine si_congr fun x hx => ?_
    congr 1
    have hxz := gg_m hG (gg_i hG hx) hz
    have h3 := kc_a_z h hxz j q
    unfold kc_a at h3
    rw [h3]
    unfold kc_n
    rw [← si_count]
    refine si_congr fun y _ => ?_
    unfold ib
    cases decide (kl y = j) <;> cases decide (kl (mul (inv y) (mul (inv x) (re l))) = q) <;> rfl
  -- the right side
  have e2 : si (fun m => kc_a G mul inv kl re i j m * kc_a G mul inv kl re m q l) (List.range k) = si (fun u => ib (decide (kl (mul (inv u) (re l)) = q)) * (kc_n G mul inv kl i j u : Int)) G := by
    have h4 : ∀ m, m < k → kc_a G mul inv kl re i j m * kc_a G mul inv kl re m q l = si (fun u => ib (decide (m = kl u)) * (ib (decide (kl (mul (inv u) (re l)) = q)) * kc_a G mul inv kl re i j m)) G := by
      intro m hm
      have h5 : kc_a G mul inv kl re m q l = si (fun u => ib (decide (kl u = m) && decide (kl (mul (inv u) (re l)) = q))) G := by
        unfold kc_a kc_n
        rw [si_count]
      rw [h5, ← si_mul]
      refine si_congr fun u _ => ?_
      have h6 : decide (kl u = m) = decide (m = kl u) := by
        by_cases e : kl u = m
        · simp [e]
        · simp [e, Ne.symm e]
      rw [h6]
      unfold ib
      cases decide (m = kl u) <;> cases decide (kl (mul (inv u) (re l)) = q) <;> simp
    rw [si_congr (fun m hm => h4 m (List.mem_range.mp hm)), si_swap]
    refine si_congr fun u hu => ?_
    have h7 := si_one (fun m => ib (decide (kl (mul (inv u) (re l)) = q)) * kc_a G mul inv kl re i j m) (kl u) List.nodup_range (List.mem_range.mpr (kc_lt h hu))
    rw [kc_a_z h hu] at h7
    exact h7
  rw [e1, e2]
  -- both count the pairs x, y
  have e3 : ∀ u, u ∈ G → ib (decide (kl (mul (inv u) (re l)) = q)) * (kc_n G mul inv kl i j u : Int) = si (fun x => ib (decide (kl x = i)) * (ib (decide (kl (mul (inv x) u) = j)) * ib (decide (kl (mul (inv u) (re l)) = q)))) G := by
    intro u _
    unfold kc_n
    rw [← si_count, ← si_mul]
    refine si_congr fun x _ => ?_
    unfold ib
    cases decide (kl x = i) <;> cases decide (kl (mul (inv x) u) = j) <;> cases decide (kl (mul (inv u) (re l)) = q) <;> rfl
  rw [si_congr e3, si_swap]
  refine si_congr fun x hx => ?_
  rw [si_mul]
  congr 1
  rw [← si_bij hG (fun u => ib (decide (kl (mul (inv x) u) = j)) * ib (decide (kl (mul (inv u) (re l)) = q))) (fun y => mul x y) (fun y hy => gg_m hG hx hy) (fun y hy y' hy' e => gg_lc hG hx hy hy' e)]
  refine si_congr fun y hy => ?_
  have h8 : mul (inv x) (mul x y) = y := by rw [← gg_as hG, gg_li hG hx, gg_l1 hG hy]
  have h9 : inv (mul x y) = mul (inv y) (inv x) := by
    refine (gg_iu hG (gg_m hG hx hy) (gg_m hG (gg_i hG hy) (gg_i hG hx)) ?_).symm
    rw [gg_as hG, ← gg_as hG y, gg_ri hG hy, gg_l1 hG (gg_i hG hx), gg_ri hG hx]
  rw [h8, h9, gg_as hG]
end KC
