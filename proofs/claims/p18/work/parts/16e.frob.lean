-- pure: the p-th power of a class sum is that class sum, modulo p (p prime, x^p = x for every element)
def tp_pr (mul : Nat → Nat → Nat) (one : Nat) : List Nat → Nat
  | [] => one
  | g :: t => mul g (tp_pr mul one t)
section FR
variable {G : List Nat} {mul : Nat → Nat → Nat} {one : Nat} {inv : Nat → Nat} {k : Nat} {kl re : Nat → Nat}
theorem tp_prm (hG : gg_ok G mul one inv) : ∀ t : List Nat, (∀ g, g ∈ t → g ∈ G) → tp_pr mul one t ∈ G
  | [], _ => gg_1 hG
  | g :: t, h => gg_m hG (h g List.mem_cons_self) (tp_prm hG t (fun x hx => h x (List.mem_cons_of_mem _ hx)))
theorem tp_pr1 (hG : gg_ok G mul one inv) {g : Nat} (hg : g ∈ G) : ∀ t : List Nat, (∀ g, g ∈ t → g ∈ G) → tp_pr mul one (t ++ [g]) = mul (tp_pr mul one t) g
  | [], _ => by
    show mul g one = mul one g
    rw [gg_r1 hG hg, gg_l1 hG hg]
  | x :: t, h => by
    show mul x (tp_pr mul one (t ++ [g])) = mul (mul x (tp_pr mul one t)) g
    rw [tp_pr1 hG hg t (fun y hy => h y (List.mem_cons_of_mem _ hy)), gg_as hG]
theorem tp_prr (h : kc_ok G mul one inv k kl re) : ∀ t : List Nat, (∀ g, g ∈ t → g ∈ G) → kl (tp_pr mul one (tp_rot t)) = kl (tp_pr mul one t)
  | [], _ => rfl
  | g :: t, ht => by
    have hG := kc_g h
    have hg := ht g List.mem_cons_self
    have ht2 : ∀ x, x ∈ t → x ∈ G := fun x hx => ht x (List.mem_cons_of_mem _ hx)
    show kl (tp_pr mul one (t ++ [g])) = kl (mul g (tp_pr mul one t))
    rw [tp_pr1 hG hg t ht2]
    exact kc_comm h (tp_prm hG t ht2) hg
theorem tp_prc (hG : gg_ok G mul one inv) {g : Nat} (hg : g ∈ G) : ∀ m : Nat, tp_pr mul one (List.replicate m g) = gg_pw mul one g m
  | 0 => rfl
  | m + 1 => by
    rw [List.replicate_succ, gg_ps hG hg m]
    show mul g (tp_pr mul one (List.replicate m g)) = _
    rw [tp_prc hG hg m]
theorem tp_cong (hG : gg_ok G mul one inv) {C : List Nat} (hC : C.Nodup) (hCG : ∀ g, g ∈ C → g ∈ G) {p : Nat} (hp1 : 1 < p) (hp : ∀ m, m ∣ p → m = 1 ∨ m = p) (P : Nat → Bool)
    (hP : ∀ t : List Nat, (∀ g, g ∈ t → g ∈ G) → P (tp_pr mul one (tp_rot t)) = P (tp_pr mul one t)) :
    (p : Int) ∣ ((tp_all C p).countP (fun t => P (tp_pr mul one t)) : Int) - (C.countP (fun g => P (gg_pw mul one g p)) : Int) := by
  have h1 := tp_cong0 hC hp1 hp (fun t => P (tp_pr mul one t)) (fun t ht => hP t (fun g hg => hCG g (ht g hg)))
  have h2 : C.countP (fun g => P (tp_pr mul one (List.replicate p g))) = C.countP (fun g => P (gg_pw mul one g p)) := List.countP_congr fun g hg => by rw [tp_prc hG (hCG g hg)]
  rw [h2] at h1
  exact h1
-- counting the tuples with a product
def tp_N (mul : Nat → Nat → Nat) (one : Nat) (C : List Nat) (m z : Nat) : Int := si (fun t => ib (decide (tp_pr mul one t = z))) (tp_all C m)
theorem tp_Ns (hG : gg_ok G mul one inv) {C : List Nat} (hCG : ∀ g, g ∈ C → g ∈ G) (m : Nat) {z : Nat} (hz : z ∈ G) : tp_N mul one C (m + 1) z = si (fun g => tp_N mul one C m (mul (inv g) z)) C := by
  unfold tp_N
  show si _ ((tp_all C m).flatMap (fun t => C.map (fun g => g :: t))) = _
  rw [si_flat]
  have h1 : ∀ t, t ∈ tp_all C m → si (fun t => ib (decide (tp_pr mul one t = z))) (C.map (fun g => g :: t)) = si (fun g => ib (decide (tp_pr mul one t = mul (inv g) z))) C := by
    intro t ht
    rw [si_map]
    refine si_congr fun g hg => ?_
    have hgG := hCG g hg
    have htG : tp_pr mul one t ∈ G := tp_prm hG t (fun x hx => hCG x (((tp_mem C m t).mp ht).2 x hx))
    congr 1
    apply decide_eq_decide.mpr
    show mul g (tp_pr mul one t) = z ↔ _
    constructor
    · intro e; rw [← e, ← gg_as hG, gg_li hG hgG, gg_l1 hG htG]
    · intro e; rw [e, ← gg_as hG, gg_ri hG hgG, gg_l1 hG hz]
  rw [si_congr h1, si_swap]
theorem tp_N0 (z : Nat) (C : List Nat) : tp_N mul one C 0 z = ib (decide (one = z)) := by
  unfold tp_N
  show ib (decide (tp_pr mul one [] = z)) + 0 = _
  rw [Int.add_zero]
  rfl
-- p does not divide the size of the group
theorem tp_NG (hG : gg_ok G mul one inv) : ∀ m : Nat, ∃ c : Int, ∀ z, z ∈ G → tp_N mul one G (m + 1) z = c
  | 0 => by
    refine ⟨1, fun z hz => ?_⟩
    rw [tp_Ns hG (fun g hg => hg) 0 hz]
    have h1 : si (fun g => tp_N mul one G 0 (mul (inv g) z)) G = si (fun g => ib (decide (g = z)) * 1) G := by
      refine si_congr fun g hg => ?_
      rw [tp_N0, Int.mul_one]
      congr 1
      apply decide_eq_decide.mpr
      constructor
      · intro e; rw [← gg_r1 hG hg, e, ← gg_as hG, gg_ri hG hg, gg_l1 hG hz]
      · intro e; rw [← e, gg_li hG hg]
    rw [h1]
    exact si_one (fun _ => (1 : Int)) z (gg_nd hG) hz
  | m + 1 => by
    obtain ⟨c, hc⟩ := tp_NG hG m
    refine ⟨G.length * c, fun z hz => ?_⟩
    rw [tp_Ns hG (fun g hg => hg) (m + 1) hz, si_congr (fun g hg => hc _ (gg_m hG (gg_i hG hg) hz)), si_const]
theorem gg_np (hG : gg_ok G mul one inv) {p : Nat} (hp1 : 1 < p) (hp : ∀ m, m ∣ p → m = 1 ∨ m = p) (hpw : ∀ x, x ∈ G → gg_pw mul one x p = x) : ¬ p ∣ G.length := by
  intro hd
  have h1 := tp_cong hG (gg_nd hG) (fun g hg => hg) hp1 hp (fun z => decide (z = one)) (fun t ht => by
    apply decide_eq_decide.mpr
    cases t with
    | nil => rfl
    | cons g t =>
      have hg := ht g List.mem_cons_self
      have ht2 : ∀ x, x ∈ t → x ∈ G := fun x hx => ht x (List.mem_cons_of_mem _ hx)
      have htG := tp_prm hG t ht2
      show tp_pr mul one (t ++ [g]) = one ↔ mul g (tp_pr mul one t) = one
      rw [tp_pr1 hG hg t ht2]
      constructor
      · intro e
        have := gg_iu hG htG hg e
        rw [this, gg_li hG htG]
      · intro e
        have := gg_iu hG hg htG e
        rw [this, gg_li hG hg])
  have h2 : G.countP (fun g => decide (gg_pw mul one g p = one)) = 1 := by
    have h3 : G.countP (fun g => decide (gg_pw mul one g p = one)) = G.countP (fun g => decide (g = one)) := List.countP_congr fun g hg => by rw [hpw g hg]
    rw [h3]
    have h4 := si_count (fun g => decide (g = one)) G
    have h5 := si_one (fun _ => (1 : Int)) one (gg_nd hG) (gg_1 hG)
    simp only [Int.mul_one] at h5
    rw [h5] at h4
    omega
  rw [h2, ← si_count] at h1
  obtain ⟨c, hc⟩ := tp_NG hG (p - 2)
  have h6 : tp_N mul one G p one = G.length * c := by
    rw [show p = (p - 2 + 1) + 1 by omega, tp_Ns hG (fun g hg => hg) (p - 2 + 1) (gg_1 hG), si_congr (fun g hg => hc _ (gg_m hG (gg_i hG hg) (gg_1 hG))), si_const]
  unfold tp_N at h6
  rw [h6] at h1
  obtain ⟨d, hd⟩ := hd
  rw [hd, Int.natCast_mul, Int.mul_assoc] at h1
  have h7 : (p : Int) ∣ (p : Int) * ((d : Int) * c) := Int.dvd_mul_right _ _
  have h8 : (p : Int) ∣ 1 := by
    have h9 := Int.dvd_sub h7 h1
    have h10 : (p : Int) * ((d : Int) * c) - ((p : Int) * ((d : Int) * c) - ((1 : Nat) : Int)) = 1 := by omega
    rw [h10] at h9
    exact h9
  have h11 : (p : Int) ≤ 1 := Int.le_of_dvd (by decide) h8
  omega
end FR
