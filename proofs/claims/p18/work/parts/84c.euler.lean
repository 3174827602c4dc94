-- pure: central maps give such functions; squares
theorem ib_ml {P : Prop} [Decidable P] {x y : Int} (h : P → x = y) : ib (decide P) * x = ib (decide P) * y := by
  by_cases e : P
  · rw [h e]
  · simp [ib, e]
section AK
variable {G : List Nat} {mul : Nat → Nat → Nat} {one : Nat} {inv : Nat → Nat} {p : Nat} {k : Nat} {kl re : Nat → Nat}
theorem ak_x (h : kc_ok G mul one inv k kl re) (f : Nat → Int) {x x' y : Nat} (hx : x ∈ G) (hx' : x' ∈ G) (hy : y ∈ G) (e : kl x = kl x') : si (fun g => f (kl (mul x (mul (mul (inv g) y) g)))) G = si (fun g => f (kl (mul x' (mul (mul (inv g) y) g)))) G := by
  have hG := kc_g h
  obtain ⟨c, hc, e1⟩ := (kc_iff h hx hx').mp e
  rw [← si_bij hG (fun g => f (kl (mul x' (mul (mul (inv g) y) g)))) (fun g => mul g c) (fun g hg => gg_m hG hg hc) (fun a ha b hb e9 => gg_rc hG hc ha hb e9)]
  refine si_congr fun g hg => ?_
  have hY := gg_cm hG hg hy
  show f (kl (mul x (mul (mul (inv g) y) g))) = f (kl (mul x' (mul (mul (inv (mul g c)) y) (mul g c))))
  rw [← kc_conj h (gg_m hG hx hY) hc, gg_ip hG hg hc]
  congr 2
  have e2 : mul (inv c) x = mul x' (inv c) := by
    refine gg_rc hG hc (gg_m hG (gg_i hG hc) hx) (gg_m hG hx' (gg_i hG hc)) ?_
    rw [gg_as hG, ← e1, gg_lk2 hG hc hx', gg_as hG, gg_li hG hc, gg_r1 hG hx']
  rw [← gg_as hG (inv c) x, e2]
  simp only [gg_as hG]
theorem ak_y (h : kc_ok G mul one inv k kl re) (f : Nat → Int) {x y y' : Nat} (hx : x ∈ G) (hy : y ∈ G) (hy' : y' ∈ G) (e : kl y = kl y') : si (fun g => f (kl (mul x (mul (mul (inv g) y) g)))) G = si (fun g => f (kl (mul x (mul (mul (inv g) y') g)))) G := by
  have hG := kc_g h
  obtain ⟨c, hc, e1⟩ := (kc_iff h hy' hy).mp e.symm
  rw [← si_bij hG (fun g => f (kl (mul x (mul (mul (inv g) y') g)))) (fun g => mul c g) (fun g hg => gg_m hG hc hg) (fun a ha b hb e9 => gg_lc hG hc ha hb e9)]
  refine si_congr fun g hg => ?_
  show f (kl (mul x (mul (mul (inv g) y) g))) = f (kl (mul x (mul (mul (inv (mul c g)) y') (mul c g))))
  rw [gg_ip hG hc hg]
  congr 3
  have e2 : mul (mul (inv c) y') c = y := by rw [gg_as hG, ← e1, gg_lk2 hG hc hy]
  have e3 : mul (mul (mul (inv g) (inv c)) y') (mul c g) = mul (mul (inv g) (mul (mul (inv c) y') c)) g := by simp only [gg_as hG]
  rw [e3, e2]
theorem ak_A (h : kc_ok G mul one inv k kl re) (f : Nat → Int) (i j : Nat) : si (fun x => ib (decide (kl x = i)) * si (fun y => ib (decide (kl y = j)) * f (kl (mul x y))) G) G = si (fun l => kc_a G mul inv kl re i j l * ((kc_s G kl l : Int) * f l)) (List.range k) := by
  have hG := kc_g h
  have e1 : si (fun x => ib (decide (kl x = i)) * si (fun y => ib (decide (kl y = j)) * f (kl (mul x y))) G) G = si (fun x => si (fun z => ib (decide (kl x = i)) * (ib (decide (kl (mul (inv x) z) = j)) * f (kl z))) G) G := si_congr fun x hx => by
    rw [si_mul, ← si_bij hG (fun y => ib (decide (kl y = j)) * f (kl (mul x y))) (fun z => mul (inv x) z) (fun z hz => gg_m hG (gg_i hG hx) hz) (fun a ha b hb e9 => gg_lc hG (gg_i hG hx) ha hb e9)]
    congr 1
    refine si_congr fun z hz => ?_
    show ib (decide (kl (mul (inv x) z) = j)) * f (kl (mul x (mul (inv x) z))) = _
    rw [gg_lk hG hx hz]
  rw [e1]
  refine (si_swap (fun x z => ib (decide (kl x = i)) * (ib (decide (kl (mul (inv x) z) = j)) * f (kl z))) G G).trans ?_
  have e2 : ∀ z, z ∈ G → si (fun x => ib (decide (kl x = i)) * (ib (decide (kl (mul (inv x) z) = j)) * f (kl z))) G = kc_a G mul inv kl re i j (kl z) * f (kl z) := fun z hz => by
    rw [kc_a_z h hz]
    unfold kc_n
    rw [← si_count, ← si_mulr]
    refine si_congr fun x _ => ?_
    rw [ib_and]
    grind
  rw [si_congr e2, si_parts (fun l => kc_a G mul inv kl re i j l * f l) kl k (fun x hx => kc_lt h hx)]
  refine si_congr fun l _ => ?_
  unfold kc_s
  grind
theorem ak_ok (h : kc_ok G mul one inv k kl re) (hp : ∀ m, m ∣ p → m = 1 ∨ m = p) (f : Nat → Int) (hs : ∀ i, i < k → ¬ p ∣ kc_s G kl i) (hm : ∀ i j, i < k → j < k → (p : Int) ∣ ((kc_s G kl i : Int) * f i) * ((kc_s G kl j : Int) * f j) - si (fun l => kc_a G mul inv kl re i j l * ((kc_s G kl l : Int) * f l)) (List.range k)) : avO G mul inv p (fun x => f (kl x)) := by
  have hG := kc_g h
  refine ⟨fun x y hx hy => by show f (kl (mul x y)) = f (kl (mul y x)); rw [kc_comm h hx hy], fun x y hx hy => ?_⟩
  show (p : Int) ∣ (G.length : Int) * (f (kl x) * f (kl y)) - si (fun g => f (kl (mul x (mul (mul (inv g) y) g)))) G
  have hi := kc_lt h hx
  have hj := kc_lt h hy
  generalize hE : si (fun g => f (kl (mul x (mul (mul (inv g) y) g)))) G = E
  have c1 : si (fun x' => ib (decide (kl x' = kl x)) * si (fun y' => ib (decide (kl y' = kl y)) * si (fun g => f (kl (mul x' (mul (mul (inv g) y') g)))) G) G) G = (kc_s G kl (kl x) : Int) * ((kc_s G kl (kl y) : Int) * E) := by
    have c2 : ∀ x', x' ∈ G → ib (decide (kl x' = kl x)) * si (fun y' => ib (decide (kl y' = kl y)) * si (fun g => f (kl (mul x' (mul (mul (inv g) y') g)))) G) G = ib (decide (kl x' = kl x)) * ((kc_s G kl (kl y) : Int) * E) := fun x' hx' => ib_ml fun e1 => by
      have c3 : ∀ y', y' ∈ G → ib (decide (kl y' = kl y)) * si (fun g => f (kl (mul x' (mul (mul (inv g) y') g)))) G = ib (decide (kl y' = kl y)) * E := fun y' hy' => ib_ml fun e2 => by
        rw [ak_x h f hx' hx hy' e1, ak_y h f hx hy' hy e2, hE]
      rw [si_congr c3, si_mulr, si_count]
      rfl
    rw [si_congr c2, si_mulr, si_count]
    rfl
  have c4 : si (fun x' => ib (decide (kl x' = kl x)) * si (fun y' => ib (decide (kl y' = kl y)) * si (fun g => f (kl (mul x' (mul (mul (inv g) y') g)))) G) G) G = (G.length : Int) * si (fun x' => ib (decide (kl x' = kl x)) * si (fun y' => ib (decide (kl y' = kl y)) * f (kl (mul x' y'))) G) G := by
    rw [← si_mul]
    refine si_congr fun x' hx' => ?_
    have c5 : si (fun y' => ib (decide (kl y' = kl y)) * si (fun g => f (kl (mul x' (mul (mul (inv g) y') g)))) G) G = si (fun g => si (fun y' => ib (decide (kl y' = kl y)) * f (kl (mul x' (mul (mul (inv g) y') g)))) G) G := by
      refine Eq.trans ?_ (si_swap (fun y' g => ib (decide (kl y' = kl y)) * f (kl (mul x' (mul (mul (inv g) y') g)))) G G)
      exact si_congr fun y' _ => (si_mul _ _ _).symm
    have c6 : ∀ g, g ∈ G → si (fun y' => ib (decide (kl y' = kl y)) * f (kl (mul x' (mul (mul (inv g) y') g)))) G = si (fun y' => ib (decide (kl y' = kl y)) * f (kl (mul x' y'))) G := fun g hg => by
      rw [← si_bij hG (fun y' => ib (decide (kl y' = kl y)) * f (kl (mul x' y'))) (fun y' => mul (mul (inv g) y') g) (fun a ha => gg_cm hG hg ha) (fun a ha b hb e => gg_cj hG hg ha hb e)]
      refine si_congr fun y' hy' => ?_
      show _ = ib (decide (kl (mul (mul (inv g) y') g) = kl y)) * f (kl (mul x' (mul (mul (inv g) y') g)))
      rw [kc_conj h hy' hg]
    rw [c5, si_congr c6, si_const]
    grind
  rw [c4, ak_A h f] at c1
  have c7 := dv_ml (G.length : Int) (hm (kl x) (kl y) hi hj)
  rw [c1] at c7
  have c8 : (p : Int) ∣ (kc_s G kl (kl x) : Int) * ((kc_s G kl (kl y) : Int) * ((G.length : Int) * (f (kl x) * f (kl y)) - E)) := by
    have e : (kc_s G kl (kl x) : Int) * ((kc_s G kl (kl y) : Int) * ((G.length : Int) * (f (kl x) * f (kl y)) - E)) = (G.length : Int) * ((kc_s G kl (kl x) : Int) * f (kl x) * ((kc_s G kl (kl y) : Int) * f (kl y))) - (kc_s G kl (kl x) : Int) * ((kc_s G kl (kl y) : Int) * E) := by grind
    rw [e]; exact c7
  exact nt_euclid hp (hs _ hj) (nt_euclid hp (hs _ hi) c8)
-- the sum of f(x) f(x^-1), by classes
theorem ak_s (h : kc_ok G mul one inv k kl re) (f : Nat → Int) : avs G inv (fun x => f (kl x)) = si (fun l => (kc_s G kl l : Int) * (f l * f (kl (inv (re l))))) (List.range k) := by
  have hG := kc_g h
  unfold avs
  have e1 : ∀ x, x ∈ G → f (kl x) * f (kl (inv x)) = f (kl x) * f (kl (inv (re (kl x)))) := fun x hx => by
    obtain ⟨c, hc, e⟩ := (kc_iff h hx (kc_re h (kc_lt h hx))).mp (kc_kr h (kc_lt h hx)).symm
    have hr := kc_re h (kc_lt h hx)
    have e2 : re (kl x) = mul (mul (inv c) x) c := by rw [gg_as hG, ← e, gg_lk2 hG hc hr]
    have e3 : kl (inv (re (kl x))) = kl (inv x) := by
      conv => lhs; rw [e2]
      rw [gg_ci hG hc hx, kc_conj h (gg_i hG hx) hc]
    rw [e3]
  rw [si_congr e1, si_parts (fun l => f l * f (kl (inv (re l)))) kl k (fun x hx => kc_lt h hx)]
  rfl
end AK
-- how many roots a polynomial has
theorem rt_le {p : Nat} (hp : ∀ m, m ∣ p → m = 1 ∨ m = p) : ∀ (R : List Nat) (c : List Int) (y : Int), c.getLast? = some y → ¬ (p : Int) ∣ y → R.Nodup → (∀ r, r ∈ R → r < p ∧ (p : Int) ∣ pe c (r : Int)) → R.length < c.length
  | [], c, y, h1, _, _, _ => by
    cases c with
    | nil => simp at h1
    | cons x c => simp
  | r :: R, c, y, h1, h2, h3, h4 => by
    obtain ⟨h5, h6⟩ := h4 r List.mem_cons_self
    cases c with
    | nil => simp at h1
    | cons x c =>
      by_cases hc : c = []
      · subst hc
        exfalso
        have e : x = y := by simpa using h1
        subst e
        have e2 : pe [x] (r : Int) = x := by simp [pe]
        rw [e2] at h6
        exact h2 h6
      · obtain ⟨q', y', rfl⟩ : ∃ q' y', c = q' ++ [y'] := ⟨c.dropLast, c.getLast hc, (List.dropLast_concat_getLast hc).symm⟩
        have hy : y' = y := by
          rw [List.getLast?_cons, List.getLast?_append] at h1
          simpa using h1
        subst hy
        obtain ⟨h7, h8⟩ := pd_last (r : Int) q' x y'
        have h9 : (p : Int) ∣ (pd (r : Int) (x :: (q' ++ [y']))).1 := by
          have e := pe_pd (r : Int) (r : Int) (x :: (q' ++ [y']))
          rw [Int.sub_self, Int.zero_mul, Int.add_zero] at e
          rw [← e]; exact h6
        have h10 := rt_le hp R _ y' h7 h2 (List.nodup_cons.mp h3).2 (fun r' hr' => by
          obtain ⟨q1, q2⟩ := h4 r' (List.mem_cons_of_mem _ hr')
          refine ⟨q1, ?_⟩
          have e := pe_pd (r : Int) (r' : Int) (x :: (q' ++ [y']))
          rw [e] at q2
          have q3 := Int.dvd_sub q2 h9
          rw [Int.add_comm, Int.add_sub_cancel] at q3
          rcases nt_mul hp q3 with q4 | q4
          · exfalso
            have q5 := dv_0 q4 (by omega) (by omega)
            have q6 : r' = r := by omega
            exact (List.nodup_cons.mp h3).1 (q6 ▸ hr')
          · exact q4)
        rw [h8] at h10
        simp
        omega
theorem sq_pow (x : Int) : ∀ j : Nat, (x * x) ^ j = x ^ (2 * j)
  | 0 => by simp
  | j + 1 => by
    rw [Int.pow_succ, sq_pow x j, show 2 * (j + 1) = 2 * j + 1 + 1 by omega, Int.pow_succ, Int.pow_succ]
    grind
theorem dv_pw {p a b : Int} (h : p ∣ a - b) : ∀ j : Nat, p ∣ a ^ j - b ^ j
  | 0 => by simp
  | j + 1 => by
    have h1 := dv_pw h j
    rw [Int.pow_succ, Int.pow_succ]
    have e : a ^ j * a - b ^ j * b = a * (a ^ j - b ^ j) + b ^ j * (a - b) := by grind
    rw [e]
    exact dv_add (Int.dvd_trans h1 (Int.dvd_mul_left _ _)) (Int.dvd_trans h (Int.dvd_mul_left _ _))
theorem eul {p j : Nat} (hp : isPr p) (hj : p = 2 * j + 1) {x : Int} (h : (p : Int) ∣ x ^ j - 1) : ∃ y : Nat, y < p ∧ (p : Int) ∣ (y : Int) * (y : Int) - x := Classical.byContradiction fun hn => by
  have hp1 := hp.1
  have hX0 : 0 ≤ x % (p : Int) := Int.emod_nonneg _ (by omega)
  have hX1 : x % (p : Int) < p := Int.emod_lt_of_pos _ (by omega)
  obtain ⟨X, hX⟩ : ∃ X : Nat, (X : Int) = x % (p : Int) := ⟨(x % (p : Int)).toNat, Int.toNat_of_nonneg hX0⟩
  have hXx : (p : Int) ∣ (X : Int) - x := by
    rw [hX]
    have := Int.emod_emod_of_dvd x (Int.dvd_refl (p : Int))
    exact Int.dvd_of_emod_eq_zero (by rw [Int.sub_emod, this, Int.sub_self, Int.zero_emod])
  have hmd : ∀ y : Nat, (p : Int) ∣ ((y * y % p : Nat) : Int) - (y : Int) * (y : Int) := fun y => by
    have := md_dv (p := p) (y := y * y)
    rw [Int.natCast_mul] at this
    exact this
  have hc : ((-1 : Int) :: (List.replicate (j - 1) 0 ++ [1])).getLast? = some 1 := by
    rw [List.getLast?_cons, List.getLast?_append]; simp
  have hpe : ∀ t : Int, pe ((-1 : Int) :: (List.replicate (j - 1) 0 ++ [1])) t = t ^ j - 1 := fun t => by
    show -1 + t * pe (List.replicate (j - 1) 0 ++ [1]) t = _
    rw [pe_pow]
    have : t ^ j = t ^ (j - 1) * t := by rw [← Int.pow_succ]; congr 1; omega
    rw [this]; grind
  have h2 := rt_le hp.2 (X :: (List.range j).map (fun t => (t + 1) * (t + 1) % p)) _ 1 hc (fun h9 => by
    have := Int.le_of_dvd (by decide) h9
    omega) (by
    refine List.nodup_cons.mpr ⟨fun h9 => ?_, ?_⟩
    · obtain ⟨t, ht, e⟩ := List.mem_map.mp h9
      have ht := List.mem_range.mp ht
      refine hn ⟨t + 1, by omega, ?_⟩
      have q := hmd (t + 1)
      rw [e] at q
      exact dv_tr (dv_sy q) hXx
    · refine List.pairwise_map.mpr (List.Pairwise.imp_of_mem (fun {u v} hu hv huv he => ?_) List.pairwise_lt_range)
      have hu := List.mem_range.mp hu
      have hv := List.mem_range.mp hv
      have q1 := hmd (u + 1)
      have q2 := hmd (v + 1)
      rw [he] at q1
      have q3 := dv_tr (dv_sy q2) q1
      have e : ((v + 1 : Nat) : Int) * ((v + 1 : Nat) : Int) - ((u + 1 : Nat) : Int) * ((u + 1 : Nat) : Int) = (((v + 1 : Nat) : Int) - ((u + 1 : Nat) : Int)) * (((v + 1 : Nat) : Int) + ((u + 1 : Nat) : Int)) := by grind
      rw [e] at q3
      rcases nt_mul hp.2 q3 with q4 | q4
      · have := dv_0 q4 (by omega) (by omega)
        omega
      · have := Int.le_of_dvd (by omega) q4
        omega) (fun r hr => by
    rw [hpe]
    rcases List.mem_cons.mp hr with rfl | hr
    · refine ⟨by omega, ?_⟩
      exact dv_tr (dv_pw hXx j) h
    · obtain ⟨t, ht, rfl⟩ := List.mem_map.mp hr
      have ht := List.mem_range.mp ht
      refine ⟨Nat.mod_lt _ (by omega), ?_⟩
      have q1 := dv_pw (hmd (t + 1)) j
      rw [sq_pow] at q1
      refine dv_tr q1 ?_
      have q2 := flt1 hp (b := t + 1) (fun h9 => by have := Nat.le_of_dvd (by omega) h9; omega)
      rw [show p - 1 = 2 * j by omega] at q2
      exact q2)
  simp at h2
  omega
