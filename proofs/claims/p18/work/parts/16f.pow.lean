-- pure: sizes of classes; the operator of a class; its p-th power is itself, modulo p
def kc_s (G : List Nat) (kl : Nat → Nat) (i : Nat) : Nat := G.countP (fun x => decide (kl x = i))
def kc_B (G : List Nat) (mul : Nat → Nat → Nat) (inv kl re : Nat → Nat) (k i : Nat) : Nat → Nat → Int
  | 0, l => ib (decide (l = 0))
  | m + 1, l => si (fun j => kc_a G mul inv kl re i j l * kc_B G mul inv kl re k i m j) (List.range k)
def kc_op (G : List Nat) (mul : Nat → Nat → Nat) (inv kl re : Nat → Nat) (k i : Nat) (v : Nat → Int) (q : Nat) : Int := si (fun l => kc_a G mul inv kl re i q l * v l) (List.range k)
section PW
variable {G : List Nat} {mul : Nat → Nat → Nat} {one : Nat} {inv : Nat → Nat} {k : Nat} {kl re : Nat → Nat}
theorem kc_stab (h : kc_ok G mul one inv k kl re) {l : Nat} (hl : l < k) : kc_s G kl l * G.countP (fun g => decide (mul g (re l) = mul (re l) g)) = G.length := by
  have hG := kc_g h
  have hx := kc_re h hl
  have h1 : ∀ y, y ∈ G → kl y = l → G.countP (fun g => decide (mul g y = mul (re l) g)) = G.countP (fun g => decide (mul g (re l) = mul (re l) g)) := by
    intro y hy hyl
    obtain ⟨c, hc, e⟩ := (kc_iff h hx hy).mp (by rw [kc_kr h hl, hyl])
    refine (gg_cnt hG (fun g => mul g c) (fun g hg => gg_m hG hg hc) (fun a ha b hb e9 => gg_rc hG hc ha hb e9) (fun g hg => ?_)).symm
    apply decide_eq_decide.mpr
    show mul g (re l) = mul (re l) g ↔ mul (mul g c) y = mul (re l) (mul g c)
    rw [gg_as hG g c y, e, ← gg_as hG g, ← gg_as hG (re l)]
    constructor
    · intro e9; rw [e9]
    · intro e9; exact gg_rc hG hc (gg_m hG hg hx) (gg_m hG hx hg) e9
  have h2 : si (fun y => ib (decide (kl y = l)) * si (fun g => ib (decide (mul g y = mul (re l) g))) G) G = (kc_s G kl l : Int) * (G.countP (fun g => decide (mul g (re l) = mul (re l) g)) : Int) := by
    unfold kc_s
    rw [← si_count (fun x => decide (kl x = l)) G, ← si_mulr]
    refine si_congr fun y hy => ?_
    by_cases e : kl y = l
    · rw [si_count, h1 y hy e]
    · simp [ib, e]
  have h3 : si (fun y => ib (decide (kl y = l)) * si (fun g => ib (decide (mul g y = mul (re l) g))) G) G = si (fun g => si (fun y => ib (decide (y = mul (mul (inv g) (re l)) g)) * 1) G) G := by
    rw [← si_swap]
    refine si_congr fun y hy => ?_
    rw [← si_mul]
    refine si_congr fun g hg => ?_
    rw [Int.mul_one]
    have h4 : mul g y = mul (re l) g ↔ y = mul (mul (inv g) (re l)) g := by
      constructor
      · intro e; rw [gg_as hG, ← e, ← gg_as hG, gg_li hG hg, gg_l1 hG hy]
      · intro e; rw [e, ← gg_as hG, ← gg_as hG, gg_ri hG hg, gg_l1 hG hx]
    by_cases e : y = mul (mul (inv g) (re l)) g
    · have e2 : kl y = l := by rw [e, kc_conj h hx hg, kc_kr h hl]
      simp [ib, h4.mpr e, e2, ← e]
    · have e3 : ¬ mul g y = mul (re l) g := fun e9 => e (h4.mp e9)
      simp [ib, e, e3]
  rw [h3] at h2
  have h5 : si (fun g => si (fun y => ib (decide (y = mul (mul (inv g) (re l)) g)) * 1) G) G = si (fun _ => (1 : Int)) G := si_congr fun g hg => si_one (fun _ => (1 : Int)) _ (gg_nd hG) (gg_m hG (gg_m hG (gg_i hG hg) hx) hg)
  rw [h5, si_const, Int.mul_one, ← Int.natCast_mul] at h2
  exact (Int.ofNat.inj h2).symm
theorem kc_one (h : kc_ok G mul one inv k kl re) {x : Nat} (hx : x ∈ G) : kl x = 0 ↔ x = one := by
  have hG := kc_g h
  have h0 : kl one = 0 := h.2.2.2.2.1
  constructor
  · intro e
    obtain ⟨g, hg, e2⟩ := (kc_iff h hx (gg_1 hG)).mp (e.trans h0.symm)
    rw [gg_r1 hG hg] at e2
    exact gg_rc hG hg hx (gg_1 hG) (by rw [← e2, gg_l1 hG hg])
  · rintro rfl; exact h0
theorem fr_B (h : kc_ok G mul one inv k kl re) (i : Nat) : ∀ (m z : Nat), z ∈ G → tp_N mul one (G.filter (fun x => decide (kl x = i))) m z = kc_B G mul inv kl re k i m (kl z)
  | 0, z, hz => by
    rw [tp_N0]
    show _ = ib (decide (kl z = 0))
    congr 1
    apply decide_eq_decide.mpr
    rw [kc_one h hz]
    exact eq_comm
  | m + 1, z, hz => by
    have hG := kc_g h
    rw [tp_Ns hG (fun g hg => (List.mem_filter.mp hg).1) m hz, si_filter]
    have h1 : si (fun x => ib (decide (kl x = i)) * tp_N mul one (G.filter (fun x => decide (kl x = i))) m (mul (inv x) z)) G = si (fun x => ib (decide (kl x = i)) * kc_B G mul inv kl re k i m (kl (mul (inv x) z))) G := si_congr fun x hx => by rw [fr_B h i m _ (gg_m hG (gg_i hG hx) hz)]
    rw [h1, kc_sum h hz i]
    show _ = si (fun j => kc_a G mul inv kl re i j (kl z) * kc_B G mul inv kl re k i m j) (List.range k)
    refine si_congr fun j _ => ?_
    rw [kc_a_z h hz]
theorem fr_cnt (h : kc_ok G mul one inv k kl re) (i p l : Nat) : ((tp_all (G.filter (fun x => decide (kl x = i))) p).countP (fun t => decide (kl (tp_pr mul one t) = l)) : Int) = (kc_s G kl l : Int) * kc_B G mul inv kl re k i p l := by
  have hG := kc_g h
  have hin : ∀ t, t ∈ tp_all (G.filter (fun x => decide (kl x = i))) p → tp_pr mul one t ∈ G := fun t ht => tp_prm hG t fun g hg => (List.mem_filter.mp (((tp_mem _ p t).mp ht).2 g hg)).1
  rw [← si_count]
  have h1 : si (fun t => ib (decide (kl (tp_pr mul one t) = l))) (tp_all (G.filter (fun x => decide (kl x = i))) p) = si (fun t => si (fun z => ib (decide (z = tp_pr mul one t)) * ib (decide (kl z = l))) G) (tp_all (G.filter (fun x => decide (kl x = i))) p) := si_congr fun t ht => (si_one (fun z => ib (decide (kl z = l))) (tp_pr mul one t) (gg_nd hG) (hin t ht)).symm
  rw [h1, si_swap]
  unfold kc_s
  rw [← si_count (fun x => decide (kl x = l)) G, ← si_mulr]
  refine si_congr fun z hz => ?_
  by_cases e : kl z = l
  · have h2 := fr_B h i p z hz
    rw [e] at h2
    rw [← h2]
    unfold tp_N
    rw [si_mulr]
    rw [Int.mul_comm]
    congr 1
    refine si_congr fun t _ => ?_
    congr 1
    apply decide_eq_decide.mpr
    exact eq_comm
  · have h3 : ib (decide (kl z = l)) = 0 := by simp [ib, e]
    rw [h3, Int.zero_mul]
    exact si_z fun t _ => by rw [Int.mul_zero]
theorem nt_euclid {p : Nat} (hp : ∀ m, m ∣ p → m = 1 ∨ m = p) {a : Nat} (ha : ¬ p ∣ a) {b : Int} (h : (p : Int) ∣ (a : Int) * b) : (p : Int) ∣ b := by
  have hc : Nat.gcd p a = 1 := by
    rcases hp _ (Nat.gcd_dvd_left p a) with e | e
    · exact e
    · exact absurd (e ▸ Nat.gcd_dvd_right p a) ha
  have h1 : p ∣ a * b.natAbs := by
    have := Int.natAbs_dvd_natAbs.mpr h
    rwa [Int.natAbs_mul, Int.natAbs_natCast, Int.natAbs_natCast] at this
  have h2 : p ∣ b.natAbs := Nat.Coprime.dvd_of_dvd_mul_left hc h1
  exact Int.dvd_natAbs.mp (Int.ofNat_dvd.mpr h2)
theorem fr_Bp (h : kc_ok G mul one inv k kl re) {p : Nat} (hp1 : 1 < p) (hp : ∀ m, m ∣ p → m = 1 ∨ m = p) (hpw : ∀ x, x ∈ G → gg_pw mul one x p = x) {i l : Nat} (hl : l < k) : (p : Int) ∣ kc_B G mul inv kl re k i p l - ib (decide (l = i)) := by
  have hG := kc_g h
  have hn := gg_np hG hp1 hp hpw
  have hs : ¬ p ∣ kc_s G kl l := fun hd => hn (by rw [← kc_stab h hl]; exact Nat.dvd_trans hd (Nat.dvd_mul_right _ _))
  refine nt_euclid hp hs ?_
  have h1 := tp_cong hG (C := G.filter (fun x => decide (kl x = i))) ((gg_nd hG).sublist List.filter_sublist) (fun g hg => (List.mem_filter.mp hg).1) hp1 hp (fun z => decide (kl z = l)) (fun t ht => by rw [tp_prr h t ht])
  rw [fr_cnt h] at h1
  have h2 : ((G.filter (fun x => decide (kl x = i))).countP (fun g => decide (kl (gg_pw mul one g p) = l)) : Int) = (kc_s G kl l : Int) * ib (decide (l = i)) := by
    have h3 : (G.filter (fun x => decide (kl x = i))).countP (fun g => decide (kl (gg_pw mul one g p) = l)) = (G.filter (fun x => decide (kl x = i))).countP (fun g => decide (kl g = l)) := List.countP_congr fun g hg => by rw [hpw g (List.mem_filter.mp hg).1]
    rw [h3, List.countP_filter]
    unfold kc_s
    by_cases e : l = i
    · subst e
      simp [ib]
    · have h4 : List.countP (fun a => decide (kl a = l) && decide (kl a = i)) G = 0 := by
        rw [List.countP_eq_zero]
        intro a _
        simp
        intro e1 e2
        exact e (e1.symm.trans e2)
      rw [h4]
      simp [ib, e]
  rw [h2, ← Int.mul_sub] at h1
  exact h1
-- the operators
theorem kc_a0 (h : kc_ok G mul one inv k kl re) {q l : Nat} (hl : l < k) : kc_a G mul inv kl re 0 q l = ib (decide (l = q)) := by
  have hG := kc_g h
  unfold kc_a kc_n
  rw [← si_count]
  have h1 : ∀ x, x ∈ G → ib (decide (kl x = 0) && decide (kl (mul (inv x) (re l)) = q)) = ib (decide (x = one)) * ib (decide (l = q)) := by
    intro x hx
    by_cases e : x = one
    · subst e
      have e1 : inv x = x := (gg_iu hG hx hx (gg_l1 hG hx)).symm
      have e2 : kl x = 0 := h.2.2.2.2.1
      rw [e1, gg_l1 hG (kc_re h hl), kc_kr h hl]
      simp [ib, e2]
    · have e1 : ¬ kl x = 0 := fun e9 => e ((kc_one h hx).mp e9)
      simp [ib, e, e1]
  rw [si_congr h1]
  exact si_one (fun _ => ib (decide (l = q))) one (gg_nd hG) (gg_1 hG)
theorem kc_op0 (h : kc_ok G mul one inv k kl re) (v : Nat → Int) {q : Nat} (hq : q < k) : kc_op G mul inv kl re k 0 v q = v q := by
  unfold kc_op
  rw [si_congr (fun l hl => by rw [kc_a0 h (List.mem_range.mp hl)])]
  exact si_one v q List.nodup_range (List.mem_range.mpr hq)
theorem kc_opop (h : kc_ok G mul one inv k kl re) (i j : Nat) (v : Nat → Int) (q : Nat) : kc_op G mul inv kl re k i (kc_op G mul inv kl re k j v) q = si (fun m => kc_a G mul inv kl re j i m * kc_op G mul inv kl re k m v q) (List.range k) := by
  unfold kc_op
  have h1 : si (fun m => kc_a G mul inv kl re i q m * si (fun l => kc_a G mul inv kl re j m l * v l) (List.range k)) (List.range k) = si (fun m => si (fun l => kc_a G mul inv kl re j m l * kc_a G mul inv kl re i q m * v l) (List.range k)) (List.range k) := si_congr fun m _ => by
    rw [← si_mul]
    exact si_congr fun l _ => by rw [← Int.mul_assoc, Int.mul_comm (kc_a G mul inv kl re i q m)]
  have h2 : si (fun m => kc_a G mul inv kl re j i m * si (fun l => kc_a G mul inv kl re m q l * v l) (List.range k)) (List.range k) = si (fun m => si (fun l => kc_a G mul inv kl re j i m * kc_a G mul inv kl re m q l * v l) (List.range k)) (List.range k) := si_congr fun m _ => by
    rw [← si_mul]
    exact si_congr fun l _ => by rw [← Int.mul_assoc]
  rw [h1, h2, si_swap, si_swap (fun m l => kc_a G mul inv kl re j i m * kc_a G mul inv kl re m q l * v l)]
  refine si_congr fun l hl => ?_
  rw [si_mulr, si_mulr, kc_assoc h (List.mem_range.mp hl) j i q]
theorem kc_op_comm (h : kc_ok G mul one inv k kl re) (i j : Nat) (v : Nat → Int) (q : Nat) : kc_op G mul inv kl re k i (kc_op G mul inv kl re k j v) q = kc_op G mul inv kl re k j (kc_op G mul inv kl re k i v) q := by
  rw [kc_opop h, kc_opop h]
  exact si_congr fun m hm => by rw [kc_a_comm h (List.mem_range.mp hm)]
theorem kc_op_it (h : kc_ok G mul one inv k kl re) (i : Nat) (v : Nat → Int) : ∀ (m q : Nat), q < k → fa_it (kc_op G mul inv kl re k i) m v q = si (fun l => kc_B G mul inv kl re k i m l * kc_op G mul inv kl re k l v q) (List.range k)
  | 0, q, hq => by
    show v q = si (fun l => ib (decide (l = 0)) * kc_op G mul inv kl re k l v q) (List.range k)
    have h0 : 0 < k := h.2.2.2.2.2
    rw [si_one (fun l => kc_op G mul inv kl re k l v q) 0 List.nodup_range (List.mem_range.mpr h0), kc_op0 h v hq]
  | m + 1, q, hq => by
    rw [fa_succ]
    have h1 : kc_op G mul inv kl re k i (fa_it (kc_op G mul inv kl re k i) m v) q = si (fun r => si (fun l => kc_B G mul inv kl re k i m l * (kc_a G mul inv kl re i q r * kc_op G mul inv kl re k l v r)) (List.range k)) (List.range k) := by
      unfold kc_op
      refine si_congr fun r hr => ?_
      have h2 := kc_op_it h i v m r (List.mem_range.mp hr)
      unfold kc_op at h2
      rw [h2, ← si_mul]
      exact si_congr fun l _ => by rw [← Int.mul_assoc, ← Int.mul_assoc, Int.mul_comm (kc_a G mul inv kl re i q r)]
    rw [h1, si_swap]
    have h3 : ∀ l, l ∈ List.range k → si (fun r => kc_B G mul inv kl re k i m l * (kc_a G mul inv kl re i q r * kc_op G mul inv kl re k l v r)) (List.range k) = si (fun n => kc_a G mul inv kl re i l n * kc_B G mul inv kl re k i m l * kc_op G mul inv kl re k n v q) (List.range k) := by
      intro l _
      rw [si_mul]
      have h4 := kc_opop h i l v q
      have h5 : kc_op G mul inv kl re k i (kc_op G mul inv kl re k l v) q = si (fun r => kc_a G mul inv kl re i q r * kc_op G mul inv kl re k l v r) (List.range k) := rfl
      rw [← h5, h4, ← si_mul]
      refine si_congr fun n hn => ?_
      rw [kc_a_comm h (List.mem_range.mp hn), ← Int.mul_assoc, Int.mul_comm (kc_B G mul inv kl re k i m l)]
    rw [si_congr h3, si_swap]
    refine si_congr fun n _ => ?_
    rw [si_mulr]
    rfl
theorem fr_op (h : kc_ok G mul one inv k kl re) {p : Nat} (hp1 : 1 < p) (hp : ∀ m, m ∣ p → m = 1 ∨ m = p) (hpw : ∀ x, x ∈ G → gg_pw mul one x p = x) {i : Nat} (hi : i < k) (v : Nat → Int) {q : Nat} (hq : q < k) : (p : Int) ∣ fa_it (kc_op G mul inv kl re k i) p v q - kc_op G mul inv kl re k i v q := by
  rw [kc_op_it h i v p q hq]
  have h1 : kc_op G mul inv kl re k i v q = si (fun l => ib (decide (l = i)) * kc_op G mul inv kl re k l v q) (List.range k) := (si_one (fun l => kc_op G mul inv kl re k l v q) i List.nodup_range (List.mem_range.mpr hi)).symm
  rw [h1]
  refine si_cong fun l hl => ?_
  rw [← Int.sub_mul]
  exact Int.dvd_mul_of_dvd_left (fr_Bp h hp1 hp hpw (List.mem_range.mp hl))
end PW
