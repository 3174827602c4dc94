-- pure: a finite group as a list of numbers (the product is associative everywhere)
def gg_ok (G : List Nat) (mul : Nat → Nat → Nat) (one : Nat) (inv : Nat → Nat) : Prop :=
  G.Nodup ∧ one ∈ G ∧ (∀ a, a ∈ G → ∀ b, b ∈ G → mul a b ∈ G) ∧ (∀ a, a ∈ G → inv a ∈ G) ∧ (∀ a b c, mul (mul a b) c = mul a (mul b c)) ∧
  (∀ a, a ∈ G → mul one a = a) ∧ (∀ a, a ∈ G → mul a one = a) ∧ (∀ a, a ∈ G → mul (inv a) a = one) ∧ (∀ a, a ∈ G → mul a (inv a) = one)
def gg_pw (mul : Nat → Nat → Nat) (one x : Nat) : Nat → Nat
  | 0 => one
  | m + 1 => mul (gg_pw mul one x m) x
section GG
variable {G : List Nat} {mul : Nat → Nat → Nat} {one : Nat} {inv : Nat → Nat}
theorem gg_nd (h : gg_ok G mul one inv) : G.Nodup := h.1
theorem gg_1 (h : gg_ok G mul one inv) : one ∈ G := h.2.1
theorem gg_m (h : gg_ok G mul one inv) {a b : Nat} (ha : a ∈ G) (hb : b ∈ G) : mul a b ∈ G := h.2.2.1 a ha b hb
theorem gg_i (h : gg_ok G mul one inv) {a : Nat} (ha : a ∈ G) : inv a ∈ G := h.2.2.2.1 a ha
theorem gg_as (h : gg_ok G mul one inv) (a b c : Nat) : mul (mul a b) c = mul a (mul b c) := h.2.2.2.2.1 a b c
theorem gg_l1 (h : gg_ok G mul one inv) {a : Nat} (ha : a ∈ G) : mul one a = a := h.2.2.2.2.2.1 a ha
theorem gg_r1 (h : gg_ok G mul one inv) {a : Nat} (ha : a ∈ G) : mul a one = a := h.2.2.2.2.2.2.1 a ha
theorem gg_li (h : gg_ok G mul one inv) {a : Nat} (ha : a ∈ G) : mul (inv a) a = one := h.2.2.2.2.2.2.2.1 a ha
theorem gg_ri (h : gg_ok G mul one inv) {a : Nat} (ha : a ∈ G) : mul a (inv a) = one := h.2.2.2.2.2.2.2.2 a ha
theorem gg_lc (h : gg_ok G mul one inv) {a b c : Nat} (ha : a ∈ G) (hb : b ∈ G) (hc : c ∈ G) (e : mul a b = mul a c) : b = c := by
  have e2 := congrArg (mul (inv a)) e
  rw [← gg_as h, ← gg_as h, gg_li h ha, gg_l1 h hb, gg_l1 h hc] at e2
  exact e2
theorem gg_rc (h : gg_ok G mul one inv) {a b c : Nat} (ha : a ∈ G) (hb : b ∈ G) (hc : c ∈ G) (e : mul b a = mul c a) : b = c := by
  have e2 := congrArg (fun z => mul z (inv a)) e
  simp only [gg_as h, gg_ri h ha, gg_r1 h hb, gg_r1 h hc] at e2
  exact e2
theorem gg_iu (h : gg_ok G mul one inv) {a b : Nat} (ha : a ∈ G) (hb : b ∈ G) (e : mul a b = one) : b = inv a :=
  gg_lc h ha hb (gg_i h ha) (e.trans (gg_ri h ha).symm)
theorem gg_ii (h : gg_ok G mul one inv) {a : Nat} (ha : a ∈ G) : inv (inv a) = a := (gg_iu h (gg_i h ha) ha (gg_li h ha)).symm
theorem gg_pm (h : gg_ok G mul one inv) {x : Nat} (hx : x ∈ G) : ∀ m : Nat, gg_pw mul one x m ∈ G
  | 0 => gg_1 h
  | m + 1 => gg_m h (gg_pm h hx m) hx
theorem gg_pa (h : gg_ok G mul one inv) {x : Nat} (hx : x ∈ G) (m : Nat) : ∀ n : Nat, gg_pw mul one x (m + n) = mul (gg_pw mul one x m) (gg_pw mul one x n)
  | 0 => (gg_r1 h (gg_pm h hx m)).symm
  | n + 1 => by
    show mul (gg_pw mul one x (m + n)) x = mul (gg_pw mul one x m) (mul (gg_pw mul one x n) x)
    rw [gg_pa h hx m n, gg_as h]
theorem gg_p1 (h : gg_ok G mul one inv) {x : Nat} (hx : x ∈ G) : gg_pw mul one x 1 = x := gg_l1 h hx
theorem gg_ps (h : gg_ok G mul one inv) {x : Nat} (hx : x ∈ G) (m : Nat) : gg_pw mul one x (m + 1) = mul x (gg_pw mul one x m) := by
  rw [Nat.add_comm, gg_pa h hx 1 m, gg_p1 h hx]
theorem gg_pz (h : gg_ok G mul one inv) {x : Nat} (hx : x ∈ G) {d : Nat} (hd : gg_pw mul one x d = one) : ∀ k : Nat, gg_pw mul one x (d * k) = one
  | 0 => rfl
  | k + 1 => by rw [Nat.mul_succ, gg_pa h hx, gg_pz h hx hd k, hd, gg_l1 h (gg_1 h)]
theorem gg_pmod (h : gg_ok G mul one inv) {x : Nat} (hx : x ∈ G) {d : Nat} (hd : gg_pw mul one x d = one) (m : Nat) : gg_pw mul one x m = gg_pw mul one x (m % d) := by
  have h3 : m = m % d + d * (m / d) := (Nat.mod_add_div m d).symm
  have h4 := gg_pa h hx (m % d) (d * (m / d))
  rw [← h3, gg_pz h hx hd, gg_r1 h (gg_pm h hx _)] at h4
  exact h4
-- every element has an order, it divides the size of the group
theorem gg_ex (h : gg_ok G mul one inv) {x : Nat} (hx : x ∈ G) : ∃ d, 0 < d ∧ gg_pw mul one x d = one := by
  by_cases hd : ((List.range (G.length + 1)).map (gg_pw mul one x)).Nodup
  · have h1 := hd.length_le_of_subset (l₂ := G) (fun y hy => by
      obtain ⟨k, _, rfl⟩ := List.mem_map.mp hy
      exact gg_pm h hx k)
    rw [List.length_map, List.length_range] at h1
    omega
  · have h2 : ∃ i j, i < j ∧ gg_pw mul one x i = gg_pw mul one x j := Classical.byContradiction fun hn => by
      apply hd
      refine List.pairwise_map.mpr (List.Pairwise.imp (fun {a b} hab he => hn ⟨a, b, hab, he⟩) List.pairwise_lt_range)
    obtain ⟨i, j, hij, he⟩ := h2
    refine ⟨j - i, by omega, ?_⟩
    have h3 := gg_pa h hx i (j - i)
    rw [show i + (j - i) = j by omega, ← he] at h3
    refine gg_lc h (gg_pm h hx i) (gg_pm h hx _) (gg_1 h) ?_
    rw [← h3, gg_r1 h (gg_pm h hx i)]
theorem gg_ord (h : gg_ok G mul one inv) {x : Nat} (hx : x ∈ G) : ∃ d, 0 < d ∧ gg_pw mul one x d = one ∧ (∀ j, 0 < j → j < d → gg_pw mul one x j ≠ one) ∧ d ∣ G.length := by
  obtain ⟨d, ⟨h0, h1⟩, hm⟩ := pk_least (fun d => 0 < d ∧ gg_pw mul one x d = one) (gg_ex h hx)
  have hit : ∀ (j y : Nat), y ∈ G → fa_it (fun z => mul z x) j y = mul y (gg_pw mul one x j) := by
    intro j
    induction j with
    | zero => intro y hy; exact (gg_r1 h hy).symm
    | succ j ih =>
      intro y hy
      show fa_it (fun z => mul z x) j (mul y x) = _
      rw [ih _ (gg_m h hy hx), gg_as h, gg_ps h hx]
  refine ⟨d, h0, h1, fun j hj hjd he => hm j hjd ⟨hj, he⟩, ?_⟩
  refine fa_div (fun z => mul z x) d h0 G.length G (Nat.le_refl _) (gg_nd h) (fun y hy => gg_m h hy hx) (fun y hy => ?_) (fun y hy j hj hjd he => ?_)
  · rw [hit d y hy, h1, gg_r1 h hy]
  · rw [hit j y hy] at he
    exact hm j hjd ⟨hj, gg_lc h hy (gg_pm h hx j) (gg_1 h) (he.trans (gg_r1 h hy).symm)⟩
theorem gg_lag (h : gg_ok G mul one inv) {x : Nat} (hx : x ∈ G) : gg_pw mul one x G.length = one := by
  obtain ⟨d, _, h1, _, ⟨k, hk⟩⟩ := gg_ord h hx
  rw [hk]
  exact gg_pz h hx h1 k
end GG
