-- pure: permutations of eight points as codes
def encf (g : Nat → Nat) : Nat → Nat
  | 0 => 0
  | n + 1 => encf g n * 8 + g n
def dg (c x : Nat) : Nat := c / 8 ^ (7 - x) % 8
def pm (a b : Nat) : Nat := encf (fun x => dg b (dg a x)) 8
theorem dg_lt (c x : Nat) : dg c x < 8 := Nat.mod_lt _ (by decide)
theorem enc_lt {g : Nat → Nat} (hg : ∀ x, g x < 8) : ∀ n : Nat, encf g n < 8 ^ n
  | 0 => Nat.zero_lt_one
  | n + 1 => by
    have h1 := enc_lt hg n
    have h2 := hg n
    show encf g n * 8 + g n < 8 ^ (n + 1)
    rw [Nat.pow_succ]
    omega
theorem enc_dg {g : Nat → Nat} (hg : ∀ x, g x < 8) : ∀ (n x : Nat), x < n → encf g n / 8 ^ (n - 1 - x) % 8 = g x
  | 0, x, h => absurd h (Nat.not_lt_zero x)
  | n + 1, x, h => by
    have h2 := hg n
    show (encf g n * 8 + g n) / 8 ^ (n + 1 - 1 - x) % 8 = g x
    by_cases e : x = n
    · subst e
      have h3 : x + 1 - 1 - x = 0 := by omega
      rw [h3, Nat.pow_zero, Nat.div_one]
      omega
    · have h3 : n + 1 - 1 - x = (n - 1 - x) + 1 := by omega
      rw [h3, Nat.pow_succ, Nat.mul_comm (8 ^ (n - 1 - x)), ← Nat.div_div_eq_div_mul]
      have h4 : (encf g n * 8 + g n) / 8 = encf g n := by omega
      rw [h4]
      exact enc_dg hg n x (by omega)
theorem enc_of (c n : Nat) : ∀ k : Nat, k ≤ n → encf (fun x => c / 8 ^ (n - 1 - x) % 8) k = c / 8 ^ (n - k) % 8 ^ k
  | 0, _ => by
    show 0 = c / 8 ^ (n - 0) % 8 ^ 0
    rw [Nat.pow_zero, Nat.mod_one]
  | k + 1, hk => by
    show encf (fun x => c / 8 ^ (n - 1 - x) % 8) k * 8 + c / 8 ^ (n - 1 - k) % 8 = _
    rw [enc_of c n k (by omega)]
    have h1 : n - k = (n - (k + 1)) + 1 := by omega
    have h2 : n - 1 - k = n - (k + 1) := by omega
    rw [h1, h2, Nat.pow_succ, ← Nat.div_div_eq_div_mul, Nat.pow_succ, Nat.mul_comm (8 ^ k), Nat.mod_mul]
    omega
theorem dg_ext {c c' : Nat} (h : c < 8 ^ 8) (h' : c' < 8 ^ 8) (e : ∀ x, x < 8 → dg c x = dg c' x) : c = c' := by
  have h1 := enc_of c 8 8 (Nat.le_refl 8)
  have h2 := enc_of c' 8 8 (Nat.le_refl 8)
  rw [Nat.sub_self, Nat.pow_zero, Nat.div_one, Nat.mod_eq_of_lt h] at h1
  rw [Nat.sub_self, Nat.pow_zero, Nat.div_one, Nat.mod_eq_of_lt h'] at h2
  rw [← h1, ← h2]
  have h3 : ∀ n, n ≤ 8 → encf (fun x => c / 8 ^ (8 - 1 - x) % 8) n = encf (fun x => c' / 8 ^ (8 - 1 - x) % 8) n := by
    intro n
    induction n with
    | zero => intro _; rfl
    | succ n ih =>
      intro hn
      show encf _ n * 8 + dg c n = encf _ n * 8 + dg c' n
      rw [ih (by omega), e n (by omega)]
  exact h3 8 (Nat.le_refl 8)
theorem pm_lt (a b : Nat) : pm a b < 8 ^ 8 := enc_lt (fun _ => dg_lt _ _) 8
theorem pm_dg (a b : Nat) {x : Nat} (hx : x < 8) : dg (pm a b) x = dg b (dg a x) := enc_dg (g := fun x => dg b (dg a x)) (fun _ => dg_lt _ _) 8 x hx
theorem pm_as (a b c : Nat) : pm (pm a b) c = pm a (pm b c) := dg_ext (pm_lt _ _) (pm_lt _ _) fun x hx => by
  rw [pm_dg _ _ hx, pm_dg _ _ hx, pm_dg _ _ hx, pm_dg _ _ (dg_lt a x)]
def pid : Nat := 342391
theorem pid_dg : ∀ x, x < 8 → dg pid x = x := by decide
theorem pm_l1 {a : Nat} (ha : a < 8 ^ 8) : pm pid a = a := dg_ext (pm_lt _ _) ha fun x hx => by rw [pm_dg _ _ hx, pid_dg x hx]
theorem pm_r1 {a : Nat} (ha : a < 8 ^ 8) : pm a pid = a := dg_ext (pm_lt _ _) ha fun x hx => by rw [pm_dg _ _ hx, pid_dg _ (dg_lt a x)]
def isP (c : Nat) : Prop := c < 8 ^ 8 ∧ ∀ x, x < 8 → ∀ y, y < 8 → dg c x = dg c y → x = y
theorem isP_pm {a b : Nat} (ha : isP a) (hb : isP b) : isP (pm a b) := ⟨pm_lt a b, fun x hx y hy e => by
  rw [pm_dg _ _ hx, pm_dg _ _ hy] at e
  exact ha.2 x hx y hy (hb.2 _ (dg_lt a x) _ (dg_lt a y) e)⟩
theorem isP_id : isP pid := ⟨by decide, fun x hx y hy e => by rw [pid_dg x hx, pid_dg y hy] at e; exact e⟩
-- every point is an image
theorem isP_on {a : Nat} (ha : isP a) {y : Nat} (hy : y < 8) : ∃ x, x < 8 ∧ dg a x = y := Classical.byContradiction fun hn => by
  have h1 : ((List.range 8).map (dg a)).Nodup := List.pairwise_map.mpr (List.Pairwise.imp_of_mem (fun {u v} hu hv huv he => by
    have := ha.2 u (List.mem_range.mp hu) v (List.mem_range.mp hv) he
    omega) List.pairwise_lt_range)
  have h2 : (y :: (List.range 8).map (dg a)).Nodup := List.nodup_cons.mpr ⟨fun h => by
    obtain ⟨x, hx, e⟩ := List.mem_map.mp h
    exact hn ⟨x, List.mem_range.mp hx, e⟩, h1⟩
  have h3 := h2.length_le_of_subset (l₂ := List.range 8) (fun z hz => by
    rcases List.mem_cons.mp hz with rfl | hz
    · exact List.mem_range.mpr hy
    · obtain ⟨x, _, rfl⟩ := List.mem_map.mp hz
      exact List.mem_range.mpr (dg_lt a x))
  simp at h3
-- the inverse: a code whose digit at the image of x is x
def pinv (a b : Nat) : Prop := b < 8 ^ 8 ∧ ∀ x, x < 8 → dg b (dg a x) = x
theorem pinv_r {a b : Nat} (h : pinv a b) : pm a b = pid := dg_ext (pm_lt _ _) (by decide) fun x hx => by rw [pm_dg _ _ hx, h.2 x hx, pid_dg x hx]
theorem pinv_l {a b : Nat} (ha : isP a) (h : pinv a b) : pm b a = pid := dg_ext (pm_lt _ _) (by decide) fun x hx => by
  obtain ⟨y, hy, e⟩ := isP_on ha hx
  rw [pm_dg _ _ hx, pid_dg x hx, ← e, h.2 y hy]
theorem isP_inv {a b : Nat} (ha : isP a) (h : pinv a b) : isP b := ⟨h.1, fun x hx y hy e => by
  obtain ⟨u, hu, e1⟩ := isP_on ha hx
  obtain ⟨v, hv, e2⟩ := isP_on ha hy
  rw [← e1, ← e2, h.2 u hu, h.2 v hv] at e
  rw [← e1, ← e2, e]⟩
