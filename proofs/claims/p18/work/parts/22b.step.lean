section ZT
variable {B : Nat} {cs : Nat → sx_S} {Rt : Option sx_V → sx_M → Prop} {F : sx_F} {Z : sx_K} {h : Nat × Nat} {pc : Nat} {L : List (Option sx_V)} {st r : List sx_V} {w w' : sx_M} {x y : Int32}
theorem z_putW (hZ : sx_Cl B cs Rt F Z) {i ci kf n : Nat} (hF : F pc = some (.putfield i, ci, kf)) {fs : List sx_V} (hn : n < B) (hw : w n = .inr (.inr (ci % 100, fs))) (hb : ci < 100 ∨ x = 0 ∨ x = 1) (hv : kf < fs.length) (e : va_up w n (.inr (.inr (ci % 100, fs.set kf (.inl x)))) = w') (k : Z (pc + 3) L r w') : Z pc L (.inl x :: .inr (n, 0) :: r) w := z_put hZ hF hn hw hb hv (by rw [e]; exact k)
theorem z_iastW (hZ : sx_Cl B cs Rt F Z) (hF : F pc = some (.iastore, h)) {n N : Nat} {f : Nat → Int32} (hn : n < B) (hw : w n = .inl (N, f)) (hi : vp_in x N) (e : va_up w n (.inl (N, upd f x.toNatClampNeg y)) = w') (k : Z (pc + 1) L r w') : Z pc L (.inl y :: .inl x :: .inr (n, 0) :: r) w := z_iast hZ hF hn hw hi (by rw [e]; exact k)
theorem z_iasgW (hZ : sx_Cl B cs Rt F Z) (hF : F pc = some (.iastore, h)) {n N M j : Nat} {f : Nat → Nat → Int32} (hn : n < B) (hw : w n = .inr (.inl (N, M, f))) (hj : j < N) (hi : vp_in x M) (e : va_up w n (.inr (.inl (N, M, va_up f j (upd (f j) x.toNatClampNeg y)))) = w') (k : Z (pc + 1) L r w') : Z pc L (.inl y :: .inl x :: .inr (n, j + 1) :: r) w := z_iasg hZ hF hn hw hj hi (by rw [e]; exact k)
end ZT
theorem i0 : Int32.ofInt 0 = nI 0 := by decide +kernel
theorem ic1 : Int32.ofInt 1 = nI 1 := by decide +kernel
theorem ic2 : Int32.ofInt 2 = nI 2 := by decide +kernel
theorem ic3 : Int32.ofInt 3 = nI 3 := by decide +kernel
theorem ic4 : Int32.ofInt 4 = nI 4 := by decide +kernel
theorem i64 : (Int8.ofInt 64).toInt32 = nI 64 := by decide +kernel
theorem i120 : (Int8.ofInt 120).toInt32 = nI 120 := by decide +kernel
theorem im1 : Int32.ofInt (-1) = -1 := by decide +kernel
theorem nI_sub1 {n : Nat} (h : 0 < n) : nI n - Int32.ofInt 1 = nI (n - 1) := by rw [ic1]; exact pk_sub h
theorem nI_dec {n : Nat} (h : 0 < n) : nI n + Int32.ofInt (-1) = nI (n - 1) := by rw [im1]; exact sb_m1 h
-- how many of the first n are below x
def kf (f : Nat → Int32) (x : Int32) : Nat → Nat
  | 0 => 0
  | n + 1 => if f n < x then n + 1 else kf f x n
-- increasing
def inc (f : Nat → Int32) (n : Nat) : Prop := ∀ i j, i < j → j < n → f i < f j
theorem kf_le (f : Nat → Int32) (x : Int32) : ∀ n, kf f x n ≤ n
  | 0 => Nat.le_refl 0
  | n + 1 => by
    unfold kf
    by_cases h : f n < x
    · rw [if_pos h]; exact Nat.le_refl _
    · rw [if_neg h]; exact Nat.le_succ_of_le (kf_le f x n)
theorem lt_tr {x y z : Int32} (h : x < y) (h2 : y < z) : x < z := by
  rw [Int32.lt_iff_toInt_lt] at *
  omega
theorem kf_lo {f : Nat → Int32} (x : Int32) : ∀ n, inc f n → ∀ j, j < kf f x n → f j < x
  | 0, _, j, h => absurd h (Nat.not_lt_zero j)
  | n + 1, hi, j, h => by
    unfold kf at h
    by_cases hx : f n < x
    · rw [if_pos hx] at h
      by_cases e : j = n
      · subst e; exact hx
      · exact lt_tr (hi j n (by omega) (by omega)) hx
    · rw [if_neg hx] at h
      exact kf_lo x n (fun i j h1 h2 => hi i j h1 (by omega)) j h
theorem kf_hi {f : Nat → Int32} (x : Int32) : ∀ n j, kf f x n ≤ j → j < n → ¬ f j < x
  | 0, j, _, h => absurd h (Nat.not_lt_zero j)
  | n + 1, j, h, hj => by
    unfold kf at h
    by_cases hx : f n < x
    · rw [if_pos hx] at h
      omega
    · rw [if_neg hx] at h
      by_cases e : j = n
      · subst e; exact hx
      · exact kf_hi x n j h (by omega)
