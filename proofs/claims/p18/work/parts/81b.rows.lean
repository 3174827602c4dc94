-- readers of rows, where the rows are the same
theorem krB_cg {c c' : Nat → Bool} : ∀ n, (∀ q, q < n → c q = c' q) → krB c n = krB c' n
  | 0, _ => rfl
  | n + 1, h => by
    show (if c n = true then krB c n ||| 2 ^ n else krB c n) = (if c' n = true then krB c' n ||| 2 ^ n else krB c' n)
    rw [krB_cg n (fun q hq => h q (by omega)), h n (Nat.lt_succ_self n)]
theorem acS_cg2 {p : Nat} {u u' v v' : Nat → Nat} : ∀ n, (∀ j, j < n → u j = u' j) → (∀ j, j < n → v j = v' j) → acS p u v n = acS p u' v' n
  | 0, _, _ => rfl
  | n + 1, h, h' => by
    show (acS p u v n + u n * v n) % p = (acS p u' v' n + u' n * v' n) % p
    rw [acS_cg2 n (fun j hj => h j (by omega)) (fun j hj => h' j (by omega)), h n (Nat.lt_succ_self n), h' n (Nat.lt_succ_self n)]
theorem fcS_pow {p s : Nat} (hp : 1 < p) : ∀ t, fcS p s t = s ^ t % p
  | 0 => by
    show 1 = s ^ 0 % p
    rw [Nat.pow_zero, Nat.mod_eq_of_lt hp]
  | t + 1 => by
    show fcS p s t * s % p = _
    rw [fcS_pow hp t, Nat.pow_succ, Nat.mod_mul_mod]
theorem dv_can {p n : Nat} (hp : isPr p) (hn : ¬ p ∣ n) {v v' : Nat} {x : Int} (hv : v < p) (hv' : v' < p) (h : (p : Int) ∣ (v : Int) * (n : Int) - x) (h' : (p : Int) ∣ (v' : Int) * (n : Int) - x) : v = v' := by
  have h1 := dv_tr h (dv_sy h')
  rw [← Int.sub_mul, Int.mul_comm] at h1
  have h2 := nt_euclid hp.2 hn h1
  have := dv_0 h2 (by omega) (by omega)
  omega
def rwE (k : Nat) (a : sA) (g : sG) (a' : sA) (pl : Nat → Nat) : Prop := ∀ j, j < k → a 23 (pl j) = a' 8 j ∧ ∀ q, q < k → g 24 (pl j) q = a' 9 (16 * j + q)
section RE
variable {gen : Nat → Nat} {gc : Nat} {a : sA} {g : sG} {i a' i' : sA} {s : Nat → Nat} {n k : Nat} {kl re : Nat → Nat} {e p z : Nat} {W : Nat → Nat → Nat} {pl : Nat → Nat}
abbrev vMo (a' : sA) (j q : Nat) : Nat := (a' 9 (16 * j + q)).toNatClampNeg
abbrev vCc (g : sG) (r q : Nat) : Nat := (g 24 r q).toNatClampNeg
theorem rd_nd (h : rdO gen gc a g i a' i' s n k kl re e p z W pl) (h9 : i 0 2 = 0) : isPr p ∧ p < 1092 ∧ ¬ p ∣ n ∧ ¬ p ∣ e ∧ z < p ∧ (∀ m, ¬ p ∣ z ^ m) ∧ z ^ e % p = 1 := by
  obtain ⟨h1, h2, h3, h4, h5, h6, h7, h8⟩ := (h.2 h9).1
  have hp1 := h6.1.1
  obtain ⟨t, ht, hpt⟩ := h6.2.2.1
  have he0 := h4.1
  have hep : e < p := by
    have : 1 * e ≤ t * e := Nat.mul_le_mul_right e ht
    omega
  refine ⟨h6.1, h7, pm_nd h2 h4 h6, fun hd => by have := Nat.le_of_dvd he0 hd; omega, h8.2.1, fun m hd => ?_, h8.2.2.1.1⟩
  have hz : ¬ p ∣ z := fun h9 => by have := Nat.le_of_dvd h8.1 h9; have := h8.2.1; omega
  have : ∀ m, p ∣ z ^ m → False := fun m => by
    induction m with
    | zero => intro h9; rw [Nat.pow_zero] at h9; have := Nat.le_of_dvd (by decide) h9; omega
    | succ m ih =>
      intro h9
      rw [Nat.pow_succ] at h9
      have h10 : (p : Int) ∣ (z : Int) * ((z ^ m : Nat) : Int) := by
        rw [← Int.natCast_mul, Nat.mul_comm]
        exact Int.natCast_dvd_natCast.mpr h9
      exact ih (Int.natCast_dvd_natCast.mp (nt_euclid h6.1.2 hz h10))
  exact this m hd
theorem rd_mV (h : rdO gen gc a g i a' i' s n k kl re e p z W pl) : ¬ i' 0 2 = 0 → ∀ j q, j < k → q < k → a' 9 (16 * j + q) = nI (vMo a' j q) ∧ vMo a' j q < p := fun h9 j q hj hq => by
  obtain ⟨ta, h1, _⟩ := (h.2 (h.1.2 h9)).2.2.2.2.2.2
  obtain ⟨_, ov, d, vv, _, _, _, h2⟩ := h1 j hj
  obtain ⟨h3, h4, _⟩ := h2 q hq
  have h5 : a' 9 (16 * j + q) = nI (vv q) := h3
  have hp := (rd_md h h9).2.1
  have e1 : vMo a' j q = vv q := by
    show (a' 9 (16 * j + q)).toNatClampNeg = vv q
    rw [h5]; exact nI_clamp (by omega)
  rw [e1]
  exact ⟨h5, h4⟩
theorem rd_cV (h : rdO gen gc a g i a' i' s n k kl re e p z W pl) (h9 : i 0 2 = 0) : ∀ r q, r < k → q < k → g 24 r q = nI (vCc g r q) ∧ vCc g r q < p := fun r q hr hq => by
  have h8 := (h.2 h9).2.1.2.2.2.2.2.2.2.2.2.2.2.1
  obtain ⟨sh, d, v, _, _, _, h2, _⟩ := h8.1 r hr
  have h5 := h2 q hq
  have hp := (rd_md h (h.1.1 h9)).2.1
  have hp0 := (rd_md h (h.1.1 h9)).1.1
  have hm : sh q * d % p < p := Nat.mod_lt _ (by omega)
  have e1 : vCc g r q = sh q * d % p := by
    show (g 24 r q).toNatClampNeg = _
    rw [h5]; exact nI_clamp (by omega)
  rw [e1]
  exact ⟨h5, hm⟩
theorem rd_ti (h : rdO gen gc a g i a' i' s n k kl re e p z W pl) : i 0 2 = 0 → i 5 6 = nI e ∧ 0 < e ∧ e ≤ 120 ∧ i 12 0 = nI p ∧ i 12 1 = nI z ∧ z < p ∧ isPr p ∧ p < 1092 ∧ ¬ p ∣ e ∧ (∀ c t, c < k → t < e → g 9 c t = nI (kl (pw (re c) t)) ∧ kl (pw (re c) t) < k) ∧ ∀ r q, r < k → q < k → g 24 r q = nI (vCc g r q) ∧ vCc g r q < p := fun h9 => by
  obtain ⟨q1, q2, q3, q4, q5, q6, q7⟩ := rd_nd h h9
  obtain ⟨e1, e2, e3⟩ := rd_ex h h9
  have hC := (h.2 h9).1.2.1
  exact ⟨e3, e1, e2, (h.2 h9).2.1.2.2.2.2.2.2.2.1, (h.2 h9).2.1.2.2.2.2.2.2.2.2.1, q5, q1, q2, q4, fun c t hc ht => ⟨(h.2 h9).2.1.2.2.2.2.2.1 c t hc ht, kc_lt hC.1 (gg_pm (kc_g hC.1) (kc_re hC.1 hc) t)⟩, rd_cV h h9⟩
theorem rd_tm (h : rdO gen gc a g i a' i' s n k kl re e p z W pl) : ¬ i' 0 2 = 0 → i' 0 10 = nI e ∧ i' 0 12 = nI z ∧ 0 < e ∧ e ≤ 120 ∧ z < p ∧ (∀ m, ¬ p ∣ z ^ m) ∧ ¬ p ∣ e := fun h9 => by
  have h8 := h.1.2 h9
  obtain ⟨q1, q2, q3, q4, q5, q6, q7⟩ := rd_nd h h8
  obtain ⟨e1, e2, e3⟩ := rd_ex h h8
  exact ⟨(h.2 h8).2.2.2.2.1, (h.2 h8).2.2.2.2.2.1, e1, e2, q5, q6, q4⟩
theorem v_same (h : rdO gen gc a g i a' i' s n k kl re e p z W pl) (h9 : i 0 2 = 0) (hE : rwE k a g a' pl) {j q : Nat} (hj : j < k) (hq : q < k) : vCc g (pl j) q = vMo a' j q := by
  show (g 24 (pl j) q).toNatClampNeg = (a' 9 (16 * j + q)).toNatClampNeg
  rw [(hE j hj).2 q hq]
theorem e_kernel (h : rdO gen gc a g i a' i' s n k kl re e p z W pl) (hE : i 0 2 = 0 → rwE k a g a' pl) (h9 : i 0 2 = 0) (j : Nat) (hj : j < k) : a 26 (pl j) = nI (krB (fun q => decide (a' 9 (16 * j + q) = a' 8 j)) k) := by
  have h8 := (h.2 h9).2.1.2.2.2.2.2.2.2.2.2.2.2.1
  obtain ⟨sh, d, v, _, _, _, _, _, _, _, hk⟩ := h8.1 (pl j) (rd_pl h h9 j hj).2
  rw [hk]
  congr 1
  refine krB_cg k (fun q hq => ?_)
  rw [(hE h9 j hj).1, (hE h9 j hj).2 q hq]
theorem e_indicator (h : rdO gen gc a g i a' i' s n k kl re e p z W pl) (hE : i 0 2 = 0 → rwE k a g a' pl) (h9 : i 0 2 = 0) (j v : Nat) (hj : j < k) (hv : v < p) (hvn : (p : Int) ∣ (v : Int) * (n : Int) - (acS p (kc_s (Gl s n) kl) (fun c => vMo a' j (kl (pw (re c) 2))) k : Int)) : a 25 (pl j) = inV p v := by
  have h8 := (h.2 h9).2.1.2.2.2.2.2.2.2.2.2.2.2.1
  obtain ⟨q1, q2, q3, q4, q5, q6, q7⟩ := rd_nd h h9
  have hC := (h.2 h9).1.2.1
  have hI := (h.2 h9).1.2.2.2.1
  obtain ⟨sh, d, v0, _, _, _, hV, hv0, hvo, hin, _⟩ := h8.1 (pl j) (rd_pl h h9 j hj).2
  rw [hin]
  have hx : ∀ c, c < k → kl (pw (re c) (2 % e)) = kl (pw (re c) 2) := fun c hc => by
    have := gg_pmod (kc_g hC.1) (kc_re hC.1 hc) (hI.2.1 c hc) 2
    show kl (gg_pw pm pid (re c) (2 % e)) = kl (gg_pw pm pid (re c) 2)
    rw [← this]
  have e1 : acS p (kc_s (Gl s n) kl) (fun q => sh (sqO kl re e q) * d % p) k = acS p (kc_s (Gl s n) kl) (fun c => vMo a' j (kl (pw (re c) 2))) k := acS_cg2 k (fun _ _ => rfl) (fun c hc => by
    have hk9 : kl (pw (re c) 2) < k := kc_lt hC.1 (gg_pm (kc_g hC.1) (kc_re hC.1 hc) 2)
    show sh (kl (pw (re c) (2 % e))) * d % p = vMo a' j (kl (pw (re c) 2))
    rw [hx c hc, ← v_same h h9 (hE h9) hj hk9]
    show _ = (g 24 (pl j) (kl (pw (re c) 2))).toNatClampNeg
    rw [hV _ hk9, nI_clamp (by have : sh (kl (pw (re c) 2)) * d % p < p := Nat.mod_lt _ (by have := q1.1; omega); omega)])
  rw [e1] at hvo
  rw [dv_can q1 q3 hv0 hv hvo hvn]
theorem e_mult (h : rdO gen gc a g i a' i' s n k kl re e p z W pl) (hE : i 0 2 = 0 → rwE k a g a' pl) (h9 : i 0 2 = 0) {j q m v v' b : Nat} (hj : j < k) (hq : q < k) (hm : m < e) (hv : v < p) (hv' : v' < p) (hb : b < p) (hbz : (p : Int) ∣ (b : Int) * ((z ^ m % p : Nat) : Int) - 1) (h1 : (p : Int) ∣ (v : Int) * (e : Int) - (acS p (fun t => vCc g (pl j) (kl (pw (re q) t))) (fcS p (z ^ (e - m) % p)) e : Int)) (h2 : (p : Int) ∣ (v' : Int) * (e : Int) - (acS p (fun t => vMo a' j (kl (pw (re q) t))) (fun t => b ^ t % p) e : Int)) : v = v' := by
  obtain ⟨q1, q2, q3, q4, q5, q6, q7⟩ := rd_nd h h9
  have hC := (h.2 h9).1.2.1
  have hp1 := q1.1
  have hbs : b = z ^ (e - m) % p := by
    have h3 : (p : Int) ∣ ((z ^ (e - m) % p : Nat) : Int) * ((z ^ m % p : Nat) : Int) - 1 := by
      have e1 : (z ^ (e - m) % p) * (z ^ m % p) % p = 1 := by
        rw [← Nat.mul_mod, ← Nat.pow_add, show e - m + m = e by omega]
        exact q7
      have h4 := md_dv (p := p) (y := (z ^ (e - m) % p) * (z ^ m % p))
      rw [e1, Int.natCast_mul] at h4
      exact dv_sy h4
    exact dv_can q1 (fun hd => q6 m ((Nat.dvd_mod_iff (Nat.dvd_refl p)).1 hd)) hb (Nat.mod_lt _ (by omega)) hbz h3
  have e2 : acS p (fun t => vCc g (pl j) (kl (pw (re q) t))) (fcS p (z ^ (e - m) % p)) e = acS p (fun t => vMo a' j (kl (pw (re q) t))) (fun t => b ^ t % p) e := acS_cg2 e (fun t _ => v_same h h9 (hE h9) hj (kc_lt hC.1 (gg_pm (kc_g hC.1) (kc_re hC.1 hq) t))) (fun t _ => by rw [fcS_pow hp1, ← hbs])
  rw [e2] at h1
  exact dv_can q1 q4 hv hv' h1 h2
end RE

