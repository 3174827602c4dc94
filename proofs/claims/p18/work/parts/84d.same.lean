-- so the rows of the class and of the reference are the same
theorem dv_md {x y p : Nat} (h : (p : Int) ∣ (x : Int) - (y : Int)) : x % p = y % p := by
  have h1 : (x : Int) % (p : Int) = (y : Int) % (p : Int) := Int.emod_eq_emod_iff_emod_sub_eq_zero.mpr (Int.emod_eq_zero_of_dvd h)
  rw [← Int.natCast_emod, ← Int.natCast_emod] at h1
  exact Int.ofNat.inj h1
theorem kl_inv {s : Nat → Nat} {n k : Nat} {kl re : Nat → Nat} (h : clS s n k kl re) {x y : Nat} (hx : x ∈ Gl s n) (hy : y ∈ Gl s n) (e : kl x = kl y) : kl (piv x) = kl (piv y) := by
  have hG := kc_g h.1
  obtain ⟨c, hc, e1⟩ := (kc_iff h.1 hx hy).mp e
  have e2 : y = pm (pm (piv c) x) c := by rw [gg_as hG, ← e1, gg_lk2 hG hc hy]
  rw [e2, gg_ci hG hc hx, kc_conj h.1 (gg_i hG hx) hc]
theorem iv_same {s : Nat → Nat} {n k e : Nat} {kl re : Nat → Nat} (h : clS s n k kl re) (he : isE re k e) {q : Nat} (hq : q < k) : ivO kl re e q = ivM kl re q := by
  have hG := kc_g h.1
  have hx := kc_re h.1 hq
  show kl (gg_pw pm pid (re q) (e - 1)) = kl (piv (re q))
  congr 1
  refine gg_iu hG hx (gg_pm hG hx _) ?_
  rw [← gg_ps hG hx, show e - 1 + 1 = e by have := he.1; omega]
  exact he.2.1 q hq
theorem sz_inv {s : Nat → Nat} {n k : Nat} {kl re : Nat → Nat} (h : clS s n k kl re) {q : Nat} (hq : q < k) : kc_s (Gl s n) kl (ivM kl re q) = kc_s (Gl s n) kl q := by
  have hG := kc_g h.1
  unfold kc_s
  refine (gg_cnt hG piv (fun x hx => gg_i hG hx) (fun x hx y hy e => gg_ic hG hx hy e) (fun x hx => ?_)).symm
  apply decide_eq_decide.mpr
  constructor
  · intro e9
    exact kl_inv h hx (kc_re h.1 hq) (e9.trans (kc_kr h.1 hq).symm)
  · intro e9
    have h1 := kl_inv h (gg_i hG hx) (gg_i hG (kc_re h.1 hq)) e9
    rw [gg_ii hG hx, gg_ii hG (kc_re h.1 hq), kc_kr h.1 hq] at h1
    exact h1
theorem f1_sq {s : Nat → Nat} {n k e p : Nat} {kl re W sh : Nat → Nat} (h : clS s n k kl re) (he : isE re k e) (hp : isPm n e p) (hp3 : 3 ≤ p) (hW0 : W 0 = 1) (hW : ∀ x q, x < k → q < k → (p : Int) ∣ (W x : Int) * (W q : Int) - si (fun l => (Amo s n kl re x q l : Int) * (W l : Int)) (List.range k)) (hsh : ∀ j, j < k → sh j < p ∧ (p : Int) ∣ (sh j : Int) * (kc_s (Gl s n) kl j : Int) - (W j : Int)) : sqF p n (acS p sh (fun q => W (ivO kl re e q)) k) := by
  have hG := kc_g h.1
  have hpr := hp.1
  have hn := pm_nd h he hp
  have hk0 : 0 < k := Nat.lt_of_le_of_lt (Nat.zero_le _) (kc_lt h.1 (gg_1 hG))
  have hone : kl pid = 0 := (kc_one h.1 (gg_1 hG)).mpr rfl
  have hs0 : kc_s (Gl s n) kl 0 = 1 := by
    unfold kc_s
    have h3 : (Gl s n).countP (fun x => decide (kl x = 0)) = (Gl s n).countP (fun x => decide (x = pid)) := List.countP_congr fun x hx => by
      rw [decide_eq_true_iff, decide_eq_true_iff, kc_one h.1 hx]
    rw [h3]
    have h4 := si_count (fun x => decide (x = pid)) (Gl s n)
    have h5 := si_one (fun _ => (1 : Int)) pid (gg_nd hG) (gg_1 hG)
    simp only [Int.mul_one] at h5
    rw [h5] at h4
    omega
  have hsh0 : sh 0 = 1 := by
    obtain ⟨q1, q2⟩ := hsh 0 hk0
    rw [hs0, hW0] at q2
    have := dv_0 (show (p : Int) ∣ (sh 0 : Int) - 1 by simpa using q2) (by omega) (by omega)
    omega
  have hav : avO (Gl s n) pm piv p (fun x => ((sh (kl x) : Nat) : Int)) := by
    refine ak_ok h.1 hpr.2 (fun l => ((sh l : Nat) : Int)) (fun q hq => sz_nd h he hp hq) (fun x y hx hy => ?_)
    have a1 := dv_ml ((kc_s (Gl s n) kl x : Int) * (sh x : Int)) (show (p : Int) ∣ (kc_s (Gl s n) kl y : Int) * (sh y : Int) - (W y : Int) by rw [Int.mul_comm]; exact (hsh y hy).2)
    have a2 := dv_ml (W y : Int) (hsh x hx).2
    have a3 : (W y : Int) * ((sh x : Int) * (kc_s (Gl s n) kl x : Int)) = (kc_s (Gl s n) kl x : Int) * (sh x : Int) * (W y : Int) := by grind
    rw [a3, Int.mul_comm (W y : Int) (W x : Int)] at a2
    refine dv_tr a1 (dv_tr a2 (dv_tr (hW x y hx hy) ?_))
    refine si_cong fun l hl => ?_
    have hl := List.mem_range.mp hl
    refine dv_ml _ (dv_sy ?_)
    rw [Int.mul_comm (kc_s (Gl s n) kl l : Int)]
    exact (hsh l hl).2
  obtain ⟨j, hj⟩ : ∃ j, p = 2 * j + 1 := ⟨p / 2, by have := pr_odd hpr hp3; omega⟩
  have hend := ft_end (f := fun x => sh (kl x)) h.1 hpr.1 hpr.2 (fun x hx => isPm_pw h he hp hx) hav (by show sh (kl pid) = 1; rw [hone, hsh0]) hj
  have hA := ak_s h.1 (fun l => ((sh l : Nat) : Int))
  have hlen : ((Gl s n).length : Int) = (n : Int) := by simp [Gl]
  rw [hlen] at hend
  have hS : (p : Int) ∣ (acS p sh (fun q => W (ivO kl re e q)) k : Int) - avs (Gl s n) piv (fun x => ((sh (kl x) : Nat) : Int)) := by
    refine dv_tr (acS_ok p sh (fun q => W (ivO kl re e q)) k) ?_
    rw [hA]
    refine si_cong fun l hl => ?_
    have hl := List.mem_range.mp hl
    have hil : ivM kl re l < k := kc_lt h.1 (gg_i hG (kc_re h.1 hl))
    have b1 := dv_ml (sh l : Int) (hsh (ivM kl re l) hil).2
    rw [sz_inv h hl] at b1
    have b2 : (sh l : Int) * (((sh (ivM kl re l) : Nat) : Int) * (kc_s (Gl s n) kl l : Int)) = (kc_s (Gl s n) kl l : Int) * (((sh l : Nat) : Int) * ((sh (kl (piv (re l))) : Nat) : Int)) := by
      show (sh l : Int) * (((sh (kl (piv (re l))) : Nat) : Int) * (kc_s (Gl s n) kl l : Int)) = _
      grind
    rw [b2] at b1
    show (p : Int) ∣ (sh l : Int) * ((W (ivO kl re e l) : Nat) : Int) - _
    rw [iv_same h he hl]
    exact dv_sy b1
  generalize avs (Gl s n) piv (fun x => ((sh (kl x) : Nat) : Int)) = A at hend hS
  generalize acS p sh (fun q => W (ivO kl re e q)) k = S at hS
  obtain ⟨y, hy, hyd⟩ := eul hpr hj hend
  have hA0 : ¬ (p : Int) ∣ A := fun h9 => by
    have h8 : (p : Int) ∣ ((n : Int) * A * (A * A)) ^ j := by
      have hj1 : j = j - 1 + 1 := by omega
      rw [hj1, Int.pow_succ]
      exact Int.dvd_trans h9 (Int.dvd_trans ⟨(n : Int) * (A * A), by grind⟩ (Int.dvd_mul_left _ _))
    have h7 := Int.dvd_sub h8 hend
    have h6 : ((n : Int) * A * (A * A)) ^ j - (((n : Int) * A * (A * A)) ^ j - 1) = 1 := by omega
    rw [h6] at h7
    have := Int.le_of_dvd (by decide) h7
    omega
  obtain ⟨b, hb⟩ := nt_inv hpr.2 hA0
  obtain ⟨B, hB⟩ : ∃ B : Nat, (p : Int) ∣ (B : Int) - b := by
    have h0 : 0 ≤ b % (p : Int) := Int.emod_nonneg _ (by omega)
    refine ⟨(b % (p : Int)).toNat, ?_⟩
    rw [Int.toNat_of_nonneg h0]
    have := Int.emod_emod_of_dvd b (Int.dvd_refl (p : Int))
    exact Int.dvd_of_emod_eq_zero (by rw [Int.sub_emod, this, Int.sub_self, Int.zero_emod])
  have hAB : (p : Int) ∣ A * (B : Int) - 1 := dv_tr (dv_ml A hB) hb
  have hkey : (p : Int) ∣ ((y * (B * B) : Nat) : Int) * ((y * (B * B) : Nat) : Int) * (S : Int) - (n : Int) := by
    rw [Int.natCast_mul, Int.natCast_mul]
    have c1 := dv_ml ((y : Int) * ((B : Int) * (B : Int)) * ((y : Int) * ((B : Int) * (B : Int)))) hS
    have c2 := dv_ml ((B : Int) * (B : Int) * ((B : Int) * (B : Int)) * A) hyd
    have c3 : (B : Int) * (B : Int) * ((B : Int) * (B : Int)) * A * ((y : Int) * (y : Int)) = (y : Int) * ((B : Int) * (B : Int)) * ((y : Int) * ((B : Int) * (B : Int))) * A := by grind
    have c4 : (B : Int) * (B : Int) * ((B : Int) * (B : Int)) * A * ((n : Int) * A * (A * A)) = (n : Int) * ((A * (B : Int)) ^ 4) := by grind
    rw [c3, c4] at c2
    have c5 := dv_ml (n : Int) (dv_pw hAB 4)
    have c6 : (n : Int) * (1 : Int) ^ 4 = (n : Int) := by grind
    rw [c6] at c5
    exact dv_tr c1 (dv_tr c2 c5)
  have hmd := md_dv (p := p) (y := y * (B * B))
  have hm2 : (p : Int) ∣ ((y * (B * B) % p : Nat) : Int) * ((y * (B * B) % p : Nat) : Int) * (S : Int) - (n : Int) := by
    refine dv_tr ?_ hkey
    have d1 := dv_pw hmd 2
    have d2 := dv_ml (S : Int) d1
    have d3 : ∀ t : Int, (S : Int) * t ^ 2 = t * t * (S : Int) := fun t => by grind
    rw [d3, d3] at d2
    exact d2
  have hd0 : 1 ≤ y * (B * B) % p := Nat.one_le_iff_ne_zero.mpr fun h0 => by
    rw [h0] at hm2
    have h1 : (p : Int) ∣ (n : Int) := by
      have := Int.dvd_neg.mpr hm2
      simpa using this
    exact hn (Int.natCast_dvd_natCast.mp h1)
  refine ⟨y * (B * B) % p, hd0, Nat.mod_lt _ (by omega), ?_⟩
  generalize y * (B * B) % p = d at hm2
  rw [Nat.mod_mul_mod]
  exact dv_md (by rw [Int.natCast_mul, Int.natCast_mul]; exact hm2)
section RS
variable {gen : Nat → Nat} {gc : Nat} {a : sA} {g : sG} {i a' i' : sA} {s : Nat → Nat} {n k : Nat} {kl re : Nat → Nat} {e p z : Nat} {W : Nat → Nat → Nat} {pl : Nat → Nat}
theorem rw_same (h : rdO gen gc a g i a' i' s n k kl re e p z W pl) (h9 : i 0 2 = 0) : rwE k a g a' pl := by
  obtain ⟨hgr, hcc, hmm⟩ := h.2 h9
  obtain ⟨h1, hC, h3, hE, h5, hP, h7, h8⟩ := hgr
  obtain ⟨c1, c2, c3, c4, c5, c6, c7, c8, c9, hcm, hWp, hrw, c12⟩ := hcc
  obtain ⟨_, _, _, _, ta, hta, hti, hsr⟩ := hmm
  have hpr := hP.1
  have hn1 := h1.1
  have hp3 : 3 ≤ p := by
    have h4 := hP.2.1
    rcases Nat.lt_or_ge p 3 with h6 | h6
    · have : p * p ≤ 2 * 2 := Nat.mul_le_mul (by omega) (by omega)
      omega
    · exact h6
  have hk0 : 0 < k := Nat.lt_of_le_of_lt (Nat.zero_le _) (kc_lt hC.1 (gg_1 (kc_g hC.1)))
  -- place t of the reference is row ta t
  have hrow : ∀ t, t < k → a' 8 t = a 23 (ta t) ∧ ∀ q, q < k → vM (a' 9) t q = g 24 (ta t) q := fun t ht => by
    obtain ⟨q1, q2⟩ := hta t ht
    refine row_same hpr hp3 (fun q hq => sz_nd hC hE hP hq) (fun q hq => (iv_same hC hE hq).symm) (hrw.1 (ta t) q1) q2 (fun sh hsh => ?_)
    exact f1_sq hC hE hP hp3 (hcm.1 (ta t) q1).1 (hcm.1 (ta t) q1).2 hsh
  have hpl := hrw.2.2
  have hpi : ∀ j j', j < k → j' < k → pl j = pl j' → j = j' := fun j j' hj hj' he => by
    rcases Nat.lt_trichotomy j j' with q | q | q
    · exact absurd he (hpl.2 j j' q hj').1
    · exact q
    · exact absurd he.symm (hpl.2 j' j q hj).1
  have hts : ∀ s' t, s' < t → t < k → ¬ cbO (a 23) (g 24) k (ta t) (ta s') := fun s' t hst ht h0 => hsr s' t (by omega) hst ht ((cb_rn (hrow t ht) (hrow s' (by omega))).mpr h0)
  intro j hj
  have hps : ∀ s' t, s' < t → t < k → ¬ cbO (a 23) (g 24) k (pl t) (pl s') := fun s' t hst ht => (hpl.2 s' t hst ht).2
  have n1 := so_half hpl.1 hpi (fun t ht => (hta t ht).1) hti hps hts hj
  have n2 := so_half (fun t ht => (hta t ht).1) hti hpl.1 hpi hts hps hj
  obtain ⟨m1, m2⟩ := cb_none n1 n2
  refine ⟨m1.trans (hrow j hj).1.symm, fun q hq => ?_⟩
  have e1 : g 24 (pl j) q = g 24 (ta j) q := by
    by_cases hq1 : 1 ≤ q
    · exact m2 q hq1 hq
    · have hq0 : q = 0 := by omega
      subst hq0
      obtain ⟨sh, d, v, r1, r2, r3, r4, _⟩ := hrw.1 (pl j) (hpl.1 j hj)
      obtain ⟨sh', d', v', r1', r2', r3', r4', _⟩ := hrw.1 (ta j) (hta j hj).1
      have hd : d = d' := by
        rw [r3, r3'] at m1
        have b1 := r2.2.1
        have b2 := r2'.2.1
        exact (nI_eq (by omega) (by omega)).mp m1
      rw [r4 0 hk0, r4' 0 hk0, hd]
      have e0 : sh 0 = sh' 0 := by
        have s1 := (r1 0 hk0).2
        have s2 := (r1' 0 hk0).2
        rw [(hcm.1 (pl j) (hpl.1 j hj)).1] at s1
        rw [(hcm.1 (ta j) (hta j hj).1).1] at s2
        exact dv_can hpr (sz_nd hC hE hP hk0) (r1 0 hk0).1 (r1' 0 hk0).1 s1 s2
      rw [e0]
  rw [e1]
  exact ((hrow j hj).2 q hq).symm
end RS
