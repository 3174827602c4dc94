-- the kernels of the built object make at most 128 sets
theorem btK_tb (m l : Nat) : btK m l = m.testBit l := by
  have e : btK m l = Nat.beq ((m >>> l) % 2) 1 := by
    show Nat.beq ((m >>> l) &&& 1) 1 = _
    rw [Nat.and_one_is_mod]
  have e2 : m.testBit l = decide ((m >>> l) % 2 = 1) := by
    rw [Nat.testBit_eq_decide_div_mod_eq, Nat.shiftRight_eq_div_pow]
  rw [e, e2]
  rcases Nat.mod_two_eq_zero_or_one (m >>> l) with h | h <;> rw [h] <;> rfl
theorem nx_and {a b : Nat} (ha : a < 2 ^ 32) (hb : b < 2 ^ 32) : nI a &&& nI b = nI (a &&& b) := by
  apply Int32.toBitVec_inj.mp
  apply BitVec.eq_of_toNat_eq
  rw [Int32.toBitVec_and, BitVec.toNat_and, pk_tn ha, pk_tn hb, pk_tn (Nat.lt_of_le_of_lt Nat.and_le_left ha)]
theorem krB_bit (c : Nat → Bool) : ∀ (n q : Nat), q < n → (krB c n).testBit q = c q
  | 0, q, h => absurd h (Nat.not_lt_zero q)
  | n + 1, q, h => by
    have hlt := krB_lt c n
    have e0 : (krB c n).testBit n = false := Nat.testBit_lt_two_pow hlt
    unfold krB
    by_cases e : q = n
    · subst e
      by_cases hc : c q = true
      · rw [if_pos hc, Nat.testBit_or, Nat.testBit_two_pow, e0, hc]; simp
      · rw [if_neg hc, e0]
        cases h9 : c q with
        | false => rfl
        | true => exact absurd h9 hc
    · have ih := krB_bit c n q (by omega)
      by_cases hc : c n = true
      · rw [if_pos hc, Nat.testBit_or, Nat.testBit_two_pow, ih]
        simp
        intro h9
        exact absurd h9.symm e
      · rw [if_neg hc]; exact ih
theorem gg_isP {G : List Nat} (hG : gg_ok G pm pid piv) {x : Nat} (hx : x ∈ G) : isP x := by
  refine ⟨?_, fun q hq q' hq' e => ?_⟩
  · rw [← gg_l1 hG hx]; exact pm_lt _ _
  · have h1 := pm_dg x (piv x) hq
    have h2 := pm_dg x (piv x) hq'
    rw [gg_ri hG hx, pid_dg q hq] at h1
    rw [gg_ri hG hx, pid_dg q' hq'] at h2
    rw [h1, h2, e]
-- a list of different things, each with its own partner in C
theorem inj_len {α : Type} {L : List α} {C : List Nat} {R : α → Nat → Prop} (hn : L.Nodup) (h1 : ∀ x, x ∈ L → ∃ y, y ∈ C ∧ R x y) (h2 : ∀ x x' y, R x y → R x' y → x = x') : L.length ≤ C.length := by
  have hf : ∃ f : α → Nat, ∀ x, x ∈ L → f x ∈ C ∧ R x (f x) := by
    have h3 : ∀ x : α, ∃ y : Nat, x ∈ L → y ∈ C ∧ R x y := fun x => by
      by_cases hx : x ∈ L
      · obtain ⟨y, hy⟩ := h1 x hx
        exact ⟨y, fun _ => hy⟩
      · exact ⟨0, fun h => absurd h hx⟩
    exact ⟨fun x => Classical.choose (h3 x), fun x hx => Classical.choose_spec (h3 x) hx⟩
  obtain ⟨f, hf⟩ := hf
  have hn2 : (L.map f).Nodup := List.pairwise_map.mpr (List.Pairwise.imp_of_mem (fun {u v} hu hv huv he => huv (h2 u v (f u) (hf u hu).2 (by rw [he]; exact (hf v hv).2))) hn)
  have h4 := hn2.length_le_of_subset (l₂ := C) (fun y hy => by
    obtain ⟨x, hx, rfl⟩ := List.mem_map.mp hy
    exact (hf x hx).1)
  rw [List.length_map] at h4
  exact h4
-- sets by their bits
def bsO (k : Nat) (pi : Nat → Nat) (x : Int32) (y : Nat) : Prop := ∃ v, v < 2 ^ k ∧ x = nI v ∧ ∀ q, q < k → v.testBit q = y.testBit (pi q)
theorem bs_inj {k : Nat} {pi : Nat → Nat} {x x' : Int32} {y : Nat} (h : bsO k pi x y) (h' : bsO k pi x' y) : x = x' := by
  obtain ⟨v, h1, rfl, h3⟩ := h
  obtain ⟨w, h4, rfl, h6⟩ := h'
  have : v = w := Nat.eq_of_testBit_eq fun q => by
    by_cases hq : q < k
    · rw [h3 q hq, h6 q hq]
    · have hp : 2 ^ k ≤ 2 ^ q := Nat.pow_le_pow_right (by decide) (by omega)
      rw [Nat.testBit_lt_two_pow (Nat.lt_of_lt_of_le h1 hp), Nat.testBit_lt_two_pow (Nat.lt_of_lt_of_le h4 hp)]
  rw [this]
theorem bs_and {k : Nat} (hk : k ≤ 16) {pi : Nat → Nat} {x x' : Int32} {y y' : Nat} (h : bsO k pi x y) (h' : bsO k pi x' y') : bsO k pi (x &&& x') (Nat.land y' y) := by
  obtain ⟨v, h1, rfl, h3⟩ := h
  obtain ⟨w, h4, rfl, h6⟩ := h'
  have hp : 2 ^ k ≤ 2 ^ 16 := Nat.pow_le_pow_right (by decide) hk
  refine ⟨v &&& w, Nat.lt_of_le_of_lt Nat.and_le_left h1, nx_and (by omega) (by omega), fun q hq => ?_⟩
  show _ = (y' &&& y).testBit (pi q)
  rw [Nat.testBit_and, Nat.testBit_and, h3 q hq, h6 q hq, Bool.and_comm]
theorem bs_full {k : Nat} {pi : Nat → Nat} (hpi : ∀ l, l < k → pi l < k) {x : Int32} {y : Nat} (h : bsO k pi x y) : bsO k pi x (Nat.land (2 ^ k - 1) y) := by
  obtain ⟨v, h1, h2, h3⟩ := h
  refine ⟨v, h1, h2, fun q hq => ?_⟩
  show _ = ((2 ^ k - 1) &&& y).testBit (pi q)
  rw [Nat.testBit_and, Nat.testBit_two_pow_sub_one, decide_eq_true (hpi q hq), Bool.true_and, h3 q hq]
theorem few_of {ker : Nat → Int32} {k : Nat} (hk : k ≤ 16) {pi : Nat → Nat} {Ms C : List Nat} (hC : C.length ≤ 128) (hF : 2 ^ k - 1 ∈ C) (hcl : ∀ c m, c ∈ C → m ∈ Ms → Nat.land c m ∈ C) (hpi : ∀ l, l < k → pi l < k) (hr : ∀ r, r < k → ∃ m, m ∈ Ms ∧ bsO k pi (ker r) m) : fewO ker k := by
  intro L hn hL
  refine Nat.le_trans (inj_len hn (R := bsO k pi) (fun x hx => ?_) (fun x x' y h h' => bs_inj h h')) hC
  obtain ⟨rs, h1, h2, rfl⟩ := hL x hx
  clear hx
  induction rs with
  | nil => exact absurd rfl h1
  | cons r rs ih =>
    obtain ⟨m, hm, hb⟩ := hr r (h2 r List.mem_cons_self)
    by_cases e : rs = []
    · subst e
      refine ⟨_, hcl _ m hF hm, ?_⟩
      show bsO k pi (ker r &&& -1) _
      rw [and_m1]
      exact bs_full hpi hb
    · obtain ⟨y, hy, hyb⟩ := ih e (fun q hq => h2 q (List.mem_cons_of_mem _ hq))
      exact ⟨_, hcl y m hy hm, bs_and hk hb hyb⟩
theorem few_7 {ker : Nat → Int32} {k : Nat} (hk : k ≤ 7) (hr : ∀ r, r < k → ∃ v, v < 2 ^ k ∧ ker r = nI v) : fewO ker k := by
  intro L hn hL
  have hp : 2 ^ k ≤ 2 ^ 7 := Nat.pow_le_pow_right (by decide) hk
  have h1 : ∀ x, x ∈ L → ∃ y, y ∈ List.range 128 ∧ x = nI y := fun x hx => by
    have h2 : ∃ v, v < 2 ^ k ∧ x = nI v := inK_all (P := fun x => ∃ v, v < 2 ^ k ∧ x = nI v) hr (fun x y hx hy => by
      obtain ⟨v, h1, rfl⟩ := hx
      obtain ⟨w, h2, rfl⟩ := hy
      exact ⟨v &&& w, Nat.lt_of_le_of_lt Nat.and_le_left h1, nx_and (by omega) (by omega)⟩) (hL x hx)
    obtain ⟨v, h3, h4⟩ := h2
    exact ⟨v, List.mem_range.mpr (by omega), h4⟩
  have h2 := inj_len hn (C := List.range 128) (R := fun x y => x = nI y) h1 (fun x x' y h h' => h.trans h'.symm)
  rw [List.length_range] at h2
  exact h2
-- a bit of a row's kernel
theorem ker_bit {s : Nat → Nat} {n k e p : Nat} {kl re W sh : Nat → Nat} (hC : clS s n k kl re) (hE : isE re k e) (hP : isPm n e p) {d : Nat} (hd1 : 1 ≤ d) (hdp : d < p) (hsh : ∀ j, j < k → sh j < p ∧ (p : Int) ∣ (sh j : Int) * (kc_s (Gl s n) kl j : Int) - (W j : Int)) {q : Nat} (hq : q < k) : sh q * d % p = d ↔ (p : Int) ∣ (W q : Int) - (kc_s (Gl s n) kl q : Int) := by
  obtain ⟨h1, h2⟩ := hsh q hq
  have hs := sz_nd hC hE hP hq
  have hpr := hP.1
  have hd0 : ¬ p ∣ d := fun h => by have := Nat.le_of_dvd hd1 h; omega
  have a : sh q * d % p = d ↔ (p : Int) ∣ (sh q : Int) - 1 := by
    constructor
    · intro h
      have h3 : sh q * d % p = d % p := by rw [h, Nat.mod_eq_of_lt hdp]
      have h4 := md_eq h3
      rw [Int.natCast_mul] at h4
      have h5 : (p : Int) ∣ (d : Int) * ((sh q : Int) - 1) := by
        rw [Int.mul_sub, Int.mul_one, Int.mul_comm]
        exact h4
      exact nt_euclid hpr.2 hd0 h5
    · intro h
      have h5 : (p : Int) ∣ ((sh q * d : Nat) : Int) - (d : Int) := by
        rw [Int.natCast_mul]
        obtain ⟨c, hc⟩ := h
        exact ⟨c * d, by rw [← Int.mul_assoc, ← hc, Int.sub_mul, Int.one_mul]⟩
      have h6 := md_eq' h5
      rw [h6, Nat.mod_eq_of_lt hdp]
  rw [a]
  constructor
  · rintro ⟨c, hc⟩
    have h3 : (p : Int) ∣ (sh q : Int) * (kc_s (Gl s n) kl q : Int) - (kc_s (Gl s n) kl q : Int) := ⟨c * (kc_s (Gl s n) kl q : Int), by rw [← Int.mul_assoc, ← hc, Int.sub_mul, Int.one_mul]⟩
    have h4 := Int.dvd_sub h3 h2
    rw [show ∀ x y z : Int, x - z - (x - y) = y - z from fun x y z => by omega] at h4
    exact h4
  · intro h
    have h3 := Int.dvd_add h2 h
    rw [show ∀ x y z : Int, x - y + (y - z) = x - z from fun x y z => by omega] at h3
    refine nt_euclid hpr.2 hs (b := (sh q : Int) - 1) ?_
    rw [Int.mul_sub, Int.mul_one, Int.mul_comm]
    exact h3
section FW
variable {gen : Nat → Nat} {gc : Nat} {a : sA} {g : sG} {i a' i' : sA} {s : Nat → Nat} {n k : Nat} {kl re : Nat → Nat} {e p z : Nat} {W : Nat → Nat → Nat} {pl : Nat → Nat}
theorem few_ok (h : rdO gen gc a g i a' i' s n k kl re e p z W pl) (h9 : i 0 2 = 0) : fewO (a 26) k := by
  obtain ⟨hgr, hcc, hmm⟩ := h.2 h9
  obtain ⟨h1, hC, h3, hE, h5, hP, h7, h8⟩ := hgr
  obtain ⟨c1, c2, c3, c4, c5, c6, c7, c8, c9, hcm, hWp, hrw, c12⟩ := hcc
  have hG := kc_g hC.1
  have hn1 := h1.1
  have hp3 : 3 ≤ p := by
    have h4 := hP.2.1
    rcases Nat.lt_or_ge p 3 with h6 | h6
    · have : p * p ≤ 2 * 2 := Nat.mul_le_mul (by omega) (by omega)
      omega
    · exact h6
  have hlen : (Gl s n).length = n := by simp [Gl]
  have hp16 : 2 ^ k ≤ 2 ^ 16 := Nat.pow_le_pow_right (by decide) h3
  -- the kernel of row r
  have hrow : ∀ r, r < k → ∃ v, v < 2 ^ k ∧ a 26 r = nI v ∧ ∀ q, q < k → (v.testBit q = true ↔ (p : Int) ∣ (W r q : Int) - (kc_s (Gl s n) kl q : Int)) := fun r hr => by
    obtain ⟨sh, d, v, r1, r2, r3, r4, _, _, _, r8⟩ := hrw.1 r hr
    refine ⟨_, krB_lt _ k, r8, fun q hq => ?_⟩
    have hd1 := r2.1
    have hdp : d < p := by
      rcases r2.2.1 with h6 | h6
      · omega
      · omega
    rw [krB_bit _ k q hq, decide_eq_true_iff, r4 q hq, r3, ← ker_bit hC hE hP hd1 hdp r1 hq]
    have hm : sh q * d % p < p := Nat.mod_lt _ (by omega)
    exact nI_eq (by omega) (by omega)
  by_cases hk7 : k ≤ 7
  · refine few_7 hk7 fun r hr => ?_
    obtain ⟨v, v1, v2, _⟩ := hrow r hr
    exact ⟨v, v1, v2⟩
  · have hgO : grO (Gl s n) := ⟨hG, fun x hx => gg_isP hG hx, by rw [hlen]; exact h1.2.1⟩
    have hex : exO (Gl s n) e := ⟨hE.1, fun x hx => isE_all hC hE hx, fun m m1 m2 => by
      obtain ⟨c, hc, hn⟩ := hE.2.2 m m1 m2
      exact ⟨re c, kc_re hC.1 hc, hn⟩⟩
    obtain ⟨pi, Ms, C, f1, f2, f3, f4, f5, f6⟩ := f2_pure grp_all kK kX hgO hC.1 (by omega) h3 hex (p := p) (by rw [hlen]; exact hP)
    refine few_of h3 f1 f2 f3 f4 fun r hr => ?_
    obtain ⟨v, v1, v2, v3⟩ := hrow r hr
    obtain ⟨m, m1, m2⟩ := f6 (W r) (hcm.1 r hr).1 (hcm.1 r hr).2
    refine ⟨m, m1, v, v1, v2, fun q hq => ?_⟩
    rw [Bool.eq_iff_iff, v3 q hq, ← m2 q hq, btK_tb]
end FW
