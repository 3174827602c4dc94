-- pure: the elements in their order make a group; its classes by their least elements
def elS (gen : Nat → Nat) (gc : Nat) (s : Nat → Nat) (n : Nat) : Prop := 1 ≤ n ∧ n ≤ 120 ∧ (∀ j k, j < k → k < n → s j < s k) ∧ (∀ c, inS gen gc c ↔ ∃ j, j < n ∧ s j = c)
abbrev Gl (s : Nat → Nat) (n : Nat) : List Nat := (List.range n).map s
theorem Gl_mem {s : Nat → Nat} {n x : Nat} : x ∈ Gl s n ↔ ∃ j, j < n ∧ s j = x := by
  unfold Gl
  rw [List.mem_map]
  constructor
  · rintro ⟨j, h1, h2⟩; exact ⟨j, List.mem_range.mp h1, h2⟩
  · rintro ⟨j, h1, h2⟩; exact ⟨j, List.mem_range.mpr h1, h2⟩
theorem up_inj {s : Nat → Nat} {n : Nat} (h : ∀ j k, j < k → k < n → s j < s k) {j k : Nat} (hj : j < n) (hk : k < n) (e : s j = s k) : j = k := by
  rcases Nat.lt_trichotomy j k with h1 | h1 | h1
  · have := h j k h1 hk; omega
  · exact h1
  · have := h k j h1 hj; omega
theorem Gl_nd {s : Nat → Nat} {n : Nat} (h : ∀ j k, j < k → k < n → s j < s k) : (Gl s n).Nodup := List.pairwise_map.mpr (List.Pairwise.imp_of_mem (fun {u v} hu hv huv he => by
  have := up_inj h (List.mem_range.mp hu) (List.mem_range.mp hv) he
  omega) List.pairwise_lt_range)
theorem inS_pm {gen : Nat → Nat} {gc c : Nat} (hc : inS gen gc c) {d : Nat} (hd : inS gen gc d) (hP : ∀ x, inS gen gc x → x < 8 ^ 8) : inS gen gc (pm c d) := by
  refine inS_all (P := fun d => inS gen gc (pm c d)) ?_ (fun d k hd hk => ?_) hd
  · rw [pm_r1 (hP c hc)]; exact hc
  · rw [← pm_as]; exact inS_mul hd hk
theorem elS_P {gen : Nat → Nat} {gc : Nat} (hg : ∀ k, k < gc → isP (gen k)) {s : Nat → Nat} {n : Nat} (h : elS gen gc s n) {x : Nat} (hx : x ∈ Gl s n) : isP x := by
  obtain ⟨j, hj, rfl⟩ := Gl_mem.mp hx
  exact inS_P hg ((h.2.2.2 _).mpr ⟨j, hj, rfl⟩)
theorem elS_gg {gen : Nat → Nat} {gc : Nat} (hg : ∀ k, k < gc → isP (gen k)) {s : Nat → Nat} {n : Nat} (h : elS gen gc s n) : gg_ok (Gl s n) pm pid piv := by
  have hP : ∀ x, x ∈ Gl s n → isP x := fun x hx => elS_P hg h hx
  have hm : ∀ x, x ∈ Gl s n ↔ inS gen gc x := fun x => by rw [Gl_mem, h.2.2.2]
  have hmul : ∀ x, x ∈ Gl s n → ∀ y, y ∈ Gl s n → pm x y ∈ Gl s n := fun x hx y hy => (hm _).mpr (inS_pm ((hm x).mp hx) ((hm y).mp hy) (fun z hz => (hP z ((hm z).mpr hz)).1))
  have hnd := Gl_nd h.2.2.1
  have hone : pid ∈ Gl s n := (hm _).mpr (inS_id gen gc)
  have hlc : ∀ x, x ∈ Gl s n → ∀ y, y ∈ Gl s n → ∀ z, z ∈ Gl s n → pm x y = pm x z → y = z := fun x hx y hy z hz e => by
    have e2 := congrArg (pm (piv x)) e
    rw [← pm_as, ← pm_as, pinv_l (hP x hx) (piv_ok (hP x hx)), pm_l1 (hP y hy).1, pm_l1 (hP z hz).1] at e2
    exact e2
  have hinv : ∀ x, x ∈ Gl s n → piv x ∈ Gl s n := fun x hx => by
    -- multiplying by x is onto
    have h1 : ((Gl s n).map (pm x)).Nodup := List.pairwise_map.mpr (List.Pairwise.imp_of_mem (fun {u v} hu hv huv he => huv (hlc x hx u hu v hv he)) hnd)
    have h2 : pid ∈ (Gl s n).map (pm x) := Classical.byContradiction fun hn => by
      have h3 : (pid :: (Gl s n).map (pm x)).Nodup := List.nodup_cons.mpr ⟨hn, h1⟩
      have h4 := h3.length_le_of_subset (l₂ := Gl s n) (fun y hy => by
        rcases List.mem_cons.mp hy with rfl | hy
        · exact hone
        · obtain ⟨z, hz, rfl⟩ := List.mem_map.mp hy
          exact hmul x hx z hz)
      rw [List.length_cons, List.length_map] at h4
      omega
    obtain ⟨y, hy, e⟩ := List.mem_map.mp h2
    have e2 : y = piv x := by
      have e3 := congrArg (pm (piv x)) e
      rw [← pm_as, pinv_l (hP x hx) (piv_ok (hP x hx)), pm_l1 (hP y hy).1, pm_r1 (piv_ok (hP x hx)).1] at e3
      exact e3
    rw [← e2]; exact hy
  exact ⟨hnd, hone, hmul, hinv, pm_as, fun x hx => pm_l1 (hP x hx).1, fun x hx => pm_r1 (hP x hx).1, fun x hx => pinv_l (hP x hx) (piv_ok (hP x hx)), fun x hx => pinv_r (piv_ok (hP x hx))⟩
-- the identity has the least code
theorem pid_le {c : Nat} (hc : isP c) : pid ≤ c := by
  have h1 : ∀ x, x ≤ 8 → (∀ y, y < x → dg c y = y) ∨ encf (fun y => y) x < encf (dg c) x := by
    intro x
    induction x with
    | zero => intro _; left; intro y hy; exact absurd hy (Nat.not_lt_zero y)
    | succ x ih =>
      intro hx
      have hd := dg_lt c x
      rcases ih (by omega) with h | h
      · have h2 : x ≤ dg c x := Nat.not_lt.mp fun h9 => by
          have h3 := h (dg c x) h9
          have := hc.2 (dg c x) (by omega) x (by omega) h3
          omega
        by_cases e : dg c x = x
        · left
          intro y hy
          by_cases e2 : y = x
          · subst e2; exact e
          · exact h y (by omega)
        · right
          have h4 : encf (fun y => y) x = encf (dg c) x := by
            have h5 : ∀ z, z ≤ x → encf (fun y => y) z = encf (dg c) z := by
              intro z
              induction z with
              | zero => intro _; rfl
              | succ z ihz =>
                intro hz
                show encf (fun y => y) z * 8 + z = encf (dg c) z * 8 + dg c z
                rw [ihz (by omega), h z (by omega)]
            exact h5 x (Nat.le_refl x)
          show encf (fun y => y) x * 8 + x < encf (dg c) x * 8 + dg c x
          omega
      · right
        show encf (fun y => y) x * 8 + x < encf (dg c) x * 8 + dg c x
        omega
  have e0 : encf (fun y => y) 8 = pid := by decide
  have e1 := enc_of c 8 8 (Nat.le_refl 8)
  rw [Nat.sub_self, Nat.pow_zero, Nat.div_one, Nat.mod_eq_of_lt hc.1] at e1
  have e2 : encf (dg c) 8 = c := e1
  rcases h1 8 (Nat.le_refl 8) with h | h
  · have : pid = c := dg_ext (by decide) hc.1 fun x hx => by rw [pid_dg x hx, h x hx]
    omega
  · rw [e0, e2] at h; omega
-- classes
def clS (s : Nat → Nat) (n k : Nat) (kl re : Nat → Nat) : Prop := kc_ok (Gl s n) pm pid piv k kl re ∧ (∀ x, x ∈ Gl s n → re (kl x) ≤ x) ∧ (∀ l l', l < l' → l' < k → re l < re l')
def cnj (s : Nat → Nat) (n x y : Nat) : Prop := ∃ g, g ∈ Gl s n ∧ pm g y = pm x g
section CN
variable {s : Nat → Nat} {n : Nat}
theorem cnj_rfl (h : gg_ok (Gl s n) pm pid piv) {x : Nat} (hx : x ∈ Gl s n) : cnj s n x x := ⟨pid, gg_1 h, by rw [gg_l1 h hx, gg_r1 h hx]⟩
theorem cnj_symm (h : gg_ok (Gl s n) pm pid piv) {x y : Nat} (hx : x ∈ Gl s n) (hy : y ∈ Gl s n) (c : cnj s n x y) : cnj s n y x := by
  obtain ⟨g, hg, e⟩ := c
  refine ⟨piv g, gg_i h hg, ?_⟩
  have e1 := congrArg (fun z => pm (pm (piv g) z) (piv g)) e
  simp only [gg_as h] at e1
  rw [gg_ri h hg, gg_r1 h hx, ← gg_as h (piv g) g, gg_li h hg, gg_l1 h (gg_m h hy (gg_i h hg))] at e1
  exact e1.symm
theorem cnj_trans (h : gg_ok (Gl s n) pm pid piv) {x y z : Nat} (c : cnj s n x y) (d : cnj s n y z) : cnj s n x z := by
  obtain ⟨g, hg, e⟩ := c
  obtain ⟨k, hk, f⟩ := d
  refine ⟨pm g k, gg_m h hg hk, ?_⟩
  rw [gg_as h, f, ← gg_as h, e, gg_as h]
-- the conjugates of c
theorem cnj_by (h : gg_ok (Gl s n) pm pid piv) {x c : Nat} (hx : x ∈ Gl s n) (hc : c ∈ Gl s n) : cnj s n c x ↔ ∃ k, k < n ∧ pm (pm (piv (s k)) c) (s k) = x := by
  constructor
  · rintro ⟨g, hg, e⟩
    obtain ⟨k, hk, rfl⟩ := Gl_mem.mp hg
    exact ⟨k, hk, by rw [gg_as h, ← e, ← gg_as h, gg_li h hg, gg_l1 h hx]⟩
  · rintro ⟨k, hk, e⟩
    have hg : s k ∈ Gl s n := Gl_mem.mpr ⟨k, hk, rfl⟩
    exact ⟨s k, hg, by rw [← e, ← gg_as h, ← gg_as h, gg_ri h hg, gg_l1 h hc]⟩
end CN
-- what gathering does
theorem ga6_eq {f : Nat → Int32} {v : Int32} (hv : v ≠ -1) {ix : Nat → Nat} (j : Nat) : ∀ k, ((∃ q, q < k ∧ ix q = j) → f j = -1 → ga6 f v ix k j = v) ∧ ((¬ ∃ q, q < k ∧ ix q = j) → ga6 f v ix k j = f j) ∧ (f j ≠ -1 → ga6 f v ix k j = f j)
  | 0 => ⟨fun ⟨q, h, _⟩ => absurd h (Nat.not_lt_zero q), fun _ => rfl, fun _ => rfl⟩
  | k + 1 => by
    obtain ⟨h1, h2, h3⟩ := ga6_eq hv (f := f) (ix := ix) j k
    unfold ga6
    by_cases hc : ga6 f v ix k (ix k) = -1
    · rw [if_pos hc]
      by_cases e : j = ix k
      · subst e
        rw [pk_us]
        refine ⟨fun _ _ => rfl, fun hn => absurd ⟨k, Nat.lt_succ_self k, rfl⟩ hn, fun hf => ?_⟩
        rw [h3 hf] at hc
        exact absurd hc hf
      · rw [pk_un e]
        refine ⟨fun ⟨q, hq, he⟩ hf => h1 ⟨q, ?_, he⟩ hf, fun hn => h2 fun ⟨q, hq, he⟩ => hn ⟨q, by omega, he⟩, h3⟩
        by_cases e2 : q = k
        · subst e2; exact absurd he.symm e
        · omega
    · rw [if_neg hc]
      refine ⟨fun ⟨q, hq, he⟩ hf => ?_, fun hn => h2 fun ⟨q, hq, he⟩ => hn ⟨q, by omega, he⟩, h3⟩
      by_cases e2 : q = k
      · subst e2
        subst he
        by_cases e3 : ∃ q', q' < q ∧ ix q' = ix q
        · exact h1 e3 hf
        · rw [h2 e3] at hc; exact absurd hf hc
      · exact h1 ⟨q, by omega, he⟩ hf
-- how many were gathered
theorem gaN_eq {f : Nat → Int32} {v : Int32} (hv : v ≠ -1) {ix : Nat → Nat} {n : Nat} : ∀ k, (∀ q, q < k → ix q < n) → gaN f v ix k = (List.range n).countP (fun j => decide (f j = -1) && decide (ga6 f v ix k j ≠ -1))
  | 0, _ => by
    show 0 = _
    refine (List.countP_eq_zero.mpr fun j _ => ?_).symm
    show ¬ (decide (f j = -1) && decide (f j ≠ -1)) = true
    by_cases h : f j = -1 <;> simp [h]
  | k + 1, hk => by
    have ih := gaN_eq hv (f := f) (ix := ix) (n := n) k (fun q hq => hk q (by omega))
    have eN : gaN f v ix (k + 1) = if ga6 f v ix k (ix k) = -1 then gaN f v ix k + 1 else gaN f v ix k := rfl
    have e6 : ga6 f v ix (k + 1) = if ga6 f v ix k (ix k) = -1 then upd (ga6 f v ix k) (ix k) v else ga6 f v ix k := rfl
    rw [eN, e6]
    by_cases hc : ga6 f v ix k (ix k) = -1
    · rw [if_pos hc, if_pos hc, ih]
      have hfk : f (ix k) = -1 := Classical.byContradiction fun h => by
        rw [((ga6_eq hv (ix k) k).2.2 h)] at hc
        exact h hc
      -- one more: the place ix k
      have h1 : ∀ j, (decide (f j = -1) && decide (upd (ga6 f v ix k) (ix k) v j ≠ -1)) = ((decide (f j = -1) && decide (ga6 f v ix k j ≠ -1)) || decide (j = ix k)) := fun j => by
        by_cases e : j = ix k
        · subst e; rw [pk_us, hfk]; simp [hv]
        · rw [pk_un e]; simp [e]
      have h2 : (List.range n).countP (fun j => decide (f j = -1) && decide (upd (ga6 f v ix k) (ix k) v j ≠ -1)) = (List.range n).countP (fun j => decide (f j = -1) && decide (ga6 f v ix k j ≠ -1)) + (List.range n).countP (fun j => decide (j = ix k)) := by
        have h3 : ∀ L : List Nat, L.countP (fun j => decide (f j = -1) && decide (upd (ga6 f v ix k) (ix k) v j ≠ -1)) = L.countP (fun j => decide (f j = -1) && decide (ga6 f v ix k j ≠ -1)) + L.countP (fun j => decide (j = ix k)) := by
          intro L
          induction L with
          | nil => rfl
          | cons j L ihL =>
            rw [List.countP_cons, List.countP_cons, List.countP_cons, ihL, h1 j]
            by_cases e : j = ix k
            · subst e; simp [hc]; omega
            · simp [e]; omega
        exact h3 _
      have h4 : (List.range n).countP (fun j => decide (j = ix k)) = 1 := by
        have h5 := si_count (fun j => decide (j = ix k)) (List.range n)
        have h6 := si_one (fun _ => (1 : Int)) (ix k) List.nodup_range (List.mem_range.mpr (hk k (by omega)))
        simp only [Int.mul_one] at h6
        rw [h6] at h5
        omega
      rw [h2, h4]
    · rw [if_neg hc, if_neg hc, ih]
