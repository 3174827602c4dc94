-- pure: idempotents as sets of central maps, and how they are split
theorem pow_cg {p a b : Int} (h : p ∣ a - b) : ∀ n : Nat, p ∣ a ^ n - b ^ n
  | 0 => by rw [Int.pow_zero, Int.pow_zero, Int.sub_self]; exact Int.dvd_zero _
  | n + 1 => by
    rw [Int.pow_succ, Int.pow_succ]
    have h1 := pow_cg h n
    obtain ⟨u, hu⟩ := h
    obtain ⟨v, hv⟩ := h1
    have e1 : a = b + p * u := by omega
    have e2 : a ^ n = b ^ n + p * v := by omega
    exact ⟨v * a + b ^ n * u, by rw [e2]; conv => lhs; rw [e1]
                                 rw [show (v * a + b ^ n * u) = v * (b + p * u) + b ^ n * u by rw [← e1]]; grind⟩
theorem fmt1 {p : Nat} (hp : isPr p) {a : Int} (ha : ¬ (p : Int) ∣ a) : (p : Int) ∣ a ^ (p - 1) - 1 := by
  have hp1 := hp.1
  have hn := Int.emod_nonneg a (show (p : Int) ≠ 0 by omega)
  have e : ((a % (p : Int)).toNat : Int) = a % (p : Int) := Int.toNat_of_nonneg hn
  have h1 : (p : Int) ∣ a - ((a % (p : Int)).toNat : Int) := by
    rw [e, Int.emod_def]
    exact ⟨a / (p : Int), by omega⟩
  have h2 : ¬ p ∣ (a % (p : Int)).toNat := fun h9 => ha (by
    have h8 : (p : Int) ∣ ((a % (p : Int)).toNat : Int) := Int.natCast_dvd_natCast.mpr h9
    have := Int.dvd_add h1 h8
    rwa [Int.sub_add_cancel] at this)
  exact dv_tr (pow_cg h1 (p - 1)) (flt1 hp h2)
theorem fmt0 {p : Nat} (hp : 1 < p) {a : Int} (ha : (p : Int) ∣ a) : (p : Int) ∣ a ^ (p - 1) - 0 := by
  rw [Int.sub_zero, show p - 1 = (p - 2) + 1 by omega, Int.pow_succ]
  exact Int.dvd_mul_of_dvd_right ha
theorem ib_t {b : Bool} (h : b = true) : ib b = 1 := by rw [h]; rfl
theorem ib_f {b : Bool} (h : ¬ b = true) : ib b = 0 := by
  cases b with
  | true => exact absurd rfl h
  | false => rfl
theorem res_hat {p w v : Nat} (hp : isPr p) (hw : w < p) (hv : v < p) {h y : Int} {S : Bool} (hb : (p : Int) ∣ h - ((w : Int) - (v : Int)) * ib S) (hy : (p : Int) ∣ y - h ^ (p - 1)) : (p : Int) ∣ y - ib (S && decide (w ≠ v)) := by
  refine dv_tr hy ?_
  by_cases hs : S = true
  · rw [ib_t hs, Int.mul_one] at hb
    by_cases e : w = v
    · rw [ib_f (b := S && decide (w ≠ v)) (by rw [hs, decide_eq_false (fun h9 => h9 e)]; decide)]
      refine fmt0 hp.1 ?_
      rw [e, Int.sub_self, Int.sub_zero] at hb
      exact hb
    · rw [ib_t (b := S && decide (w ≠ v)) (by rw [hs, decide_eq_true e]; rfl)]
      refine fmt1 hp (fun h9 => ?_)
      have h8 : (p : Int) ∣ (w : Int) - (v : Int) := by
        have := Int.dvd_sub h9 hb
        rwa [show h - (h - ((w : Int) - (v : Int))) = (w : Int) - (v : Int) by omega] at this
      have := dv_0 h8 (by omega) (by omega)
      omega
  · rw [ib_f (b := S && decide (w ≠ v)) (by
      cases S with
      | true => exact absurd rfl hs
      | false => exact Bool.false_ne_true)]
    refine fmt0 hp.1 ?_
    rw [ib_f hs, Int.mul_zero, Int.sub_zero] at hb
    exact hb
theorem ht_sub {p k : Nat} {W : Nat → Nat → Nat} {r : Nat} {b z x : Nat → Nat} {v : Int} (h : ∀ l, l < k → (p : Int) ∣ (b l : Int) - ((z l : Int) - v * (x l : Int))) : (p : Int) ∣ ht k W b r - (ht k W z r - v * ht k W x r) := by
  have e : ht k W z r - v * ht k W x r = si (fun l => ((z l : Int) - v * (x l : Int)) * (W r l : Int)) (List.range k) := by
    unfold ht
    rw [← si_mul, ← si_sub]
    exact si_congr fun l _ => by rw [Int.sub_mul, Int.mul_assoc]
  rw [e]
  exact si_cong fun l hl => by
    rw [← Int.sub_mul]
    exact Int.dvd_mul_of_dvd_left (h l (List.mem_range.mp hl))
theorem sub_int {x y : Nat} (hx : x < 2 ^ 30) (hy : y < 2 ^ 30) : (nI x - nI y).toInt = (x : Int) - (y : Int) := by
  rw [Int32.toInt_sub, nI_toInt (by omega), nI_toInt (by omega)]
  exact Int.bmod_eq_of_le (by omega) (by omega)
theorem md_int {p : Nat} (hp : 0 < p) (x : Int) : (x % (p : Int)).toNat < p ∧ (p : Int) ∣ ((x % (p : Int)).toNat : Int) - x := by
  have hn := Int.emod_nonneg x (show (p : Int) ≠ 0 by omega)
  have hl := Int.emod_lt_of_pos x (show (0 : Int) < (p : Int) by omega)
  have e : ((x % (p : Int)).toNat : Int) = x % (p : Int) := Int.toNat_of_nonneg hn
  refine ⟨by omega, ?_⟩
  rw [e, Int.emod_def]
  exact ⟨-(x / (p : Int)), by rw [Int.mul_neg]; omega⟩
-- idempotents: cl r: which of them holds the map r
def idO (p k : Nat) (W : Nat → Nat → Nat) (f : Nat → Int32) (num : Nat) (cl : Nat → Nat) : Prop := (∀ r, r < k → cl r < num) ∧ (∀ u, u < num → ∃ r, r < k ∧ cl r = u) ∧ ∀ u, u < num → ∃ x, vcO p k f u x ∧ ∀ r, r < k → (p : Int) ∣ ht k W x r - ib (decide (cl r = u))
theorem pg_on {k num : Nat} {g : Nat → Nat} (h : ∀ u, u < num → ∃ r, r < k ∧ g r = u) : num ≤ k := by
  have h1 : List.range num ⊆ (List.range k).map g := fun u hu => by
    obtain ⟨r, hr, he⟩ := h u (List.mem_range.mp hu)
    exact List.mem_map.mpr ⟨r, List.mem_range.mpr hr, he⟩
  have h2 := List.nodup_range.length_le_of_subset h1
  rw [List.length_map, List.length_range, List.length_range] at h2
  exact h2
theorem pg_in {k m : Nat} {pv g : Nat → Nat} (hi : ∀ q q', q < q' → q' < m → pv q < pv q') (h : ∀ q, q < m → ∃ r, r < k ∧ g r = pv q) : m ≤ k := by
  have h1 : (List.range m).map pv ⊆ (List.range k).map g := fun u hu => by
    obtain ⟨q, hq, rfl⟩ := List.mem_map.mp hu
    obtain ⟨r, hr, he⟩ := h q (List.mem_range.mp hq)
    exact List.mem_map.mpr ⟨r, List.mem_range.mpr hr, he⟩
  have hn : ((List.range m).map pv).Nodup := List.pairwise_map.mpr (List.Pairwise.imp_of_mem (fun {u v} hu hv huv he => by
    have := hi u v huv (List.mem_range.mp hv)
    omega) List.pairwise_lt_range)
  have h2 := hn.length_le_of_subset h1
  rw [List.length_map, List.length_map, List.length_range, List.length_range] at h2
  exact h2
-- what has been found of a block below v
def ptO (p k : Nat) (W : Nat → Nat → Nat) (cl : Nat → Nat) (u ci : Nat) (f : Nat → Int32) (v m : Nat) (pv : Nat → Nat) : Prop := (∀ q q', q < q' → q' < m → pv q < pv q') ∧ (∀ q, q < m → pv q < v ∧ ∃ r, r < k ∧ cl r = u ∧ W r ci = pv q) ∧ (∀ r, r < k → cl r = u → W r ci < v → ∃ q, q < m ∧ pv q = W r ci) ∧ ∀ q, q < m → ∃ y, vcO p k f (16 + q) y ∧ ∀ r, r < k → (p : Int) ∣ ht k W y r - ib (decide (cl r = u ∧ W r ci = pv q))
theorem pt_le {p k : Nat} {W : Nat → Nat → Nat} {cl : Nat → Nat} {u ci : Nat} {f : Nat → Int32} {v m : Nat} {pv : Nat → Nat} (h : ptO p k W cl u ci f v m pv) : m ≤ k := pg_in (g := fun r => W r ci) h.1 (fun q hq => by
  obtain ⟨_, r, hr, _, he⟩ := h.2.1 q hq
  exact ⟨r, hr, he⟩)
theorem pt_lt {p k : Nat} {W : Nat → Nat → Nat} {cl : Nat → Nat} {u ci : Nat} {f : Nat → Int32} {v m : Nat} {pv : Nat → Nat} (h : ptO p k W cl u ci f v m pv) (hn : ∃ r, r < k ∧ cl r = u ∧ W r ci = v) : m < k := by
  have h1 : m + 1 ≤ k := pg_in (pv := fun q => if q < m then pv q else v) (g := fun r => W r ci) (fun q q' h1 h2 => by
    show (if q < m then pv q else v) < if q' < m then pv q' else v
    rw [if_pos (by omega)]
    by_cases e : q' < m
    · rw [if_pos e]; exact h.1 q q' h1 e
    · rw [if_neg e]; exact (h.2.1 q (by omega)).1) (fun q hq => by
    show ∃ r, r < k ∧ W r ci = if q < m then pv q else v
    by_cases e : q < m
    · rw [if_pos e]
      obtain ⟨_, r, hr, _, he⟩ := h.2.1 q e
      exact ⟨r, hr, he⟩
    · rw [if_neg e]
      obtain ⟨r, hr, _, he⟩ := hn
      exact ⟨r, hr, he⟩)
  omega
theorem pt_skip {p k : Nat} {W : Nat → Nat → Nat} {cl : Nat → Nat} {u ci : Nat} {f : Nat → Int32} {v m : Nat} {pv : Nat → Nat} (h : ptO p k W cl u ci f v m pv) (hn : ¬ ∃ r, r < k ∧ cl r = u ∧ W r ci = v) : ptO p k W cl u ci f (v + 1) m pv := by
  obtain ⟨h1, h2, h3, h4⟩ := h
  exact ⟨h1, fun q hq => ⟨by have := (h2 q hq).1; omega, (h2 q hq).2⟩, fun r hr hc hw => by
    by_cases e : W r ci = v
    · exact absurd ⟨r, hr, hc, e⟩ hn
    · exact h3 r hr hc (by omega), h4⟩
theorem pt_new {p k : Nat} {W : Nat → Nat → Nat} {cl : Nat → Nat} {u ci : Nat} {f f' : Nat → Int32} {v m : Nat} {pv y : Nat → Nat} (h : ptO p k W cl u ci f v m pv) (hn : ∃ r, r < k ∧ cl r = u ∧ W r ci = v) (hf : frC [16 + m] f f') (hy : vcO p k f' (16 + m) y) (hyh : ∀ r, r < k → (p : Int) ∣ ht k W y r - ib (decide (cl r = u ∧ W r ci = v))) : ptO p k W cl u ci f' (v + 1) (m + 1) (va_up pv m v) := by
  obtain ⟨h1, h2, h3, h4⟩ := h
  refine ⟨fun q q' hq hq' => ?_, fun q hq => ?_, fun r hr hc hw => ?_, fun q hq => ?_⟩
  · rw [va_up_ne _ _ (by omega)]
    by_cases e : q' = m
    · rw [e, va_up_self]; exact (h2 q (by omega)).1
    · rw [va_up_ne _ _ e]; exact h1 q q' hq (by omega)
  · by_cases e : q = m
    · rw [e, va_up_self]; exact ⟨by omega, hn⟩
    · rw [va_up_ne _ _ e]; exact ⟨by have := (h2 q (by omega)).1; omega, (h2 q (by omega)).2⟩
  · by_cases e : W r ci = v
    · exact ⟨m, by omega, by rw [va_up_self, e]⟩
    · obtain ⟨q, hq, he⟩ := h3 r hr hc (by omega)
      exact ⟨q, by omega, by rw [va_up_ne _ _ (by omega)]; exact he⟩
  · by_cases e : q = m
    · rw [e, va_up_self]; exact ⟨y, hy, hyh⟩
    · rw [va_up_ne _ _ e]
      obtain ⟨x, hx, hxh⟩ := h4 q (by omega)
      exact ⟨x, vcO_fr hx hf (by simp; omega), hxh⟩
theorem pt_fr {p k : Nat} {W : Nat → Nat → Nat} {cl : Nat → Nat} {u ci : Nat} {L : List Nat} {f f' : Nat → Int32} {v m : Nat} {pv : Nat → Nat} (h : ptO p k W cl u ci f v m pv) (hf : frC L f f') (hL : ∀ q, q < m → 16 + q ∉ L) : ptO p k W cl u ci f' v m pv := by
  obtain ⟨h1, h2, h3, h4⟩ := h
  refine ⟨h1, h2, h3, fun q hq => ?_⟩
  obtain ⟨x, hx, hxh⟩ := h4 q hq
  exact ⟨x, vcO_fr hx hf (hL q hq), hxh⟩
-- the new blocks
def ncl (cl Q : Nat → Nat) (u num r : Nat) : Nat := if cl r = u then (if Q r = 0 then u else num + Q r - 1) else cl r
theorem ncl_id {p k : Nat} {W : Nat → Nat → Nat} {cl Q : Nat → Nat} {u ci num : Nat} {f f' : Nat → Int32} {v m : Nat} {pv : Nat → Nat} (hid : idO p k W f num cl) (hu : u < num) (hp : ptO p k W cl u ci f v m pv) (hQ : ∀ r, r < k → cl r = u → Q r < m ∧ pv (Q r) = W r ci) (h0 : ∀ x, vcO p k f 16 x → vcO p k f' u x) (h1 : ∀ q x, 1 ≤ q → q < m → vcO p k f (16 + q) x → vcO p k f' (num + q - 1) x) (h2 : ∀ w x, w < num → w ≠ u → vcO p k f w x → vcO p k f' w x) : idO p k W f' (num + m - 1) (ncl cl Q u num) := by
  obtain ⟨i1, i2, i3⟩ := hid
  have hinj : ∀ q q', q < m → q' < m → pv q = pv q' → q = q' := fun q q' hq hq' he => by
    rcases Nat.lt_trichotomy q q' with h | h | h
    · have := hp.1 q q' h hq'; omega
    · exact h
    · have := hp.1 q' q h hq; omega
  have hm1 : 1 ≤ m := by
    obtain ⟨r, hr, hc⟩ := i2 u hu
    have := (hQ r hr hc).1
    omega
  have hex : ∀ q, q < m → ∃ r, r < k ∧ cl r = u ∧ Q r = q := fun q hq => by
    obtain ⟨_, r, hr, hc, hw⟩ := hp.2.1 q hq
    obtain ⟨h3, h4⟩ := hQ r hr hc
    exact ⟨r, hr, hc, hinj _ _ h3 hq (by rw [h4, hw])⟩
  have hih : ∀ r, r < k → ∀ q, q < m → decide (cl r = u ∧ W r ci = pv q) = decide (cl r = u ∧ Q r = q) := fun r hr q hq => by
    by_cases hc : cl r = u
    · obtain ⟨h3, h4⟩ := hQ r hr hc
      by_cases e : Q r = q
      · rw [decide_eq_true (p := cl r = u ∧ W r ci = pv q) ⟨hc, by rw [← h4, e]⟩, decide_eq_true (p := cl r = u ∧ Q r = q) ⟨hc, e⟩]
      · rw [decide_eq_false (p := cl r = u ∧ W r ci = pv q) (fun h9 => e (hinj _ _ h3 hq (by rw [h4]; exact h9.2))), decide_eq_false (p := cl r = u ∧ Q r = q) (fun h9 => e h9.2)]
    · rw [decide_eq_false (fun h9 => hc h9.1), decide_eq_false (fun h9 => hc h9.1)]
  refine ⟨fun r hr => ?_, fun w hw => ?_, fun w hw => ?_⟩
  · unfold ncl
    have h3 := i1 r hr
    by_cases hc : cl r = u
    · have h4 := (hQ r hr hc).1
      rw [if_pos hc]
      split <;> omega
    · rw [if_neg hc]; omega
  · by_cases e1 : w < num
    · by_cases e2 : w = u
      · obtain ⟨r, hr, hc, hq⟩ := hex 0 (by omega)
        exact ⟨r, hr, by unfold ncl; rw [if_pos hc, if_pos hq, e2]⟩
      · obtain ⟨r, hr, hc⟩ := i2 w e1
        exact ⟨r, hr, by unfold ncl; rw [if_neg (by rw [hc]; exact e2), hc]⟩
    · obtain ⟨r, hr, hc, hq⟩ := hex (w - num + 1) (by omega)
      exact ⟨r, hr, by unfold ncl; rw [if_pos hc, hq, if_neg (by omega)]; omega⟩
  · by_cases e1 : w < num
    · by_cases e2 : w = u
      · obtain ⟨y, hy, hyh⟩ := hp.2.2.2 0 (by omega)
        refine ⟨y, by rw [e2]; exact h0 y hy, fun r hr => ?_⟩
        have h9 := hyh r hr
        rw [hih r hr 0 (by omega)] at h9
        have e : decide (ncl cl Q u num r = w) = decide (cl r = u ∧ Q r = 0) := by
          unfold ncl
          have h3 := i1 r hr
          by_cases hc : cl r = u
          · rw [if_pos hc]
            by_cases hq : Q r = 0
            · rw [if_pos hq, decide_eq_true e2.symm, decide_eq_true ⟨hc, hq⟩]
            · rw [if_neg hq, decide_eq_false (by omega), decide_eq_false (fun h9 => hq h9.2)]
          · rw [if_neg hc, decide_eq_false (by rw [e2]; exact hc), decide_eq_false (fun h9 => hc h9.1)]
        rw [e]; exact h9
      · obtain ⟨x, hx, hxh⟩ := i3 w e1
        refine ⟨x, h2 w x e1 e2 hx, fun r hr => ?_⟩
        have e : decide (ncl cl Q u num r = w) = decide (cl r = w) := by
          unfold ncl
          by_cases hc : cl r = u
          · rw [if_pos hc, decide_eq_false (p := cl r = w) (by omega)]
            apply decide_eq_false
            split <;> omega
          · rw [if_neg hc]
        rw [e]; exact hxh r hr
    · obtain ⟨y, hy, hyh⟩ := hp.2.2.2 (w - num + 1) (by omega)
      refine ⟨y, by have := h1 (w - num + 1) y (by omega) (by omega) hy; rwa [show num + (w - num + 1) - 1 = w by omega] at this, fun r hr => ?_⟩
      have h9 := hyh r hr
      rw [hih r hr _ (by omega)] at h9
      have e : decide (ncl cl Q u num r = w) = decide (cl r = u ∧ Q r = w - num + 1) := by
        unfold ncl
        have h3 := i1 r hr
        by_cases hc : cl r = u
        · rw [if_pos hc]
          by_cases hq : Q r = w - num + 1
          · rw [if_neg (by omega), decide_eq_true (by omega), decide_eq_true ⟨hc, hq⟩]
          · rw [decide_eq_false (p := cl r = u ∧ Q r = w - num + 1) (fun h9 => hq h9.2)]
            apply decide_eq_false
            split <;> omega
        · rw [if_neg hc, decide_eq_false (by omega), decide_eq_false (fun h9 => hc h9.1)]
      rw [e]; exact h9
-- what a split does
def spO (k : Nat) (W : Nat → Nat → Nat) (ci u num : Nat) (cl cl' : Nat → Nat) : Prop := (∀ r, r < k → cl r ≠ u → cl' r = cl r) ∧ (∀ r, r < k → cl r = u → cl' r = u ∨ num ≤ cl' r) ∧ ∀ r r', r < k → r' < k → cl r = u → cl r' = u → cl' r = cl' r' → W r ci = W r' ci
theorem ncl_sp {k num u ci m : Nat} {W : Nat → Nat → Nat} {cl Q pv : Nat → Nat} (hu : u < num) (hQ : ∀ r, r < k → cl r = u → Q r < m ∧ pv (Q r) = W r ci) : spO k W ci u num cl (ncl cl Q u num) := by
  refine ⟨fun r hr hc => by unfold ncl; rw [if_neg hc], fun r hr hc => ?_, fun r r' hr hr' hc hc' he => ?_⟩
  · unfold ncl
    rw [if_pos hc]
    split
    · exact Or.inl rfl
    · exact Or.inr (by omega)
  · unfold ncl at he
    rw [if_pos hc, if_pos hc'] at he
    rw [← (hQ r hr hc).2, ← (hQ r' hr' hc').2]
    congr 1
    split at he <;> split at he <;> omega

