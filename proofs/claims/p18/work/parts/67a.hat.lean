-- pure: an element of the centre by its values at the central maps
abbrev ht (k : Nat) (W : Nat → Nat → Nat) (x : Nat → Nat) (r : Nat) : Int := si (fun i => (x i : Int) * (W r i : Int)) (List.range k)
theorem ht_c {p k : Nat} {W : Nat → Nat → Nat} {x : Nat → Nat} {c : Nat → Int} {i : Nat} (hi : i < k) (hc : vq p k (fun l => ib (decide (l = i))) (fun t => si (fun s => c s * bV W s t) (List.range k))) : (p : Int) ∣ (x i : Int) - si (fun s => c s * ht k W x s) (List.range k) := by
  have e1 : (x i : Int) = si (fun l => ib (decide (l = i)) * (x l : Int)) (List.range k) := (si_one (fun l => (x l : Int)) i List.nodup_range (List.mem_range.mpr hi)).symm
  have e2 : si (fun l => si (fun s => c s * bV W s l) (List.range k) * (x l : Int)) (List.range k) = si (fun s => c s * ht k W x s) (List.range k) := by
    rw [si_congr (g := fun l => si (fun s => c s * ((x l : Int) * (W s l : Int))) (List.range k)) (fun l _ => by
      rw [← si_mulr]
      exact si_congr fun s _ => by rw [Int.mul_assoc, Int.mul_comm (bV W s l)]), si_swap]
    exact si_congr fun s _ => si_mul _ _ _
  rw [e1, ← e2]
  exact si_cong fun l hl => by
    rw [← Int.sub_mul]
    exact Int.dvd_mul_of_dvd_left (hc l (List.mem_range.mp hl))
theorem dv_tr {p a b c : Int} (h1 : p ∣ a - b) (h2 : p ∣ b - c) : p ∣ a - c := by
  have := Int.dvd_add h1 h2
  rwa [show a - b + (b - c) = a - c by omega] at this
theorem dv_sy {p a b : Int} (h : p ∣ a - b) : p ∣ b - a := by
  have := Int.dvd_neg.mpr h
  rwa [show -(a - b) = b - a by omega] at this
theorem dv_ml {p a b : Int} (c : Int) (h : p ∣ a - b) : p ∣ c * a - c * b := by
  rw [← Int.mul_sub]
  exact Int.dvd_mul_of_dvd_right h
theorem ht_inj {p k : Nat} {W : Nat → Nat → Nat} (hW : ∀ v, sp p k k (bV W) v) {x y : Nat → Nat} (h : ∀ r, r < k → (p : Int) ∣ ht k W x r - ht k W y r) {i : Nat} (hi : i < k) : (p : Int) ∣ (x i : Int) - (y i : Int) := by
  obtain ⟨c, hc⟩ := hW (fun l => ib (decide (l = i)))
  refine dv_tr (ht_c hi hc) (dv_tr ?_ (dv_sy (ht_c hi hc)))
  exact si_cong fun s hs => dv_ml (c s) (h s (List.mem_range.mp hs))
theorem mul_hat {p k : Nat} {Am : Nat → Nat → Nat → Nat} {W : Nat → Nat → Nat} (hc : cmO p k Am W) {x y z : Nat → Nat} (hz : ∀ l, l < k → (p : Int) ∣ (z l : Int) - si (fun i => (x i : Int) * si (fun j => (y j : Int) * (Am i j l : Int)) (List.range k)) (List.range k)) {r : Nat} (hr : r < k) : (p : Int) ∣ ht k W z r - ht k W x r * ht k W y r := by
  have h1 : (p : Int) ∣ ht k W z r - si (fun l => si (fun i => (x i : Int) * si (fun j => (y j : Int) * (Am i j l : Int)) (List.range k)) (List.range k) * (W r l : Int)) (List.range k) := si_cong fun l hl => by
    rw [← Int.sub_mul]
    exact Int.dvd_mul_of_dvd_left (hz l (List.mem_range.mp hl))
  have e2 : si (fun l => si (fun i => (x i : Int) * si (fun j => (y j : Int) * (Am i j l : Int)) (List.range k)) (List.range k) * (W r l : Int)) (List.range k) = si (fun i => (x i : Int) * si (fun j => (y j : Int) * si (fun l => (Am i j l : Int) * (W r l : Int)) (List.range k)) (List.range k)) (List.range k) := by
    rw [si_congr (g := fun l => si (fun i => (x i : Int) * (si (fun j => (y j : Int) * (Am i j l : Int)) (List.range k) * (W r l : Int))) (List.range k)) (fun l _ => by
      rw [← si_mulr]
      exact si_congr fun i _ => Int.mul_assoc _ _ _), si_swap]
    refine si_congr fun i _ => ?_
    rw [si_mul]
    congr 1
    rw [si_congr (g := fun l => si (fun j => (y j : Int) * ((Am i j l : Int) * (W r l : Int))) (List.range k)) (fun l _ => by
      rw [← si_mulr]
      exact si_congr fun j _ => Int.mul_assoc _ _ _), si_swap]
    exact si_congr fun j _ => si_mul _ _ _
  rw [e2] at h1
  refine dv_tr h1 ?_
  have e4 : ht k W x r * ht k W y r = si (fun i => (x i : Int) * si (fun j => (y j : Int) * ((W r i : Int) * (W r j : Int))) (List.range k)) (List.range k) := by
    rw [← si_mulr]
    refine si_congr fun i _ => ?_
    rw [Int.mul_assoc]
    congr 1
    rw [← si_mul]
    exact si_congr fun j _ => by rw [← Int.mul_assoc, Int.mul_comm (W r i : Int), Int.mul_assoc]
  rw [e4]
  refine si_cong fun i hi => dv_ml _ (si_cong fun j hj => dv_ml _ (dv_sy ?_))
  exact (hc.1 r hr).2 i j (List.mem_range.mp hi) (List.mem_range.mp hj)
-- the maps are different
theorem si_skip {k r : Nat} (hr : r < k) (f : Nat → Int) : si f (List.range k) = si (fun s => f (if s < r then s else s + 1)) (List.range (k - 1)) + f r := by
  have hp : (List.range k).Perm (((List.range (k - 1)).map (fun s => if s < r then s else s + 1)) ++ [r]) := by
    refine (List.perm_ext_iff_of_nodup List.nodup_range ?_).2 fun x => ?_
    · refine List.nodup_append.mpr ⟨List.pairwise_map.mpr (List.Pairwise.imp (fun {u v} huv he => ?_) List.nodup_range), by simp, fun u hu v hv he => ?_⟩
      · split at he <;> split at he <;> omega
      · obtain ⟨s, hs, rfl⟩ := List.mem_map.mp hu
        rw [List.mem_singleton.mp hv] at he
        split at he <;> omega
    · rw [List.mem_range, List.mem_append, List.mem_map, List.mem_singleton]
      constructor
      · intro hx
        by_cases e : x = r
        · exact Or.inr e
        · left
          by_cases h : x < r
          · exact ⟨x, List.mem_range.mpr (by omega), by rw [if_pos h]⟩
          · exact ⟨x - 1, List.mem_range.mpr (by omega), by rw [if_neg (by omega)]; omega⟩
      · rintro (⟨s, hs, rfl⟩ | rfl)
        · have := List.mem_range.mp hs
          split <;> omega
        · exact hr
  rw [si_perm f hp, si_app, si_map]
  show _ + (f r + 0) = _
  rw [Int.add_zero]
theorem cm_ne {p k : Nat} (hp : isPr p) {W : Nat → Nat → Nat} (hW : ∀ v, sp p k k (bV W) v) {r r' : Nat} (h1 : r < r') (h2 : r' < k) : ∃ x, x < k ∧ W r x ≠ W r' x := Classical.byContradiction fun hn => by
  have hall : ∀ x, x < k → W r x = W r' x := fun x hx => Classical.byContradiction fun h9 => hn ⟨x, hx, h9⟩
  have hsp : ∀ v : Nat → Int, sp p k (k - 1) (fun s => bV W (if s < r' then s else s + 1)) v := fun v => by
    obtain ⟨c, hc⟩ := hW v
    refine ⟨fun s => c (if s < r' then s else s + 1) + ib (decide (s = r)) * c r', fun t ht9 => ?_⟩
    have h9 : (p : Int) ∣ v t - si (fun s => c s * bV W s t) (List.range k) := hc t ht9
    have e : si (fun s => c s * bV W s t) (List.range k) = si (fun s => (c (if s < r' then s else s + 1) + ib (decide (s = r)) * c r') * bV W (if s < r' then s else s + 1) t) (List.range (k - 1)) := by
      rw [si_skip h2, si_congr (g := fun s => c (if s < r' then s else s + 1) * bV W (if s < r' then s else s + 1) t + ib (decide (s = r)) * (c r' * bV W (if s < r' then s else s + 1) t)) (f := fun s => (c (if s < r' then s else s + 1) + ib (decide (s = r)) * c r') * bV W (if s < r' then s else s + 1) t) (fun s _ => by rw [Int.add_mul, Int.mul_assoc]), si_add, si_one (fun s => c r' * bV W (if s < r' then s else s + 1) t) r List.nodup_range (List.mem_range.mpr (by omega)), if_pos h1]
      show _ + c r' * (W r' t : Int) = _ + c r' * (W r t : Int)
      rw [hall t ht9]
    rw [e] at h9
    exact h9
  have := sp_ge hp.1 hp.2 hsp
  omega

