-- the two objects side by side
def rdO (gen : Nat → Nat) (gc : Nat) (a : sA) (g : sG) (i a' i' : sA) (s : Nat → Nat) (n k : Nat) (kl re : Nat → Nat) (e p z : Nat) (W : Nat → Nat → Nat) (pl : Nat → Nat) : Prop := (i 0 2 = 0 ↔ ¬ i' 0 2 = 0) ∧ (i 0 2 = 0 → grT gen gc s n k kl re e p z ∧ ccT a g i s n k kl re e p z W pl ∧ mmT a' i' s n k kl re e p z W)
def gnO (gen : Nat → Nat) (gc : Nat) (a i a' i' : sA) : Prop := gc ≤ 4 ∧ i 0 1 = nI gc ∧ i' 0 0 = nI gc ∧ ∀ k, k < gc → a 1 k = nI (gen k) ∧ a' 1 k = nI (gen k) ∧ isP (gen k)
def relO (gen : Nat → Nat) (gc : Nat) (a : sA) (g : sG) (i a' i' : sA) : Prop := gnO gen gc a i a' i' ∧ (i 0 2 = -1 ∨ ccO gen gc a g i) ∧ ∃ (s : Nat → Nat) (n k : Nat) (kl re : Nat → Nat) (e p z : Nat) (W : Nat → Nat → Nat) (pl : Nat → Nat), rdO gen gc a g i a' i' s n k kl re e p z W pl
-- answers
theorem ri_int {B : Prop} {x d : Int32} {r : Option sx_V} (h : (B ∧ r = some (.inl x)) ∨ (¬ B ∧ r = some (.inl d))) : ∃ v, r = some (.inl v) := by
  rcases h with ⟨_, h⟩ | ⟨_, h⟩ <;> exact ⟨_, h⟩
theorem cm_int {B1 B2 : Prop} {x y d : Int32} {v v' : Int32} (h : (B1 ∧ some (Sum.inl v : sx_V) = some (.inl x)) ∨ (¬ B1 ∧ some (Sum.inl v : sx_V) = some (.inl d))) (h' : (B2 ∧ some (Sum.inl v' : sx_V) = some (.inl y)) ∨ (¬ B2 ∧ some (Sum.inl v' : sx_V) = some (.inl d))) (hB : B1 ↔ B2) (he : B1 → x = y) : v = v' := by
  rcases h with ⟨h1, h⟩ | ⟨h1, h⟩ <;> rcases h' with ⟨h2, h'⟩ | ⟨h2, h'⟩
  · injection h with h; injection h with h; injection h' with h'; injection h' with h'
    rw [h, h', he h1]
  · exact absurd (hB.1 h1) h2
  · exact absurd (hB.2 h2) h1
  · injection h with h; injection h with h; injection h' with h'; injection h' with h'
    rw [h, h']
-- an answer of a kind X, where the argument is good (Y); else d
theorem cm_gen {B1 B2 Y : Prop} {X X' : Int32 → Prop} {d v v' : Int32} (h : (B1 ∧ X v) ∨ (¬ (B1 ∧ Y) ∧ v = d)) (h' : (B2 ∧ X' v') ∨ (¬ (B2 ∧ Y) ∧ v' = d)) (hB : B1 ↔ B2) (hX : ∀ v, X v → Y) (hX' : ∀ v, X' v → Y) (he : B1 → ∀ v v', X v → X' v' → v = v') : v = v' := by
  rcases h with ⟨h1, h⟩ | ⟨h1, h⟩ <;> rcases h' with ⟨h2, h'⟩ | ⟨h2, h'⟩
  · exact he h1 v v' h h'
  · exact absurd ⟨hB.1 h1, hX v h⟩ h2
  · exact absurd ⟨hB.2 h2, hX' v' h'⟩ h1
  · rw [h, h']
theorem sxl_in {v : Int32} {x : Int32} (h : some (Sum.inl v : sx_V) = some (.inl x)) : v = x := by
  injection h with h; injection h
-- one number
def x1 (k : Nat) (x : Int32) (f : Nat → Int32) (v : Int32) : Prop := ∃ j, j < k ∧ x = nI j ∧ v = f j
theorem x1_y {k : Nat} {x : Int32} {f : Nat → Int32} (v : Int32) (h : x1 k x f v) : nJ k x := by
  obtain ⟨j, hj, hx, _⟩ := h
  exact ⟨j, hj, hx⟩
theorem x1_e {k : Nat} (hk : k < 2 ^ 31) {x : Int32} {f f' : Nat → Int32} (h : ∀ j, j < k → f j = f' j) (v v' : Int32) (hv : x1 k x f v) (hv' : x1 k x f' v') : v = v' := by
  obtain ⟨j, hj, hx, rfl⟩ := hv
  obtain ⟨j', hj', hx', rfl⟩ := hv'
  have e : j = j' := (nI_eq (by omega) (by omega)).mp (hx.symm.trans hx')
  subst e
  exact h j hj
def x2 (k k2 : Nat) (x y : Int32) (f : Nat → Nat → Int32) (v : Int32) : Prop := ∃ j q, j < k ∧ q < k2 ∧ x = nI j ∧ y = nI q ∧ v = f j q
theorem x2_y {k k2 : Nat} {x y : Int32} {f : Nat → Nat → Int32} (v : Int32) (h : x2 k k2 x y f v) : nJ k x ∧ nJ k2 y := by
  obtain ⟨j, q, hj, hq, hx, hy, _⟩ := h
  exact ⟨⟨j, hj, hx⟩, ⟨q, hq, hy⟩⟩
theorem x2_e {k k2 : Nat} (hk : k < 2 ^ 31) (hk2 : k2 < 2 ^ 31) {x y : Int32} {f f' : Nat → Nat → Int32} (h : ∀ j q, j < k → q < k2 → f j q = f' j q) (v v' : Int32) (hv : x2 k k2 x y f v) (hv' : x2 k k2 x y f' v') : v = v' := by
  obtain ⟨j, q, hj, hq, hx, hy, rfl⟩ := hv
  obtain ⟨j', q', hj', hq', hx', hy', rfl⟩ := hv'
  have e : j = j' := (nI_eq (by omega) (by omega)).mp (hx.symm.trans hx')
  have e2 : q = q' := (nI_eq (by omega) (by omega)).mp (hy.symm.trans hy')
  subst e
  subst e2
  exact h j q hj hq
def x3 (k : Nat) (x y z : Int32) (f : Nat → Nat → Nat → Int32) (v : Int32) : Prop := ∃ j q t, j < k ∧ q < k ∧ t < k ∧ x = nI j ∧ y = nI q ∧ z = nI t ∧ v = f j q t
theorem x3_y {k : Nat} {x y z : Int32} {f : Nat → Nat → Nat → Int32} (v : Int32) (h : x3 k x y z f v) : nJ k x ∧ nJ k y ∧ nJ k z := by
  obtain ⟨j, q, t, hj, hq, ht, hx, hy, hz, _⟩ := h
  exact ⟨⟨j, hj, hx⟩, ⟨q, hq, hy⟩, ⟨t, ht, hz⟩⟩
theorem x3_e {k : Nat} (hk : k < 2 ^ 31) {x y z : Int32} {f f' : Nat → Nat → Nat → Int32} (h : ∀ j q t, j < k → q < k → t < k → f j q t = f' j q t) (v v' : Int32) (hv : x3 k x y z f v) (hv' : x3 k x y z f' v') : v = v' := by
  obtain ⟨j, q, t, hj, hq, ht, hx, hy, hz, rfl⟩ := hv
  obtain ⟨j', q', t', hj', hq', ht', hx', hy', hz', rfl⟩ := hv'
  have e : j = j' := (nI_eq (by omega) (by omega)).mp (hx.symm.trans hx')
  have e2 : q = q' := (nI_eq (by omega) (by omega)).mp (hy.symm.trans hy')
  have e3 : t = t' := (nI_eq (by omega) (by omega)).mp (hz.symm.trans hz')
  subst e
  subst e2
  subst e3
  exact h j q t hj hq ht
-- what the tables give
section RD
variable {gen : Nat → Nat} {gc : Nat} {a : sA} {g : sG} {i a' i' : sA} {s : Nat → Nat} {n k : Nat} {kl re : Nat → Nat} {e p z : Nat} {W : Nat → Nat → Nat} {pl : Nat → Nat}
theorem rd_ck (h : rdO gen gc a g i a' i' s n k kl re e p z W pl) : i 0 2 = 0 → k ≤ 16 ∧ i 5 0 = nI k := fun h9 => ⟨(h.2 h9).1.2.2.1, (h.2 h9).2.1.2.1⟩
theorem rd_mt (h : rdO gen gc a g i a' i' s n k kl re e p z W pl) : ¬ i' 0 2 = 0 → mtO a' i' s n k kl re := fun h9 => (h.2 (h.1.2 h9)).2.2.1
theorem rd_md (h : rdO gen gc a g i a' i' s n k kl re e p z W pl) : ¬ i' 0 2 = 0 → mdO p k (Amo s n kl re) a' i' := fun h9 => (h.2 (h.1.2 h9)).2.2.2.1
theorem rd_mk (h : rdO gen gc a g i a' i' s n k kl re e p z W pl) : ¬ i' 0 2 = 0 → k ≤ 16 ∧ i' 0 6 = nI k := fun h9 => ⟨(rd_mt h h9).2.2.2.2.2.1, (rd_mt h h9).2.2.2.2.2.2.1⟩
theorem rd_el (h : rdO gen gc a g i a' i' s n k kl re e p z W pl) : i 0 2 = 0 → elH a i s n := fun h9 => (h.2 h9).2.1.1
theorem rd_cn (h : rdO gen gc a g i a' i' s n k kl re e p z W pl) : i 0 2 = 0 → n ≤ 120 ∧ i 2 2 = nI n := fun h9 => ⟨(rd_el h h9).2.1, (rd_el h h9).1⟩
theorem rd_mn (h : rdO gen gc a g i a' i' s n k kl re e p z W pl) : ¬ i' 0 2 = 0 → n ≤ 120 ∧ i' 0 3 = nI n := fun h9 => ⟨(rd_mt h h9).2.1, (rd_mt h h9).1.1⟩
theorem rd_pl (h : rdO gen gc a g i a' i' s n k kl re e p z W pl) : i 0 2 = 0 → ∀ j, j < k → a 27 j = nI (pl j) ∧ pl j < k := fun h9 j hj => by
  have h8 := (h.2 h9).2.1.2.2.2.2.2.2.2.2.2.2.2.1
  exact ⟨h8.2.1 j hj, h8.2.2.1 j hj⟩
theorem rd_ex (h : rdO gen gc a g i a' i' s n k kl re e p z W pl) : i 0 2 = 0 → 0 < e ∧ e ≤ 120 ∧ i 5 6 = nI e := fun h9 => by
  obtain ⟨h1, h2, h3, h4, h5, h6, h7, h8⟩ := (h.2 h9).1
  exact ⟨h4.1, by have := h1.2.1; omega, (h.2 h9).2.1.2.2.2.2.1⟩
-- the readers that need the tables alone
theorem e_order (h : rdO gen gc a g i a' i' s n k kl re e p z W pl) (h9 : i 0 2 = 0) : i 2 2 = i' 0 3 := by
  rw [(rd_cn h h9).2, (rd_mn h (h.1.1 h9)).2]
theorem e_classes (h : rdO gen gc a g i a' i' s n k kl re e p z W pl) (h9 : i 0 2 = 0) : i 5 0 = i' 0 6 := by
  rw [(rd_ck h h9).2, (rd_mk h (h.1.1 h9)).2]
theorem e_exponent (h : rdO gen gc a g i a' i' s n k kl re e p z W pl) (h9 : i 0 2 = 0) : i 5 6 = i' 0 10 := by
  rw [(rd_ex h h9).2.2, (h.2 h9).2.2.2.2.1]
theorem e_prime (h : rdO gen gc a g i a' i' s n k kl re e p z W pl) (h9 : i 0 2 = 0) : i 12 0 = i' 0 11 := by
  rw [(h.2 h9).2.1.2.2.2.2.2.2.2.1, (rd_md h (h.1.1 h9)).2.2.2.1]
theorem e_root (h : rdO gen gc a g i a' i' s n k kl re e p z W pl) (h9 : i 0 2 = 0) : i 12 1 = i' 0 12 := by
  rw [(h.2 h9).2.1.2.2.2.2.2.2.2.2.1, (h.2 h9).2.2.2.2.2.1]
theorem e_element (h : rdO gen gc a g i a' i' s n k kl re e p z W pl) (h9 : i 0 2 = 0) (j : Nat) (hj : j < n) : a 3 j = a' 2 j := by
  rw [(rd_el h h9).2.2.1 j hj, (rd_mt h (h.1.1 h9)).1.2.1 j hj]
theorem e_kind (h : rdO gen gc a g i a' i' s n k kl re e p z W pl) (h9 : i 0 2 = 0) (j : Nat) (hj : j < n) : a 6 j = a' 3 j := by
  rw [(h.2 h9).2.1.2.2.1 j hj, (rd_mt h (h.1.1 h9)).2.2.2.2.2.2.2.1 j hj]
theorem e_size (h : rdO gen gc a g i a' i' s n k kl re e p z W pl) (h9 : i 0 2 = 0) (j : Nat) (hj : j < k) : a 7 j = a' 4 j := by
  rw [((h.2 h9).2.1.2.2.2.1 j hj).2, ((rd_mt h (h.1.1 h9)).2.2.2.2.2.2.2.2 j hj).2]
theorem e_least (h : rdO gen gc a g i a' i' s n k kl re e p z W pl) (h9 : i 0 2 = 0) (j : Nat) (hj : j < k) : a 8 j = a' 5 j := by
  rw [((h.2 h9).2.1.2.2.2.1 j hj).1, ((rd_mt h (h.1.1 h9)).2.2.2.2.2.2.2.2 j hj).1]
theorem e_power (h : rdO gen gc a g i a' i' s n k kl re e p z W pl) (h9 : i 0 2 = 0) (j m : Nat) (hj : j < k) : g 9 j (m % e) = nI (kl (pw (re j) m)) := by
  obtain ⟨h1, h2, h3, h4, h5, h6, h7, h8⟩ := (h.2 h9).1
  rw [(h.2 h9).2.1.2.2.2.2.2.1 j (m % e) hj (Nat.mod_lt _ h4.1)]
  have := gg_pmod (kc_g h2.1) (kc_re h2.1 hj) (h4.2.1 j hj) m
  show nI (kl (gg_pw pm pid (re j) (m % e))) = nI (kl (gg_pw pm pid (re j) m))
  rw [← this]
theorem e_constant (h : rdO gen gc a g i a' i' s n k kl re e p z W pl) (h9 : i 0 2 = 0) (x y l : Nat) (hx : x < k) (hy : y < k) (hl : l < k) : a 11 ((x * 16 + y) * 16 + l) = a' 6 ((x * 16 + y) * 16 + l) := by
  have hk := (rd_ck h h9).1
  rw [(h.2 h9).2.1.2.2.2.2.2.2.1 x y l hx hy hl, (rd_md h (h.1.1 h9)).2.2.2.2.2.2 x y l (by omega) (by omega) (by omega), if_pos hl]
theorem e_classOf (h : rdO gen gc a g i a' i' s n k kl re e p z W pl) {x : Int32} (h9 : i 0 2 = 0) (v v' : Int32) (hv : ∃ j, j < n ∧ a 3 j = x ∧ v = a 6 j) (hv' : ∃ j, j < n ∧ a' 2 j = x ∧ v' = a' 3 j) : v = v' := by
  obtain ⟨j, hj, hx, rfl⟩ := hv
  obtain ⟨j', hj', hx', rfl⟩ := hv'
  obtain ⟨q1, q2, q3, q4, q5⟩ := rd_el h h9
  rw [← e_element h h9 j' hj'] at hx'
  rw [q3 j hj] at hx
  rw [q3 j' hj'] at hx'
  have e1 : s j = s j' := (nI_eq (Nat.lt_trans (q5 j hj) (by decide)) (Nat.lt_trans (q5 j' hj') (by decide))).mp (hx.trans hx'.symm)
  have e2 : j = j' := by
    rcases Nat.lt_trichotomy j j' with h8 | h8 | h8
    · have := q4 j j' h8 hj'; omega
    · exact h8
    · have := q4 j' j h8 hj; omega
  subst e2
  exact e_kind h h9 j hj
theorem y_classOf (h : rdO gen gc a g i a' i' s n k kl re e p z W pl) {x : Int32} (h9 : i 0 2 = 0) : (∃ j, j < n ∧ a 3 j = x) ↔ ∃ j, j < n ∧ a' 2 j = x := by
  constructor
  · rintro ⟨j, hj, hx⟩; exact ⟨j, hj, by rw [← e_element h h9 j hj]; exact hx⟩
  · rintro ⟨j, hj, hx⟩; exact ⟨j, hj, by rw [e_element h h9 j hj]; exact hx⟩
end RD

