-- the group that the generators make
def gw (gen : Nat → Nat) : List Nat → Nat
  | [] => pid
  | k :: ls => pm (gw gen ls) (gen k)
def inS (gen : Nat → Nat) (gc c : Nat) : Prop := ∃ ls : List Nat, (∀ k, k ∈ ls → k < gc) ∧ gw gen ls = c
theorem inS_id (gen : Nat → Nat) (gc : Nat) : inS gen gc pid := ⟨[], fun k h => (by cases h), rfl⟩
theorem inS_mul {gen : Nat → Nat} {gc c k : Nat} (h : inS gen gc c) (hk : k < gc) : inS gen gc (pm c (gen k)) := by
  obtain ⟨ls, h1, h2⟩ := h
  refine ⟨k :: ls, fun j hj => ?_, by show pm (gw gen ls) (gen k) = _; rw [h2]⟩
  rcases List.mem_cons.mp hj with rfl | hj
  · exact hk
  · exact h1 j hj
theorem gw_P {gen : Nat → Nat} {gc : Nat} (hg : ∀ k, k < gc → isP (gen k)) : ∀ ls : List Nat, (∀ k, k ∈ ls → k < gc) → isP (gw gen ls)
  | [], _ => isP_id
  | k :: ls, h => isP_pm (gw_P hg ls (fun j hj => h j (List.mem_cons_of_mem _ hj))) (hg k (h k List.mem_cons_self))
theorem inS_P {gen : Nat → Nat} {gc c : Nat} (hg : ∀ k, k < gc → isP (gen k)) (h : inS gen gc c) : isP c := by
  obtain ⟨ls, h1, rfl⟩ := h
  exact gw_P hg ls h1
theorem inS_all {gen : Nat → Nat} {gc : Nat} {P : Nat → Prop} (h0 : P pid) (hs : ∀ c k, P c → k < gc → P (pm c (gen k))) {c : Nat} (h : inS gen gc c) : P c := by
  obtain ⟨ls, h1, rfl⟩ := h
  induction ls with
  | nil => exact h0
  | cons k ls ih => exact hs _ _ (ih (fun j hj => h1 j (List.mem_cons_of_mem _ hj))) (h1 k List.mem_cons_self)
-- inserting keeps the order
theorem ins_lo {f : Nat → Int32} {K n j : Nat} {x : Int32} (h : j < K) : ins f K n x j = f j := if_pos h
theorem ins_at {f : Nat → Int32} {K n : Nat} {x : Int32} : ins f K n x K = x := by unfold ins; rw [if_neg (Nat.lt_irrefl _), if_pos rfl]
theorem ins_hi {f : Nat → Int32} {K n j : Nat} {x : Int32} (h : K < j) (h2 : j ≤ n) : ins f K n x j = f (j - 1) := by unfold ins; rw [if_neg (by omega), if_neg (by omega), if_pos h2]
theorem ins_inc {f : Nat → Int32} {n : Nat} {x : Int32} (hi : inc f n) (hno : ¬ ∃ j, j < n ∧ f j = x) : inc (ins f (kf f x n) n x) (n + 1) := by
  have hK := kf_le f x n
  have hlo := kf_lo x n hi
  have hhi : ∀ j, kf f x n ≤ j → j < n → x < f j := fun j h1 h2 => by
    have h3 := kf_hi x n j h1 h2
    have h4 : ¬ f j = x := fun e => hno ⟨j, h2, e⟩
    rw [Int32.lt_iff_toInt_lt] at h3 ⊢
    have h5 : (f j).toInt ≠ x.toInt := fun e => h4 (Int32.toInt_inj.mp e)
    omega
  generalize kf f x n = K at *
  intro i j hij hj
  by_cases h1 : j < K
  · rw [ins_lo h1, ins_lo (by omega)]; exact hi i j hij (by omega)
  · by_cases h2 : j = K
    · subst h2; rw [ins_at, ins_lo hij]; exact hlo i hij
    · rw [ins_hi (j := j) (by omega) (by omega)]
      by_cases h3 : i < K
      · rw [ins_lo h3]; exact hi i (j - 1) (by omega) (by omega)
      · by_cases h4 : i = K
        · subst h4; rw [ins_at]; exact hhi _ (by omega) (by omega)
        · rw [ins_hi (j := i) (by omega) (by omega)]; exact hi (i - 1) (j - 1) (by omega) (by omega)
-- the world while elements come in
abbrev eW (a : sA) (g : sG) (i : sA) (f3 f4 : Nat → Int32) (cnt : Nat) : sx_M := cW (va_up (va_up a 3 f3) 4 f4) g (va_up i 2 (va_up (i 2) 2 (nI cnt)))
theorem eW_in (a : sA) (g : sG) (i : sA) (f3 f4 : Nat → Int32) (cnt : Nat) (x : Int32) : inW (va_up (va_up a 3 f3) 4 f4) g (va_up i 2 (va_up (i 2) 2 (nI cnt))) cnt x = eW a g i (ins f3 (kf f3 x cnt) cnt x) (upd f4 cnt x) (cnt + 1) := by
  have e1 : (va_up (va_up a 3 f3) 4 f4) 3 = f3 := by rw [va_up_ne _ _ (by decide), va_up_self]
  have e2 : (va_up (va_up a 3 f3) 4 f4) 4 = f4 := va_up_self _ _ _
  show cW _ _ _ = cW _ _ _
  rw [e1, e2]
  congr 1
  · funext n
    by_cases h4 : n = 4
    · subst h4; rw [va_up_self, va_up_self]
    · rw [va_up_ne _ _ h4, va_up_ne _ _ h4]
      by_cases h3 : n = 3
      · subst h3; rw [va_up_self, va_up_self]
      · rw [va_up_ne _ _ h3, va_up_ne _ _ h4, va_up_ne _ _ h3, va_up_ne _ _ h3]
  · rw [va_up_self, va_uu, va_uu]
-- what is known of the elements found
def gI (gen : Nat → Nat) (gc : Nat) (f3 f4 : Nat → Int32) (e : Nat → Nat) (cnt : Nat) : Prop :=
  cnt ≤ 120 ∧ 1 ≤ cnt ∧ inc f3 cnt ∧ (∀ j, j < cnt → f4 j = nI (e j) ∧ inS gen gc (e j)) ∧ (∀ j, j < cnt → ∃ k, k < cnt ∧ f3 j = nI (e k)) ∧ (∀ k, k < cnt → ∃ j, j < cnt ∧ f3 j = nI (e k)) ∧ (∀ j k, j < cnt → k < cnt → e j = e k → j = k) ∧ e 0 = pid
theorem gI_new {gen : Nat → Nat} {gc cnt c : Nat} {f3 f4 : Nat → Int32} {e : Nat → Nat} (hg : ∀ k, k < gc → isP (gen k)) (h : gI gen gc f3 f4 e cnt) (hlt : cnt < 120) (hc : inS gen gc c) (hno : ¬ ∃ j, j < cnt ∧ f3 j = nI c) : gI gen gc (ins f3 (kf f3 (nI c) cnt) cnt (nI c)) (upd f4 cnt (nI c)) (va_up e cnt c) (cnt + 1) := by
  obtain ⟨h1, h2, h3, h4, h5, h6, h7, h8⟩ := h
  have hK := kf_le f3 (nI c) cnt
  have hne : ∀ j, j < cnt → e j ≠ c := fun j hj e9 => by
    obtain ⟨k, hk, e2⟩ := h6 j hj
    exact hno ⟨k, hk, by rw [e2, e9]⟩
  refine ⟨by omega, by omega, ins_inc h3 hno, fun j hj => ?_, fun j hj => ?_, fun k hk => ?_, fun j k hj hk e9 => ?_, ?_⟩
  · by_cases e1 : j = cnt
    · subst e1; rw [pk_us, va_up_self]; exact ⟨rfl, hc⟩
    · rw [pk_un e1, va_up_ne _ _ e1]; exact h4 j (by omega)
  · generalize kf f3 (nI c) cnt = K at *
    have old : ∀ j, j < cnt → ∃ k, k < cnt + 1 ∧ f3 j = nI (va_up e cnt c k) := fun j hj => by
      obtain ⟨k, hk, e2⟩ := h5 j hj
      exact ⟨k, by omega, by rw [va_up_ne _ _ (by omega)]; exact e2⟩
    by_cases e1 : j < K
    · rw [ins_lo e1]; exact old j (by omega)
    · by_cases e2 : j = K
      · subst e2; rw [ins_at]; exact ⟨cnt, by omega, by rw [va_up_self]⟩
      · rw [ins_hi (by omega) (by omega)]; exact old (j - 1) (by omega)
  · generalize kf f3 (nI c) cnt = K at *
    by_cases e1 : k = cnt
    · subst e1; rw [va_up_self]; exact ⟨K, by omega, ins_at⟩
    · rw [va_up_ne _ _ e1]
      obtain ⟨j, hj, e2⟩ := h6 k (by omega)
      by_cases e3 : j < K
      · exact ⟨j, by omega, by rw [ins_lo e3]; exact e2⟩
      · exact ⟨j + 1, by omega, by rw [ins_hi (by omega) (by omega)]; exact e2⟩
  · by_cases e1 : j = cnt
    · by_cases e2 : k = cnt
      · omega
      · subst e1; rw [va_up_self, va_up_ne _ _ e2] at e9; exact absurd e9.symm (hne k (by omega))
    · by_cases e2 : k = cnt
      · subst e2; rw [va_up_self, va_up_ne _ _ e1] at e9; exact absurd e9 (hne j (by omega))
      · rw [va_up_ne _ _ e1, va_up_ne _ _ e2] at e9; exact h7 j k (by omega) (by omega) e9
  · rw [va_up_ne _ _ (by omega)]; exact h8
theorem gI_mem {gen : Nat → Nat} {gc cnt c : Nat} {f3 f4 : Nat → Int32} {e : Nat → Nat} (hg : ∀ k, k < gc → isP (gen k)) (h : gI gen gc f3 f4 e cnt) (hc : isP c) : (∃ j, j < cnt ∧ f3 j = nI c) ↔ ∃ k, k < cnt ∧ e k = c := by
  obtain ⟨h1, h2, h3, h4, h5, h6, h7, h8⟩ := h
  constructor
  · rintro ⟨j, hj, e1⟩
    obtain ⟨k, hk, e2⟩ := h5 j hj
    have h9 := inS_P hg (h4 k hk).2
    exact ⟨k, hk, (nI_eq (Nat.lt_trans h9.1 (by decide)) (Nat.lt_trans hc.1 (by decide))).mp (by rw [← e2, e1])⟩
  · rintro ⟨k, hk, rfl⟩
    obtain ⟨j, hj, e1⟩ := h6 k hk
    exact ⟨j, hj, e1⟩
-- the elements are all there, or there are more than 120
def gClosed (gen : Nat → Nat) (gc : Nat) (e : Nat → Nat) (cnt nx : Nat) : Prop := ∀ n, n < nx → ∀ k, k < gc → ∃ m, m < cnt ∧ e m = pm (e n) (gen k)
def gMany (gen : Nat → Nat) (gc : Nat) : Prop := ∃ es : List Nat, es.length = 121 ∧ es.Nodup ∧ ∀ c, c ∈ es → inS gen gc c
theorem gMany_of {gen : Nat → Nat} {gc c : Nat} {f3 f4 : Nat → Int32} {e : Nat → Nat} (h : gI gen gc f3 f4 e 120) (hc : inS gen gc c) (hno : ∀ k, k < 120 → e k ≠ c) : gMany gen gc := by
  obtain ⟨h1, h2, h3, h4, h5, h6, h7, h8⟩ := h
  refine ⟨c :: (List.range 120).map e, by simp, List.nodup_cons.mpr ⟨fun h9 => ?_, ?_⟩, fun x hx => ?_⟩
  · obtain ⟨k, hk, e9⟩ := List.mem_map.mp h9
    exact hno k (List.mem_range.mp hk) e9
  · exact List.pairwise_map.mpr (List.Pairwise.imp_of_mem (fun {u v} hu hv huv he => by
      have := h7 u v (List.mem_range.mp hu) (List.mem_range.mp hv) he
      omega) List.pairwise_lt_range)
  · rcases List.mem_cons.mp hx with rfl | hx
    · exact hc
    · obtain ⟨k, hk, rfl⟩ := List.mem_map.mp hx
      exact (h4 k (List.mem_range.mp hk)).2
theorem gAll {gen : Nat → Nat} {gc cnt : Nat} {f3 f4 : Nat → Int32} {e : Nat → Nat} (h : gI gen gc f3 f4 e cnt) (hcl : gClosed gen gc e cnt cnt) {c : Nat} (hc : inS gen gc c) : ∃ k, k < cnt ∧ e k = c := by
  obtain ⟨h1, h2, h3, h4, h5, h6, h7, h8⟩ := h
  refine inS_all (P := fun c => ∃ k, k < cnt ∧ e k = c) ⟨0, by omega, h8⟩ (fun c k hc hk => ?_) hc
  obtain ⟨m, hm, rfl⟩ := hc
  exact hcl m hm k hk

set_option maxHeartbeats 4000000 in
set_option maxRecDepth 100000 in
theorem c_El_generate (l : Launch) (D : va_G) (E : sx_E) (B : Nat) (A : Nat → Prop) (hB : 29 ≤ B) {a : sA} {g : sG} {i : sA} {gen : Nat → Nat} {gc : Nat} (hgc : gc ≤ 4) (h1 : ∀ k, k < gc → a 1 k = nI (gen k)) (hg : ∀ k, k < gc → isP (gen k)) : sM l D E B A yEl_generate prog_5_method_2_code 6 (some .boolean) 2 46 [.inr (2, 0), .inr (1, 0), .inl (nI gc)] (cW a g i) (fun r w' => ∃ (f3 f4 : Nat → Int32) (cnt : Nat), w' = eW a g i f3 f4 cnt ∧ ((r = some (.inl 1) ∧ ∃ e : Nat → Nat, gI gen gc f3 f4 e cnt ∧ gClosed gen gc e cnt cnt) ∨ (r = some (.inl 0) ∧ gMany gen gc))) := by
  refine sx_m0 (ls := lEl_generate) (cs := csAll) (by decide +kernel) kEl_generate (hEl_generate l D E B A hB) (by simp) ⟨fun w' h => (by obtain ⟨_, _, _, _, ⟨h, _⟩ | ⟨h, _⟩⟩ := h <;> cases h), fun y w' h => (by obtain ⟨_, _, _, _, ⟨h, _⟩ | ⟨h, _⟩⟩ := h <;> cases h <;> decide)⟩ ?_
  intro Z hZ
  -- inside, the elements found so far times the generators before k are there
  have inner : ∀ d nx, (∀ (e : Nat → Nat) (cnt : Nat) (f3 f4 : Nat → Int32) x5, gI gen gc f3 f4 e cnt → nx < cnt → gClosed gen gc e cnt (nx + 1) → Z 73 [some (.inr (2, 0)), some (.inr (1, 0)), some (.inl (nI gc)), some (.inl 1), some (.inl (nI nx)), x5] [] (eW a g i f3 f4 cnt)) → (∀ (f3 f4 : Nat → Int32) (cnt : Nat) x5, gMany gen gc → Z 73 [some (.inr (2, 0)), some (.inr (1, 0)), some (.inl (nI gc)), some (.inl 0), some (.inl (nI nx)), x5] [] (eW a g i f3 f4 cnt)) →
      ∀ k e cnt f3 f4, d + k = gc → gI gen gc f3 f4 e cnt → nx < cnt → gClosed gen gc e cnt nx → (∀ j, j < k → ∃ m, m < cnt ∧ e m = pm (e nx) (gen j)) → Z 38 [some (.inr (2, 0)), some (.inr (1, 0)), some (.inl (nI gc)), some (.inl 1), some (.inl (nI nx)), some (.inl (nI k))] [] (eW a g i f3 f4 cnt) := by
    intro d nx kT kF
    induction d with
    | zero =>
      intro k e cnt f3 f4 hd hI hnx hcl hk
      have hk2 : k = gc := by omega
      subst hk2
      refine z_iload_n hZ gEl_generate_38 rfl ?_
      refine z_ifeq hZ gEl_generate_39 (fun c39 => absurd c39 (by decide)) (fun c39 => ?_)
      refine z_iload hZ gEl_generate_42 rfl ?_
      refine z_iload_n hZ gEl_generate_44 rfl ?_
      refine z_cmpge hZ gEl_generate_45 (fun c45 => ?_) (fun c45 => absurd (nI_le (Nat.le_refl k) (by omega)) c45)
      refine kT e cnt f3 f4 _ hI hnx (fun n hn j hj => ?_)
      by_cases e9 : n = nx
      · subst e9; exact hk j hj
      · exact hcl n (by omega) j hj
    | succ d ih =>
      intro k e cnt f3 f4 hd hI hnx hcl hkk
      have hk : k < gc := by omega
      have h120 := hI.1
      have e3a : (va_up (va_up a 3 f3) 4 f4) 3 = f3 := by rw [va_up_ne _ _ (by decide), va_up_self]
      have e4n := (hI.2.2.2.1 nx hnx)
      have hPn := inS_P hg e4n.2
      have hS := inS_mul e4n.2 hk
      have hmem := gI_mem hg hI (isP_pm hPn (hg k hk))
      have ec : (nI nx).toNatClampNeg = nx := nI_clamp (by omega)
      have ek : (nI k).toNatClampNeg = k := nI_clamp (by omega)
      refine z_iload_n hZ gEl_generate_38 rfl ?_
      refine z_ifeq hZ gEl_generate_39 (fun c39 => absurd c39 (by decide)) (fun c39 => ?_)
      refine z_iload hZ gEl_generate_42 rfl ?_
      refine z_iload_n hZ gEl_generate_44 rfl ?_
      refine z_cmpge hZ gEl_generate_45 (fun c45 => absurd c45 (nI_ge (by omega) (by omega))) (fun c45 => ?_)
      refine z_aload_n hZ gEl_generate_48 rfl ?_
      refine z_aload_n hZ gEl_generate_49 rfl ?_
      refine z_get hZ gEl_generate_50 (by omega) rfl rfl ?_
      refine z_iload hZ gEl_generate_53 rfl ?_
      refine z_iald hZ gEl_generate_55 (by omega) rfl (vp_in_nI (by omega) (by decide)) ?_
      rw [ec]
      have e4 : (va_up (va_up a 3 f3) 4 f4) 4 nx = nI (e nx) := by rw [va_up_self]; exact e4n.1
      rw [e4]
      refine z_aload_n hZ gEl_generate_56 rfl ?_
      refine z_iload hZ gEl_generate_57 rfl ?_
      refine z_iald hZ gEl_generate_59 (by omega) rfl (vp_in_nI (by omega) (by decide)) ?_
      rw [ek]
      have e1 : (va_up (va_up a 3 f3) 4 f4) 1 k = nI (gen k) := by rw [va_up_ne _ _ (by decide), va_up_ne _ _ (by decide)]; exact h1 k hk
      rw [e1]
      refine z_cs hZ gEl_generate_60 rfl rfl (Nat.le_of_ble_eq_true rfl) (Nat.le_of_ble_eq_true rfl) (fun l D E B A hB => c_Cd_product l D E B A hPn.1 (hg _ hk).1 _) (fun r60 w60 p60 => ?_)
      obtain ⟨rfl, rfl⟩ := p60
      show Z (60 + 3) _ (.inl (nI (pm (e nx) (gen k))) :: .inr (2, 0) :: []) _
      refine z_cv hZ gEl_generate_63 rfl rfl (Nat.le_of_ble_eq_true rfl) (Nat.le_of_ble_eq_true rfl) ⟨⟨2, _, _, rfl, by decide, rfl⟩, fun l D E B A hB => c_El_include l D E B A hB (by rw [va_up_self, va_up_self]) hI.1 (by rw [e3a]; exact hI.2.2.1) _⟩ (fun r63 w63 p63 => ?_)
      rw [e3a, hmem] at p63
      rcases p63 with ⟨rfl, hin, rfl⟩ | ⟨rfl, hno, h120e, rfl⟩ | ⟨rfl, hno, hlt, rfl⟩
      rotate_left
      · show Z (63 + 3) _ (.inl 0 :: []) _
        refine z_istore_n hZ gEl_generate_66 rfl ?_
        refine z_iinc hZ gEl_generate_67 rfl _ (i1 k) rfl ?_
        refine z_goto hZ gEl_generate_70 ?_
        refine z_iload_n hZ gEl_generate_38 rfl ?_
        refine z_ifeq hZ gEl_generate_39 (fun c39 => ?_) (fun c39 => absurd rfl c39)
        subst h120e
        exact kF f3 f4 _ _ (gMany_of hI hS (fun j hj e9 => hno ⟨j, hj, e9⟩))
      · show Z (63 + 3) _ (.inl 1 :: []) _
        rw [eW_in]
        refine z_istore_n hZ gEl_generate_66 rfl ?_
        refine z_iinc hZ gEl_generate_67 rfl _ (i1 k) rfl ?_
        refine z_goto hZ gEl_generate_70 ?_
        have hI2 := gI_new hg hI hlt hS (fun h9 => hno (hmem.mp h9))
        have up : ∀ m, m < cnt → va_up e cnt (pm (e nx) (gen k)) m = e m := fun m hm => va_up_ne _ _ (by omega)
        refine ih (k + 1) _ (cnt + 1) _ _ (by omega) hI2 (by omega) (fun n hn j hj => ?_) (fun j hj => ?_)
        · obtain ⟨m, hm, e9⟩ := hcl n hn j hj
          exact ⟨m, by omega, by rw [up m hm, up n (by omega)]; exact e9⟩
        · rw [up nx hnx]
          by_cases e9 : j = k
          · subst e9; exact ⟨cnt, by omega, va_up_self _ _ _⟩
          · obtain ⟨m, hm, e10⟩ := hkk j (by omega)
            exact ⟨m, by omega, by rw [up m hm]; exact e10⟩
      show Z (63 + 3) _ (.inl 1 :: []) _
      refine z_istore_n hZ gEl_generate_66 rfl ?_
      refine z_iinc hZ gEl_generate_67 rfl _ (i1 k) rfl ?_
      refine z_goto hZ gEl_generate_70 ?_
      refine ih (k + 1) e cnt f3 f4 (by omega) hI hnx hcl (fun j hj => ?_)
      by_cases e9 : j = k
      · subst e9; exact hin
      · exact hkk j (by omega)
  have bad : ∀ (f3 f4 : Nat → Int32) (cnt nx : Nat) x5, nx < 2 ^ 20 → gMany gen gc → Z 15 [some (.inr (2, 0)), some (.inr (1, 0)), some (.inl (nI gc)), some (.inl 0), some (.inl (nI nx)), x5] [] (eW a g i f3 f4 cnt) := by
    intro f3 f4 cnt nx x5 hnx hm
    have fin : Z 79 [some (.inr (2, 0)), some (.inr (1, 0)), some (.inl (nI gc)), some (.inl 0), some (.inl (nI nx)), x5] [] (eW a g i f3 f4 cnt) := by
      refine z_iload_n hZ gEl_generate_79 rfl ?_
      refine z_iret hZ gEl_generate_80 ?_
      exact ⟨f3, f4, cnt, rfl, Or.inr ⟨rfl, hm⟩⟩
    refine z_iload hZ gEl_generate_15 rfl ?_
    refine z_bipush hZ gEl_generate_17 _ i120 ?_
    refine z_cmpge hZ gEl_generate_19 (fun c19 => ?_) (fun c19 => ?_)
    · have ct19 := c19
      exact fin
    · have cf19 := c19
      refine z_iload_n hZ gEl_generate_22 rfl ?_
      refine z_ifeq hZ gEl_generate_23 (fun c23 => ?_) (fun c23 => absurd rfl c23)
      exact fin
  have outer : ∀ d nx e cnt f3 f4 x5, d + nx = 120 → gI gen gc f3 f4 e cnt → nx ≤ cnt → gClosed gen gc e cnt nx → Z 15 [some (.inr (2, 0)), some (.inr (1, 0)), some (.inl (nI gc)), some (.inl 1), some (.inl (nI nx)), x5] [] (eW a g i f3 f4 cnt) := by
    intro d
    induction d with
    | zero =>
      intro nx e cnt f3 f4 x5 hd hI hnx hcl
      have h120 := hI.1
      have e9 : nx = cnt := by omega
      have e10 : nx = 120 := by omega
      refine z_iload hZ gEl_generate_15 rfl ?_
      refine z_bipush hZ gEl_generate_17 _ i120 ?_
      refine z_cmpge hZ gEl_generate_19 (fun c19 => ?_) (fun c19 => absurd (nI_le (by omega) (by omega)) c19)
      refine z_iload_n hZ gEl_generate_79 rfl ?_
      refine z_iret hZ gEl_generate_80 ?_
      exact ⟨f3, f4, cnt, rfl, Or.inl ⟨rfl, e, hI, by rw [e9] at hcl; exact hcl⟩⟩
    | succ d ih =>
      intro nx e cnt f3 f4 x5 hd hI hnx hcl
      have h120 := hI.1
      refine z_iload hZ gEl_generate_15 rfl ?_
      refine z_bipush hZ gEl_generate_17 _ i120 ?_
      refine z_cmpge hZ gEl_generate_19 (fun c19 => absurd c19 (nI_ge (by omega) (by decide))) (fun c19 => ?_)
      refine z_iload_n hZ gEl_generate_22 rfl ?_
      refine z_ifeq hZ gEl_generate_23 (fun c23 => absurd c23 (by decide)) (fun c23 => ?_)
      refine z_iload hZ gEl_generate_26 rfl ?_
      refine z_aload_n hZ gEl_generate_28 rfl ?_
      refine z_get hZ gEl_generate_29 (by omega) rfl (by rw [va_up_self, va_up_self]; rfl) ?_
      refine z_cmpge hZ gEl_generate_32 (fun c32 => ?_) (fun c32 => ?_)
      · have ct32 := c32
        have hge : cnt ≤ nx := (nI_leI (by omega) (by omega)).mp ct32
        refine z_iload_n hZ gEl_generate_79 rfl ?_
        refine z_iret hZ gEl_generate_80 ?_
        have e9 : nx = cnt := by omega
        exact ⟨f3, f4, cnt, rfl, Or.inl ⟨rfl, e, hI, by rw [e9] at hcl; exact hcl⟩⟩
      · have cf32 := c32
        have hlt : nx < cnt := Nat.not_le.mp fun h9 => cf32 ((nI_leI (by omega) (by omega)).mpr h9)
        refine z_iconst hZ gEl_generate_35 _ rfl ?_
        refine z_istore hZ gEl_generate_36 rfl ?_
        refine inner gc nx (fun e cnt f3 f4 x5 hI hnx hcl => ?_) (fun f3 f4 cnt x5 hm => ?_) 0 e cnt f3 f4 rfl hI hlt hcl (fun j hj => absurd hj (Nat.not_lt_zero j))
        · refine z_iinc hZ gEl_generate_73 rfl _ (i1 nx) rfl ?_
          refine z_goto hZ gEl_generate_76 ?_
          exact ih (nx + 1) e cnt f3 f4 _ (by omega) hI hnx hcl
        · refine z_iinc hZ gEl_generate_73 rfl _ (i1 nx) rfl ?_
          refine z_goto hZ gEl_generate_76 ?_
          exact bad f3 f4 cnt (nx + 1) _ (by omega) hm
  have start : gI gen gc (ins (a 3) (kf (a 3) (nI pid) 0) 0 (nI pid)) (upd (a 4) 0 (nI pid)) (fun _ => pid) 1 := by
    have hk0 : kf (a 3) (nI pid) 0 = 0 := rfl
    rw [hk0]
    refine ⟨by decide, Nat.le_refl 1, fun u v h1 h2 => by omega, fun j hj => ?_, fun j hj => ?_, fun k hk => ?_, fun j k hj hk _ => by omega, rfl⟩
    · have : j = 0 := by omega
      subst this; rw [pk_us]; exact ⟨rfl, inS_id _ _⟩
    · have : j = 0 := by omega
      subst this; exact ⟨0, by omega, ins_at⟩
    · exact ⟨0, by omega, ins_at⟩
  refine z_aload_n hZ gEl_generate_0 rfl ?_
  refine z_iconst hZ gEl_generate_1 _ i0 ?_
  refine z_putW hZ gEl_generate_2 (by omega) rfl (Or.inl (by decide)) (Nat.le_of_ble_eq_true rfl) cW_i2_2 ?_
  refine z_aload_n hZ gEl_generate_5 rfl ?_
  refine z_ldc hZ gEl_generate_6 ?_
  refine z_cv hZ gEl_generate_8 rfl rfl (Nat.le_of_ble_eq_true rfl) (Nat.le_of_ble_eq_true rfl) ⟨⟨2, _, _, rfl, by decide, rfl⟩, fun l D E B A hB => c_El_include l D E B A hB (a := a) (i := va_up i 2 (va_up (i 2) 2 (nI 0))) (by rw [va_up_self, va_up_self]) (by decide) (fun u v h1 h2 => absurd h2 (Nat.not_lt_zero v)) _⟩ (fun r8 w8 p8 => ?_)
  rcases p8 with ⟨_, ⟨j, hj, _⟩, _⟩ | ⟨_, _, h9, _⟩ | ⟨rfl, _, _, rfl⟩
  · exact absurd hj (Nat.not_lt_zero j)
  · exact absurd h9 (by decide)
  show Z (8 + 3) _ (.inl 1 :: []) _
  have e9 := eW_in a g i (a 3) (a 4) 0 (nI pid)
  rw [va_id a (k := 3) rfl, va_id a (k := 4) rfl] at e9
  rw [show nI 342391 = nI pid from rfl, e9]
  refine z_istore_n hZ gEl_generate_11 rfl ?_
  refine z_iconst hZ gEl_generate_12 _ rfl ?_
  refine z_istore hZ gEl_generate_13 rfl ?_
  exact outer 120 0 (fun _ => pid) 1 _ _ _ rfl start (Nat.zero_le 1) (fun n hn => absurd hn (Nat.not_lt_zero n))

