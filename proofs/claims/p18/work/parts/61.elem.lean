-- the reference: the elements, pure
def gJ (gen : Nat → Nat) (gc : Nat) (f : Nat → Int32) (e : Nat → Nat) (cnt : Nat) : Prop := cnt ≤ 120 ∧ 1 ≤ cnt ∧ (∀ j, j < cnt → f j = nI (e j) ∧ inS gen gc (e j)) ∧ (∀ j k, j < cnt → k < cnt → e j = e k → j = k) ∧ e 0 = pid
theorem gJ_new {gen : Nat → Nat} {gc cnt c : Nat} {f : Nat → Int32} {e : Nat → Nat} (h : gJ gen gc f e cnt) (hlt : cnt < 120) (hc : inS gen gc c) (hno : ∀ u, u < cnt → f u ≠ nI c) : gJ gen gc (upd f cnt (nI c)) (va_up e cnt c) (cnt + 1) := by
  obtain ⟨h1, h2, h3, h4, h5⟩ := h
  refine ⟨by omega, by omega, fun j hj => ?_, fun j k hj hk he => ?_, by rw [va_up_ne _ _ (by omega)]; exact h5⟩
  · by_cases e9 : j = cnt
    · subst e9; rw [pk_us, va_up_self]; exact ⟨rfl, hc⟩
    · rw [pk_un e9, va_up_ne _ _ e9]; exact h3 j (by omega)
  · by_cases e1 : j = cnt <;> by_cases e2 : k = cnt
    · omega
    · subst e1
      rw [va_up_self, va_up_ne _ _ e2] at he
      exact absurd (by rw [(h3 k (by omega)).1, he]) (hno k (by omega))
    · subst e2
      rw [va_up_self, va_up_ne _ _ e1] at he
      exact absurd (by rw [(h3 j (by omega)).1, he]) (hno j (by omega))
    · rw [va_up_ne _ _ e1, va_up_ne _ _ e2] at he
      exact h4 j k (by omega) (by omega) he
theorem gJ_many {gen : Nat → Nat} {gc c : Nat} {f : Nat → Int32} {e : Nat → Nat} (h : gJ gen gc f e 120) (hc : inS gen gc c) (hno : ∀ u, u < 120 → f u ≠ nI c) : gMany gen gc := by
  obtain ⟨h1, h2, h3, h4, h5⟩ := h
  refine ⟨c :: (List.range 120).map e, by simp, List.nodup_cons.mpr ⟨fun hm => ?_, ?_⟩, fun x hx => ?_⟩
  · obtain ⟨k, hk, e9⟩ := List.mem_map.mp hm
    exact hno k (List.mem_range.mp hk) (by rw [(h3 k (List.mem_range.mp hk)).1, e9])
  · exact List.pairwise_map.mpr (List.Pairwise.imp_of_mem (fun {u v} hu hv huv he => by
      have := h4 u v (List.mem_range.mp hu) (List.mem_range.mp hv) he
      omega) List.pairwise_lt_range)
  · rcases List.mem_cons.mp hx with rfl | hx
    · exact hc
    · obtain ⟨k, hk, rfl⟩ := List.mem_map.mp hx
      exact (h3 k (List.mem_range.mp hk)).2
theorem gC_up {gen : Nat → Nat} {gc cnt nx c : Nat} {e : Nat → Nat} (h : gClosed gen gc e cnt nx) (hx : nx ≤ cnt) : gClosed gen gc (va_up e cnt c) (cnt + 1) nx := fun n hn k hk => by
  obtain ⟨m, hm, he⟩ := h n hn k hk
  exact ⟨m, by omega, by rw [va_up_ne _ _ (by omega), va_up_ne _ _ (by omega)]; exact he⟩
theorem gJ_all {gen : Nat → Nat} {gc cnt : Nat} {f : Nat → Int32} {e : Nat → Nat} (h : gJ gen gc f e cnt) (hcl : gClosed gen gc e cnt cnt) {c : Nat} (hc : inS gen gc c) : ∃ k, k < cnt ∧ e k = c := by
  obtain ⟨h1, h2, h3, h4, h5⟩ := h
  refine inS_all (P := fun c => ∃ k, k < cnt ∧ e k = c) ⟨0, by omega, h5⟩ (fun c k hc hk => ?_) hc
  obtain ⟨m, hm, rfl⟩ := hc
  exact hcl m hm k hk
-- the turning of places when what lies at k goes to t
def sgN (t k j : Nat) : Nat := if j < t then j else if j = t then k else if j ≤ k then j - 1 else j
theorem sgN_lt {t k n j : Nat} (ht : t ≤ k) (hk : k < n) (hj : j < n) : sgN t k j < n := by
  unfold sgN
  split
  · exact hj
  · split
    · exact hk
    · split <;> omega
theorem sgN_inj {t k i j : Nat} (ht : t ≤ k) (h : sgN t k i = sgN t k j) : i = j := by
  unfold sgN at h
  split at h <;> split at h <;> (try split at h) <;> (try split at h) <;> (try split at h) <;> (try split at h) <;> omega
theorem sgN_on {t k n j : Nat} (ht : t ≤ k) (hk : k < n) (hj : j < n) : ∃ i, i < n ∧ sgN t k i = j := by
  by_cases h1 : j < t
  · exact ⟨j, hj, by unfold sgN; rw [if_pos h1]⟩
  · by_cases h2 : j < k
    · exact ⟨j + 1, by omega, by unfold sgN; rw [if_neg (by omega), if_neg (by omega), if_pos (by omega)]; omega⟩
    · by_cases h3 : j = k
      · exact ⟨t, by omega, by unfold sgN; rw [if_neg (by omega), if_pos rfl, h3]⟩
      · exact ⟨j, hj, by unfold sgN; rw [if_neg (by omega), if_neg (by omega), if_neg (by omega)]⟩
theorem sgN_up {e : Nat → Nat} {t k : Nat} (ht : t ≤ k) (hs : ∀ u v, u < v → v < k → e u < e v) (h1 : ∀ u, u < t → e u < e k) (h2 : ∀ u, t ≤ u → u < k → e k < e u) : ∀ u v, u < v → v < k + 1 → e (sgN t k u) < e (sgN t k v) := by
  intro u v huv hv
  unfold sgN
  by_cases a1 : u < t
  · rw [if_pos a1]
    by_cases b1 : v < t
    · rw [if_pos b1]; exact hs u v huv (by omega)
    · rw [if_neg b1]
      by_cases b2 : v = t
      · rw [if_pos b2]; exact h1 u a1
      · rw [if_neg b2, if_pos (by omega)]
        exact hs u (v - 1) (by omega) (by omega)
  · rw [if_neg a1, if_neg (show ¬ v < t by omega), if_neg (show ¬ v = t by omega), if_pos (show v ≤ k by omega)]
    by_cases a2 : u = t
    · rw [if_pos a2]; exact h2 (v - 1) (by omega) (by omega)
    · rw [if_neg a2, if_pos (by omega)]
      exact hs (u - 1) (v - 1) (by omega) (by omega)
-- fields of the reference
def frM (L : List Nat) (i i' : sA) : Prop := ∀ q, q ∉ L → i' 0 q = i 0 q
theorem frM_up {L : List Nat} {i i' : sA} {q : Nat} {x : Int32} (h : frM L i i') (hq : q ∈ L) : frM L i (va_up i' 0 (va_up (i' 0) q x)) := fun y hy => by
  rw [va_up_self, va_up_ne _ _ (fun e => hy (by rw [e]; exact hq))]
  exact h y hy
theorem mW_i (a i : sA) (j : sA) (h : ∀ q, i 0 q = j 0 q) : mW a i = mW a j := by
  have e : i 0 = j 0 := funext h
  funext n
  unfold mW
  rw [e]
-- what the insertion has done up to k
def soI (e0 : Nat → Nat) (cnt : Nat) (f : Nat → Int32) (e : Nat → Nat) (k : Nat) : Prop := (∀ j, j < cnt → f j = nI (e j)) ∧ (∀ c, (∃ j, j < cnt ∧ e j = c) ↔ ∃ j, j < cnt ∧ e0 j = c) ∧ (∀ i j, i < cnt → j < cnt → e i = e j → i = j) ∧ (∀ u v, u < v → v < k → e u < e v)
theorem soI_step {e0 e : Nat → Nat} {cnt k t : Nat} {f f' : Nat → Int32} (h : soI e0 cnt f e k) (ht : t ≤ k) (hk : k < cnt) (h1 : ∀ u, u < t → e u < e k) (h2 : ∀ u, t ≤ u → u < k → e k < e u) (hf : ∀ j, j < cnt → f' j = nI (e (sgN t k j))) : soI e0 cnt f' (fun j => e (sgN t k j)) (k + 1) := by
  obtain ⟨q1, q2, q3, q4⟩ := h
  refine ⟨hf, fun c => ⟨fun ⟨j, hj, hc⟩ => (q2 c).1 ⟨_, sgN_lt ht hk hj, hc⟩, fun hc => ?_⟩, fun x y hx hy he => sgN_inj ht (q3 _ _ (sgN_lt ht hk hx) (sgN_lt ht hk hy) he), sgN_up ht q4 h1 h2⟩
  obtain ⟨j, hj, hc⟩ := (q2 c).2 hc
  obtain ⟨x, hx, hxj⟩ := sgN_on ht hk hj
  exact ⟨x, hx, by show e (sgN t k x) = c; rw [hxj]; exact hc⟩
theorem soI_elS {gen : Nat → Nat} {gc cnt : Nat} {f f' : Nat → Int32} {e e' : Nat → Nat} (hg : ∀ k, k < gc → isP (gen k)) (h : gJ gen gc f e cnt) (hcl : gClosed gen gc e cnt cnt) (hs : soI e cnt f' e' cnt) : elS gen gc e' cnt ∧ (∀ j, j < cnt → f' j = nI (e' j)) ∧ ∀ j, j < cnt → e' j < 8 ^ 8 := by
  have hA := fun c => gJ_all (c := c) h hcl
  obtain ⟨h1, h2, h3, h4, h5⟩ := h
  obtain ⟨q1, q2, q3, q4⟩ := hs
  have hI : ∀ c, inS gen gc c ↔ ∃ j, j < cnt ∧ e' j = c := fun c => ⟨fun hc => (q2 c).2 (hA c hc), fun hc => by
    obtain ⟨j, hj, rfl⟩ := (q2 c).1 hc
    exact (h3 j hj).2⟩
  exact ⟨⟨h2, h1, q4, hI⟩, q1, fun j hj => (inS_P hg ((hI _).2 ⟨j, hj, rfl⟩)).1⟩

