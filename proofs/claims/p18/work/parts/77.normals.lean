-- the reference: sets in common
def andF (ker : Nat → Int32) : List Nat → Int32
  | [] => -1
  | r :: rs => ker r &&& andF ker rs
theorem and_m1 (x : Int32) : x &&& -1 = x := by
  apply Int32.toBitVec_inj.mp
  rw [Int32.toBitVec_and]
  exact BitVec.and_allOnes
theorem m1_and (x : Int32) : -1 &&& x = x := by rw [Int32.and_comm, and_m1]
theorem andF_app (ker : Nat → Int32) : ∀ rs ss, andF ker (rs ++ ss) = andF ker rs &&& andF ker ss
  | [], ss => (m1_and _).symm
  | r :: rs, ss => by
    show ker r &&& andF ker (rs ++ ss) = (ker r &&& andF ker rs) &&& andF ker ss
    rw [andF_app ker rs ss, Int32.and_assoc]
def inK (ker : Nat → Int32) (k : Nat) (x : Int32) : Prop := ∃ rs : List Nat, rs ≠ [] ∧ (∀ r, r ∈ rs → r < k) ∧ andF ker rs = x
theorem inK_1 {ker : Nat → Int32} {k r : Nat} (hr : r < k) : inK ker k (ker r) := ⟨[r], by simp, fun q hq => by rw [List.mem_singleton.mp hq]; exact hr, and_m1 _⟩
theorem inK_and {ker : Nat → Int32} {k : Nat} {x y : Int32} (hx : inK ker k x) (hy : inK ker k y) : inK ker k (x &&& y) := by
  obtain ⟨rs, h1, h2, rfl⟩ := hx
  obtain ⟨ss, h3, h4, rfl⟩ := hy
  exact ⟨rs ++ ss, by simp [h1], fun q hq => by
    rcases List.mem_append.mp hq with h | h
    · exact h2 q h
    · exact h4 q h, andF_app ker rs ss⟩
theorem inK_all {ker : Nat → Int32} {k : Nat} {P : Int32 → Prop} (h1 : ∀ r, r < k → P (ker r)) (h2 : ∀ x y, P x → P y → P (x &&& y)) {x : Int32} (hx : inK ker k x) : P x := by
  obtain ⟨rs, h3, h4, rfl⟩ := hx
  induction rs with
  | nil => exact absurd rfl h3
  | cons r rs ih =>
    by_cases e : rs = []
    · subst e
      show P (ker r &&& -1)
      rw [and_m1]
      exact h1 r (h4 r List.mem_cons_self)
    · exact h2 _ _ (h1 r (h4 r List.mem_cons_self)) (ih e (fun q hq => h4 q (List.mem_cons_of_mem _ hq)))
def nmA (L : List Int32) (x : Int32) : List Int32 := if x ∈ L then L else L ++ [x]
def nmF (L : List Int32) (f : Nat → Int32) : Prop := ∀ j, j < L.length → L[j]? = some (f j)
theorem nmF_mem {L : List Int32} {f : Nat → Int32} (h : nmF L f) (x : Int32) : x ∈ L ↔ ∃ j, j < L.length ∧ f j = x := by
  constructor
  · intro hx
    obtain ⟨j, hj, he⟩ := List.mem_iff_getElem.mp hx
    refine ⟨j, hj, ?_⟩
    have h1 := h j hj
    rw [List.getElem?_eq_getElem hj, he] at h1
    exact (Option.some.inj h1).symm
  · rintro ⟨j, hj, rfl⟩
    exact List.mem_of_getElem? (h j hj)
theorem nmA_pre (L : List Int32) (x : Int32) : ∃ R, nmA L x = L ++ R := by
  unfold nmA
  split
  · exact ⟨[], (List.append_nil L).symm⟩
  · exact ⟨[x], rfl⟩
theorem nmA_mem (L : List Int32) (x : Int32) : x ∈ nmA L x := by
  unfold nmA
  split
  · assumption
  · simp
theorem nmA_nd {L : List Int32} (h : L.Nodup) (x : Int32) : (nmA L x).Nodup := by
  unfold nmA
  split
  · exact h
  · rename_i hx
    exact List.nodup_append.mpr ⟨h, by simp, fun u hu v hv he => by
      rw [List.mem_singleton.mp hv] at he
      exact hx (by rw [← he]; exact hu)⟩
theorem nmA_len (L : List Int32) (x : Int32) : (nmA L x).length ≤ L.length + 1 := by
  unfold nmA
  split <;> simp
theorem nmA_in {L : List Int32} {x : Int32} {P : Int32 → Prop} (h : ∀ y, y ∈ L → P y) (hx : P x) : ∀ y, y ∈ nmA L x → P y := by
  unfold nmA
  split
  · exact h
  · intro y hy
    rcases List.mem_append.mp hy with h9 | h9
    · exact h y h9
    · rw [List.mem_singleton.mp h9]; exact hx
theorem pre_at {L L' : List Int32} {R : List Int32} (h : L' = L ++ R) {j : Nat} (hj : j < L.length) : L'[j]? = L[j]? := by
  rw [h, List.getElem?_append_left hj]

set_option maxHeartbeats 4000000 in
set_option maxRecDepth 100000 in
theorem c_Mo_insert (l : Launch) (D : va_G) (E : sx_E) (B : Nat) (A : Nat → Prop) (hB : 11 ≤ B) {a : sA} {i : sA} {L : List Int32} {x : Int32} (hL : nmF L (a 10)) (hl : L.length < 200) : sM l D E B A yMo_insert prog_9_method_48_code 4 (some .int) 0 0 [.inr (0, 0), .inl x, .inl (nI L.length)] (mW a i) (fun r w' => ∃ f : Nat → Int32, w' = mW (va_up a 10 f) i ∧ r = some (.inl (nI (nmA L x).length)) ∧ nmF (nmA L x) f) := by
  refine sx_m0 (ls := lMo_insert) (cs := noCalls) (by decide +kernel) kMo_insert (fun pc i h1 h2 => sx_nc (ls := lMo_insert) (by decide) pc i h1 h2) (by simp) (fun w' h => (by obtain ⟨_, _, h, _⟩ := h; cases h)) ?_
  intro Z hZ
  have loop : ∀ d m, d + m = L.length → (∀ u, u < m → a 10 u ≠ x) → Z 2 [some (.inr (0, 0)), some (.inl x), some (.inl (nI L.length)), some (.inl (nI m))] [] (mW a i) := by
    intro d
    induction d with
    | zero =>
      intro m hm hno
      have e9 : m = L.length := by omega
      rw [e9]
      have hx : x ∉ L := fun h9 => by
        obtain ⟨j, hj, he⟩ := (nmF_mem hL x).1 h9
        exact hno j (by omega) he
      have eA : nmA L x = L ++ [x] := if_neg hx
      have el := nI_clamp (n := L.length) (by omega)
      refine z_iload_n hZ gMo_insert_2 rfl ?_
      refine z_iload_n hZ gMo_insert_3 rfl ?_
      refine z_cmpge hZ gMo_insert_4 (fun c4 => ?_) (fun c4 => absurd (nI_le (Nat.le_refl L.length) (by omega)) c4)
      refine z_aload_n hZ gMo_insert_25 rfl ?_
      refine z_get hZ gMo_insert_26 (by omega) rfl rfl ?_
      refine z_iload_n hZ gMo_insert_29 rfl ?_
      refine z_iload_n hZ gMo_insert_30 rfl ?_
      refine z_iastW hZ gMo_insert_31 (by omega) rfl (vp_in_nI (by omega) (by decide)) mW_a10 ?_
      rw [el]
      refine z_iload_n hZ gMo_insert_32 rfl ?_
      refine z_iconst hZ gMo_insert_33 _ rfl ?_
      refine z_iadd hZ gMo_insert_34 _ (i1 _) ?_
      refine z_iret hZ gMo_insert_35 ?_
      refine ⟨upd (a 10) L.length x, rfl, by rw [eA, List.length_append]; rfl, fun j hj => ?_⟩
      rw [eA] at hj ⊢
      rw [List.length_append, List.length_singleton] at hj
      by_cases e8 : j = L.length
      · rw [e8, pk_us, List.getElem?_append_right (Nat.le_refl _), Nat.sub_self]; rfl
      · rw [pk_un e8, List.getElem?_append_left (by omega)]; exact hL j (by omega)
    | succ d ih =>
      intro m hm hno
      have em := nI_clamp (n := m) (by omega)
      refine z_iload_n hZ gMo_insert_2 rfl ?_
      refine z_iload_n hZ gMo_insert_3 rfl ?_
      refine z_cmpge hZ gMo_insert_4 (fun c4 => absurd c4 (nI_ge (by omega) (by omega))) (fun c4 => ?_)
      refine z_aload_n hZ gMo_insert_7 rfl ?_
      refine z_get hZ gMo_insert_8 (by omega) rfl rfl ?_
      refine z_iload_n hZ gMo_insert_11 rfl ?_
      refine z_iald hZ gMo_insert_12 (by omega) rfl (vp_in_nI (by omega) (by decide)) ?_
      rw [em]
      refine z_iload_n hZ gMo_insert_13 rfl ?_
      refine z_cmpne hZ gMo_insert_14 (fun c14 => ?_) (fun c14 => ?_)
      · have ct14 := c14
        refine z_iinc hZ gMo_insert_19 rfl _ (i1 m) rfl ?_
        refine z_goto hZ gMo_insert_22 ?_
        exact ih (m + 1) (by omega) (fun u hu he => by
          by_cases e : u = m
          · subst e; exact ct14 he
          · exact hno u (by omega) he)
      · have cf14 := c14
        have hx : x ∈ L := (nmF_mem hL x).2 ⟨m, by omega, c14⟩
        have eA : nmA L x = L := if_pos hx
        refine z_iload_n hZ gMo_insert_17 rfl ?_
        refine z_iret hZ gMo_insert_18 ?_
        exact ⟨a 10, by rw [va_id a (k := 10) rfl], by rw [eA], by rw [eA]; exact hL⟩
  refine z_iconst hZ gMo_insert_0 _ i0 ?_
  refine z_istore_n hZ gMo_insert_1 rfl ?_
  exact loop L.length 0 (by omega) (fun u hu => absurd hu (Nat.not_lt_zero u))

theorem i190 : (Int16.ofInt 190).toInt32 = nI 190 := by decide +kernel
abbrev keM (a : sA) (k r : Nat) : Int32 := nI (krB (fun q => decide (a 9 (16 * r + q) = a 8 r)) k)
def nmI (ker : Nat → Int32) (k : Nat) (L : List Int32) (f : Nat → Int32) : Prop := L.length ≤ 190 ∧ L.Nodup ∧ nmF L f ∧ (∀ x, x ∈ L → inK ker k x)
-- pairs below (x, y) have what they share
def nmP (L : List Int32) (f : Nat → Int32) (x : Nat) : Prop := ∀ s t, s < x → t < s → s < L.length → (f s &&& f t) ∈ L
theorem nm_end {ker : Nat → Int32} {k : Nat} {L : List Int32} {f : Nat → Int32} (h : nmI ker k L f) (hk : ∀ r, r < k → ker r ∈ L) (hp : nmP L f L.length) {x : Int32} (hx : inK ker k x) : x ∈ L := by
  refine inK_all (P := fun x => x ∈ L) hk (fun x y hx hy => ?_) hx
  obtain ⟨s, hs, rfl⟩ := (nmF_mem h.2.2.1 x).1 hx
  obtain ⟨t, ht, rfl⟩ := (nmF_mem h.2.2.1 y).1 hy
  rcases Nat.lt_trichotomy s t with h9 | h9 | h9
  · rw [Int32.and_comm]; exact hp t s ht h9 ht
  · subst h9; rw [Int32.and_self]; exact hx
  · exact hp s t hs h9 hs
theorem nmF_pre {L R : List Int32} {f f' : Nat → Int32} (h : nmF L f) (h' : nmF (L ++ R) f') {j : Nat} (hj : j < L.length) : f' j = f j := by
  have h1 := h j hj
  have h2 := h' j (by rw [List.length_append]; omega)
  rw [List.getElem?_append_left hj, h1] at h2
  exact (Option.some.inj h2).symm
theorem nmP_pre {L R : List Int32} {f f' : Nat → Int32} {x : Nat} (h : nmP L f x) (hx : x ≤ L.length) (hf : nmF L f) (hf' : nmF (L ++ R) f') : nmP (L ++ R) f' x := fun s t h1 h2 h3 => by
  rw [nmF_pre hf hf' (by omega), nmF_pre hf hf' (by omega)]
  exact List.mem_append_left _ (h s t h1 h2 (by omega))

set_option maxHeartbeats 4000000 in
set_option maxRecDepth 100000 in
theorem c_Mo_normals (l : Launch) (D : va_G) (E : sx_E) (B : Nat) (A : Nat → Prop) (hB : 11 ≤ B) {a : sA} {i : sA} {k : Nat} (hk : ¬ i 0 2 = 0 → k ≤ 16 ∧ i 0 6 = nI k) : sM l D E B A yMo_normals prog_9_method_49_code 4 (some .int) 2 44 [.inr (0, 0)] (mW a i) (fun r w' => (¬ i 0 2 = 0 ∧ ∃ (L : List Int32) (f : Nat → Int32), w' = mW (va_up a 10 f) i ∧ r = some (.inl (nI L.length)) ∧ L.Nodup ∧ (∀ x, x ∈ L → inK (keM a k) k x) ∧ (L.length < 190 → ∀ x, inK (keM a k) k x → x ∈ L)) ∨ (¬ ¬ i 0 2 = 0 ∧ r = some (.inl 0) ∧ w' = mW a i)) := by
  refine sx_m0 (ls := lMo_normals) (cs := csAll) (by decide +kernel) kMo_normals (hMo_normals l D E B A hB) (by simp) (fun w' h => (by rcases h with ⟨_, _, _, _, h, _⟩ | ⟨_, h, _⟩ <;> cases h)) ?_
  intro Z hZ
  by_cases hb : i 0 2 = 0
  · have hz : ∀ x1 x2 x3, Z 7 [some (.inr (0, 0)), x1, x2, x3] [] (mW a i) := by
      intro x1 x2 x3
      refine z_iconst hZ gMo_normals_7 _ rfl ?_
      refine z_iret hZ gMo_normals_8 ?_
      exact Or.inr ⟨fun h9 => h9 hb, rfl, rfl⟩
    refine z_aload_n hZ gMo_normals_0 rfl ?_
    refine z_get hZ gMo_normals_1 (by omega) rfl rfl ?_
    refine z_ifne hZ gMo_normals_4 (fun c4 => absurd hb c4) (fun c4 => ?_)
    exact hz _ _ _
  · obtain ⟨hk1, h6⟩ := hk hb
    have fin : ∀ (L : List Int32) (f : Nat → Int32) x2 x3, nmI (keM a k) k L f → (∀ r, r < k → keM a k r ∈ L) → (L.length < 190 → nmP L f L.length) → Z 97 [some (.inr (0, 0)), some (.inl (nI L.length)), x2, x3] [] (mW (va_up a 10 f) i) := by
      intro L f x2 x3 hI hker hP
      refine z_iload_n hZ gMo_normals_97 rfl ?_
      refine z_iret hZ gMo_normals_98 ?_
      exact Or.inl ⟨hb, L, f, rfl, rfl, hI.2.1, hI.2.2.2, fun h9 x hx => nm_end hI hker (hP h9) hx⟩
    have outer : ∀ d s (L : List Int32) (f : Nat → Int32) x3, d + s = 191 → s ≤ L.length → nmI (keM a k) k L f → (∀ r, r < k → keM a k r ∈ L) → nmP L f s → Z 40 [some (.inr (0, 0)), some (.inl (nI L.length)), some (.inl (nI s)), x3] [] (mW (va_up a 10 f) i) := by
      intro d
      induction d with
      | zero =>
        intro s L f x3 hd hs hI hker hP
        have := hI.1
        omega
      | succ d ih =>
        intro s L f x3 hd hs hI hker hP
        have hl190 := hI.1
        by_cases hsl : s = L.length
        · rw [hsl] at hP ⊢
          refine z_iload_n hZ gMo_normals_40 rfl ?_
          refine z_iload_n hZ gMo_normals_41 rfl ?_
          refine z_cmpge hZ gMo_normals_42 (fun c42 => ?_) (fun c42 => absurd (nI_le (Nat.le_refl L.length) (by omega)) c42)
          exact fin L f _ _ hI hker (fun _ => hP)
        · by_cases h190 : L.length = 190
          · have e190 : nI L.length = nI 190 := by rw [h190]
            refine z_iload_n hZ gMo_normals_40 rfl ?_
            refine z_iload_n hZ gMo_normals_41 rfl ?_
            refine z_cmpge hZ gMo_normals_42 (fun c42 => absurd c42 (nI_ge (by omega) (by omega))) (fun c42 => ?_)
            refine z_iload_n hZ gMo_normals_45 rfl ?_
            refine z_sipush hZ gMo_normals_46 _ i190 ?_
            refine z_cmpge hZ gMo_normals_49 (fun c49 => ?_) (fun c49 => absurd (by rw [e190]; exact nI_le (Nat.le_refl 190) (by decide)) c49)
            exact fin L f _ _ hI hker (fun h9 => by omega)
          · have inner : ∀ d2 t (L : List Int32) (f : Nat → Int32), d2 + t = s → s < L.length → nmI (keM a k) k L f → (∀ r, r < k → keM a k r ∈ L) → nmP L f s → (∀ q, q < t → (f s &&& f q) ∈ L) → Z 54 [some (.inr (0, 0)), some (.inl (nI L.length)), some (.inl (nI s)), some (.inl (nI t))] [] (mW (va_up a 10 f) i) := by
              intro d2
              induction d2 with
              | zero =>
                intro t L f hd2 hsl hI hker hP hin
                have e9 : t = s := by omega
                rw [e9] at hin ⊢
                have hl190 := hI.1
                refine z_iload_n hZ gMo_normals_54 rfl ?_
                refine z_iload_n hZ gMo_normals_55 rfl ?_
                refine z_cmpge hZ gMo_normals_56 (fun c56 => ?_) (fun c56 => absurd (nI_le (Nat.le_refl s) (by omega)) c56)
                refine z_iinc hZ gMo_normals_91 rfl _ (i1 s) rfl ?_
                refine z_goto hZ gMo_normals_94 ?_
                refine ih (s + 1) L f _ (by omega) (by omega) hI hker (fun s9 t9 h1 h2 h3 => ?_)
                by_cases e8 : s9 = s
                · rw [e8] at h2 ⊢; exact hin t9 h2
                · exact hP s9 t9 (by omega) h2 h3
              | succ d2 ih2 =>
                intro t L f hd2 hsl hI hker hP hin
                have hl190 := hI.1
                have es := nI_clamp (n := s) (by omega)
                have et := nI_clamp (n := t) (by omega)
                by_cases h190 : L.length = 190
                · have e190 : nI L.length = nI 190 := by rw [h190]
                  refine z_iload_n hZ gMo_normals_54 rfl ?_
                  refine z_iload_n hZ gMo_normals_55 rfl ?_
                  refine z_cmpge hZ gMo_normals_56 (fun c56 => absurd c56 (nI_ge (by omega) (by omega))) (fun c56 => ?_)
                  refine z_iload_n hZ gMo_normals_59 rfl ?_
                  refine z_sipush hZ gMo_normals_60 _ i190 ?_
                  refine z_cmpge hZ gMo_normals_63 (fun c63 => ?_) (fun c63 => absurd (by rw [e190]; exact nI_le (Nat.le_refl 190) (by decide)) c63)
                  refine z_iinc hZ gMo_normals_91 rfl _ (i1 s) rfl ?_
                  refine z_goto hZ gMo_normals_94 ?_
                  have stop : Z 40 [some (.inr (0, 0)), some (.inl (nI L.length)), some (.inl (nI (s + 1))), some (.inl (nI t))] [] (mW (va_up a 10 f) i) := by
                    by_cases h8 : s + 1 = L.length
                    · rw [h8]
                      refine z_iload_n hZ gMo_normals_40 rfl ?_
                      refine z_iload_n hZ gMo_normals_41 rfl ?_
                      refine z_cmpge hZ gMo_normals_42 (fun c42 => ?_) (fun c42 => absurd (nI_le (Nat.le_refl L.length) (by omega)) c42)
                      exact fin L f _ _ hI hker (fun h9 => by omega)
                    · skip
                      refine z_iload_n hZ gMo_normals_40 rfl ?_
                      refine z_iload_n hZ gMo_normals_41 rfl ?_
                      refine z_cmpge hZ gMo_normals_42 (fun c42 => absurd c42 (nI_ge (by omega) (by omega))) (fun c42 => ?_)
                      refine z_iload_n hZ gMo_normals_45 rfl ?_
                      refine z_sipush hZ gMo_normals_46 _ i190 ?_
                      refine z_cmpge hZ gMo_normals_49 (fun c49 => ?_) (fun c49 => absurd (by rw [e190]; exact nI_le (Nat.le_refl 190) (by decide)) c49)
                      exact fin L f _ _ hI hker (fun h9 => by omega)
                  exact stop
                · skip
                  refine z_iload_n hZ gMo_normals_54 rfl ?_
                  refine z_iload_n hZ gMo_normals_55 rfl ?_
                  refine z_cmpge hZ gMo_normals_56 (fun c56 => absurd c56 (nI_ge (by omega) (by omega))) (fun c56 => ?_)
                  refine z_iload_n hZ gMo_normals_59 rfl ?_
                  refine z_sipush hZ gMo_normals_60 _ i190 ?_
                  refine z_cmpge hZ gMo_normals_63 (fun c63 => absurd c63 (nI_ge (by omega) (by decide))) (fun c63 => ?_)
                  refine z_aload_n hZ gMo_normals_66 rfl ?_
                  refine z_aload_n hZ gMo_normals_67 rfl ?_
                  refine z_get hZ gMo_normals_68 (by omega) rfl rfl ?_
                  refine z_iload_n hZ gMo_normals_71 rfl ?_
                  refine z_iald hZ gMo_normals_72 (by omega) rfl (vp_in_nI (by omega) (by decide)) ?_
                  rw [es, va_up_self]
                  refine z_aload_n hZ gMo_normals_73 rfl ?_
                  refine z_get hZ gMo_normals_74 (by omega) rfl rfl ?_
                  refine z_iload_n hZ gMo_normals_77 rfl ?_
                  refine z_iald hZ gMo_normals_78 (by omega) rfl (vp_in_nI (by omega) (by decide)) ?_
                  rw [et, va_up_self]
                  refine z_iand hZ gMo_normals_79 _ rfl ?_
                  refine z_iload_n hZ gMo_normals_80 rfl ?_
                  refine z_cv hZ gMo_normals_81 rfl rfl (Nat.le_of_ble_eq_true rfl) (Nat.le_of_ble_eq_true rfl) ⟨⟨0, _, _, rfl, by decide, rfl⟩, fun l9 D E B A hB => c_Mo_insert l9 D E B A hB (L := L) (x := f s &&& f t) (by rw [va_up_self]; exact hI.2.2.1) (by omega)⟩ (fun r81 w81 p81 => ?_)
                  obtain ⟨f2, rfl, rfl, hf2⟩ := p81
                  rw [va_uu]
                  obtain ⟨R, hR⟩ := nmA_pre L (f s &&& f t)
                  have hlen := nmA_len L (f s &&& f t)
                  have hLl : L.length ≤ (nmA L (f s &&& f t)).length := by rw [hR, List.length_append]; omega
                  have hfR : nmF (L ++ R) f2 := by rw [← hR]; exact hf2
                  have e1 : f2 s = f s := nmF_pre hI.2.2.1 hfR hsl
                  have e2 : ∀ q, q < s → f2 q = f q := fun q hq => nmF_pre hI.2.2.1 hfR (by omega)
                  show Z (81 + 3) _ (.inl (nI (nmA L (f s &&& f t)).length) :: []) _
                  refine z_istore_n hZ gMo_normals_84 rfl ?_
                  refine z_iinc hZ gMo_normals_85 rfl _ (i1 t) rfl ?_
                  refine z_goto hZ gMo_normals_88 ?_
                  refine ih2 (t + 1) (nmA L (f s &&& f t)) f2 (by omega) (by omega) ⟨by omega, nmA_nd hI.2.1 _, hf2, nmA_in hI.2.2.2 (inK_and (hI.2.2.2 _ ((nmF_mem hI.2.2.1 _).2 ⟨s, hsl, rfl⟩)) (hI.2.2.2 _ ((nmF_mem hI.2.2.1 _).2 ⟨t, by omega, rfl⟩)))⟩ (fun r hr => by rw [hR]; exact List.mem_append_left _ (hker r hr)) (by rw [hR]; exact nmP_pre hP (by omega) hI.2.2.1 hfR) (fun q hq => ?_)
                  rw [e1, e2 q (by omega)]
                  by_cases e8 : q = t
                  · rw [e8]; exact nmA_mem L _
                  · rw [hR]; exact List.mem_append_left _ (hin q (by omega))
            skip
            refine z_iload_n hZ gMo_normals_40 rfl ?_
            refine z_iload_n hZ gMo_normals_41 rfl ?_
            refine z_cmpge hZ gMo_normals_42 (fun c42 => absurd c42 (nI_ge (by omega) (by omega))) (fun c42 => ?_)
            refine z_iload_n hZ gMo_normals_45 rfl ?_
            refine z_sipush hZ gMo_normals_46 _ i190 ?_
            refine z_cmpge hZ gMo_normals_49 (fun c49 => absurd c49 (nI_ge (by omega) (by decide))) (fun c49 => ?_)
            refine z_iconst hZ gMo_normals_52 _ i0 ?_
            refine z_istore_n hZ gMo_normals_53 rfl ?_
            exact inner s 0 L f (by omega) (by omega) hI hker hP (fun q hq => absurd hq (Nat.not_lt_zero q))
    have rows : ∀ d r (L : List Int32) (f : Nat → Int32) x3, d + r = k → L.length ≤ r → nmI (keM a k) k L f → (∀ q, q < r → keM a k q ∈ L) → Z 13 [some (.inr (0, 0)), some (.inl (nI L.length)), some (.inl (nI r)), x3] [] (mW (va_up a 10 f) i) := by
      intro d
      induction d with
      | zero =>
        intro r L f x3 hd hlr hI hker
        have e9 : r = k := by omega
        rw [e9] at hker ⊢
        refine z_iload_n hZ gMo_normals_13 rfl ?_
        refine z_aload_n hZ gMo_normals_14 rfl ?_
        refine z_get hZ gMo_normals_15 (by omega) rfl (by rw [h6]; rfl) ?_
        refine z_cmpge hZ gMo_normals_18 (fun c18 => ?_) (fun c18 => absurd (nI_le (Nat.le_refl k) (by omega)) c18)
        refine z_iconst hZ gMo_normals_38 _ i0 ?_
        refine z_istore_n hZ gMo_normals_39 rfl ?_
        exact outer 191 0 L f _ (by omega) (Nat.zero_le _) hI hker (fun s t h1 => absurd h1 (Nat.not_lt_zero s))
      | succ d ih =>
        intro r L f x3 hd hlr hI hker
        have hr : r < k := by omega
        refine z_iload_n hZ gMo_normals_13 rfl ?_
        refine z_aload_n hZ gMo_normals_14 rfl ?_
        refine z_get hZ gMo_normals_15 (by omega) rfl (by rw [h6]; rfl) ?_
        refine z_cmpge hZ gMo_normals_18 (fun c18 => absurd c18 (nI_ge (by omega) (by omega))) (fun c18 => ?_)
        refine z_aload_n hZ gMo_normals_21 rfl ?_
        refine z_aload_n hZ gMo_normals_22 rfl ?_
        refine z_iload_n hZ gMo_normals_23 rfl ?_
        refine z_cv hZ gMo_normals_24 rfl rfl (Nat.le_of_ble_eq_true rfl) (Nat.le_of_ble_eq_true rfl) ⟨⟨0, _, _, rfl, by decide, rfl⟩, fun l9 D E B A hB => c_Mo_kernel l9 D E B A hB (a := va_up a 10 f) (k := k) (x := nI r) hk⟩ (fun r24 w24 p24 => ?_)
        obtain ⟨h24, rfl⟩ := p24
        have hr24 : r24 = some (.inl (keM a k r)) := by
          rcases h24 with ⟨_, j, hj, hx, hr9⟩ | ⟨h9, _⟩
          · have e1 := (nI_eq (by omega) (by omega)).mp hx
            subst e1
            rw [hr9, va_up_ne _ _ (show (9 : Nat) ≠ 10 by decide), va_up_ne _ _ (show (8 : Nat) ≠ 10 by decide)]
          · exact absurd ⟨hb, r, hr, rfl⟩ h9
        subst hr24
        show Z (24 + 3) _ (.inl (keM a k r) :: .inr (0, 0) :: []) _
        refine z_iload_n hZ gMo_normals_27 rfl ?_
        refine z_cv hZ gMo_normals_28 rfl rfl (Nat.le_of_ble_eq_true rfl) (Nat.le_of_ble_eq_true rfl) ⟨⟨0, _, _, rfl, by decide, rfl⟩, fun l9 D E B A hB => c_Mo_insert l9 D E B A hB (L := L) (x := keM a k r) (by rw [va_up_self]; exact hI.2.2.1) (by omega)⟩ (fun r28 w28 p28 => ?_)
        obtain ⟨f2, rfl, rfl, hf2⟩ := p28
        rw [va_uu]
        obtain ⟨R, hR⟩ := nmA_pre L (keM a k r)
        have hlen := nmA_len L (keM a k r)
        show Z (28 + 3) _ (.inl (nI (nmA L (keM a k r)).length) :: []) _
        refine z_istore_n hZ gMo_normals_31 rfl ?_
        refine z_iinc hZ gMo_normals_32 rfl _ (i1 r) rfl ?_
        refine z_goto hZ gMo_normals_35 ?_
        refine ih (r + 1) (nmA L (keM a k r)) f2 _ (by omega) (by omega) ⟨by omega, nmA_nd hI.2.1 _, hf2, nmA_in hI.2.2.2 (inK_1 hr)⟩ (fun q hq => ?_)
        by_cases e8 : q = r
        · rw [e8]; exact nmA_mem L _
        · rw [hR]; exact List.mem_append_left _ (hker q (by omega))
    skip
    refine z_aload_n hZ gMo_normals_0 rfl ?_
    refine z_get hZ gMo_normals_1 (by omega) rfl rfl ?_
    refine z_ifne hZ gMo_normals_4 (fun c4 => ?_) (fun c4 => absurd c4 hb)
    refine z_iconst hZ gMo_normals_9 _ i0 ?_
    refine z_istore_n hZ gMo_normals_10 rfl ?_
    refine z_iconst hZ gMo_normals_11 _ i0 ?_
    refine z_istore_n hZ gMo_normals_12 rfl ?_
    have h9 := rows k 0 [] (a 10) none (by omega) (Nat.le_refl 0) ⟨by decide, List.nodup_nil, fun j hj => absurd hj (Nat.not_lt_zero j), fun x hx => absurd hx List.not_mem_nil⟩ (fun q hq => absurd hq (Nat.not_lt_zero q))
    rw [va_id a (k := 10) rfl] at h9
    exact h9

