-- the reference: the elements
theorem nI_nm1 {j : Nat} (h : j < 2 ^ 31) : ¬ nI j = Int32.ofInt (-1) := fun h8 => by
  have h7 : ¬ nI j < 0 := nI_pos h
  rw [h8] at h7
  exact h7 (by decide)

set_option maxHeartbeats 4000000 in
set_option maxRecDepth 100000 in
theorem c_Mo_close (l : Launch) (D : va_G) (E : sx_E) (B : Nat) (A : Nat → Prop) (hB : 11 ≤ B) {a : sA} {i : sA} {gen : Nat → Nat} {gc : Nat} (hgc : gc ≤ 4) (hgi : i 0 0 = nI gc) (h1 : ∀ k, k < gc → a 1 k = nI (gen k)) (hg : ∀ k, k < gc → isP (gen k)) : sM l D E B A yMo_close prog_9_method_9_code 4 (some .boolean) 2 45 [.inr (0, 0)] (mW a i) (fun r w' => ∃ a' i' : sA, w' = mW a' i' ∧ frA [2] a a' ∧ frM [3] i i' ∧ ((r = some (.inl 1) ∧ ∃ (s : Nat → Nat) (n : Nat), elS gen gc s n ∧ i' 0 3 = nI n ∧ (∀ j, j < n → a' 2 j = nI (s j)) ∧ ∀ j, j < n → s j < 8 ^ 8) ∨ (r = some (.inl 0) ∧ gMany gen gc))) := by
  refine sx_m0 (ls := lMo_close) (cs := csAll) (by decide +kernel) kMo_close (hMo_close l D E B A hB) (by simp) (⟨fun w' h => (by obtain ⟨_, _, _, _, _, ⟨h, _⟩ | ⟨h, _⟩⟩ := h <;> cases h), fun x9 w' h => (by obtain ⟨_, _, _, _, _, ⟨h, _⟩ | ⟨h, _⟩⟩ := h <;> (injection h with h; injection h with h; subst h; simp))⟩) ?_
  intro Z hZ
  have hgi' : ∀ i' : sA, frM [3] i i' → i' 0 0 = nI gc := fun i' h => by rw [h 0 (by decide)]; exact hgi
  have sort : ∀ (e0 : Nat → Nat) (cnt : Nat) (f0 : Nat → Int32), gJ gen gc f0 e0 cnt → gClosed gen gc e0 cnt cnt → ∀ n k (f : Nat → Int32) (e : Nat → Nat) (a' i' : sA) x2 x3, n + k = cnt → frA [2] a a' → frM [3] i i' → i' 0 3 = nI cnt → a' 2 = f → soI e0 cnt f e k → Z 103 [some (.inr (0, 0)), some (.inl (nI k)), x2, x3] [] (mW a' i') := by
    intro e0 cnt f0 hJ hcl n
    have hc120 := hJ.1
    induction n with
    | zero =>
      intro k f e a' i' x2 x3 hn hfa hfi hi3 ha2 hso
      have e9 : k = cnt := by omega
      subst e9
      refine z_iload_n hZ gMo_close_103 rfl ?_
      refine z_aload_n hZ gMo_close_104 rfl ?_
      refine z_get hZ gMo_close_105 (by omega) rfl (by rw [hi3]; rfl) ?_
      refine z_cmpge hZ gMo_close_108 (fun c108 => ?_) (fun c108 => absurd (nI_le (Nat.le_refl k) (by omega)) c108)
      refine z_iconst hZ gMo_close_169 _ rfl ?_
      refine z_iret hZ gMo_close_170 ?_
      obtain ⟨s1, s2, s3⟩ := soI_elS hg hJ hcl hso
      exact ⟨a', i', rfl, hfa, hfi, Or.inl ⟨rfl, e, k, s1, hi3, by rw [ha2]; exact s2, s3⟩⟩
    | succ n ih =>
      intro k f e a' i' x2 x3 hn hfa hfi hi3 ha2 hso
      have hk : k < cnt := by omega
      have ek : (nI k).toNatClampNeg = k := nI_clamp (by omega)
      have he8 : ∀ j, j < cnt → e j < 2 ^ 31 := fun j hj => by
        obtain ⟨x, hx, hxe⟩ := (hso.2.1 (e j)).1 ⟨j, hj, rfl⟩
        rw [← hxe]
        exact Nat.lt_trans (inS_P hg (hJ.2.2.1 x hx).2).1 (by decide)
      have fin : ∀ t (f1 : Nat → Int32) (a1 : sA), t ≤ k → frA [2] a a1 → a1 2 = f1 → (∀ j, j < cnt → j ≠ t → f1 j = nI (e (sgN t k j))) → (∀ u, u < t → e u < e k) → (∀ u, t ≤ u → u < k → e k < e u) → Z 156 [some (.inr (0, 0)), some (.inl (nI k)), some (.inl (nI (e k))), some (.inl (nI t))] [] (mW a1 i') := by
        intro t f1 a1 ht hfa1 ha1 hf1 hu1 hu2
        have et : (nI t).toNatClampNeg = t := nI_clamp (by omega)
        refine z_aload_n hZ gMo_close_156 rfl ?_
        refine z_get hZ gMo_close_157 (by omega) rfl rfl ?_
        refine z_iload_n hZ gMo_close_160 rfl ?_
        refine z_iload_n hZ gMo_close_161 rfl ?_
        refine z_iastW hZ gMo_close_162 (by omega) rfl (vp_in_nI (by omega) (by decide)) mW_a2 ?_
        rw [et]
        refine z_iinc hZ gMo_close_163 rfl _ (i1 k) rfl ?_
        refine z_goto hZ gMo_close_166 ?_
        refine ih (k + 1) _ (fun j => e (sgN t k j)) _ i' _ _ (by omega) (frA_up hfa1 (by decide)) hfi hi3 (va_up_self _ _ _) (soI_step hso ht hk hu1 hu2 (fun j hj => ?_))
        by_cases e9 : j = t
        · subst e9
          rw [pk_us]
          unfold sgN
          rw [if_neg (Nat.lt_irrefl j), if_pos rfl]
        · rw [pk_un e9, ha1]; exact hf1 j hj e9
      have inner : ∀ t (f1 : Nat → Int32) (a1 : sA), t ≤ k → frA [2] a a1 → a1 2 = f1 → (∀ j, j < cnt → j ≠ t → f1 j = nI (e (sgN t k j))) → (∀ u, t ≤ u → u < k → e k < e u) → Z 120 [some (.inr (0, 0)), some (.inl (nI k)), some (.inl (nI (e k))), some (.inl (nI t))] [] (mW a1 i') := by
        intro t
        induction t with
        | zero =>
          intro f1 a1 ht hfa1 ha1 hf1 hu2
          refine z_iload_n hZ gMo_close_120 rfl ?_
          refine z_ifle hZ gMo_close_121 (fun c121 => ?_) (fun c121 => absurd (show nI 0 ≤ 0 by decide) c121)
          exact fin 0 f1 a1 ht hfa1 ha1 hf1 (fun u hu => absurd hu (Nat.not_lt_zero u)) hu2
        | succ t iht =>
          intro f1 a1 ht hfa1 ha1 hf1 hu2
          have et : (nI t).toNatClampNeg = t := nI_clamp (by omega)
          have et1 : (nI (t + 1)).toNatClampNeg = t + 1 := nI_clamp (by omega)
          have ft : a1 2 t = nI (e t) := by
            rw [ha1, hf1 t (by omega) (by omega)]
            unfold sgN
            rw [if_pos (Nat.lt_succ_self t)]
          have hl := he8 t (by omega)
          have hlk := he8 k hk
          refine z_iload_n hZ gMo_close_120 rfl ?_
          refine z_ifle hZ gMo_close_121 (fun c121 => absurd c121 (nI_nle (by omega) (by omega))) (fun c121 => ?_)
          refine z_aload_n hZ gMo_close_124 rfl ?_
          refine z_get hZ gMo_close_125 (by omega) rfl rfl ?_
          refine z_iload_n hZ gMo_close_128 rfl ?_
          refine z_iconst hZ gMo_close_129 _ rfl ?_
          refine z_isub hZ gMo_close_130 _ (nI_sub1 (Nat.succ_pos t)) ?_
          rw [Nat.add_sub_cancel]
          refine z_iald hZ gMo_close_131 (by omega) rfl (vp_in_nI (by omega) (by decide)) ?_
          rw [et, ft]
          refine z_iload_n hZ gMo_close_132 rfl ?_
          refine z_cmple hZ gMo_close_133 (fun c133 => ?_) (fun c133 => ?_)
          · have ct133 := c133
            have hle : e t ≤ e k := Nat.le_of_not_lt fun h9 => i_nlt c133 ((nI_ltI hlk hl).mpr h9)
            have hlt : e t < e k := by
              have h9 : e t ≠ e k := fun h9 => by
                have := hso.2.2.1 t k (by omega) hk h9
                omega
              omega
            exact fin (t + 1) f1 a1 ht hfa1 ha1 hf1 (fun u hu => by
              by_cases e9 : u = t
              · subst e9; exact hlt
              · exact Nat.lt_trans (hso.2.2.2 u t (by omega) (by omega)) hlt) hu2
          · have cf133 := c133
            have hlt : e k < e t := Nat.lt_of_not_le fun h9 => c133 (nI_le h9 hlk)
            refine z_aload_n hZ gMo_close_136 rfl ?_
            refine z_get hZ gMo_close_137 (by omega) rfl rfl ?_
            refine z_iload_n hZ gMo_close_140 rfl ?_
            refine z_aload_n hZ gMo_close_141 rfl ?_
            refine z_get hZ gMo_close_142 (by omega) rfl rfl ?_
            refine z_iload_n hZ gMo_close_145 rfl ?_
            refine z_iconst hZ gMo_close_146 _ rfl ?_
            refine z_isub hZ gMo_close_147 _ (nI_sub1 (Nat.succ_pos t)) ?_
            rw [Nat.add_sub_cancel]
            refine z_iald hZ gMo_close_148 (by omega) rfl (vp_in_nI (by omega) (by decide)) ?_
            rw [et, ft]
            refine z_iastW hZ gMo_close_149 (by omega) rfl (vp_in_nI (by omega) (by decide)) mW_a2 ?_
            rw [et1]
            refine z_iinc hZ gMo_close_150 rfl _ (nI_dec (Nat.succ_pos t)) rfl ?_
            refine z_goto hZ gMo_close_153 ?_
            rw [Nat.add_sub_cancel]
            refine iht _ _ (by omega) (frA_up hfa1 (by decide)) (va_up_self _ _ _) (fun j hj hjt => ?_) (fun u hu1 hu3 => ?_)
            · by_cases e9 : j = t + 1
              · subst e9
                rw [pk_us]
                unfold sgN
                rw [if_neg (by omega), if_neg (by omega), if_pos (by omega)]
                rfl
              · rw [pk_un e9, ha1, hf1 j hj e9]
                unfold sgN
                by_cases h8 : j < t
                · rw [if_pos h8, if_pos (by omega)]
                · rw [if_neg h8, if_neg hjt, if_neg (by omega), if_neg e9]
            · by_cases e9 : u = t
              · subst e9; exact hlt
              · exact hu2 u (by omega) hu3
      have fk : a' 2 k = nI (e k) := by rw [ha2]; exact hso.1 k hk
      refine z_iload_n hZ gMo_close_103 rfl ?_
      refine z_aload_n hZ gMo_close_104 rfl ?_
      refine z_get hZ gMo_close_105 (by omega) rfl (by rw [hi3]; rfl) ?_
      refine z_cmpge hZ gMo_close_108 (fun c108 => absurd c108 (nI_ge (by omega) (by omega))) (fun c108 => ?_)
      refine z_aload_n hZ gMo_close_111 rfl ?_
      refine z_get hZ gMo_close_112 (by omega) rfl rfl ?_
      refine z_iload_n hZ gMo_close_115 rfl ?_
      refine z_iald hZ gMo_close_116 (by omega) rfl (vp_in_nI (by omega) (by decide)) ?_
      rw [ek, fk]
      refine z_istore_n hZ gMo_close_117 rfl ?_
      refine z_iload_n hZ gMo_close_118 rfl ?_
      refine z_istore_n hZ gMo_close_119 rfl ?_
      refine inner k f a' (Nat.le_refl k) hfa ha2 (fun j hj hjk => ?_) (fun u hu1 hu2 => by omega)
      rw [hso.1 j hj]
      unfold sgN
      by_cases h8 : j < k
      · rw [if_pos h8]
      · rw [if_neg h8, if_neg hjk, if_neg (by omega)]
  have many : ∀ (f : Nat → Int32) (e : Nat → Nat) (c : Nat) (a' i' : sA), gJ gen gc f e 120 → inS gen gc c → (∀ u, u < 120 → f u ≠ nI c) → frA [2] a a' → frM [3] i i' → ∀ x1 x2 x3, Z 67 [some (.inr (0, 0)), x1, x2, x3] [] (mW a' i') := by
    intro f e c a' i' hJ hc hno hfa hfi x1 x2 x3
    refine z_iconst hZ gMo_close_67 _ rfl ?_
    refine z_iret hZ gMo_close_68 ?_
    exact ⟨a', i', rfl, hfa, hfi, Or.inr ⟨rfl, gJ_many hJ hc hno⟩⟩
  have outer : ∀ d nx (e : Nat → Nat) (cnt : Nat) (a' i' : sA) x2 x3, d + nx = 120 → gJ gen gc (a' 2) e cnt → nx ≤ cnt → gClosed gen gc e cnt nx → frA [2] a a' → frM [3] i i' → i' 0 3 = nI cnt → Z 15 [some (.inr (0, 0)), some (.inl (nI nx)), x2, x3] [] (mW a' i') := by
    intro d
    induction d with
    | zero =>
      intro nx e cnt a' i' x2 x3 hd hJ hnx hcl hfa hfi hi3
      have hc120 := hJ.1
      have e9 : nx = cnt := by omega
      subst e9
      refine z_iload_n hZ gMo_close_15 rfl ?_
      refine z_aload_n hZ gMo_close_16 rfl ?_
      refine z_get hZ gMo_close_17 (by omega) rfl (by rw [hi3]; rfl) ?_
      refine z_cmpge hZ gMo_close_20 (fun c20 => ?_) (fun c20 => absurd (nI_le (Nat.le_refl nx) (by omega)) c20)
      refine z_iconst hZ gMo_close_101 _ ic1 ?_
      refine z_istore_n hZ gMo_close_102 rfl ?_
      exact sort e nx (a' 2) hJ hcl (nx - 1) 1 (a' 2) e a' i' _ _ (by have := hJ.2.1; omega) hfa hfi hi3 rfl ⟨fun j hj => (hJ.2.2.1 j hj).1, fun c => Iff.rfl, hJ.2.2.2.1, fun u v huv hv => by omega⟩
    | succ d ih =>
      intro nx e cnt a' i' x2 x3 hd hJ hnx hcl hfa hfi hi3
      have hc120 := hJ.1
      by_cases hlt : nx < cnt
      · have inner : ∀ m k (e : Nat → Nat) (cnt : Nat) (a' i' : sA) x3, m + k = gc → gJ gen gc (a' 2) e cnt → nx < cnt → gClosed gen gc e cnt nx → (∀ j, j < k → ∃ m, m < cnt ∧ e m = pm (e nx) (gen j)) → frA [2] a a' → frM [3] i i' → i' 0 3 = nI cnt → Z 25 [some (.inr (0, 0)), some (.inl (nI nx)), some (.inl (nI k)), x3] [] (mW a' i') := by
          intro m
          induction m with
          | zero =>
            intro k e cnt a' i' x3 hm hJ hlt hcl hk hfa hfi hi3
            have e9 : k = gc := by omega
            subst e9
            have hg0 := hgi' i' hfi
            refine z_iload_n hZ gMo_close_25 rfl ?_
            refine z_aload_n hZ gMo_close_26 rfl ?_
            refine z_get hZ gMo_close_27 (by omega) rfl (by rw [hg0]; rfl) ?_
            refine z_cmpge hZ gMo_close_30 (fun c30 => ?_) (fun c30 => absurd (nI_le (Nat.le_refl k) (by omega)) c30)
            refine z_iinc hZ gMo_close_95 rfl _ (i1 nx) rfl ?_
            refine z_goto hZ gMo_close_98 ?_
            refine ih (nx + 1) e cnt a' i' _ _ (by omega) hJ (by omega) (fun n hn j hj => ?_) hfa hfi hi3
            by_cases e9 : n = nx
            · subst e9; exact hk j hj
            · exact hcl n (by omega) j hj
          | succ m ihm =>
            intro k e cnt a' i' x3 hm hJ hlt hcl hk hfa hfi hi3
            have hkg : k < gc := by omega
            have hc120 := hJ.1
            have hg0 := hgi' i' hfi
            have ex : (nI nx).toNatClampNeg = nx := nI_clamp (by omega)
            have ek : (nI k).toNatClampNeg = k := nI_clamp (by omega)
            have fx := hJ.2.2.1 nx hlt
            have g1 : a' 1 k = nI (gen k) := by rw [hfa 1 (by decide)]; exact h1 k hkg
            have hx8 := (inS_P hg fx.2).1
            have hg8 := (hg k hkg).1
            have hS : inS gen gc (pm (e nx) (gen k)) := inS_mul fx.2 hkg
            refine z_iload_n hZ gMo_close_25 rfl ?_
            refine z_aload_n hZ gMo_close_26 rfl ?_
            refine z_get hZ gMo_close_27 (by omega) rfl (by rw [hg0]; rfl) ?_
            refine z_cmpge hZ gMo_close_30 (fun c30 => absurd c30 (nI_ge (by omega) (by omega))) (fun c30 => ?_)
            refine z_aload_n hZ gMo_close_33 rfl ?_
            refine z_get hZ gMo_close_34 (by omega) rfl rfl ?_
            refine z_iload_n hZ gMo_close_37 rfl ?_
            refine z_iald hZ gMo_close_38 (by omega) rfl (vp_in_nI (by omega) (by decide)) ?_
            rw [ex, fx.1]
            refine z_aload_n hZ gMo_close_39 rfl ?_
            refine z_get hZ gMo_close_40 (by omega) rfl rfl ?_
            refine z_iload_n hZ gMo_close_43 rfl ?_
            refine z_iald hZ gMo_close_44 (by omega) rfl (vp_in_nI (by omega) (by decide)) ?_
            rw [ek, g1]
            refine z_cs hZ gMo_close_45 rfl rfl (Nat.le_of_ble_eq_true rfl) (Nat.le_of_ble_eq_true rfl) (fun l9 D E B A hB => c_Mo_product l9 D E B A hB (a := e nx) (b := gen k) hx8 hg8 _) (fun r45 w45 p45 => ?_)
            obtain ⟨rfl, rfl⟩ := p45
            show Z (45 + 3) _ (.inl (nI (pm (e nx) (gen k))) :: []) _
            refine z_istore_n hZ gMo_close_48 rfl ?_
            refine z_aload_n hZ gMo_close_49 rfl ?_
            refine z_iload_n hZ gMo_close_50 rfl ?_
            refine z_cv hZ gMo_close_51 rfl rfl (Nat.le_of_ble_eq_true rfl) (Nat.le_of_ble_eq_true rfl) ⟨⟨0, _, _, rfl, by decide, rfl⟩, fun l9 D E B A hB => c_Mo_find l9 D E B A hB (cnt := cnt) (x := nI (pm (e nx) (gen k))) hi3 hc120⟩ (fun r51 w51 p51 => ?_)
            obtain ⟨h51, rfl⟩ := p51
            rcases h51 with ⟨j, hj, hfj, _, rfl⟩ | ⟨hno, rfl⟩
            · show Z 54 _ (.inl (nI j) :: []) _
              have hej : e j = pm (e nx) (gen k) := by
                rw [(hJ.2.2.1 j hj).1] at hfj
                exact (nI_eq (Nat.lt_trans (inS_P hg (hJ.2.2.1 j hj).2).1 (by decide)) (Nat.lt_trans (pm_lt _ _) (by decide))).mp hfj
              refine z_iconst hZ gMo_close_54 _ rfl ?_
              refine z_cmpne hZ gMo_close_55 (fun c55 => ?_) (fun c55 => absurd c55 (nI_nm1 (by omega)))
              refine z_iinc hZ gMo_close_89 rfl _ (i1 k) rfl ?_
              refine z_goto hZ gMo_close_92 ?_
              refine ihm (k + 1) e cnt a' i' _ (by omega) hJ hlt hcl (fun q hq => ?_) hfa hfi hi3
              by_cases e9 : q = k
              · subst e9; exact ⟨j, hj, hej⟩
              · exact hk q (by omega)
            · show Z 54 _ (.inl (-1) :: []) _
              refine z_iconst hZ gMo_close_54 _ rfl ?_
              refine z_cmpne hZ gMo_close_55 (fun c55 => absurd im1.symm c55) (fun c55 => ?_)
              refine z_aload_n hZ gMo_close_58 rfl ?_
              refine z_get hZ gMo_close_59 (by omega) rfl (by rw [hi3]; rfl) ?_
              refine z_bipush hZ gMo_close_62 _ i120 ?_
              refine z_cmpne hZ gMo_close_64 (fun c64 => ?_) (fun c64 => ?_)
              · have ct64 := c64
                have hl120 : cnt < 120 := by
                  by_cases e9 : cnt = 120
                  · subst e9; exact absurd rfl c64
                  · omega
                refine z_aload_n hZ gMo_close_69 rfl ?_
                refine z_get hZ gMo_close_70 (by omega) rfl rfl ?_
                refine z_aload_n hZ gMo_close_73 rfl ?_
                refine z_get hZ gMo_close_74 (by omega) rfl (by rw [hi3]; rfl) ?_
                refine z_iload_n hZ gMo_close_77 rfl ?_
                refine z_iastW hZ gMo_close_78 (by omega) rfl (vp_in_nI (by omega) (by decide)) mW_a2 ?_
                rw [nI_clamp (by omega)]
                refine z_aload_n hZ gMo_close_79 rfl ?_
                refine z_dup hZ gMo_close_80 ?_
                refine z_get hZ gMo_close_81 (by omega) rfl (by rw [hi3]; rfl) ?_
                refine z_iconst hZ gMo_close_84 _ rfl ?_
                refine z_iadd hZ gMo_close_85 _ (i1 cnt) ?_
                refine z_putW hZ gMo_close_86 (by omega) rfl (Or.inl (by decide)) (Nat.le_of_ble_eq_true rfl) mW_i0_3 ?_
                refine z_iinc hZ gMo_close_89 rfl _ (i1 k) rfl ?_
                refine z_goto hZ gMo_close_92 ?_
                refine ihm (k + 1) (va_up e cnt (pm (e nx) (gen k))) (cnt + 1) _ _ _ (by omega) (by rw [va_up_self]; exact gJ_new hJ hl120 hS hno) (by omega) (gC_up hcl (by omega)) (fun q hq => ?_) (frA_up hfa (by decide)) (frM_up hfi (by decide)) (by rw [va_up_self, va_up_self])
                rw [va_up_ne _ _ (show nx ≠ cnt by omega)]
                by_cases e9 : q = k
                · subst e9; exact ⟨cnt, by omega, va_up_self _ _ _⟩
                · obtain ⟨m9, hm9, he9⟩ := hk q (by omega)
                  exact ⟨m9, by omega, by rw [va_up_ne _ _ (by omega)]; exact he9⟩
              · have cf64 := c64
                have e120 : cnt = 120 := (nI_eq (by omega) (by decide)).mp c64
                subst e120
                exact many (a' 2) e _ a' i' hJ hS hno hfa hfi _ _ _
        refine z_iload_n hZ gMo_close_15 rfl ?_
        refine z_aload_n hZ gMo_close_16 rfl ?_
        refine z_get hZ gMo_close_17 (by omega) rfl (by rw [hi3]; rfl) ?_
        refine z_cmpge hZ gMo_close_20 (fun c20 => absurd c20 (nI_ge (by omega) (by omega))) (fun c20 => ?_)
        refine z_iconst hZ gMo_close_23 _ i0 ?_
        refine z_istore_n hZ gMo_close_24 rfl ?_
        exact inner gc 0 e cnt a' i' _ (by omega) hJ hlt hcl (fun j hj => absurd hj (Nat.not_lt_zero j)) hfa hfi hi3
      · have e9 : nx = cnt := by omega
        subst e9
        refine z_iload_n hZ gMo_close_15 rfl ?_
        refine z_aload_n hZ gMo_close_16 rfl ?_
        refine z_get hZ gMo_close_17 (by omega) rfl (by rw [hi3]; rfl) ?_
        refine z_cmpge hZ gMo_close_20 (fun c20 => ?_) (fun c20 => absurd (nI_le (Nat.le_refl nx) (by omega)) c20)
        refine z_iconst hZ gMo_close_101 _ ic1 ?_
        refine z_istore_n hZ gMo_close_102 rfl ?_
        exact sort e nx (a' 2) hJ hcl (nx - 1) 1 (a' 2) e a' i' _ _ (by have := hJ.2.1; omega) hfa hfi hi3 rfl ⟨fun j hj => (hJ.2.2.1 j hj).1, fun c => Iff.rfl, hJ.2.2.2.1, fun u v huv hv => by omega⟩
  refine z_aload_n hZ gMo_close_0 rfl ?_
  refine z_iconst hZ gMo_close_1 _ ic1 ?_
  refine z_putW hZ gMo_close_2 (by omega) rfl (Or.inl (by decide)) (Nat.le_of_ble_eq_true rfl) mW_i0_3 ?_
  refine z_aload_n hZ gMo_close_5 rfl ?_
  refine z_get hZ gMo_close_6 (by omega) rfl rfl ?_
  refine z_iconst hZ gMo_close_9 _ i0 ?_
  refine z_ldc hZ gMo_close_10 ?_
  refine z_iastW hZ gMo_close_12 (by omega) rfl (vp_in_nI (by omega) (by decide)) mW_a2 ?_
  rw [nI_clamp (by decide)]
  refine z_iconst hZ gMo_close_13 _ i0 ?_
  refine z_istore_n hZ gMo_close_14 rfl ?_
  exact outer 120 0 (fun _ => pid) 1 _ _ _ _ rfl ⟨by decide, Nat.le_refl 1, fun j hj => ⟨by rw [va_up_self, show j = 0 by omega, pk_us]; rfl, inS_id _ _⟩, fun j k hj hk _ => by omega, rfl⟩ (by omega) (fun n hn => absurd hn (Nat.not_lt_zero n)) (frA_up (fun _ _ => rfl) (by decide)) (frM_up (fun _ _ => rfl) (by decide)) (by rw [va_up_self, va_up_self])

