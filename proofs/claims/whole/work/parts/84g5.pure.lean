-- every group of at most 120 permutations with 8 to 16 kinds of conjugates: its central maps are rows of a table, their kernels make few sets
def exO (G : List Nat) (e : Nat) : Prop := 0 < e ∧ (∀ x, x ∈ G → gg_pw pm pid x e = pid) ∧ ∀ m, 0 < m → m < e → ∃ x, x ∈ G ∧ gg_pw pm pid x m ≠ pid
theorem ex_u {G S : List Nat} {φ : Nat → Nat} {e e' : Nat} (hG : gg_ok G pm pid piv) (hi : isoO φ G S) (h : exO G e) (h' : exO S e') : e = e' := by
  rcases Nat.lt_trichotomy e e' with h1 | h1 | h1
  · obtain ⟨y, hy, hn⟩ := h'.2.2 e h.1 h1
    obtain ⟨x, hx, rfl⟩ := hi.2.1 y hy
    rw [← iso_pw hG hi hx, h.2.1 x hx, hi.2.2.2.2] at hn
    exact absurd rfl hn
  · exact h1
  · obtain ⟨x, hx, hn⟩ := h.2.2 e' h'.1 h1
    have h2 := h'.2.1 _ (hi.1 x hx)
    rw [← iso_pw hG hi hx] at h2
    exact absurd (hi.2.2.1 _ _ (gg_pm hG hx e') (gg_1 hG) (h2.trans hi.2.2.2.2.symm)) hn
theorem nt_in : ∀ {L : List Nat} {t : Nat}, t < L.length → nt L t ∈ L
  | [], t, h => absurd h (Nat.not_lt_zero t)
  | x :: L, 0, _ => List.mem_cons_self
  | x :: L, t + 1, h => List.mem_cons_of_mem _ (nt_in (L := L) (t := t) (Nat.lt_of_succ_lt_succ h))
theorem in_nt : ∀ {L : List Nat} {x : Nat}, x ∈ L → ∃ t, t < L.length ∧ nt L t = x
  | y :: L, x, h => by
    rcases List.mem_cons.mp h with rfl | h
    · exact ⟨0, Nat.succ_pos _, rfl⟩
    · obtain ⟨t, h1, h2⟩ := in_nt h
      exact ⟨t + 1, Nat.succ_lt_succ h1, h2⟩
theorem ex_k {S reps : List Nat} {kl : Nat → Nat} {e : Nat} (hk : kc_ok S pm pid piv reps.length kl (nt reps)) (h : 0 < e ∧ (∀ r, r ∈ reps → gg_pw pm pid r e = pid) ∧ ∀ m, 0 < m → m < e → ∃ r, r ∈ reps ∧ gg_pw pm pid r m ≠ pid) : exO S e := by
  have hS := kc_g hk
  refine ⟨h.1, fun x hx => ?_, fun m h1 h2 => ?_⟩
  · have hl := kc_lt hk hx
    have hr := kc_re hk hl
    obtain ⟨g, hg, e1⟩ := (kc_iff hk hx hr).mp (kc_kr hk hl).symm
    -- x = g r g^-1
    have e2 : pm (pm (piv g) x) g = nt reps (kl x) := by
      rw [gg_as hS, ← e1, ← gg_as hS, gg_li hS hg, gg_l1 hS hr]
    have e3 := gg_cp hS hg hx e
    rw [e2, h.2.1 _ (nt_in hl)] at e3
    have e4 : pm g pid = pm g (pm (pm (piv g) (gg_pw pm pid x e)) g) := by rw [← e3]
    rw [gg_as hS, ← gg_as hS g, gg_ri hS hg, gg_l1 hS (gg_m hS (gg_pm hS hx e) hg), gg_r1 hS hg] at e4
    refine gg_rc hS hg (gg_pm hS hx e) (gg_1 hS) ?_
    rw [← e4, gg_l1 hS hg]
  · obtain ⟨r, hr, hn⟩ := h.2.2 m h1 h2
    obtain ⟨t, ht, rfl⟩ := in_nt hr
    exact ⟨_, kc_re hk ht, hn⟩
theorem chT_p {B : Nat} {S S' reps Ms : List Nat} {k p E La : Nat} (hp : S'.Perm S) (h : chT B S' reps Ms k p E La) : chT B S reps Ms k p E La := by
  refine ⟨fun l i t hl hi ht => ?_, h.2.1, fun t l ht hl => ?_, h.2.2.2⟩
  · have := h.1 l i t hl hi ht
    rw [si_perm _ hp] at this
    exact this
  · have := h.2.2.1 t l ht hl
    unfold kc_s at this ⊢
    rw [hp.countP_eq] at this
    exact this
def pmO (n e p : Nat) : Prop := (1 < p ∧ ∀ m, m ∣ p → m = 1 ∨ m = p) ∧ 4 * n < p * p ∧ (∃ t, 1 ≤ t ∧ p = t * e + 1) ∧ ∀ t, 1 ≤ t → (1 < t * e + 1 ∧ ∀ m, m ∣ t * e + 1 → m = 1 ∨ m = t * e + 1) → 4 * n < (t * e + 1) * (t * e + 1) → p ≤ t * e + 1
theorem pm_u {n e p p' : Nat} (h : pmO n e p) (h' : pmO n e p') : p = p' := by
  obtain ⟨a1, a2, ⟨t, a3, a4⟩, a5⟩ := h
  obtain ⟨b1, b2, ⟨u, b3, b4⟩, b5⟩ := h'
  have h1 := a5 u b3 (by rw [← b4]; exact b1) (by rw [← b4]; exact b2)
  have h2 := b5 t a3 (by rw [← a4]; exact a1) (by rw [← a4]; exact a2)
  omega
theorem tX (hkK : ∀ {j : Nat}, j < 258 → ckK j = true) (hkX : ∀ {j : Nat}, j < 258 → ckX j = true) {j : Nat} (hj : j < 258) {S : List Nat} (hT : tO j S) : kc_ok S pm pid piv (rp j).length (lb (nt TB j)) (nt (rp j)) ∧ (8 ≤ (rp j).length → (rp j).length ≤ 16 → ∃ e p E La Ms, exO S e ∧ pmO (nt NS j) e p ∧ Ms.length = (rp j).length ∧ chT (nt TB j) S (rp j) Ms (rp j).length p E La) := by
  have h := hkK hj
  unfold ckK at h
  simp only [fo_eq, fol_eq] at h
  obtain ⟨h1, h2⟩ := bth_t.mp h
  obtain ⟨h3, h4⟩ := bth_t.mp h2
  have h5 := Nat.le_of_ble_eq_true h3
  rw [ln_eq] at h5
  have hk := kk_ok hT h4 (Nat.eq_of_beq_eq_true h1) h5
  refine ⟨hk, fun h8 h16 => ?_⟩
  have g := hkX hj
  unfold ckX at g
  rw [ln_eq] at g
  have e1 : bth (Nat.ble 8 (rp j).length) (Nat.ble (rp j).length 16) = true := bth_t.mpr ⟨Nat.ble_eq_true_of_le h8, Nat.ble_eq_true_of_le h16⟩
  rw [e1] at g
  have g1 : ckX1 j = true := g
  unfold ckX1 at g1
  simp only [fo_eq, fol_eq, ln_eq] at g1
  obtain ⟨a1, a2⟩ := bth_t.mp g1
  obtain ⟨a3, a4⟩ := bth_t.mp a1
  obtain ⟨a5, a6⟩ := bth_t.mp a4
  obtain ⟨S', b1, b2, b3, b4⟩ := cl_t (by simp) (fun x hx => hx) a2
  obtain ⟨c1, c2⟩ := bth_t.mp b4
  have c3 := Nat.eq_of_beq_eq_true c1
  have hS' : ∀ x, x ∈ S' → x ∈ S := b3 (fun x => x ∈ S) (fun x hx => by rw [List.mem_singleton.mp hx]; exact gg_1 hT.1) (fun x g hx hg => by rw [qm_eq]; exact gg_m hT.1 hx (hT.2.2.2.2.1 g hg))
  have hSS := pg_all b1 hS' (by rw [c3, hT.2.2.1]; exact Nat.le_refl _)
  have hperm : S'.Perm S := (List.perm_ext_iff_of_nodup b1 (gg_nd hT.1)).mpr fun x => ⟨hS' x, hSS x⟩
  have hP := ckP_t a6
  exact ⟨nt EX j, nt PX j, nt EE j, nt LL j, ms j, ex_k hk (ckE_t a5), hP, Nat.eq_of_beq_eq_true a3, chT_p hperm (chT_t hP.1.1 c2)⟩
theorem f2_pure (hall : ∀ {G : List Nat}, grO G → ∃ φ G' j' S', isoO φ G G' ∧ grO G' ∧ j' < 258 ∧ tO j' S' ∧ ∀ x, x ∈ S' ↔ x ∈ G') (hkK : ∀ {j : Nat}, j < 258 → ckK j = true) (hkX : ∀ {j : Nat}, j < 258 → ckX j = true) {G : List Nat} {k e p : Nat} {kl re : Nat → Nat} (hG : grO G) (hk : kc_ok G pm pid piv k kl re) (hk8 : 8 ≤ k) (hk16 : k ≤ 16) (he : exO G e) (hp : pmO G.length e p) :
    ∃ (pi : Nat → Nat) (Ms C : List Nat), C.length ≤ 128 ∧ 2 ^ k - 1 ∈ C ∧ (∀ c m, c ∈ C → m ∈ Ms → Nat.land c m ∈ C) ∧ (∀ l, l < k → pi l < k) ∧ (∀ l l', l < k → l' < k → pi l = pi l' → l = l') ∧ ∀ W : Nat → Nat, W 0 = 1 → (∀ x q, x < k → q < k → (p : Int) ∣ (W x : Int) * (W q : Int) - si (fun l => (kc_n G pm piv kl x q (re l) : Int) * (W l : Int)) (List.range k)) → ∃ m, m ∈ Ms ∧ ∀ i, i < k → (btK m (pi i) = true ↔ (p : Int) ∣ (W i : Int) - (kc_s G kl i : Int)) := by
  obtain ⟨φ, G', j, S, h1, h2, hj, hT, h3⟩ := hall hG
  have hi : isoO φ G S := ⟨fun x hx => (h3 _).mpr (h1.1 x hx), fun y hy => h1.2.1 y ((h3 y).mp hy), h1.2.2⟩
  obtain ⟨hk', hX⟩ := tX hkK hkX hj hT
  have ekk := ik_k hk hk' hi
  obtain ⟨e', p', E, La, Ms, x1, x2, x3, x4⟩ := hX (by omega) (by omega)
  have ee : e = e' := ex_u hG.1 hi he x1
  have en : G.length = nt NS j := by
    have := (iso_perm (gg_nd hG.1) (gg_nd hT.1) hi).length_eq
    rw [List.length_map] at this
    rw [this, hT.2.2.1]
  rw [en, ee] at hp
  have ep : p = p' := pm_u hp x2
  subst ep
  rw [← ekk] at hk' x3 x4
  obtain ⟨C, c1, c2, c3⟩ := x4.2.2.2
  refine ⟨fun l => lb (nt TB j) (φ (re l)), Ms, C, c1, c2, c3, fun l hl => kc_lt hk' (hi.1 _ (kc_re hk hl)), fun l l' hl hl' e9 => ik_inj hk hk' hi hl hl' e9, fun W hW0 hW => ?_⟩
  obtain ⟨t, ht, hr⟩ := cm_row hp.1.2 hp.1.1 hk hk' hi x4 hW0 hW
  refine ⟨nt Ms t, nt_in (by rw [x3]; exact ht), fun i hi9 => ?_⟩
  rw [x4.2.2.1 t _ ht (kc_lt hk' (hi.1 _ (kc_re hk hi9))), ← ik_s hk hk' hi hi9]
  have h5 := hr i hi9
  constructor
  · intro h6
    have h7 := Int.dvd_add h5 h6
    rw [show ∀ x y z : Int, x - y + (y - z) = x - z from fun x y z => by omega] at h7
    exact h7
  · intro h6
    have h7 := Int.dvd_sub h6 h5
    rw [show ∀ x y z : Int, x - z - (x - y) = y - z from fun x y z => by omega] at h7
    exact h7
