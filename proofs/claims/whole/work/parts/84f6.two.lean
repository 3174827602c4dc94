theorem par_x {G X X' : List Nat} {mul : Nat → Nat → Nat} {one : Nat} (h : parO G X mul one) (hx : ∀ x, x ∈ X ↔ x ∈ X') : parO G X' mul one := by
  intro Q φ a b c d e
  rw [← h Q φ a b c d e]
  rw [List.filter_congr fun q _ => ?_]
  rw [Bool.eq_iff_iff, List.all_eq_true, List.all_eq_true]
  exact ⟨fun h x hx' => h x ((hx x).mp hx'), fun h x hx' => h x ((hx x).mpr hx')⟩
theorem par_c {G X G' : List Nat} {φ : Nat → Nat} (hG : gg_ok G pm pid piv) (hs : ∀ x, x ∈ X → x ∈ G) (hi : isoO φ G G') (h : parO G X pm pid) : parO G' (X.map φ) pm pid := by
  intro Q ψ a b c d e
  rw [← h Q (fun x q => ψ (φ x) q) a (fun g q hg hq => b _ q (hi.1 g hg) hq) (fun u v q hu hv hq => by
    show ψ (φ (pm u v)) q = _
    rw [hi.2.2.2.1 u v hu hv]
    exact c _ _ q (hi.1 u hu) (hi.1 v hv) hq) (fun q hq => by
    show ψ (φ pid) q = q
    rw [hi.2.2.2.2]; exact d q hq) (fun g q hg h5 hq => e _ q (hi.1 g hg) (by rw [← iso_pw hG hi hg, h5, hi.2.2.2.2]) hq)]
  rw [List.filter_congr fun q _ => ?_]
  rw [Bool.eq_iff_iff, List.all_eq_true, List.all_eq_true]
  constructor
  · intro h9 x hx
    exact h9 _ (List.mem_map.mpr ⟨x, hx, rfl⟩)
  · intro h9 y hy
    obtain ⟨x, hx, rfl⟩ := List.mem_map.mp hy
    exact h9 x hx
theorem nt_lt : ∀ {L : List Nat} {j : Nat}, nt L j ≠ 0 → j < L.length
  | [], j, h => absurd rfl h
  | x :: L, 0, _ => Nat.succ_pos _
  | x :: L, j + 1, h => Nat.succ_lt_succ (nt_lt (L := L) (j := j) h)
theorem NS_len : NS.length = 258 := by decide +kernel
theorem two_step (hall : ∀ j, j < 258 → ∃ S, tO j S) {L C S G : List Nat} {j : Nat} (hk : ck2 L j C = true) (hT : tO j S) (hG : grO G) (hst : ∀ x, x ∈ S → x ∈ G) {g : Nat} (hg : g ∈ G) (hgS : g ∉ S) (hn : ∀ x, x ∈ S → pm (pm (piv g) x) g ∈ S) (h2 : pm g g ∈ S) (hx : ∃ x, x ∈ flW 48 512 L ∧ Nat.land x 16777215 = g ∧ Nat.shiftRight x 24 = pm g g) : ∃ t j' S', isP t ∧ j' < 258 ∧ tO j' S' ∧ S.length < S'.length ∧ (∀ y, y ∈ (S ++ S.map (pm g)).map (cj t) ↔ y ∈ S') := by
  unfold ck2 at hk
  simp only [fo_eq, fol_eq] at hk
  obtain ⟨x, hxL, hx1, hx2⟩ := hx
  have hgP := hG.2.1 g hg
  have hSP := hT.2.1
  have hgen := hT.2.2.2.2.1
  obtain ⟨y, hy⟩ := zcc_t hk x hxL (by
    unfold cd2
    rw [bth_t]
    simp only [fo_eq]
    rw [hx1, hx2]
    refine ⟨(hT.2.2.2.1 _ (isP_pm hgP hgP)).mp h2, ?_⟩
    cases hb : inB (nt TB j) g with
    | true => exact absurd ((hT.2.2.2.1 g hgP).mpr hb) hgS
    | false =>
      show alW (gn j) _ = true
      refine al_t.mpr fun h hh => ?_
      rw [qm_eq, qm_eq]
      have h9 := hgen h hh
      have e : pm (pm g h) g = pm (pm g g) (pm (pm (piv g) h) g) := by
        rw [pm_as g g, ← pm_as g (pm (piv g) h), ← pm_as g (piv g), pinv_r (piv_ok hgP), pm_l1 (hSP h h9).1, pm_as]
      rw [e]
      exact (hT.2.2.2.1 _ (isP_pm (isP_pm hgP hgP) (isP_pm (isP_pm (piv_P hgP) (hSP h h9)) hgP))).mp (gg_m hT.1 h2 (hn h h9)))
  unfold cc2 at hy
  simp only [fo_eq] at hy
  rw [hx1] at hy
  generalize Nat.land y 16777215 = t at hy
  generalize Nat.shiftRight y 24 = j' at hy
  obtain ⟨y1, y2⟩ := bth_t.mp hy
  obtain ⟨y3, y4⟩ := bth_t.mp y2
  have ht := isPb_t y1
  have hn2 : nt NS j' = nt NS j + nt NS j := Nat.eq_of_beq_eq_true y3
  have hpos : 0 < S.length := List.length_pos_of_mem (gg_1 hT.1)
  have hlS := hT.2.2.1
  have hj' : j' < 258 := by
    have := nt_lt (L := NS) (j := j') (by omega)
    rw [NS_len] at this
    exact this
  obtain ⟨S', hT'⟩ := hall j' hj'
  have hlS' := hT'.2.2.1
  have hi := in_all ht hT' (fun x hx => by
    rcases List.mem_cons.mp hx with rfl | hx
    · exact hgP
    · exact hSP x (hgen x hx)) y4
  have hSS := S_all hT hT' ht fun x hx => hi x (List.mem_cons_of_mem _ hx)
  have hgt := hi g List.mem_cons_self
  have hXP : ∀ x, x ∈ S ++ S.map (pm g) → isP x ∧ cj t x ∈ S' := fun x hx => by
    rcases List.mem_append.mp hx with hx | hx
    · exact ⟨hSP x hx, hSS x hx⟩
    · obtain ⟨z, hz, rfl⟩ := List.mem_map.mp hx
      exact ⟨isP_pm hgP (hSP z hz), by rw [cj_m ht (hSP z hz)]; exact gg_m hT'.1 hgt (hSS z hz)⟩
  have hnd : (S ++ S.map (pm g)).Nodup := List.nodup_append.mpr ⟨gg_nd hT.1, List.pairwise_map.mpr (List.Pairwise.imp_of_mem (fun {u v} hu hv huv he => huv (gg_lc hG.1 hg (hst u hu) (hst v hv) he)) (gg_nd hT.1)), fun u hu v hv he => by
    obtain ⟨z, hz, rfl⟩ := List.mem_map.mp hv
    subst he
    apply hgS
    have e : g = pm (pm g z) (piv z) := by rw [pm_as, pinv_r (piv_ok (hSP z hz)), pm_r1 hgP.1]
    rw [e]
    exact gg_m hT.1 hu (gg_i hT.1 hz)⟩
  have hsub : ∀ y, y ∈ (S ++ S.map (pm g)).map (cj t) → y ∈ S' := fun y hy => by
    obtain ⟨x, hx, rfl⟩ := List.mem_map.mp hy
    exact (hXP x hx).2
  refine ⟨t, j', S', ht, hj', hT', by omega, fun y => ⟨hsub y, ?_⟩⟩
  exact pg_all (cj_nd ht (fun x hx => (hXP x hx).1) hnd) hsub (by rw [List.length_map, List.length_append, List.length_map]; omega) y
-- every permutation of eight points to the power 840
theorem dg_pw (g : Nat) : ∀ (m x : Nat), x < 8 → dg (gg_pw pm pid g m) x = fa_it (dg g) m x
  | 0, x, hx => pid_dg x hx
  | m + 1, x, hx => by
    show dg (pm (gg_pw pm pid g m) g) x = _
    rw [pm_dg _ _ hx, dg_pw g m x hx, fa_succ]
theorem fa_lt8 (g : Nat) : ∀ (m x : Nat), x < 8 → fa_it (dg g) m x < 8
  | 0, x, hx => hx
  | m + 1, x, _ => by rw [fa_succ]; exact dg_lt _ _
theorem fa_inj8 {g : Nat} (hg : isP g) : ∀ (m x y : Nat), x < 8 → y < 8 → fa_it (dg g) m x = fa_it (dg g) m y → x = y
  | 0, _, _, _, _, e => e
  | m + 1, x, y, hx, hy, e => hg.2 x hx y hy (fa_inj8 hg m _ _ (dg_lt _ _) (dg_lt _ _) e)
theorem pwl8 (g : Nat) : ∀ m, gg_pw pm pid g m < 8 ^ 8
  | 0 => by show pid < 8 ^ 8; decide
  | m + 1 => pm_lt _ _
theorem p840 {g : Nat} (hg : isP g) : gg_pw pm pid g 840 = pid := dg_ext (pwl8 g 840) (by decide) fun x hx => by
  rw [dg_pw g 840 x hx, pid_dg x hx]
  -- some power upW to 8 keeps x
  have h1 : ∃ d, 0 < d ∧ d ≤ 8 ∧ fa_it (dg g) d x = x := Classical.byContradiction fun hn => by
    have hnd : ((List.range 9).map (fun m => fa_it (dg g) m x)).Nodup := by
      refine List.pairwise_map.mpr (List.Pairwise.imp_of_mem (fun {a b} ha hb hab he => hn ⟨b - a, by omega, by have := List.mem_range.mp hb; omega, ?_⟩) List.pairwise_lt_range)
      have e : fa_it (dg g) b x = fa_it (dg g) a (fa_it (dg g) (b - a) x) := by rw [← fa_add, show a + (b - a) = b by omega]
      rw [e] at he
      exact (fa_inj8 hg a _ _ hx (fa_lt8 g _ x hx) he).symm
    have h2 := hnd.length_le_of_subset (l₂ := List.range 8) (fun y hy => by
      obtain ⟨m, _, rfl⟩ := List.mem_map.mp hy
      exact List.mem_range.mpr (fa_lt8 g m x hx))
    rw [List.length_map, List.length_range, List.length_range] at h2
    omega
  obtain ⟨d, h2, h3, h4⟩ := h1
  have h5 : ∀ d, d < 9 → 0 < d → 840 = d * (840 / d) := by decide
  rw [h5 d (by omega) h2]
  exact fa_mul _ h4 _
theorem two_loop (hall : ∀ j, j < 258 → ∃ S, tO j S) {L : List Nat} (hk : ∀ j, j < 258 → nt NS j ≤ 60 → ∃ C, ck2 L j C = true) (hL : ∀ g, isP g → gg_pw pm pid g 8 = pid → ∃ x, x ∈ flW 48 512 L ∧ Nat.land x 16777215 = g ∧ Nat.shiftRight x 24 = pm g g) : ∀ (m : Nat) (G S : List Nat) (j : Nat), grO G → j < 258 → tO j S → (∀ x, x ∈ S → x ∈ G) → (∀ g, g ∈ G → gg_pw pm pid g 105 = pid → g ∈ S) → parO G S pm pid → 121 ≤ S.length + m → ∃ φ G' j' S', isoO φ G G' ∧ grO G' ∧ j' < 258 ∧ tO j' S' ∧ ∀ x, x ∈ S' ↔ x ∈ G'
  | 0, G, S, j, hG, _, hT, hst, _, _, hm => by
    have h1 := (gg_nd hT.1).length_le_of_subset (l₂ := G) hst
    have := hG.2.2
    omega
  | m + 1, G, S, j, hG, hj, hT, hst, ho, hp, hm => by
    by_cases hx : ∃ w, w ∈ G ∧ w ∉ S
    · obtain ⟨w, hw, hwS⟩ := hx
      obtain ⟨g, g1, g2, g3, g4, g5⟩ := grw hG.1 hT.1 hst (fun g hg => p840 (hG.2.1 g hg)) ho hp hw hwS
      have hgP := hG.2.1 g g1
      have hXG : ∀ x, x ∈ S ++ S.map (pm g) → x ∈ G := fun x hx => by
        rcases List.mem_append.mp hx with hx | hx
        · exact hst x hx
        · obtain ⟨z, hz, rfl⟩ := List.mem_map.mp hx
          exact gg_m hG.1 g1 (hst z hz)
      have hnd : (S ++ S.map (pm g)).Nodup := List.nodup_append.mpr ⟨gg_nd hT.1, List.pairwise_map.mpr (List.Pairwise.imp_of_mem (fun {u v} hu hv huv he => huv (gg_lc hG.1 g1 (hst u hu) (hst v hv) he)) (gg_nd hT.1)), fun u hu v hv he => by
        obtain ⟨z, hz, rfl⟩ := List.mem_map.mp hv
        subst he
        apply g2
        have e : g = pm (pm g z) (piv z) := by rw [pm_as, pinv_r (piv_ok (hT.2.1 z hz)), pm_r1 hgP.1]
        rw [e]
        exact gg_m hT.1 hu (gg_i hT.1 hz)⟩
      have h60 : nt NS j ≤ 60 := by
        have h1 := hnd.length_le_of_subset (l₂ := G) hXG
        rw [List.length_append, List.length_map, hT.2.2.1] at h1
        have := hG.2.2
        omega
      obtain ⟨C, hC⟩ := hk j hj h60
      obtain ⟨t, j', S', b1, b2, b3, b4, b5⟩ := two_step hall hC hT hG hst g1 g2 g3 g4 (hL g hgP g5)
      obtain ⟨hG1, hi1⟩ := gr_c hG b1
      have hst' : ∀ x, x ∈ S' → x ∈ G.map (cj t) := fun x hx => by
        obtain ⟨y, hy, rfl⟩ := List.mem_map.mp ((b5 x).mpr hx)
        exact List.mem_map.mpr ⟨y, hXG y hy, rfl⟩
      have ho' : ∀ x, x ∈ G.map (cj t) → gg_pw pm pid x 105 = pid → x ∈ S' := fun x hx h5 => by
        obtain ⟨y, hy, rfl⟩ := List.mem_map.mp hx
        rw [← iso_pw hG.1 hi1 hy] at h5
        have h6 := hi1.2.2.1 _ _ (gg_pm hG.1 hy 105) (gg_1 hG.1) (h5.trans (cj_1 b1).symm)
        exact (b5 _).mp (List.mem_map.mpr ⟨y, List.mem_append.mpr (Or.inl (ho y hy h6)), rfl⟩)
      have hp' : parO (G.map (cj t)) S' pm pid := par_x (par_c hG.1 hXG hi1 (par_s hG.1 hst g1 (fun x => by
        rw [List.mem_append, List.mem_map]
        exact ⟨fun h => h.imp id (fun ⟨z, hz, e⟩ => ⟨z, hz, e.symm⟩), fun h => h.imp id (fun ⟨z, hz, e⟩ => ⟨z, hz, e.symm⟩)⟩) (gg_1 hT.1) g3 g4 hp)) b5
      obtain ⟨ψ, G'', j'', S'', c1, c2, c3, c4, c5⟩ := two_loop hall hk hL m _ S' j' hG1 b2 b3 hst' ho' hp' (by omega)
      exact ⟨_, G'', j'', S'', iso_c hi1 c1, c2, c3, c4, c5⟩
    · exact ⟨_, G, j, S, iso_id G, hG, hj, hT, fun x => ⟨hst x, fun h1 => Classical.byContradiction fun h2 => hx ⟨x, h1, h2⟩⟩⟩
