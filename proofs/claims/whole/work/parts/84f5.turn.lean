-- turning by a permutation
def cj (s c : Nat) : Nat := pm (pm (piv s) c) s
theorem piv_P {s : Nat} (hs : isP s) : isP (piv s) := isP_inv hs (piv_ok hs)
theorem cj_P {s c : Nat} (hs : isP s) (hc : isP c) : isP (cj s c) := isP_pm (isP_pm (piv_P hs) hc) hs
theorem cj_m {s a b : Nat} (hs : isP s) (hb : isP b) : cj s (pm a b) = pm (cj s a) (cj s b) := by
  unfold cj
  have h1 : pm s (pm (pm (piv s) b) s) = pm b s := by rw [pm_as, ← pm_as, pinv_r (piv_ok hs), pm_l1 (pm_lt _ _)]
  rw [pm_as (pm (piv s) a), h1, pm_as, pm_as, pm_as]
theorem cj_1 {s : Nat} (hs : isP s) : cj s pid = pid := by
  unfold cj
  rw [pm_r1 (piv_P hs).1, pinv_l hs (piv_ok hs)]
theorem cj_i {s a b : Nat} (hs : isP s) (ha : isP a) (hb : isP b) (e : cj s a = cj s b) : a = b := by
  have e2 := congrArg (fun z => pm (pm s z) (piv s)) e
  have h1 : ∀ c, isP c → pm (pm s (cj s c)) (piv s) = c := fun c hc => by
    unfold cj
    rw [pm_as, pm_as, pinv_r (piv_ok hs), pm_r1 (pm_lt _ _), ← pm_as, pinv_r (piv_ok hs), pm_l1 hc.1]
  simp only [h1 a ha, h1 b hb] at e2
  exact e2
theorem qj_cj (t h : Nat) : qm (qm (qv t) h) t = cj t h := by rw [qm_eq, qm_eq, qv_eq]; rfl
-- groups of at most 120 permutations
def grO (G : List Nat) : Prop := gg_ok G pm pid piv ∧ (∀ x, x ∈ G → isP x) ∧ G.length ≤ 120
def isoO (φ : Nat → Nat) (G G' : List Nat) : Prop := (∀ x, x ∈ G → φ x ∈ G') ∧ (∀ y, y ∈ G' → ∃ x, x ∈ G ∧ φ x = y) ∧ (∀ x y, x ∈ G → y ∈ G → φ x = φ y → x = y) ∧ (∀ x y, x ∈ G → y ∈ G → φ (pm x y) = pm (φ x) (φ y)) ∧ φ pid = pid
theorem iso_c {φ ψ : Nat → Nat} {G G' G'' : List Nat} (h : isoO φ G G') (h' : isoO ψ G' G'') : isoO (fun x => ψ (φ x)) G G'' := by
  refine ⟨fun x hx => h'.1 _ (h.1 x hx), fun y hy => ?_, fun x y hx hy e => h.2.2.1 x y hx hy (h'.2.2.1 _ _ (h.1 x hx) (h.1 y hy) e), fun x y hx hy => ?_, ?_⟩
  · obtain ⟨z, hz, e⟩ := h'.2.1 y hy
    obtain ⟨x, hx, e2⟩ := h.2.1 z hz
    exact ⟨x, hx, by show ψ (φ x) = y; rw [e2, e]⟩
  · show ψ (φ (pm x y)) = _
    rw [h.2.2.2.1 x y hx hy, h'.2.2.2.1 _ _ (h.1 x hx) (h.1 y hy)]
  · show ψ (φ pid) = pid
    rw [h.2.2.2.2, h'.2.2.2.2]
theorem iso_id (G : List Nat) : isoO (fun x => x) G G := ⟨fun _ h => h, fun y hy => ⟨y, hy, rfl⟩, fun _ _ _ _ e => e, fun _ _ _ _ => rfl, rfl⟩
theorem iso_pw {φ : Nat → Nat} {G G' : List Nat} (hG : gg_ok G pm pid piv) (h : isoO φ G G') {x : Nat} (hx : x ∈ G) : ∀ m, φ (gg_pw pm pid x m) = gg_pw pm pid (φ x) m
  | 0 => h.2.2.2.2
  | m + 1 => by
    show φ (pm (gg_pw pm pid x m) x) = pm (gg_pw pm pid (φ x) m) (φ x)
    rw [h.2.2.2.1 _ _ (gg_pm hG hx m) hx, iso_pw hG h hx m]
theorem gr_c {G : List Nat} (hG : grO G) {t : Nat} (ht : isP t) : grO (G.map (cj t)) ∧ isoO (cj t) G (G.map (cj t)) := by
  have hi : ∀ x y, x ∈ G → y ∈ G → cj t x = cj t y → x = y := fun x y hx hy e => cj_i ht (hG.2.1 x hx) (hG.2.1 y hy) e
  have hP : ∀ x, x ∈ G.map (cj t) → isP x := fun x hx => by
    obtain ⟨y, hy, rfl⟩ := List.mem_map.mp hx
    exact cj_P ht (hG.2.1 y hy)
  refine ⟨⟨fin_gg ?_ hP ?_ ?_, hP, by rw [List.length_map]; exact hG.2.2⟩, fun x hx => List.mem_map.mpr ⟨x, hx, rfl⟩, fun y hy => List.mem_map.mp hy, hi, fun x y hx hy => cj_m ht (hG.2.1 y hy), cj_1 ht⟩
  · exact List.pairwise_map.mpr (List.Pairwise.imp_of_mem (fun {u v} hu hv huv he => huv (hi u v hu hv he)) (gg_nd hG.1))
  · exact List.mem_map.mpr ⟨pid, gg_1 hG.1, cj_1 ht⟩
  · intro x hx y hy
    obtain ⟨u, hu, rfl⟩ := List.mem_map.mp hx
    obtain ⟨v, hv, rfl⟩ := List.mem_map.mp hy
    exact List.mem_map.mpr ⟨pm u v, gg_m hG.1 hu hv, cj_m ht (hG.2.1 v hv)⟩
section ST
variable {B n B' n' : Nat} {gens gens' S S' G : List Nat} {r t f : Nat}
theorem cl_in (hT : tbO B gens n S) (hG : grO G) (hst : ∀ x, x ∈ S → x ∈ G) (hr : r ∈ G) {k : List Nat → Bool} (h : clW qm (r :: gens) k f [342391] [342391] = true) : ∃ S2, S2.Nodup ∧ (∀ x, x ∈ S2 → x ∈ G) ∧ (∀ Y : Nat → Prop, Y pid → (∀ x g, Y x → g ∈ r :: gens → Y (pm x g)) → ∀ x, x ∈ S2 → Y x) ∧ k S2 = true := by
  obtain ⟨S2, a1, _, a3, a4⟩ := cl_t (by simp) (fun x hx => hx) h
  have hY : ∀ Y : Nat → Prop, Y pid → (∀ x g, Y x → g ∈ r :: gens → Y (pm x g)) → ∀ x, x ∈ S2 → Y x := fun Y h1 h2 => a3 Y (fun x hx => by rw [List.mem_singleton.mp hx]; exact h1) (fun x g hx hg => by rw [qm_eq]; exact h2 x g hx hg)
  refine ⟨S2, a1, hY (fun x => x ∈ G) (gg_1 hG.1) (fun x g hx hg => gg_m hG.1 hx ?_), hY, a4⟩
  rcases List.mem_cons.mp hg with rfl | hg
  · exact hr
  · exact hst g (hT.2.2.2.2.1 g hg)
theorem root_kill (hT : tbO B gens n S) (hG : grO G) (hst : ∀ x, x ∈ S → x ∈ G) (hr : r ∈ G) (h : clW qm (r :: gens) (fun S => Nat.ble 121 (ln S)) f [342391] [342391] = true) : False := by
  obtain ⟨S2, a1, a2, _, a4⟩ := cl_in hT hG hst hr h
  have h1 := Nat.le_of_ble_eq_true a4
  rw [ln_eq] at h1
  have h2 := a1.length_le_of_subset (l₂ := G) a2
  have := hG.2.2
  omega
theorem in_all (ht : isP t) (hT' : tbO B' gens' n' S') {L : List Nat} (hL : ∀ x, x ∈ L → isP x) (h : alW L (fun h => inB B' (qm (qm (qv t) h) t)) = true) : ∀ x, x ∈ L → cj t x ∈ S' := fun x hx => by
  have h1 := al_t.mp h x hx
  rw [qj_cj] at h1
  exact (hT'.2.2.2.1 _ (cj_P ht (hL x hx))).mpr h1
theorem cj_nd {L : List Nat} (ht : isP t) (hL : ∀ x, x ∈ L → isP x) (hn : L.Nodup) : (L.map (cj t)).Nodup := List.pairwise_map.mpr (List.Pairwise.imp_of_mem (fun {u v} hu hv huv he => huv (cj_i ht (hL u hu) (hL v hv) he)) hn)
theorem S_all (hT : tbO B gens n S) (hT' : tbO B' gens' n' S') (ht : isP t) (h : ∀ x, x ∈ gens → cj t x ∈ S') : ∀ x, x ∈ S → cj t x ∈ S' := by
  have h2 : ∀ x, x ∈ S → x ∈ S ∧ cj t x ∈ S' := hT.2.2.2.2.2 (fun x => x ∈ S ∧ cj t x ∈ S') ⟨gg_1 hT.1, by rw [cj_1 ht]; exact gg_1 hT'.1⟩ (fun c g hc hg => by
    have h1 := hT.2.2.2.2.1 g hg
    exact ⟨gg_m hT.1 hc.1 h1, by rw [cj_m ht (hT.2.1 g h1)]; exact gg_m hT'.1 hc.2 (h g hg)⟩)
  exact fun x hx => (h2 x hx).2
theorem root_go (hT : tbO B gens n S) (hT' : tbO B' gens' n' S') (hG : grO G) (hst : ∀ x, x ∈ S → x ∈ G) (hr : r ∈ G) (ht : isP t) (hin : alW (r :: gens) (fun h => inB B' (qm (qm (qv t) h) t)) = true) (h : clW qm (r :: gens) (fun S => Nat.ble n' (ln S)) f [342391] [342391] = true) : (∀ x, x ∈ S' → x ∈ G.map (cj t)) ∧ (∀ x, x ∈ S → cj t x ∈ S') := by
  obtain ⟨S2, a1, a2, a3, a4⟩ := cl_in hT hG hst hr h
  have h1 := Nat.le_of_ble_eq_true a4
  rw [ln_eq] at h1
  have hP : ∀ x, x ∈ r :: gens → isP x := fun x hx => by
    rcases List.mem_cons.mp hx with rfl | hx
    · exact hG.2.1 _ hr
    · exact hT.2.1 x (hT.2.2.2.2.1 x hx)
  have hi := in_all ht hT' hP hin
  have h2 : ∀ x, x ∈ S2 → cj t x ∈ S' := a3 (fun x => cj t x ∈ S') (by rw [cj_1 ht]; exact gg_1 hT'.1) (fun x g hx hg => by rw [cj_m ht (hP g hg)]; exact gg_m hT'.1 hx (hi g hg))
  have h3 := pg_all (cj_nd ht (fun x hx => hG.2.1 x (a2 x hx)) a1) (T := S') (fun y hy => by
    obtain ⟨x, hx, rfl⟩ := List.mem_map.mp hy
    exact h2 x hx) (by rw [List.length_map, hT'.2.2.1]; exact h1)
  refine ⟨fun x hx => ?_, S_all hT hT' ht fun x hx => hi x (List.mem_cons_of_mem _ hx)⟩
  obtain ⟨y, hy, rfl⟩ := List.mem_map.mp (h3 x hx)
  exact List.mem_map.mpr ⟨y, a2 y hy, rfl⟩
theorem nrm_go (hT : tbO B gens n S) (hst : ∀ x, x ∈ S → x ∈ G) (ht : isP t) (hin : alW gens (fun h => inB B (qm (qm (qv t) h) t)) = true) : (∀ x, x ∈ S → x ∈ G.map (cj t)) ∧ (∀ x, x ∈ S → cj t x ∈ S) := by
  have hi := S_all hT hT ht (in_all ht hT (fun x hx => hT.2.1 x (hT.2.2.2.2.1 x hx)) hin)
  have h3 := pg_all (cj_nd ht hT.2.1 (gg_nd hT.1)) (T := S) (fun y hy => by
    obtain ⟨x, hx, rfl⟩ := List.mem_map.mp hy
    exact hi x hx) (by rw [List.length_map]; exact Nat.le_refl _)
  refine ⟨fun x hx => ?_, hi⟩
  obtain ⟨y, hy, rfl⟩ := List.mem_map.mp (h3 x hx)
  exact List.mem_map.mpr ⟨y, hst y hy, rfl⟩
end ST
-- the groups by their numbers
def tO (j : Nat) (S : List Nat) : Prop := tbO (nt TB j) (gn j) (nt NS j) S
def goO (φ : Nat → Nat) (G G' S S' : List Nat) : Prop := isoO φ G G' ∧ grO G' ∧ (∀ x, x ∈ S' → x ∈ G') ∧ (∀ x, x ∈ S → φ x ∈ S')
theorem odd_step (hall : ∀ j, j < 258 → ∃ S, tO j S) {j : Nat} {A L R Z C S G : List Nat} (hA : ∀ j, j ∈ A → j < 258) (hk : ckO j A L R Z C = true) (hT : tO j S) (hG : grO G) (hst : ∀ x, x ∈ S → x ∈ G) {g : Nat} (hg : g ∈ G) (hgS : g ∉ S) (hgL : g ∈ flW 24 512 L) : ∃ φ G' j' S', goO φ G G' S S' ∧ j' ∈ A ∧ tO j' S' ∧ S.length < S'.length := by
  unfold ckO at hk
  simp only [fo_eq, fol_eq] at hk
  obtain ⟨k1, k2⟩ := bth_t.mp hk
  have hgP := hG.2.1 g hg
  obtain ⟨y, hy⟩ := zcc_t k2 g hgL (by
    cases hb : inB (nt TB j) g with
    | false => rfl
    | true => exact absurd ((hT.2.2.2.1 g hgP).mpr hb) hgS)
  unfold ccW at hy
  simp only [fo_eq] at hy
  generalize Nat.land y 16777215 = c at hy
  generalize Nat.shiftRight y 24 = r at hy
  obtain ⟨y1, y2⟩ := bth_t.mp hy
  obtain ⟨y3, y4⟩ := bth_t.mp y2
  obtain ⟨y5, y6⟩ := bth_t.mp y4
  have hc := isPb_t y1
  have hrR := el_t.mp y3
  have e := Nat.eq_of_beq_eq_true y5
  rw [qj_cj] at e
  subst e
  obtain ⟨n1, n2⟩ := nrm_go (G := G) hT hst hc y6
  obtain ⟨hG1, hi1⟩ := gr_c hG hc
  obtain ⟨z, hz⟩ := zc_t k1 _ hrR rfl
  unfold ccR at hz
  simp only [fo_eq] at hz
  have hr8 : cj c g ∈ G.map (cj c) := List.mem_map.mpr ⟨g, hg, rfl⟩
  cases hj : Nat.land (Nat.shiftRight z 8) 4095 with
  | zero =>
    rw [hj] at hz
    exact (root_kill hT hG1 n1 hr8 hz).elim
  | succ j' =>
    rw [hj] at hz
    have hz' : bth (isPb (Nat.shiftRight z 20)) (bth (el j' A) (bth (Nat.ble (Nat.succ (nt NS j)) (nt NS j')) (bth (alW (cj c g :: gn j) (fun h => inB (nt TB j') (qm (qm (qv (Nat.shiftRight z 20)) h) (Nat.shiftRight z 20)))) (clW qm (cj c g :: gn j) (fun S => Nat.ble (nt NS j') (ln S)) (Nat.land z 255) [342391] [342391])))) = true := hz
    obtain ⟨z1, z2⟩ := bth_t.mp hz'
    obtain ⟨z3, z4⟩ := bth_t.mp z2
    obtain ⟨z5, z6⟩ := bth_t.mp z4
    obtain ⟨z7, z8⟩ := bth_t.mp z6
    have ht := isPb_t z1
    have hjA := el_t.mp z3
    obtain ⟨S', hT'⟩ := hall j' (hA j' hjA)
    obtain ⟨g1, g2⟩ := root_go hT hT' hG1 n1 hr8 ht z7 z8
    obtain ⟨hG2, hi2⟩ := gr_c hG1 ht
    refine ⟨_, _, j', S', ⟨iso_c hi1 hi2, hG2, g1, fun x hx => g2 _ (n2 x hx)⟩, hjA, hT', ?_⟩
    rw [hT.2.2.1, hT'.2.2.1]
    exact Nat.le_of_ble_eq_true z5
theorem go_c {φ ψ : Nat → Nat} {G G' G'' S S' S'' : List Nat} (h : goO φ G G' S S') (h' : goO ψ G' G'' S' S'') : goO (fun x => ψ (φ x)) G G'' S S'' := ⟨iso_c h.1 h'.1, h'.2.1, h'.2.2.1, fun x hx => h'.2.2.2 _ (h.2.2.2 x hx)⟩
-- until all elements of order p are in S
theorem stg {A : List Nat} {P : List Nat → Nat → Prop} (step : ∀ (G S : List Nat) (j : Nat), grO G → j ∈ A → tO j S → (∀ x, x ∈ S → x ∈ G) → ∀ g, g ∈ G → P G g → g ∉ S → ∃ φ G' j' S', goO φ G G' S S' ∧ j' ∈ A ∧ tO j' S' ∧ S.length < S'.length) : ∀ (m : Nat) (G S : List Nat) (j : Nat), grO G → j ∈ A → tO j S → (∀ x, x ∈ S → x ∈ G) → 121 ≤ S.length + m → ∃ φ G' j' S', goO φ G G' S S' ∧ j' ∈ A ∧ tO j' S' ∧ ∀ g, g ∈ G' → P G' g → g ∈ S'
  | 0, G, S, j, hG, _, hT, hst, hm => by
    have h1 := (gg_nd hT.1).length_le_of_subset (l₂ := G) hst
    have := hG.2.2
    omega
  | m + 1, G, S, j, hG, hj, hT, hst, hm => by
    by_cases hx : ∃ g, g ∈ G ∧ P G g ∧ g ∉ S
    · obtain ⟨g, h1, h2, h3⟩ := hx
      obtain ⟨φ, G', j', S', a1, a2, a3, a4⟩ := step G S j hG hj hT hst g h1 h2 h3
      obtain ⟨ψ, G'', j'', S'', b1, b2, b3, b4⟩ := stg step m G' S' j' a1.2.1 a2 a3 a1.2.2.1 (by omega)
      exact ⟨_, G'', j'', S'', go_c a1 b1, b2, b3, b4⟩
    · exact ⟨_, G, j, S, ⟨iso_id G, hG, hst, fun x hx => hx⟩, hj, hT, fun g h1 h2 => Classical.byContradiction fun h3 => hx ⟨g, h1, h2, h3⟩⟩
