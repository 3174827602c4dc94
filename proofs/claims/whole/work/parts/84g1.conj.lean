-- conjugates, by the tables
noncomputable def qc (c g : Nat) : Nat := qm (qm (qv g) c) g
theorem qc_cj (c g : Nat) : qc c g = cj g c := qj_cj g c
noncomputable def kk (B : Nat) (gens : List Nat) (n : Nat) (reps : List Nat) (i tot : Nat) : Bool :=
  List.rec (motive := fun _ => Nat → Nat → Bool) (fun _ tot => Nat.beq tot n) (fun r _ ih i tot => bth (bth (isPb r) (inB B r)) (clW qc gens (fun O => bth (alW O (fun c => bth (Nat.beq (lb B c) i) (alW gens (fun g => Nat.beq (lb B (qc c g)) i)))) (fo (Nat.add tot (ln O)) (fun tot => fo (Nat.succ i) (fun i => ih i tot)))) 130 [r] [r])) reps i tot
section KK
variable {B n : Nat} {gens S : List Nat}
theorem piv_pm {a b : Nat} (ha : isP a) (hb : isP b) : piv (pm a b) = pm (piv b) (piv a) := by
  have h1 : pm (pm a b) (pm (piv b) (piv a)) = pid := by rw [pm_as, ← pm_as b, pinv_r (piv_ok hb), pm_l1 (piv_P ha).1, pinv_r (piv_ok ha)]
  have h2 := congrArg (pm (piv (pm a b))) h1
  rw [← pm_as, pinv_l (isP_pm ha hb) (piv_ok (isP_pm ha hb)), pm_l1 (pm_lt _ _), pm_r1 (piv_P (isP_pm ha hb)).1] at h2
  exact h2.symm
theorem cj_cj {a b x : Nat} (ha : isP a) (hb : isP b) : cj (pm a b) x = cj b (cj a x) := by
  unfold cj
  rw [piv_pm ha hb]
  simp only [pm_as]
theorem cj_id {x : Nat} (hx : isP x) : cj pid x = x := by
  unfold cj
  have : piv pid = pid := by decide +kernel
  rw [this, pm_l1 hx.1, pm_r1 hx.1]
theorem cj_S (hT : tbO B gens n S) {g x : Nat} (hg : g ∈ S) (hx : x ∈ S) : cj g x ∈ S := gg_m hT.1 (gg_m hT.1 (gg_i hT.1 hg) hx) hg
theorem kk_t (hT : tbO B gens n S) : ∀ {reps : List Nat} {i tot : Nat}, kk B gens n reps i tot = true → ∃ U : List Nat, U.Nodup ∧ U.length + tot = n ∧ (∀ x, x ∈ U → x ∈ S ∧ i ≤ lb B x ∧ lb B x < i + reps.length ∧ (∃ g, g ∈ S ∧ x = cj g (nt reps (lb B x - i))) ∧ ∀ g, g ∈ gens → lb B (cj g x) = lb B x) ∧ ∀ m, m < reps.length → nt reps m ∈ S ∧ lb B (nt reps m) = i + m
  | [], i, tot, h => by
    have h1 : Nat.beq tot n = true := h
    exact ⟨[], List.nodup_nil, by rw [List.length_nil, Nat.zero_add]; exact Nat.eq_of_beq_eq_true h1, fun x hx => absurd hx List.not_mem_nil, fun m hm => absurd hm (Nat.not_lt_zero m)⟩
  | r :: reps, i, tot, h => by
    have e : kk B gens n (r :: reps) i tot = bth (bth (isPb r) (inB B r)) (clW qc gens (fun O => bth (alW O (fun c => bth (Nat.beq (lb B c) i) (alW gens (fun g => Nat.beq (lb B (qc c g)) i)))) (fo (Nat.add tot (ln O)) (fun tot => fo (Nat.succ i) (fun i => kk B gens n reps i tot)))) 130 [r] [r]) := rfl
    rw [e] at h
    obtain ⟨h1, h2⟩ := bth_t.mp h
    obtain ⟨h3, h4⟩ := bth_t.mp h1
    have hrS : r ∈ S := (hT.2.2.2.1 r (isPb_t h3)).mpr h4
    obtain ⟨O, a1, a2, a3, a4⟩ := cl_t (by simp) (fun x hx => hx) h2
    obtain ⟨b1, b2⟩ := bth_t.mp a4
    simp only [fo_eq] at b2
    rw [ln_eq] at b2
    obtain ⟨U, c1, c2, c3, c4⟩ := kk_t hT b2
    have hO : ∀ x, x ∈ O → ∃ g, g ∈ S ∧ x = cj g r := a3 (fun x => ∃ g, g ∈ S ∧ x = cj g r) (fun x hx => by
      rw [List.mem_singleton.mp hx]
      exact ⟨pid, gg_1 hT.1, (cj_id (hT.2.1 r hrS)).symm⟩) (fun x g hx hg => by
      obtain ⟨u, hu, rfl⟩ := hx
      have hgS := hT.2.2.2.2.1 g hg
      exact ⟨pm u g, gg_m hT.1 hu hgS, by rw [qc_cj, cj_cj (hT.2.1 u hu) (hT.2.1 g hgS)]⟩)
    have hOl : ∀ x, x ∈ O → lb B x = i ∧ ∀ g, g ∈ gens → lb B (cj g x) = i := fun x hx => by
      obtain ⟨d1, d2⟩ := bth_t.mp (al_t.mp b1 x hx)
      refine ⟨Nat.eq_of_beq_eq_true d1, fun g hg => ?_⟩
      have := Nat.eq_of_beq_eq_true (al_t.mp d2 g hg)
      rw [qc_cj] at this
      exact this
    have hlr : lb B r = i := (hOl r (a2 r List.mem_cons_self)).1
    refine ⟨O ++ U, List.nodup_append.mpr ⟨a1, c1, fun u hu v hv he => ?_⟩, ?_, fun x hx => ?_, fun m hm => ?_⟩
    · subst he
      have := (hOl u hu).1
      have := (c3 u hv).2.1
      omega
    · rw [List.length_append]
      have e2 : U.length + (tot + O.length) = n := c2
      omega
    · rcases List.mem_append.mp hx with hx | hx
      · obtain ⟨g, hg, e2⟩ := hO x hx
        obtain ⟨d1, d2⟩ := hOl x hx
        refine ⟨by rw [e2]; exact cj_S hT hg hrS, by omega, by rw [List.length_cons]; omega, ⟨g, hg, ?_⟩, fun g hg => by rw [d2 g hg, d1]⟩
        rw [d1, Nat.sub_self]
        exact e2
      · obtain ⟨d1, d2, d3, ⟨g, hg, e2⟩, d5⟩ := c3 x hx
        refine ⟨d1, by omega, by rw [List.length_cons]; omega, ⟨g, hg, ?_⟩, d5⟩
        have e3 : lb B x - i = (lb B x - Nat.succ i) + 1 := by omega
        rw [e3]
        exact e2
    · cases m with
      | zero => exact ⟨hrS, hlr⟩
      | succ m =>
        obtain ⟨d1, d2⟩ := c4 m (by rw [List.length_cons] at hm; omega)
        exact ⟨d1, by show lb B (nt reps m) = _; omega⟩
theorem kk_ok (hT : tbO B gens n S) {reps : List Nat} (h : kk B gens n reps 0 0 = true) (h0 : nt reps 0 = pid) (hk : 0 < reps.length) : kc_ok S pm pid piv reps.length (lb B) (nt reps) := by
  obtain ⟨U, c1, c2, c3, c4⟩ := kk_t hT h
  have hU : ∀ x, x ∈ S → x ∈ U := pg_all c1 (fun x hx => (c3 x hx).1) (by rw [hT.2.2.1]; omega)
  have hinv : ∀ g, g ∈ S → g ∈ S ∧ ∀ x, x ∈ S → lb B (cj g x) = lb B x := hT.2.2.2.2.2 (fun g => g ∈ S ∧ ∀ x, x ∈ S → lb B (cj g x) = lb B x) ⟨gg_1 hT.1, fun x hx => by rw [cj_id (hT.2.1 x hx)]⟩ (fun c g hc hg => by
    have hgS := hT.2.2.2.2.1 g hg
    refine ⟨gg_m hT.1 hc.1 hgS, fun x hx => ?_⟩
    rw [cj_cj (hT.2.1 c hc.1) (hT.2.1 g hgS), (c3 _ (hU _ (cj_S hT hc.1 hx))).2.2.2.2 g hg, hc.2 x hx])
  have hl : ∀ x, x ∈ S → lb B x < reps.length := fun x hx => by have := (c3 x (hU x hx)).2.2.1; omega
  have hcj : ∀ x, x ∈ S → ∃ g, g ∈ S ∧ x = cj g (nt reps (lb B x)) := fun x hx => (c3 x (hU x hx)).2.2.2.1
  refine ⟨hT.1, hl, fun i hi => by have := c4 i hi; rw [Nat.zero_add] at this; exact this, fun x hx y hy => ⟨fun e => ?_, fun ⟨g, hg, e⟩ => ?_⟩, ?_, hk⟩
  · obtain ⟨u, hu, eu⟩ := hcj x hx
    obtain ⟨v, hv, ev⟩ := hcj y hy
    rw [← e] at ev
    have hr := (c4 _ (hl x hx)).1
    generalize nt reps (lb B x) = r at eu ev hr
    -- g = u^-1 v
    refine ⟨pm (piv u) v, gg_m hT.1 (gg_i hT.1 hu) hv, ?_⟩
    rw [eu, ev]
    have h1 : pm (pm (piv u) v) (cj v r) = pm (piv u) (pm r v) := by
      unfold cj
      rw [pm_as, pm_as, ← pm_as v, pinv_r (piv_ok (hT.2.1 v hv)), pm_l1 (pm_lt _ _)]
    have h2 : pm (cj u r) (pm (piv u) v) = pm (piv u) (pm r v) := by
      unfold cj
      rw [pm_as, pm_as, ← pm_as u, pinv_r (piv_ok (hT.2.1 u hu)), pm_l1 (hT.2.1 v hv).1]
    rw [h1, h2]
  · have e2 : y = cj g x := by
      unfold cj
      rw [pm_as, ← e, ← pm_as, pinv_l (hT.2.1 g hg) (piv_ok (hT.2.1 g hg)), pm_l1 (hT.2.1 y hy).1]
    rw [e2, (hinv g hg).2 x hx]
  · have := (c4 0 hk).2
    rw [h0] at this
    exact this
end KK
-- two lists, one from the other
theorem iso_perm {φ : Nat → Nat} {G S : List Nat} (hG : G.Nodup) (hS : S.Nodup) (h : isoO φ G S) : (G.map φ).Perm S := by
  refine (List.perm_ext_iff_of_nodup (List.pairwise_map.mpr (List.Pairwise.imp_of_mem (fun {u v} hu hv huv he => huv (h.2.2.1 u v hu hv he)) hG)) hS).mpr fun y => ?_
  constructor
  · intro hy
    obtain ⟨x, hx, rfl⟩ := List.mem_map.mp hy
    exact h.1 x hx
  · intro hy
    obtain ⟨x, hx, rfl⟩ := h.2.1 y hy
    exact List.mem_map.mpr ⟨x, hx, rfl⟩
section IK
variable {φ : Nat → Nat} {G S : List Nat} {k k' : Nat} {kl re kl' re' : Nat → Nat}
theorem iso_iv (hG : gg_ok G pm pid piv) (hS : gg_ok S pm pid piv) (h : isoO φ G S) {x : Nat} (hx : x ∈ G) : φ (piv x) = piv (φ x) := by
  refine gg_iu hS (h.1 x hx) (h.1 _ (gg_i hG hx)) ?_
  rw [← h.2.2.2.1 _ _ hx (gg_i hG hx), gg_ri hG hx, h.2.2.2.2]
theorem ik_1 (hk : kc_ok G pm pid piv k kl re) (hk' : kc_ok S pm pid piv k' kl' re') (h : isoO φ G S) {x y : Nat} (hx : x ∈ G) (hy : y ∈ G) : kl x = kl y ↔ kl' (φ x) = kl' (φ y) := by
  rw [kc_iff hk hx hy, kc_iff hk' (h.1 x hx) (h.1 y hy)]
  constructor
  · rintro ⟨g, hg, e⟩
    exact ⟨φ g, h.1 g hg, by rw [← h.2.2.2.1 _ _ hg hy, e, h.2.2.2.1 _ _ hx hg]⟩
  · rintro ⟨g, hg, e⟩
    obtain ⟨u, hu, rfl⟩ := h.2.1 g hg
    refine ⟨u, hu, h.2.2.1 _ _ (gg_m (kc_g hk) hu hy) (gg_m (kc_g hk) hx hu) ?_⟩
    rw [h.2.2.2.1 _ _ hu hy, h.2.2.2.1 _ _ hx hu, e]
theorem ik_pi (hk : kc_ok G pm pid piv k kl re) (hk' : kc_ok S pm pid piv k' kl' re') (h : isoO φ G S) {y : Nat} (hy : y ∈ G) : kl' (φ (re (kl y))) = kl' (φ y) :=
  (ik_1 hk hk' h (kc_re hk (kc_lt hk hy)) hy).mp (kc_kr hk (kc_lt hk hy))
theorem ik_inj (hk : kc_ok G pm pid piv k kl re) (hk' : kc_ok S pm pid piv k' kl' re') (h : isoO φ G S) {l l' : Nat} (hl : l < k) (hl' : l' < k) (e : kl' (φ (re l)) = kl' (φ (re l'))) : l = l' := by
  have h1 := (ik_1 hk hk' h (kc_re hk hl) (kc_re hk hl')).mpr e
  rw [kc_kr hk hl, kc_kr hk hl'] at h1
  exact h1
theorem ik_k (hk : kc_ok G pm pid piv k kl re) (hk' : kc_ok S pm pid piv k' kl' re') (h : isoO φ G S) : k = k' := by
  have h1 : ((List.range k).map (fun l => kl' (φ (re l)))).Nodup := List.pairwise_map.mpr (List.Pairwise.imp_of_mem (fun {u v} hu hv huv he => by
    have := ik_inj hk hk' h (List.mem_range.mp hu) (List.mem_range.mp hv) he
    omega) List.pairwise_lt_range)
  have h2 := h1.length_le_of_subset (l₂ := List.range k') (fun y hy => by
    obtain ⟨l, hl, rfl⟩ := List.mem_map.mp hy
    exact List.mem_range.mpr (kc_lt hk' (h.1 _ (kc_re hk (List.mem_range.mp hl)))))
  have h3 := List.nodup_range (n := k')
  have h4 := h3.length_le_of_subset (l₂ := (List.range k).map (fun l => kl' (φ (re l)))) (fun l hl => by
    have hl' := List.mem_range.mp hl
    obtain ⟨x, hx, e⟩ := h.2.1 _ (kc_re hk' hl')
    refine List.mem_map.mpr ⟨kl x, List.mem_range.mpr (kc_lt hk hx), ?_⟩
    rw [ik_pi hk hk' h hx, e, kc_kr hk' hl'])
  rw [List.length_map, List.length_range, List.length_range] at h2 h4
  omega
theorem ik_s (hk : kc_ok G pm pid piv k kl re) (hk' : kc_ok S pm pid piv k' kl' re') (h : isoO φ G S) {l : Nat} (hl : l < k) : kc_s G kl l = kc_s S kl' (kl' (φ (re l))) := by
  unfold kc_s
  rw [← (iso_perm (gg_nd (kc_g hk)) (gg_nd (kc_g hk')) h).countP_eq, List.countP_map]
  refine List.countP_congr fun x hx => ?_
  rw [decide_eq_true_iff]
  show _ ↔ decide (kl' (φ x) = kl' (φ (re l))) = true
  rw [decide_eq_true_iff, ← ik_1 hk hk' h hx (kc_re hk hl), kc_kr hk hl]
-- the sum over the conjugates
theorem ik_sum (hk : kc_ok G pm pid piv k kl re) (hk' : kc_ok S pm pid piv k' kl' re') (h : isoO φ G S) (f : Nat → Int) {i l : Nat} (hi : i < k) (hl : l < k) : si (fun j => (kc_n G pm piv kl i j (re l) : Int) * f (kl' (φ (re j)))) (List.range k) = si (fun x => ib (decide (kl' x = kl' (φ (re i)))) * f (kl' (pm (piv x) (re' (kl' (φ (re l))))))) S := by
  have hG := kc_g hk
  have hS := kc_g hk'
  have hz := kc_re hk hl
  have hz' := h.1 _ hz
  rw [← kc_sum hk hz i (fun j => f (kl' (φ (re j))))]
  -- on S, at phi z
  have e1 : si (fun x => ib (decide (kl' x = kl' (φ (re i)))) * f (kl' (pm (piv x) (φ (re l))))) S = si (fun x => ib (decide (kl x = i)) * f (kl' (φ (re (kl (pm (piv x) (re l))))))) G := by
    rw [← si_perm _ (iso_perm (gg_nd hG) (gg_nd hS) h), si_map]
    refine si_congr fun x hx => ?_
    have e2 : decide (kl' (φ x) = kl' (φ (re i))) = decide (kl x = i) := decide_eq_decide.mpr (by rw [← ik_1 hk hk' h hx (kc_re hk hi), kc_kr hk hi])
    rw [e2, ik_pi hk hk' h (gg_m hG (gg_i hG hx) hz), h.2.2.2.1 _ _ (gg_i hG hx) hz, iso_iv hG hS h hx]
  rw [← e1, kc_sum hk' hz', kc_sum hk' (kc_re hk' (kc_lt hk' hz'))]
  refine si_congr fun j _ => ?_
  rw [kc_n_conj hk' hz' (kc_re hk' (kc_lt hk' hz')) (kc_kr hk' (kc_lt hk' hz')).symm]
end IK
