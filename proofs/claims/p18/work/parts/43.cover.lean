-- pure: the blocks one after the other
def blO (p k : Nat) (Am : Nat → Nat → Nat → Nat) (bs : Nat → Nat → Nat) (pv : Nat → Nat) (X0 fr d : Nat) : Prop := 0 < d ∧ pvO k bs pv fr d ∧ inO p k Am bs fr d ∧ ∀ y, y < X0 → ∃ lam : Int, ∀ j, j < d → vq p k (Tm Am k y (bV bs (fr + j))) (fun l => lam * bV bs (fr + j) l)
theorem blO_le {p k X0 X1 fr d : Nat} {Am : Nat → Nat → Nat → Nat} {bs : Nat → Nat → Nat} {pv : Nat → Nat} (h : blO p k Am bs pv X0 fr d) (hx : X1 ≤ X0) : blO p k Am bs pv X1 fr d := ⟨h.1, h.2.1, h.2.2.1, fun y hy => h.2.2.2 y (by omega)⟩
theorem blO_cg {p k X0 fr d : Nat} {Am : Nat → Nat → Nat → Nat} {bs bs' : Nat → Nat → Nat} {pv pv' : Nat → Nat} (h : blO p k Am bs pv X0 fr d) (hb : ∀ r, fr ≤ r → r < fr + d → bs' r = bs r ∧ pv' r = pv r) : blO p k Am bs' pv' X0 fr d := by
  obtain ⟨h1, h2, h3, h4⟩ := h
  have e : ∀ j, j < d → bV bs' (fr + j) = bV bs (fr + j) := fun j hj => by
    funext l
    show (bs' (fr + j) l : Int) = (bs (fr + j) l : Int)
    rw [(hb (fr + j) (by omega) (by omega)).1]
  refine ⟨h1, fun s t hs ht => ?_, fun x j hx hj => ?_, fun y hy => ?_⟩
  · rw [(hb (fr + t) (by omega) (by omega)).2, (hb (fr + s) (by omega) (by omega)).1]
    exact h2 s t hs ht
  · obtain ⟨c, hc⟩ := h3 x j hx hj
    rw [e j hj]
    refine ⟨c, vq_trans hc (vq_eq fun t _ => si_congr fun s hs => ?_)⟩
    show c s * bV bs (fr + s) t = c s * bV bs' (fr + s) t
    rw [e s (List.mem_range.mp hs)]
  · obtain ⟨lam, hl⟩ := h4 y hy
    exact ⟨lam, fun j hj => by rw [e j hj]; exact hl j hj⟩
theorem blO_1 {p k X0 fr : Nat} {Am : Nat → Nat → Nat → Nat} {bs : Nat → Nat → Nat} {pv : Nat → Nat} (h : blO p k Am bs pv X0 fr 1) (hx : X0 < k) : blO p k Am bs pv (X0 + 1) fr 1 := by
  refine ⟨h.1, h.2.1, h.2.2.1, fun y hy => ?_⟩
  by_cases e : y < X0
  · exact h.2.2.2 y e
  · obtain ⟨c, hc⟩ := h.2.2.1 y 0 (by omega) (by omega)
    refine ⟨c 0, fun j hj => ?_⟩
    have ej : j = 0 := by omega
    subst ej
    refine vq_trans hc (vq_eq fun t _ => ?_)
    show si (fun s => c s * bV bs (fr + s) t) [0] = _
    rw [si_cons, si_nil, Int.add_zero]
def cov (P : Nat → Nat → Prop) (h : Nat → Int32) : Nat → List Nat → Nat → Prop
  | fr, [], to => fr = to
  | fr, d :: ds, to => h fr = nI (fr + d) ∧ P fr d ∧ cov P h (fr + d) ds to
theorem cov_le {P : Nat → Nat → Prop} {h : Nat → Int32} : ∀ (ds : List Nat) {fr to : Nat}, cov P h fr ds to → fr ≤ to
  | [], _, _, e => Nat.le_of_eq e
  | d :: ds, _, _, e => Nat.le_trans (Nat.le_add_right _ d) (cov_le ds e.2.2)
theorem cov_mono {P Q : Nat → Nat → Prop} {h h' : Nat → Int32} (hP : ∀ f d, P f d → 0 < d) : ∀ (ds : List Nat) {fr to : Nat}, cov P h fr ds to → (∀ f d, fr ≤ f → f + d ≤ to → P f d → Q f d) → (∀ f, fr ≤ f → f < to → h' f = h f) → cov Q h' fr ds to
  | [], _, _, e, _, _ => e
  | d :: ds, fr, to, e, h1, h2 => by
    have h3 := cov_le ds e.2.2
    have h4 := hP fr d e.2.1
    exact ⟨by rw [h2 fr (Nat.le_refl fr) (by omega)]; exact e.1, h1 fr d (Nat.le_refl fr) h3 e.2.1, cov_mono hP ds e.2.2 (fun f d9 hf => h1 f d9 (by omega)) (fun f hf => h2 f (by omega))⟩
theorem cov_app {P : Nat → Nat → Prop} {h : Nat → Int32} : ∀ (ds : List Nat) {fr m to : Nat} {ds' : List Nat}, cov P h fr ds m → cov P h m ds' to → cov P h fr (ds ++ ds') to
  | [], _, _, _, _, e, e' => by have e : _ = _ := e; rw [e]; exact e'
  | _ :: ds, _, _, _, _, e, e' => ⟨e.1, e.2.1, cov_app ds e.2.2 e'⟩
theorem cov_runs {Q : Nat → Nat → Prop} {h : Nat → Int32} {fr d : Nat} {ev : Nat → Nat} (hen : enI d fr ev h) (hQ : ∀ t0 e, t0 < e → e ≤ d → (t0 = 0 ∨ ev (t0 - 1) ≠ ev t0) → (∀ s, t0 ≤ s → s < e → ev s = ev t0) → (e < d → ev e ≠ ev t0) → Q (fr + t0) (e - t0)) : ∀ n t0, n + t0 = d → (t0 = 0 ∨ t0 = d ∨ ev (t0 - 1) ≠ ev t0) → ∃ ds, cov Q h (fr + t0) ds (fr + d) := by
  intro n
  induction n using Nat.strongRecOn with
  | _ n ih =>
    intro t0 hn h1
    by_cases e0 : t0 = d
    · subst e0; exact ⟨[], rfl⟩
    · have h1 : t0 = 0 ∨ ev (t0 - 1) ≠ ev t0 := by
        rcases h1 with h1 | h1 | h1
        · exact Or.inl h1
        · exact absurd h1 e0
        · exact Or.inr h1
      obtain ⟨e, he1, he2, he3, he4, he5⟩ := hen t0 (by omega) h1
      have hnext : e = 0 ∨ e = d ∨ ev (e - 1) ≠ ev e := by
        by_cases e9 : e = d
        · exact Or.inr (Or.inl e9)
        · refine Or.inr (Or.inr fun h9 => he5 (by omega) ?_)
          rw [← h9]; exact he4 (e - 1) (by omega) (by omega)
      obtain ⟨ds, hds⟩ := ih (d - e) (by omega) e (by omega) hnext
      refine ⟨(e - t0) :: ds, ?_, hQ t0 e he1 he2 h1 he4 he5, ?_⟩
      · rw [show fr + t0 + (e - t0) = fr + e by omega]; exact he3
      · rw [show fr + t0 + (e - t0) = fr + e by omega]; exact hds
theorem blO_new {p k fr d num x : Nat} {Am : Nat → Nat → Nat → Nat} {bs bs' : Nat → Nat → Nat} {pv pv' : Nat → Nat} {X : Nat → Nat → Int} {ev fs : Nat → Nat} (hp : isPr p) (hbl : blO p k Am bs pv x fr d) (hx : x < k) (hnp : num ≤ p) (hsp : spI p d (acM p k (Am x) pv bs fr) num d X ev fs) (hb : ∀ t l, t < d → l < k → bs' (fr + t) l < p ∧ (p : Int) ∣ (bs' (fr + t) l : Int) - ph bs fr d (X t) l) (hpv' : ∀ t, t < d → pv' (fr + t) = pv (fr + fs t)) (hcom : ∀ (y z : Nat) (v : Nat → Int), y < k → z < k → vq p k (Tm Am k y (Tm Am k z v)) (Tm Am k z (Tm Am k y v)))
    (t0 e : Nat) (h0 : t0 < e) (he : e ≤ d) (hfst : t0 = 0 ∨ ev (t0 - 1) ≠ ev t0) (hrun : ∀ s, t0 ≤ s → s < e → ev s = ev t0) (hlast : e < d → ev e ≠ ev t0) : blO p k Am bs' pv' (x + 1) (fr + t0) (e - t0) := by
  obtain ⟨h1, h2, h3, h4⟩ := hbl
  have hmon := hsp.2.2.2.2
  have hall : ∀ s, s < d → ev s = ev t0 → t0 ≤ s ∧ s < e := fun s hs hes => by
    constructor
    · refine Nat.le_of_not_lt fun h9 => ?_
      rcases hfst with h10 | h10
      · omega
      · have h11 := hmon s (t0 - 1) (by omega) (by omega)
        have h12 := hmon (t0 - 1) t0 (by omega) (by omega)
        omega
    · refine Nat.lt_of_not_le fun h9 => ?_
      have h10 := hlast (by omega)
      have h11 := hmon t0 e (by omega) (by omega)
      have h12 := hmon e s h9 hs
      omega
  refine ⟨by omega, sl_pv hp h2 h3 hx hsp hb hpv' he hrun, sl_in hp h2 h3 hx hsp hb hnp hcom h0 he hrun hall, fun y hy => ?_⟩
  by_cases e9 : y < x
  · obtain ⟨lam, hl⟩ := h4 y e9
    refine ⟨lam, fun j hj => ?_⟩
    have h5 := sl_old hp h2 h3 hx hsp hb hl (t := t0 + j) (by omega)
    rw [← Nat.add_assoc] at h5
    exact h5
  · have ey : y = x := by omega
    subst ey
    refine ⟨(ev t0 : Int), fun j hj => ?_⟩
    have h5 := sl_eig hp h2 h3 hx hsp hb (t := t0 + j) (by omega)
    rw [← Nat.add_assoc, hrun (t0 + j) (by omega) (by omega)] at h5
    exact h5

