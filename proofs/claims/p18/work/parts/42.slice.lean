-- pure: the block after it was split
theorem ph_add_mul {bs : Nat → Nat → Nat} {fr d : Nat} (c : Int) (u : Nat → Int) (l : Nat) : ph bs fr d (fun j => c * u j) l = c * ph bs fr d u l := by
  unfold ph
  rw [← si_mul]
  exact si_congr fun j _ => by grind
theorem ph_si {bs : Nat → Nat → Nat} {fr d n : Nat} (u : Nat → Int) (F : Nat → Nat → Int) (l : Nat) : ph bs fr d (fun j => si (fun q => u q * F q j) (List.range n)) l = si (fun q => u q * ph bs fr d (F q) l) (List.range n) := by
  unfold ph
  rw [si_congr (g := fun j => si (fun q => u q * (F q j * (bs (fr + j) l : Int))) (List.range n)) fun j _ => by
    rw [← si_mulr]
    exact si_congr fun q _ => by grind]
  rw [si_swap]
  exact si_congr fun q _ => si_mul _ _ _
theorem sl_b {p k fr d num x : Nat} {Am : Nat → Nat → Nat → Nat} {bs bs' : Nat → Nat → Nat} {pv : Nat → Nat} {X : Nat → Nat → Int} {ev fs : Nat → Nat} (hp : isPr p) (hpv : pvO k bs pv fr d) (hin : inO p k Am bs fr d) (hx : x < k) (hsp : spI p d (acM p k (Am x) pv bs fr) num d X ev fs) (hb : ∀ t l, t < d → l < k → bs' (fr + t) l < p ∧ (p : Int) ∣ (bs' (fr + t) l : Int) - ph bs fr d (X t) l) {t : Nat} (ht : t < d) : vq p k (bV bs' (fr + t)) (ph bs fr d (X t)) := fun l hl => (hb t l ht hl).2
theorem sl_eig {p k fr d num x : Nat} {Am : Nat → Nat → Nat → Nat} {bs bs' : Nat → Nat → Nat} {pv : Nat → Nat} {X : Nat → Nat → Int} {ev fs : Nat → Nat} (hp : isPr p) (hpv : pvO k bs pv fr d) (hin : inO p k Am bs fr d) (hx : x < k) (hsp : spI p d (acM p k (Am x) pv bs fr) num d X ev fs) (hb : ∀ t l, t < d → l < k → bs' (fr + t) l < p ∧ (p : Int) ∣ (bs' (fr + t) l : Int) - ph bs fr d (X t) l) {t : Nat} (ht : t < d) : vq p k (Tm Am k x (bV bs' (fr + t))) (fun l => (ev t : Int) * bV bs' (fr + t) l) := by
  have h1 := sl_b hp hpv hin hx hsp hb ht
  have h2 := vq_trans (mv_cong (fun j l => (Am x j l : Int)) h1 k) (ac_ph hpv hin hx (X t))
  have h3 : vq p k (ph bs fr d (mv (iM (acM p k (Am x) pv bs fr)) d (X t))) (ph bs fr d (fun j => (ev t : Int) * X t j)) := ph_cong (hsp.1 t ht).2.2
  have h4 : vq p k (ph bs fr d (fun j => (ev t : Int) * X t j)) (fun l => (ev t : Int) * ph bs fr d (X t) l) := vq_eq fun l _ => ph_add_mul _ _ _
  exact vq_trans h2 (vq_trans h3 (vq_trans h4 (vq_mul (ev t : Int) (vq_symm h1))))
theorem sl_old {p k fr d num x : Nat} {Am : Nat → Nat → Nat → Nat} {bs bs' : Nat → Nat → Nat} {pv : Nat → Nat} {X : Nat → Nat → Int} {ev fs : Nat → Nat} (hp : isPr p) (hpv : pvO k bs pv fr d) (hin : inO p k Am bs fr d) (hx : x < k) (hsp : spI p d (acM p k (Am x) pv bs fr) num d X ev fs) (hb : ∀ t l, t < d → l < k → bs' (fr + t) l < p ∧ (p : Int) ∣ (bs' (fr + t) l : Int) - ph bs fr d (X t) l) {y : Nat} {lam : Int} (hl : ∀ j, j < d → vq p k (Tm Am k y (bV bs (fr + j))) (fun l => lam * bV bs (fr + j) l)) {t : Nat} (ht : t < d) : vq p k (Tm Am k y (bV bs' (fr + t))) (fun l => lam * bV bs' (fr + t) l) := by
  have h1 := sl_b hp hpv hin hx hsp hb ht
  refine vq_trans (mv_cong (fun j l => (Am y j l : Int)) h1 k) (vq_trans (fun q hq => ?_) (vq_mul lam (vq_symm h1)))
  have e1 : Tm Am k y (ph bs fr d (X t)) q = si (fun j => X t j * Tm Am k y (bV bs (fr + j)) q) (List.range d) := by
    have := mv_si (fun j l => (Am y j l : Int)) k (fun j l => X t j * (bs (fr + j) l : Int)) (List.range d) q
    exact this.trans (si_congr fun j _ => mv_mul _ _ _ _ _)
  have e2 : lam * ph bs fr d (X t) q = si (fun j => X t j * (lam * (bs (fr + j) q : Int))) (List.range d) := by
    unfold ph
    rw [← si_mul]
    exact si_congr fun j _ => by grind
  show (p : Int) ∣ Tm Am k y (ph bs fr d (X t)) q - lam * ph bs fr d (X t) q
  rw [e1, e2]
  refine si_cong fun j hj => ?_
  obtain ⟨z, hz⟩ := hl j (List.mem_range.mp hj) q hq
  exact ⟨X t j * z, by grind⟩
theorem sl_pv {p k fr d num x : Nat} {Am : Nat → Nat → Nat → Nat} {bs bs' : Nat → Nat → Nat} {pv : Nat → Nat} {X : Nat → Nat → Int} {ev fs : Nat → Nat} (hp : isPr p) (hpv : pvO k bs pv fr d) (hin : inO p k Am bs fr d) (hx : x < k) (hsp : spI p d (acM p k (Am x) pv bs fr) num d X ev fs) (hb : ∀ t l, t < d → l < k → bs' (fr + t) l < p ∧ (p : Int) ∣ (bs' (fr + t) l : Int) - ph bs fr d (X t) l) {pv' : Nat → Nat} (hpv' : ∀ t, t < d → pv' (fr + t) = pv (fr + fs t)) {t0 e : Nat} (he : e ≤ d) (hrun : ∀ s, t0 ≤ s → s < e → ev s = ev t0) : pvO k bs' pv' (fr + t0) (e - t0) := by
  intro s t hs ht
  have hfs := (hsp.1 (t0 + t) (by omega)).2.1
  rw [show fr + t0 + t = fr + (t0 + t) by omega, show fr + t0 + s = fr + (t0 + s) by omega, hpv' (t0 + t) (by omega)]
  have hk := (hpv (fs (t0 + t)) (fs (t0 + t)) hfs hfs).1
  refine ⟨hk, ?_⟩
  obtain ⟨h1, h2⟩ := hb (t0 + s) (pv (fr + fs (t0 + t))) (by omega) hk
  have hp1 := hp.1
  rw [ph_pv hpv (X (t0 + s)) hfs, hsp.2.2.2.1 (t0 + s) (t0 + t) (by omega) (by omega) ((hrun (t0 + s) (by omega) (by omega)).trans (hrun (t0 + t) (by omega) (by omega)).symm)] at h2
  by_cases e9 : s = t
  · rw [if_pos e9]
    rw [if_pos (by omega)] at h2
    exact sm_eq h1 hp1 h2
  · rw [if_neg e9]
    rw [if_neg (by omega)] at h2
    exact sm_eq h1 (by omega) h2
theorem sl_in {p k fr d num x : Nat} {Am : Nat → Nat → Nat → Nat} {bs bs' : Nat → Nat → Nat} {pv : Nat → Nat} {X : Nat → Nat → Int} {ev fs : Nat → Nat} (hp : isPr p) (hpv : pvO k bs pv fr d) (hin : inO p k Am bs fr d) (hx : x < k) (hsp : spI p d (acM p k (Am x) pv bs fr) num d X ev fs) (hb : ∀ t l, t < d → l < k → bs' (fr + t) l < p ∧ (p : Int) ∣ (bs' (fr + t) l : Int) - ph bs fr d (X t) l) (hnp : num ≤ p) (hcom : ∀ (y z : Nat) (v : Nat → Int), y < k → z < k → vq p k (Tm Am k y (Tm Am k z v)) (Tm Am k z (Tm Am k y v))) {t0 e : Nat} (h0 : t0 < e) (he : e ≤ d) (hrun : ∀ s, t0 ≤ s → s < e → ev s = ev t0) (hall : ∀ s, s < d → ev s = ev t0 → t0 ≤ s ∧ s < e) : inO p k Am bs' (fr + t0) (e - t0) := by
  intro y s hy hs
  have hs1 : t0 + s < d := by omega
  rw [show fr + t0 + s = fr + (t0 + s) by omega]
  have hb1 := sl_b hp hpv hin hx hsp hb hs1
  have hev := hrun (t0 + s) (by omega) (by omega)
  -- what y makes of it, in coordinates
  have h1 := vq_trans (mv_cong (fun j l => (Am y j l : Int)) hb1 k) (ac_ph hpv hin hy (X (t0 + s)))
  have h2 : vq p d (mv (iM (acM p k (Am x) pv bs fr)) d (mv (iM (acM p k (Am y) pv bs fr)) d (X (t0 + s)))) (fun j => (ev t0 : Int) * mv (iM (acM p k (Am y) pv bs fr)) d (X (t0 + s)) j) := by
    refine ph_inj hpv ?_
    refine vq_trans (vq_symm (ac_ph hpv hin hx _)) ?_
    refine vq_trans (mv_cong (fun j l => (Am x j l : Int)) (vq_symm h1) k) ?_
    refine vq_trans (hcom x y _ hx hy) ?_
    refine vq_trans (mv_cong (fun j l => (Am y j l : Int)) (sl_eig hp hpv hin hx hsp hb hs1) k) ?_
    rw [hev]
    refine vq_trans (vq_eq fun l _ => mv_mul _ _ _ _ _) ?_
    refine vq_trans (vq_mul (ev t0 : Int) h1) ?_
    exact vq_eq fun l _ => (ph_add_mul _ _ _).symm
  obtain ⟨u, hu⟩ := run_sp hp hnp hsp h0 he hall h2
  refine ⟨u, vq_trans h1 (vq_trans (ph_cong hu) (fun l hl => ?_))⟩
  show (p : Int) ∣ ph bs fr d (fun j => si (fun q => u q * X (t0 + q) j) (List.range (e - t0))) l - si (fun q => u q * bV bs' (fr + t0 + q) l) (List.range (e - t0))
  rw [ph_si u (fun q => X (t0 + q)) l]
  refine si_cong fun q hq => ?_
  have hq1 := List.mem_range.mp hq
  obtain ⟨z, hz⟩ := (hb (t0 + q) l (by omega) hl).2
  have e9 : bV bs' (fr + t0 + q) l = (bs' (fr + (t0 + q)) l : Int) := by rw [Nat.add_assoc]
  rw [e9]
  exact ⟨-(u q * z), by grind⟩
theorem sl_sp {p k fr d num x : Nat} {Am : Nat → Nat → Nat → Nat} {bs bs' : Nat → Nat → Nat} {pv : Nat → Nat} {X : Nat → Nat → Int} {ev fs : Nat → Nat} (hp : isPr p) (hpv : pvO k bs pv fr d) (hin : inO p k Am bs fr d) (hx : x < k) (hsp : spI p d (acM p k (Am x) pv bs fr) num d X ev fs) (hb : ∀ t l, t < d → l < k → bs' (fr + t) l < p ∧ (p : Int) ∣ (bs' (fr + t) l : Int) - ph bs fr d (X t) l) {j : Nat} (hj : j < d) : ∃ c : Nat → Int, vq p k (bV bs (fr + j)) (fun l => si (fun s => c s * bV bs' (fr + s) l) (List.range d)) := by
  obtain ⟨c, hc⟩ := li_sp hp.1 hp.2 hsp.2.1 (fun q => ib (decide (q = j)))
  refine ⟨c, fun l hl => ?_⟩
  have h1 : ph bs fr d (fun q => ib (decide (q = j))) l = (bs (fr + j) l : Int) := by
    unfold ph
    exact si_one (fun q => (bs (fr + q) l : Int)) j List.nodup_range (List.mem_range.mpr hj)
  obtain ⟨z1, h2⟩ := ph_cong (bs := bs) (fr := fr) (k := k) hc l hl
  rw [h1, ph_si c X l] at h2
  have h3 : (p : Int) ∣ si (fun s => c s * ph bs fr d (X s) l) (List.range d) - si (fun s => c s * bV bs' (fr + s) l) (List.range d) := si_cong fun s hs => by
    obtain ⟨z, hz⟩ := (hb s l (List.mem_range.mp hs) hl).2
    exact ⟨-(c s * z), by grind⟩
  obtain ⟨z2, h3⟩ := h3
  show (p : Int) ∣ (bs (fr + j) l : Int) - si (fun s => c s * bV bs' (fr + s) l) (List.range d)
  exact ⟨z1 + z2, by grind⟩

