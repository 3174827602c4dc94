-- tables of central maps modulo p, by the kernel
noncomputable def gE (E t j : Nat) : Nat := Nat.land (Nat.shiftRight E (Nat.mul 8 (Nat.add (Nat.mul 16 t) j))) 255
noncomputable def plK (B z : Nat) (S : List Nat) : List Nat := List.rec (motive := fun _ => List Nat) [] (fun x _ ih => Nat.add (lb B x) (Nat.mul 256 (lb B (qm (qv x) z))) :: ih) S
noncomputable def fj (i : Nat) (L : List Nat) : List Nat := List.rec (motive := fun _ => List Nat) [] (fun x _ ih => Bool.rec ih (Nat.shiftRight x 8 :: ih) (Nat.beq (Nat.land x 255) i)) L
noncomputable def smE (E t : Nat) (J : List Nat) : Nat := List.rec (motive := fun _ => Nat → Nat) (fun a => a) (fun j _ ih a => fo (Nat.add a (gE E t j)) ih) J 0
noncomputable def smr (f : Nat → Nat) (k : Nat) : Nat := Nat.rec (motive := fun _ => Nat) 0 (fun t s => Nat.add s (f t)) k
noncomputable def cnB (B l : Nat) (S : List Nat) : Nat := List.rec (motive := fun _ => Nat → Nat) (fun a => a) (fun x _ ih a => Bool.rec (ih a) (fo (Nat.succ a) ih) (Nat.beq (lb B x) l)) S 0
noncomputable def nob (b : Bool) : Bool := Bool.rec true false b
noncomputable def eqb (a b : Bool) : Bool := Bool.rec (nob b) b a
noncomputable def btK (m l : Nat) : Bool := Nat.beq (Nat.land (Nat.shiftRight m l) 1) 1
noncomputable def qp (r m : Nat) : Nat := Nat.rec (motive := fun _ => Nat → Nat) (fun a => a) (fun _ ih a => fo (qm a r) ih) m 342391
noncomputable def qpr (p : Nat) : Bool := bth (Nat.ble 2 p) (rg 2 (Nat.sub p 2) (fun d => nob (Nat.beq (Nat.mod p d) 0)))
noncomputable def ckA (B : Nat) (S reps : List Nat) (k p E La : Nat) : Bool := rg 0 k (fun l => fo (nt reps l) (fun z => fol (plK B z S) (fun L => rg 0 k (fun i => fol (fj i L) (fun J => rg 0 k (fun t => Nat.beq (Nat.mod (smE E t J) p) (Nat.mod (Nat.mul (gE La t i) (gE E t l)) p)))))))
noncomputable def ckB (k p E : Nat) : Bool := rg 0 k (fun j => Nat.beq (Nat.mod (smr (fun t => gE E t j) k) p) (Nat.rec (motive := fun _ => Nat) 1 (fun _ _ => 0) j))
noncomputable def ckM (B : Nat) (S Ms : List Nat) (k p La : Nat) : Bool := rg 0 k (fun l => fo (Nat.mod (cnB B l S) p) (fun s => rg 0 k (fun t => eqb (btK (nt Ms t) l) (Nat.beq (Nat.mod (gE La t l) p) s))))
noncomputable def ckC (Ms : List Nat) (k : Nat) : Bool := fo (Nat.sub (Nat.shiftLeft 1 k) 1) (fun F => clW Nat.land Ms (fun C => bth (Nat.ble (ln C) 128) (alW C (fun c => alW Ms (fun m => el (Nat.land c m) C)))) 200 [F] [F])
noncomputable def ckE (reps : List Nat) (e : Nat) : Bool := bth (Nat.ble 1 e) (bth (alW reps (fun r => Nat.beq (qp r e) 342391)) (rg 1 (Nat.sub e 1) (fun m => nob (alW reps (fun r => Nat.beq (qp r m) 342391)))))
noncomputable def ckP (n e p : Nat) : Bool := fo (Nat.div (Nat.sub p 1) e) (fun t => bth (bth (Nat.ble 1 t) (bth (Nat.beq (Nat.add (Nat.mul t e) 1) p) (bth (qpr p) (Nat.ble (Nat.succ (Nat.mul 4 n)) (Nat.mul p p))))) (rg 1 (Nat.sub t 1) (fun u => fo (Nat.add (Nat.mul u e) 1) (fun q => Bool.rec (nob (qpr q)) true (Nat.ble (Nat.mul q q) (Nat.mul 4 n))))))
theorem nob_t {b : Bool} : nob b = true ↔ b = false := by cases b <;> simp [nob]
theorem eqb_t {a b : Bool} (h : eqb a b = true) : a = b := by cases a <;> cases b <;> first | rfl | cases h
theorem rg_i {P : Nat → Bool} : ∀ {n lo : Nat}, (∀ j, lo ≤ j → j < lo + n → P j = true) → rg lo n P = true
  | 0, lo, _ => rfl
  | n + 1, lo, h => by
    have e : rg lo (n + 1) P = Bool.rec false (fo (Nat.succ lo) (fun i => rg i n P)) (P lo) := rfl
    rw [e, fo_eq, h lo (Nat.le_refl lo) (by omega)]
    exact rg_i (n := n) (lo := lo + 1) fun j h1 h2 => h j (by omega) (by omega)
theorem qpr_t {p : Nat} : qpr p = true ↔ 1 < p ∧ ∀ m, m ∣ p → m = 1 ∨ m = p := by
  unfold qpr
  rw [bth_t]
  constructor
  · rintro ⟨h1, h2⟩
    have h3 := Nat.le_of_ble_eq_true h1
    refine ⟨h3, fun m hm => ?_⟩
    by_cases e1 : m = 1
    · exact Or.inl e1
    · by_cases e2 : m = p
      · exact Or.inr e2
      · have hle := Nat.le_of_dvd (by omega) hm
        have hm0 : m ≠ 0 := fun e => by rw [e] at hm; have := Nat.eq_zero_of_zero_dvd hm; omega
        have h4 := nob_t.mp (rg_t h2 m (by omega) (by have e : Nat.sub p 2 = p - 2 := rfl; omega))
        rw [show Nat.mod p m = 0 from Nat.mod_eq_zero_of_dvd hm] at h4
        cases h4
  · rintro ⟨h1, h2⟩
    refine ⟨Nat.ble_eq_true_of_le h1, rg_i fun d h3 h4 => nob_t.mpr ?_⟩
    have e : Nat.sub p 2 = p - 2 := rfl
    cases hb : Nat.beq (Nat.mod p d) 0 with
    | false => rfl
    | true =>
      have h5 : p % d = 0 := Nat.eq_of_beq_eq_true hb
      rcases h2 d (Nat.dvd_of_mod_eq_zero h5) with h6 | h6 <;> omega
theorem qp_eq (r m : Nat) : qp r m = gg_pw pm pid r m := by
  have h : ∀ (m c : Nat), (Nat.rec (motive := fun _ => Nat → Nat) (fun a => a) (fun _ ih a => fo (qm a r) ih) m (gg_pw pm pid r c) : Nat) = gg_pw pm pid r (c + m) := by
    intro m
    induction m with
    | zero => intro c; rfl
    | succ m ih =>
      intro c
      show fo (qm (gg_pw pm pid r c) r) _ = _
      rw [fo_eq, qm_eq]
      refine (ih (c + 1)).trans ?_
      rw [show c + 1 + m = c + (m + 1) by omega]
  have h1 := h m 0
  rw [Nat.zero_add] at h1
  exact h1
theorem ckP_t {n e p : Nat} (h : ckP n e p = true) : (1 < p ∧ ∀ m, m ∣ p → m = 1 ∨ m = p) ∧ 4 * n < p * p ∧ (∃ t, 1 ≤ t ∧ p = t * e + 1) ∧ ∀ t, 1 ≤ t → (1 < t * e + 1 ∧ ∀ m, m ∣ t * e + 1 → m = 1 ∨ m = t * e + 1) → 4 * n < (t * e + 1) * (t * e + 1) → p ≤ t * e + 1 := by
  unfold ckP at h
  simp only [fo_eq] at h
  generalize Nat.div (Nat.sub p 1) e = t at h
  obtain ⟨h1, h2⟩ := bth_t.mp h
  obtain ⟨h3, h4⟩ := bth_t.mp h1
  obtain ⟨h5, h6⟩ := bth_t.mp h4
  obtain ⟨h7, h8⟩ := bth_t.mp h6
  have ht := Nat.le_of_ble_eq_true h3
  have hp : t * e + 1 = p := Nat.eq_of_beq_eq_true h5
  refine ⟨qpr_t.mp h7, Nat.le_of_ble_eq_true h8, ⟨t, ht, hp.symm⟩, fun u hu hpr h4n => Nat.not_lt.mp fun hlt => ?_⟩
  have hut : u < t := Nat.lt_of_not_le fun h9 => by
    have := Nat.mul_le_mul_right e h9
    omega
  have h9 := rg_t h2 u hu (by have e : Nat.sub t 1 = t - 1 := rfl; omega)
  have e1 : Nat.add (Nat.mul u e) 1 = u * e + 1 := rfl
  rw [e1] at h9
  cases hb : Nat.ble (Nat.mul (u * e + 1) (u * e + 1)) (Nat.mul 4 n) with
  | true =>
    have h10 : (u * e + 1) * (u * e + 1) ≤ 4 * n := Nat.le_of_ble_eq_true hb
    omega
  | false =>
    rw [hb] at h9
    have h10 := nob_t.mp h9
    rw [qpr_t.mpr hpr] at h10
    cases h10
theorem ckE_t {reps : List Nat} {e : Nat} (h : ckE reps e = true) : 0 < e ∧ (∀ r, r ∈ reps → gg_pw pm pid r e = pid) ∧ ∀ m, 0 < m → m < e → ∃ r, r ∈ reps ∧ gg_pw pm pid r m ≠ pid := by
  unfold ckE at h
  obtain ⟨h1, h2⟩ := bth_t.mp h
  obtain ⟨h3, h4⟩ := bth_t.mp h2
  refine ⟨Nat.le_of_ble_eq_true h1, fun r hr => ?_, fun m hm hme => Classical.byContradiction fun hn => ?_⟩
  · have := Nat.eq_of_beq_eq_true (al_t.mp h3 r hr)
    rw [qp_eq] at this
    exact this
  · have h5 := nob_t.mp (rg_t h4 m hm (by have e9 : Nat.sub e 1 = e - 1 := rfl; omega))
    have h6 : alW reps (fun r => Nat.beq (qp r m) 342391) = true := al_t.mpr fun r hr => by
      have h7 : gg_pw pm pid r m = pid := Classical.byContradiction fun h8 => hn ⟨r, hr, h8⟩
      rw [qp_eq, h7]; rfl
    rw [h6] at h5
    cases h5
theorem lb_lt (B c : Nat) : lb B c < 256 := by
  show _ &&& 255 < 256
  rw [show (255 : Nat) = 2 ^ 8 - 1 from rfl, Nat.and_two_pow_sub_one_eq_mod]
  exact Nat.mod_lt _ (by decide)
theorem smE_eq (E t B z i : Nat) (S : List Nat) : (smE E t (fj i (plK B z S)) : Int) = si (fun x => ib (decide (lb B x = i)) * (gE E t (lb B (pm (piv x) z)) : Int)) S := by
  have h : ∀ (S : List Nat) (a : Nat), ((List.rec (motive := fun _ => Nat → Nat) (fun a => a) (fun j _ ih a => fo (Nat.add a (gE E t j)) ih) (fj i (plK B z S)) a : Nat) : Int) = (a : Int) + si (fun x => ib (decide (lb B x = i)) * (gE E t (lb B (pm (piv x) z)) : Int)) S := by
    intro S
    induction S with
    | nil => intro a; simp [si]; rfl
    | cons x S ih =>
      intro a
      have e : fj i (plK B z (x :: S)) = Bool.rec (fj i (plK B z S)) (Nat.shiftRight (Nat.add (lb B x) (Nat.mul 256 (lb B (qm (qv x) z)))) 8 :: fj i (plK B z S)) (Nat.beq (Nat.land (Nat.add (lb B x) (Nat.mul 256 (lb B (qm (qv x) z)))) 255) i) := rfl
      have h1 := lb_lt B x
      have e1 : Nat.land (Nat.add (lb B x) (Nat.mul 256 (lb B (qm (qv x) z)))) 255 = lb B x := by
        show (lb B x + 256 * lb B (qm (qv x) z)) &&& 255 = lb B x
        rw [show (255 : Nat) = 2 ^ 8 - 1 from rfl, Nat.and_two_pow_sub_one_eq_mod]
        omega
      have e2 : Nat.shiftRight (Nat.add (lb B x) (Nat.mul 256 (lb B (qm (qv x) z)))) 8 = lb B (pm (piv x) z) := by
        show (lb B x + 256 * lb B (qm (qv x) z)) >>> 8 = _
        rw [Nat.shiftRight_eq_div_pow, ← qm_eq, ← qv_eq]
        omega
      rw [e, e1, e2, si_cons]
      cases hb : Nat.beq (lb B x) i with
      | false =>
        have hne : lb B x ≠ i := fun e9 => by rw [e9, Nat.beq_refl] at hb; cases hb
        rw [show ib (decide (lb B x = i)) = 0 by simp [ib, hne], Int.zero_mul, Int.zero_add]
        exact ih a
      | true =>
        have heq : lb B x = i := Nat.eq_of_beq_eq_true hb
        rw [show ib (decide (lb B x = i)) = 1 by simp [ib, heq], Int.one_mul]
        show ((fo (Nat.add a (gE E t (lb B (pm (piv x) z)))) _ : Nat) : Int) = _
        rw [fo_eq]
        refine (ih _).trans ?_
        have e5 : ((Nat.add a (gE E t (lb B (pm (piv x) z))) : Nat) : Int) = (a : Int) + (gE E t (lb B (pm (piv x) z)) : Int) := Int.natCast_add _ _
        rw [e5]; omega
  have := h S 0
  rw [show ((0 : Nat) : Int) = 0 from rfl, Int.zero_add] at this
  exact this
theorem smr_eq (f : Nat → Nat) : ∀ k : Nat, (smr f k : Int) = si (fun t => (f t : Int)) (List.range k)
  | 0 => rfl
  | k + 1 => by
    have e : smr f (k + 1) = smr f k + f k := rfl
    rw [e, Int.natCast_add, smr_eq f k, List.range_succ, si_app, si_cons, si_nil, Int.add_zero]
theorem cnB_eq (B l : Nat) (S : List Nat) : cnB B l S = kc_s S (lb B) l := by
  have h : ∀ (S : List Nat) (a : Nat), (List.rec (motive := fun _ => Nat → Nat) (fun a => a) (fun x _ ih a => Bool.rec (ih a) (fo (Nat.succ a) ih) (Nat.beq (lb B x) l)) S a : Nat) = a + S.countP (fun x => decide (lb B x = l)) := by
    intro S
    induction S with
    | nil => intro a; rfl
    | cons x S ih =>
      intro a
      show (Bool.rec _ (fo (Nat.succ a) _) (Nat.beq (lb B x) l) : Nat) = _
      rw [List.countP_cons]
      cases hb : Nat.beq (lb B x) l with
      | false =>
        have hne : lb B x ≠ l := fun e9 => by rw [e9, Nat.beq_refl] at hb; cases hb
        refine (ih a).trans ?_
        simp [hne]
      | true =>
        have heq : lb B x = l := Nat.eq_of_beq_eq_true hb
        show (fo (Nat.succ a) _ : Nat) = _
        rw [fo_eq]
        refine (ih (a + 1)).trans ?_
        simp [heq]; omega
  exact (h S 0).trans (Nat.zero_add _)
theorem md_eq {p x y : Nat} (h : x % p = y % p) : (p : Int) ∣ (x : Int) - (y : Int) := by
  refine Int.dvd_of_emod_eq_zero (Int.emod_eq_emod_iff_emod_sub_eq_zero.mp ?_)
  rw [← Int.natCast_emod, ← Int.natCast_emod, h]
theorem md_eq' {p x y : Nat} (h : (p : Int) ∣ (x : Int) - (y : Int)) : x % p = y % p := by
  have h1 := Int.emod_eq_emod_iff_emod_sub_eq_zero.mpr (Int.emod_eq_zero_of_dvd h)
  rw [← Int.natCast_emod, ← Int.natCast_emod] at h1
  exact Int.ofNat_inj.mp h1
-- the table of central maps of the group S
def chT (B : Nat) (S reps Ms : List Nat) (k p E La : Nat) : Prop := (∀ l i t, l < k → i < k → t < k → (p : Int) ∣ si (fun x => ib (decide (lb B x = i)) * (gE E t (lb B (pm (piv x) (nt reps l))) : Int)) S - (gE La t i : Int) * (gE E t l : Int)) ∧ (∀ j, j < k → (p : Int) ∣ si (fun t => (gE E t j : Int)) (List.range k) - ib (decide (j = 0))) ∧ (∀ t l, t < k → l < k → (btK (nt Ms t) l = true ↔ (p : Int) ∣ (gE La t l : Int) - (kc_s S (lb B) l : Int))) ∧ ∃ C : List Nat, C.length ≤ 128 ∧ 2 ^ k - 1 ∈ C ∧ ∀ c m, c ∈ C → m ∈ Ms → Nat.land c m ∈ C
theorem chT_t {B : Nat} {S reps Ms : List Nat} {k p E La : Nat} (hp : 1 < p) (h : bth (ckA B S reps k p E La) (bth (ckB k p E) (bth (ckM B S Ms k p La) (ckC Ms k))) = true) : chT B S reps Ms k p E La := by
  obtain ⟨hA, h2⟩ := bth_t.mp h
  obtain ⟨hB, h3⟩ := bth_t.mp h2
  obtain ⟨hM, hC⟩ := bth_t.mp h3
  refine ⟨fun l i t hl hi ht => ?_, fun j hj => ?_, fun t l ht hl => ?_, ?_⟩
  · unfold ckA at hA
    have h4 := rg_t hA l (Nat.zero_le l) (by omega)
    simp only [fo_eq, fol_eq] at h4
    have h5 := rg_t h4 i (Nat.zero_le i) (by omega)
    have h6 := rg_t h5 t (Nat.zero_le t) (by omega)
    have h7 := md_eq (Nat.eq_of_beq_eq_true h6)
    rw [smE_eq] at h7
    have e : ((Nat.mul (gE La t i) (gE E t l) : Nat) : Int) = (gE La t i : Int) * (gE E t l : Int) := Int.natCast_mul _ _
    rw [e] at h7
    exact h7
  · unfold ckB at hB
    have h4 := Nat.eq_of_beq_eq_true (rg_t hB j (Nat.zero_le j) (by omega))
    have h5 : smr (fun t => gE E t j) k % p = (if j = 0 then 1 else 0) % p := by
      refine Eq.trans h4 ?_
      cases j with
      | zero => rw [if_pos rfl, Nat.mod_eq_of_lt hp]; rfl
      | succ j => rw [if_neg (by omega), Nat.zero_mod]
    have h6 := md_eq h5
    rw [smr_eq] at h6
    have e : (((if j = 0 then 1 else 0 : Nat) : Nat) : Int) = ib (decide (j = 0)) := by
      by_cases e : j = 0 <;> simp [ib, e]
    rw [e] at h6
    exact h6
  · unfold ckM at hM
    have h4 := rg_t hM l (Nat.zero_le l) (by omega)
    simp only [fo_eq] at h4
    have h5 := eqb_t (rg_t h4 t (Nat.zero_le t) (by omega))
    rw [h5, cnB_eq]
    constructor
    · intro h6
      exact md_eq (Nat.eq_of_beq_eq_true h6)
    · intro h6
      have h7 : Nat.mod (gE La t l) p = Nat.mod (kc_s S (lb B) l) p := md_eq' h6
      rw [h7]
      exact Nat.beq_refl _
  · unfold ckC at hC
    rw [fo_eq] at hC
    obtain ⟨C, a1, a2, a3, a4⟩ := cl_t (by simp) (fun x hx => hx) hC
    obtain ⟨b1, b2⟩ := bth_t.mp a4
    have b3 := Nat.le_of_ble_eq_true b1
    rw [ln_eq] at b3
    refine ⟨C, b3, ?_, fun c m hc hm => el_t.mp (al_t.mp (al_t.mp b2 c hc) m hm)⟩
    have h4 := a2 _ List.mem_cons_self
    have e : Nat.sub (Nat.shiftLeft 1 k) 1 = 2 ^ k - 1 := by
      show 1 <<< k - 1 = 2 ^ k - 1
      rw [Nat.one_shiftLeft]
    rw [e] at h4
    exact h4
-- every central map of G is a row of the table
section CM
variable {φ : Nat → Nat} {G S reps Ms : List Nat} {k p B E La : Nat} {kl re : Nat → Nat}
theorem cm_row (hp : ∀ m, m ∣ p → m = 1 ∨ m = p) (hp1 : 1 < p) (hk : kc_ok G pm pid piv k kl re) (hk' : kc_ok S pm pid piv k (lb B) (nt reps)) (h : isoO φ G S) (hc : chT B S reps Ms k p E La) {W : Nat → Nat} (hW0 : W 0 = 1) (hW : ∀ x q, x < k → q < k → (p : Int) ∣ (W x : Int) * (W q : Int) - si (fun l => (kc_n G pm piv kl x q (re l) : Int) * (W l : Int)) (List.range k)) : ∃ t, t < k ∧ ∀ i, i < k → (p : Int) ∣ (W i : Int) - (gE La t (lb B (φ (re i))) : Int) := by
  have hpi : ∀ l, l < k → lb B (φ (re l)) < k := fun l hl => kc_lt hk' (h.1 _ (kc_re hk hl))
  have hk0 : 0 < k := hk.2.2.2.2.2
  have hr0 : re 0 = pid := (kc_one hk (kc_re hk hk0)).mp (kc_kr hk hk0)
  have hp0 : ∀ l, l < k → (lb B (φ (re l)) = 0 ↔ l = 0) := fun l hl => by
    have e0 : lb B (φ (re 0)) = 0 := by rw [hr0, h.2.2.2.2]; exact hk'.2.2.2.2.1
    constructor
    · intro e
      exact ik_inj hk hk' h hl hk0 (e.trans e0.symm)
    · rintro rfl; exact e0
  -- u t
  have hu : (p : Int) ∣ si (fun t => si (fun j => (gE E t (lb B (φ (re j))) : Int) * (W j : Int)) (List.range k)) (List.range k) - 1 := by
    rw [si_swap]
    have e1 : (p : Int) ∣ si (fun j => si (fun t => (gE E t (lb B (φ (re j))) : Int) * (W j : Int)) (List.range k)) (List.range k) - si (fun j => ib (decide (j = 0)) * (W j : Int)) (List.range k) := si_cong fun j hj => by
      have hj := List.mem_range.mp hj
      rw [si_mulr]
      have h9 := hc.2.1 _ (hpi j hj)
      have e2 : decide (lb B (φ (re j)) = 0) = decide (j = 0) := decide_eq_decide.mpr (hp0 j hj)
      rw [e2] at h9
      obtain ⟨c, hc9⟩ := h9
      exact ⟨c * (W j : Int), by rw [← Int.sub_mul, hc9, Int.mul_assoc]⟩
    rw [si_one (fun j => (W j : Int)) 0 List.nodup_range (List.mem_range.mpr hk0), hW0] at e1
    exact e1
  have hex : ∃ t, t < k ∧ ¬ (p : Int) ∣ si (fun j => (gE E t (lb B (φ (re j))) : Int) * (W j : Int)) (List.range k) := Classical.byContradiction fun hn => by
    have h1 : (p : Int) ∣ si (fun t => si (fun j => (gE E t (lb B (φ (re j))) : Int) * (W j : Int)) (List.range k)) (List.range k) := si_dvd fun t ht => Classical.byContradiction fun h2 => hn ⟨t, List.mem_range.mp ht, h2⟩
    have h3 := Int.dvd_sub h1 hu
    rw [show ∀ x : Int, x - (x - 1) = 1 from fun x => by omega] at h3
    have := Int.le_of_dvd (by decide) h3
    omega
  obtain ⟨t, ht, hut⟩ := hex
  refine ⟨t, ht, fun i hi => ?_⟩
  -- W i u = la i u
  have key : (p : Int) ∣ (W i : Int) * si (fun j => (gE E t (lb B (φ (re j))) : Int) * (W j : Int)) (List.range k) - (gE La t (lb B (φ (re i))) : Int) * si (fun j => (gE E t (lb B (φ (re j))) : Int) * (W j : Int)) (List.range k) := by
    rw [← si_mul, ← si_mul]
    have s1 : (p : Int) ∣ si (fun j => (W i : Int) * ((gE E t (lb B (φ (re j))) : Int) * (W j : Int))) (List.range k) - si (fun j => (gE E t (lb B (φ (re j))) : Int) * si (fun l => (kc_n G pm piv kl i j (re l) : Int) * (W l : Int)) (List.range k)) (List.range k) := si_cong fun j hj => by
      have hj := List.mem_range.mp hj
      obtain ⟨c, hc9⟩ := hW i j hi hj
      refine ⟨(gE E t (lb B (φ (re j))) : Int) * c, ?_⟩
      have e1 : (W i : Int) * ((gE E t (lb B (φ (re j))) : Int) * (W j : Int)) = (gE E t (lb B (φ (re j))) : Int) * ((W i : Int) * (W j : Int)) := by rw [← Int.mul_assoc, Int.mul_comm (W i : Int), Int.mul_assoc]
      rw [e1, ← Int.mul_sub, hc9, ← Int.mul_assoc, Int.mul_comm (gE E t (lb B (φ (re j))) : Int), Int.mul_assoc]
    have s2 : si (fun j => (gE E t (lb B (φ (re j))) : Int) * si (fun l => (kc_n G pm piv kl i j (re l) : Int) * (W l : Int)) (List.range k)) (List.range k) = si (fun l => (W l : Int) * si (fun j => (kc_n G pm piv kl i j (re l) : Int) * (gE E t (lb B (φ (re j))) : Int)) (List.range k)) (List.range k) := by
      have e1 : ∀ j, j ∈ List.range k → (gE E t (lb B (φ (re j))) : Int) * si (fun l => (kc_n G pm piv kl i j (re l) : Int) * (W l : Int)) (List.range k) = si (fun l => (gE E t (lb B (φ (re j))) : Int) * ((kc_n G pm piv kl i j (re l) : Int) * (W l : Int))) (List.range k) := fun j _ => (si_mul _ _ _).symm
      rw [si_congr e1, si_swap (fun j l => (gE E t (lb B (φ (re j))) : Int) * ((kc_n G pm piv kl i j (re l) : Int) * (W l : Int)))]
      refine si_congr fun l _ => ?_
      rw [← si_mul]
      refine si_congr fun j _ => ?_
      rw [← Int.mul_assoc, Int.mul_comm (gE E t (lb B (φ (re j))) : Int), Int.mul_comm _ (W l : Int)]
    rw [s2] at s1
    have s3 : (p : Int) ∣ si (fun l => (W l : Int) * si (fun j => (kc_n G pm piv kl i j (re l) : Int) * (gE E t (lb B (φ (re j))) : Int)) (List.range k)) (List.range k) - si (fun j => (gE La t (lb B (φ (re i))) : Int) * ((gE E t (lb B (φ (re j))) : Int) * (W j : Int))) (List.range k) := si_cong fun l hl => by
      have hl := List.mem_range.mp hl
      rw [ik_sum hk hk' h (fun j => (gE E t j : Int)) hi hl]
      obtain ⟨c, hc9⟩ := hc.1 _ _ t (hpi l hl) (hpi i hi) ht
      refine ⟨(W l : Int) * c, ?_⟩
      have e1 : (gE La t (lb B (φ (re i))) : Int) * ((gE E t (lb B (φ (re l))) : Int) * (W l : Int)) = (W l : Int) * ((gE La t (lb B (φ (re i))) : Int) * (gE E t (lb B (φ (re l))) : Int)) := by rw [← Int.mul_assoc, Int.mul_comm]
      rw [e1, ← Int.mul_sub, hc9, ← Int.mul_assoc, Int.mul_comm (W l : Int), Int.mul_assoc]
    have s4 := Int.dvd_add s1 s3
    rw [show ∀ x y z : Int, x - y + (y - z) = x - z from fun x y z => by omega] at s4
    exact s4
  have hu0 : 0 ≤ si (fun j => (gE E t (lb B (φ (re j))) : Int) * (W j : Int)) (List.range k) := si_ge fun j _ => Int.mul_nonneg (Int.natCast_nonneg _) (Int.natCast_nonneg _)
  generalize si (fun j => (gE E t (lb B (φ (re j))) : Int) * (W j : Int)) (List.range k) = u at key hut hu0
  obtain ⟨v, rfl⟩ := Int.eq_ofNat_of_zero_le hu0
  rw [← Int.sub_mul, Int.mul_comm] at key
  exact nt_euclid hp (fun h9 => hut (Int.natCast_dvd_natCast.mpr h9)) key
end CM
