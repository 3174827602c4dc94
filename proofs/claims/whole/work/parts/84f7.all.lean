-- all codes, one after the other
def enM : Nat → Nat → Nat → Nat → Prop
  | 0, _, a, g => g = a
  | f + 1, u, a, g => ∃ d, d < 8 ∧ Nat.land (Nat.shiftRight u d) 1 = 0 ∧ enM f (Nat.lor u (Nat.shiftLeft 1 d)) (a * 8 + d) g
theorem ef_t {P : Nat → Bool} {key : Nat → Nat → Bool} : ∀ (f u a : Nat) (s : List Nat) (k : List Nat → Bool), ef P key f u a s k = true → ∃ s', k s' = true ∧ (∀ x, x ∈ s' → x ∈ s) ∧ ∀ g, enM f u a g → P g = true → ∃ h, h ∈ s ∧ key h g = true
  | 0, u, a, s, k, h => by
    have e : ef P key 0 u a s k = Bool.rec (k s) (List.rec (motive := fun _ => Bool) false (fun h t _ => Bool.rec false (k t) (key h a)) s) (P a) := rfl
    rw [e] at h
    cases hp : P a with
    | false =>
      rw [hp] at h
      exact ⟨s, h, fun _ hx => hx, fun g hg h9 => by rw [show g = a from hg, hp] at h9; cases h9⟩
    | true =>
      rw [hp] at h
      cases s with
      | nil => cases h
      | cons x t =>
        have h' : (Bool.rec false (k t) (key x a) : Bool) = true := h
        cases hq : key x a with
        | false => rw [hq] at h'; cases h'
        | true =>
          rw [hq] at h'
          exact ⟨t, h', fun y hy => List.mem_cons_of_mem _ hy, fun g hg _ => ⟨x, List.mem_cons_self, by rw [show g = a from hg]; exact hq⟩⟩
  | f + 1, u, a, s, k, h => by
    have lp : ∀ (i : Nat) (s : List Nat), i ≤ 8 → (Nat.rec (motive := fun _ => List Nat → Bool) k (fun i lp s => fo (Nat.sub 7 i) (fun d => Bool.rec (lp s) (fo (Nat.lor u (Nat.shiftLeft 1 d)) (fun u' => fo (Nat.add (Nat.mul a 8) d) (fun a' => ef P key f u' a' s lp))) (Nat.beq (Nat.land (Nat.shiftRight u d) 1) 0))) i s : Bool) = true → ∃ s', k s' = true ∧ (∀ x, x ∈ s' → x ∈ s) ∧ ∀ g d, 8 - i ≤ d → d < 8 → Nat.land (Nat.shiftRight u d) 1 = 0 → enM f (Nat.lor u (Nat.shiftLeft 1 d)) (a * 8 + d) g → P g = true → ∃ h, h ∈ s ∧ key h g = true := by
      intro i
      induction i with
      | zero => intro s _ h; exact ⟨s, h, fun _ hx => hx, fun g d h1 h2 => by omega⟩
      | succ i ih =>
        intro s hi h
        have h1 : (fo (Nat.sub 7 i) (fun d => Bool.rec ((Nat.rec (motive := fun _ => List Nat → Bool) k (fun i lp s => fo (Nat.sub 7 i) (fun d => Bool.rec (lp s) (fo (Nat.lor u (Nat.shiftLeft 1 d)) (fun u' => fo (Nat.add (Nat.mul a 8) d) (fun a' => ef P key f u' a' s lp))) (Nat.beq (Nat.land (Nat.shiftRight u d) 1) 0))) i : List Nat → Bool) s) (fo (Nat.lor u (Nat.shiftLeft 1 d)) (fun u' => fo (Nat.add (Nat.mul a 8) d) (fun a' => ef P key f u' a' s (Nat.rec (motive := fun _ => List Nat → Bool) k (fun i lp s => fo (Nat.sub 7 i) (fun d => Bool.rec (lp s) (fo (Nat.lor u (Nat.shiftLeft 1 d)) (fun u' => fo (Nat.add (Nat.mul a 8) d) (fun a' => ef P key f u' a' s lp))) (Nat.beq (Nat.land (Nat.shiftRight u d) 1) 0))) i)))) (Nat.beq (Nat.land (Nat.shiftRight u d) 1) 0)) : Bool) = true := h
        rw [fo_eq, fo_eq, fo_eq] at h1
        have hd : Nat.sub 7 i = 7 - i := rfl
        cases hb : Nat.beq (Nat.land (Nat.shiftRight u (Nat.sub 7 i)) 1) 0 with
        | false =>
          rw [hb] at h1
          obtain ⟨s', a1, a2, a3⟩ := ih s (by omega) h1
          refine ⟨s', a1, a2, fun g d h2 h3 h4 => ?_⟩
          by_cases e : d = 7 - i
          · rw [hd, ← e, h4] at hb; cases hb
          · exact a3 g d (by omega) h3 h4
        | true =>
          rw [hb] at h1
          obtain ⟨s1, b1, b2, b3⟩ := ef_t f _ _ s _ h1
          obtain ⟨s', a1, a2, a3⟩ := ih s1 (by omega) b1
          refine ⟨s', a1, fun x hx => b2 x (a2 x hx), fun g d h2 h3 h4 h5 h6 => ?_⟩
          by_cases e : d = 7 - i
          · subst e; exact b3 g h5 h6
          · obtain ⟨y, hy, e2⟩ := a3 g d (by omega) h3 h4 h5 h6
            exact ⟨y, b2 y hy, e2⟩
    obtain ⟨s', a1, a2, a3⟩ := lp 8 s (Nat.le_refl 8) h
    refine ⟨s', a1, a2, fun g hg hP => ?_⟩
    obtain ⟨d, h1, h2, h3⟩ := hg
    exact a3 g d (by omega) h1 h2 h3 hP
theorem bit_0 (u d : Nat) : Nat.land (Nat.shiftRight u d) 1 = 0 ↔ u.testBit d = false := by
  show (u >>> d) &&& 1 = 0 ↔ _
  rw [Nat.testBit, Nat.and_comm]
  constructor
  · intro h; rw [h]; rfl
  · intro h
    simp at h
    rw [Nat.and_comm, Nat.and_one_is_mod]
    exact h
theorem en_all {g : Nat} (hg : isP g) : ∀ (f i u : Nat), i + f = 8 → (∀ d, d < 8 → (Nat.land (Nat.shiftRight u d) 1 = 0 ↔ ∀ x, x < i → dg g x ≠ d)) → enM f u (g / 8 ^ f) g
  | 0, i, u, _, _ => by show g = g / 8 ^ 0; rw [Nat.pow_zero, Nat.div_one]
  | f + 1, i, u, hi, hu => by
    refine ⟨dg g i, dg_lt g i, (hu _ (dg_lt g i)).mpr fun x hx e => ?_, ?_⟩
    · have := hg.2 x (by omega) i (by omega) e; omega
    · have e : g / 8 ^ (f + 1) * 8 + dg g i = g / 8 ^ f := by
        unfold dg
        rw [show 7 - i = f by omega, Nat.pow_succ, ← Nat.div_div_eq_div_mul]
        omega
      rw [e]
      refine en_all hg f (i + 1) _ (by omega) (fun d hd => ?_)
      rw [bit_0]
      show (u ||| 1 <<< dg g i).testBit d = false ↔ _
      rw [Nat.testBit_or, Nat.one_shiftLeft, Nat.testBit_two_pow, Bool.or_eq_false_iff, ← bit_0, hu d hd, decide_eq_false_iff_not]
      constructor
      · rintro ⟨h1, h2⟩ x hx
        by_cases e2 : x = i
        · subst e2; exact h2
        · exact h1 x (by omega)
      · intro h1
        exact ⟨fun x hx => h1 x (by omega), h1 i (by omega)⟩
theorem en_8 {g : Nat} (hg : isP g) : ∃ d, d < 8 ∧ enM 7 (Nat.shiftLeft 1 d) d g := by
  have h1 := en_all hg 8 0 0 rfl (fun d _ => ⟨fun _ x hx => absurd hx (Nat.not_lt_zero x), fun _ => by rw [bit_0]; exact Nat.zero_testBit d⟩)
  rw [Nat.div_eq_of_lt hg.1] at h1
  obtain ⟨d, h2, _, h3⟩ := h1
  refine ⟨d, h2, ?_⟩
  have e : Nat.lor 0 (Nat.shiftLeft 1 d) = Nat.shiftLeft 1 d := Nat.zero_or _
  rw [e, Nat.zero_mul, Nat.zero_add] at h3
  exact h3
theorem en_go {P : Nat → Bool} {key : Nat → Nat → Bool} {L : List Nat} (h : ∀ d, d < 8 → ∃ s, ef P key 7 (Nat.shiftLeft 1 d) d s (fun _ => true) = true ∧ ∀ x, x ∈ s → x ∈ L) {g : Nat} (hg : isP g) (hp : P g = true) : ∃ x, x ∈ L ∧ key x g = true := by
  obtain ⟨d, h1, h2⟩ := en_8 hg
  obtain ⟨s, h3, h4⟩ := h d h1
  obtain ⟨_, _, _, h5⟩ := ef_t 7 _ _ s _ h3
  obtain ⟨x, hx, e⟩ := h5 g h2 hp
  exact ⟨x, h4 x hx, e⟩
theorem q7_t {g : Nat} (hg : g < 8 ^ 8) (h : gg_pw pm pid g 7 = pid) : q7 g = true := by
  unfold q7
  simp only [fo_eq, qm_eq]
  have e : gg_pw pm pid g 7 = pm (pm (pm (pm g g) (pm g g)) (pm g g)) g := by
    show pm (pm (pm (pm (pm (pm (pm pid g) g) g) g) g) g) g = _
    rw [pm_l1 hg]
    simp only [pm_as]
  rw [← e, h]; rfl
theorem q5_t {g : Nat} (hg : g < 8 ^ 8) (h : gg_pw pm pid g 5 = pid) : q5 g = true := by
  unfold q5
  simp only [fo_eq, qm_eq]
  have e : gg_pw pm pid g 5 = pm (pm (pm g g) (pm g g)) g := by
    show pm (pm (pm (pm (pm pid g) g) g) g) g = _
    rw [pm_l1 hg]
    simp only [pm_as]
  rw [← e, h]; rfl
theorem q3_t {g : Nat} (hg : g < 8 ^ 8) (h : gg_pw pm pid g 3 = pid) : q3 g = true := by
  unfold q3
  simp only [fo_eq, qm_eq]
  have e : gg_pw pm pid g 3 = pm (pm g g) g := by
    show pm (pm (pm pid g) g) g = _
    rw [pm_l1 hg]
  rw [← e, h]; rfl
theorem q8_t {g : Nat} (hg : g < 8 ^ 8) (h : gg_pw pm pid g 8 = pid) : q8 g = true := by
  unfold q8
  simp only [fo_eq, qm_eq]
  have e : gg_pw pm pid g 8 = pm (pm (pm g g) (pm g g)) (pm (pm g g) (pm g g)) := by
    show pm (pm (pm (pm (pm (pm (pm (pm pid g) g) g) g) g) g) g) g = _
    rw [pm_l1 hg]
    simp only [pm_as]
  rw [← e, h]; rfl
noncomputable def k8 (x g : Nat) : Bool := bth (Nat.beq (Nat.land x 16777215) g) (Nat.beq (Nat.shiftRight x 24) (qm g g))
-- all of odd order
theorem pw_105 {G S : List Nat} (hG : gg_ok G pm pid piv) (hS : gg_ok S pm pid piv) (h7 : ∀ g, g ∈ G → gg_pw pm pid g 7 = pid → g ∈ S) (h5 : ∀ g, g ∈ G → gg_pw pm pid g 5 = pid → g ∈ S) (h3 : ∀ g, g ∈ G → gg_pw pm pid g 3 = pid → g ∈ S) {g : Nat} (hg : g ∈ G) (h : gg_pw pm pid g 105 = pid) : g ∈ S := by
  have e : gg_pw pm pid g (15 + 21 + 70) = g := by
    rw [show 15 + 21 + 70 = 105 + 1 from rfl, gg_pa hG hg, h, gg_p1 hG hg, gg_l1 hG hg]
  rw [gg_pa hG hg, gg_pa hG hg] at e
  rw [← e]
  refine gg_m hS (gg_m hS (h7 _ (gg_pm hG hg _) ?_) (h5 _ (gg_pm hG hg _) ?_)) (h3 _ (gg_pm hG hg _) ?_)
  · rw [gg_pp hG hg]; exact h
  · rw [gg_pp hG hg]; exact h
  · rw [gg_pp hG hg, show 70 * 3 = 105 * 2 from rfl, ← gg_pp hG hg, h]
    show pm (pm pid pid) pid = pid
    rw [pm_l1 (by decide), pm_l1 (by decide)]
theorem cls_all (hall : ∀ j, j < 258 → ∃ S, tO j S) {A7 A5 A3 L7 L5 L3 L2 : List Nat} (h0 : 0 ∈ A7) (h01 : gn 0 = [pid]) (h75 : ∀ j, j ∈ A7 → j ∈ A5) (h53 : ∀ j, j ∈ A5 → j ∈ A3) (h3n : ∀ j, j ∈ A3 → j < 258)
    (o7 : ∀ j, j ∈ A7 → ∃ R Z C, ckO j A7 L7 R Z C = true) (o5 : ∀ j, j ∈ A5 → ∃ R Z C, ckO j A5 L5 R Z C = true) (o3 : ∀ j, j ∈ A3 → ∃ R Z C, ckO j A3 L3 R Z C = true)
    (e7 : ∀ g, isP g → q7 g = true → g ∈ flW 24 512 L7) (e5 : ∀ g, isP g → q5 g = true → g ∈ flW 24 512 L5) (e3 : ∀ g, isP g → q3 g = true → g ∈ flW 24 512 L3)
    (hod : ∀ j, j ∈ A3 → ∀ g, g ∈ gn j → gg_pw pm pid g 105 = pid)
    (hk : ∀ j, j < 258 → nt NS j ≤ 60 → ∃ C, ck2 L2 j C = true) (e2 : ∀ g, isP g → q8 g = true → ∃ x, x ∈ flW 48 512 L2 ∧ k8 x g = true)
    {G : List Nat} (hG : grO G) : ∃ φ G' j' S', isoO φ G G' ∧ grO G' ∧ j' < 258 ∧ tO j' S' ∧ ∀ x, x ∈ S' ↔ x ∈ G' := by
  obtain ⟨S0, hS0⟩ := hall 0 (by decide)
  have hst0 : ∀ x, x ∈ S0 → x ∈ G := by
    refine hS0.2.2.2.2.2 (fun x => x ∈ G) (gg_1 hG.1) (fun c g hc hg => ?_)
    rw [h01] at hg
    rw [List.mem_singleton.mp hg]
    exact gg_m hG.1 hc (gg_1 hG.1)
  obtain ⟨φ1, G1, j1, S1, a1, a2, a3, a4⟩ := stg (A := A7) (P := fun G g => gg_pw pm pid g 7 = pid) (fun G S j hG hj hT hst g hg hP hgS => by
    obtain ⟨R, Z, C, hk⟩ := o7 j hj
    exact odd_step hall (fun j hj => h3n j (h53 j (h75 j hj))) hk hT hG hst hg hgS (e7 g (hG.2.1 g hg) (q7_t (hG.2.1 g hg).1 hP))) 121 G S0 0 hG h0 hS0 hst0 (by omega)
  obtain ⟨φ2, G2, j2, S2, b1, b2, b3, b4⟩ := stg (A := A5) (P := fun G g => gg_pw pm pid g 5 = pid) (fun G S j hG hj hT hst g hg hP hgS => by
    obtain ⟨R, Z, C, hk⟩ := o5 j hj
    exact odd_step hall (fun j hj => h3n j (h53 j hj)) hk hT hG hst hg hgS (e5 g (hG.2.1 g hg) (q5_t (hG.2.1 g hg).1 hP))) 121 G1 S1 j1 a1.2.1 (h75 _ a2) a3 a1.2.2.1 (by omega)
  obtain ⟨φ3, G3, j3, S3, c1, c2, c3, c4⟩ := stg (A := A3) (P := fun G g => gg_pw pm pid g 3 = pid) (fun G S j hG hj hT hst g hg hP hgS => by
    obtain ⟨R, Z, C, hk⟩ := o3 j hj
    exact odd_step hall h3n hk hT hG hst hg hgS (e3 g (hG.2.1 g hg) (q3_t (hG.2.1 g hg).1 hP))) 121 G2 S2 j2 b1.2.1 (h53 _ b2) b3 b1.2.2.1 (by omega)
  have hG1 := a1.2.1
  have hG2 := b1.2.1
  have hG3 := c1.2.1
  have pull : ∀ {φ : Nat → Nat} {G G' S S' : List Nat} (m : Nat), grO G → goO φ G G' S S' → (∀ g, g ∈ G → gg_pw pm pid g m = pid → g ∈ S) → ∀ g, g ∈ G' → gg_pw pm pid g m = pid → g ∈ S' := by
    intro φ G G' S S' m hG hgo h g hg hp
    obtain ⟨x, hx, rfl⟩ := hgo.1.2.1 g hg
    rw [← iso_pw hG.1 hgo.1 hx] at hp
    exact hgo.2.2.2 x (h x hx (hgo.1.2.2.1 _ _ (gg_pm hG.1 hx m) (gg_1 hG.1) (hp.trans hgo.1.2.2.2.2.symm)))
  have f7 := pull 7 hG2 c1 (pull 7 hG1 b1 a4)
  have f5 := pull 5 hG2 c1 b4
  have ho : ∀ g, g ∈ G3 → gg_pw pm pid g 105 = pid → g ∈ S3 := fun g hg h => pw_105 hG3.1 c3.1 f7 f5 c4 hg h
  have hp : parO G3 S3 pm pid := par_0 hG3.1 (fun Y h1 h2 => by
    have h3 : ∀ x, x ∈ S3 → x ∈ G3 ∧ Y x := c3.2.2.2.2.2 (fun x => x ∈ G3 ∧ Y x) ⟨gg_1 hG3.1, h1⟩ (fun c g hc hg => by
      have hgG := c1.2.2.1 g (c3.2.2.2.2.1 g hg)
      exact ⟨gg_m hG3.1 hc.1 hgG, h2 c g hc.1 hc.2 hgG (hod j3 c2 g hg)⟩)
    exact fun x hx => (h3 x hx).2)
  obtain ⟨φ4, G4, j4, S4, d1, d2, d3, d4, d5⟩ := two_loop hall hk (fun g hg h8 => by
    obtain ⟨x, hx, e⟩ := e2 g hg (q8_t hg.1 h8)
    obtain ⟨k1, k2⟩ := bth_t.mp e
    refine ⟨x, hx, Nat.eq_of_beq_eq_true k1, ?_⟩
    rw [← qm_eq]
    exact Nat.eq_of_beq_eq_true k2) 121 G3 S3 j3 hG3 (h3n _ c2) c3 c1.2.2.1 ho hp (by omega)
  exact ⟨_, G4, j4, S4, iso_c a1.1 (iso_c b1.1 (iso_c c1.1 d1)), d2, d3, d4, d5⟩
