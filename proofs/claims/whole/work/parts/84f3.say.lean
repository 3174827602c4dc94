-- what these functions say
theorem qd_dg (b : Nat) {d : Nat} (hd : d < 8) : qd b d = dg b d := by
  have h1 : ∀ d, d < 8 → 2 ^ (21 - 3 * d) = 8 ^ (7 - d) := by decide
  show (b >>> (21 - 3 * d)) &&& 7 = b / 8 ^ (7 - d) % 8
  rw [Nat.shiftRight_eq_div_pow, h1 d hd, show (7 : Nat) = 2 ^ 3 - 1 from rfl, Nat.and_two_pow_sub_one_eq_mod]
theorem qm_eq (a b : Nat) : qm a b = pm a b := by
  have h : ∀ x, x < 8 → qd b (qd a x) = dg b (dg a x) := fun x hx => by rw [qd_dg a hx, qd_dg b (dg_lt a x)]
  show ((((((qd b (qd a 0) * 8 + qd b (qd a 1)) * 8 + qd b (qd a 2)) * 8 + qd b (qd a 3)) * 8 + qd b (qd a 4)) * 8 + qd b (qd a 5)) * 8 + qd b (qd a 6)) * 8 + qd b (qd a 7) = (((((((0 * 8 + dg b (dg a 0)) * 8 + dg b (dg a 1)) * 8 + dg b (dg a 2)) * 8 + dg b (dg a 3)) * 8 + dg b (dg a 4)) * 8 + dg b (dg a 5)) * 8 + dg b (dg a 6)) * 8 + dg b (dg a 7)
  rw [h 0 (by decide), h 1 (by decide), h 2 (by decide), h 3 (by decide), h 4 (by decide), h 5 (by decide), h 6 (by decide), h 7 (by decide), Nat.zero_mul, Nat.zero_add]
theorem qs_eq (v : Nat) {d : Nat} (hd : d < 8) : qs v d = v * 8 ^ (7 - d) := by
  have h1 : ∀ d, d < 8 → 2 ^ (21 - 3 * d) = 8 ^ (7 - d) := by decide
  show v <<< (21 - 3 * d) = v * 8 ^ (7 - d)
  rw [Nat.shiftLeft_eq, h1 d hd]
theorem qv_eq (a : Nat) : qv a = piv a := by
  have h : ∀ x, x < 8 → ∀ v, qs v (qd a x) = v * 8 ^ (7 - dg a x) := fun x hx v => by rw [qd_dg a hx, qs_eq v (dg_lt a x)]
  show ((((((qs 1 (qd a 1)) ||| (qs 2 (qd a 2))) ||| (qs 3 (qd a 3))) ||| (qs 4 (qd a 4))) ||| (qs 5 (qd a 5))) ||| (qs 6 (qd a 6))) ||| (qs 7 (qd a 7)) = ((((((((0 ||| 0 * 8 ^ (7 - dg a 0)) ||| 1 * 8 ^ (7 - dg a 1)) ||| 2 * 8 ^ (7 - dg a 2)) ||| 3 * 8 ^ (7 - dg a 3)) ||| 4 * 8 ^ (7 - dg a 4)) ||| 5 * 8 ^ (7 - dg a 5)) ||| 6 * 8 ^ (7 - dg a 6)) ||| 7 * 8 ^ (7 - dg a 7))
  rw [h 1 (by decide), h 2 (by decide), h 3 (by decide), h 4 (by decide), h 5 (by decide), h 6 (by decide), h 7 (by decide), Nat.zero_mul, Nat.zero_or, Nat.zero_or]
theorem bth_t {a b : Bool} : bth a b = true ↔ a = true ∧ b = true := by cases a <;> cases b <;> simp [bth]
theorem al_t {P : Nat → Bool} : ∀ {L : List Nat}, alW L P = true ↔ ∀ x, x ∈ L → P x = true
  | [] => ⟨fun _ x hx => absurd hx List.not_mem_nil, fun _ => rfl⟩
  | h :: L => by
    have e : alW (h :: L) P = Bool.rec false (alW L P) (P h) := rfl
    rw [e]
    cases hp : P h with
    | false => exact ⟨fun h9 => (by cases h9), fun h9 => by rw [h9 h List.mem_cons_self] at hp; cases hp⟩
    | true =>
      refine (al_t (L := L)).trans ⟨fun h9 x hx => ?_, fun h9 x hx => h9 x (List.mem_cons_of_mem _ hx)⟩
      rcases List.mem_cons.mp hx with rfl | hx
      · exact hp
      · exact h9 x hx
theorem el_t {x : Nat} : ∀ {L : List Nat}, el x L = true ↔ x ∈ L
  | [] => ⟨fun h => (by cases h), fun h => absurd h List.not_mem_nil⟩
  | h :: L => by
    have e : el x (h :: L) = Bool.rec (el x L) true (Nat.beq h x) := rfl
    rw [e]
    cases hp : Nat.beq h x with
    | false =>
      have : x ≠ h := fun h9 => by rw [h9, Nat.beq_refl] at hp; cases hp
      refine (el_t (L := L)).trans ?_
      rw [List.mem_cons]
      exact ⟨Or.inr, fun h9 => h9.resolve_left this⟩
    | true => exact ⟨fun _ => by rw [Nat.eq_of_beq_eq_true hp]; exact List.mem_cons_self, fun _ => rfl⟩
theorem ln_eq (L : List Nat) : ln L = L.length := by
  have h : ∀ (L : List Nat) (n : Nat), (List.rec (motive := fun _ => Nat → Nat) (fun n => n) (fun _ _ ih n => fo (Nat.succ n) ih) L n : Nat) = n + L.length := by
    intro L
    induction L with
    | nil => intro n; rfl
    | cons x L ih =>
      intro n
      show fo (Nat.succ n) _ = _
      rw [fo_eq]
      refine (ih (n + 1)).trans ?_
      rw [List.length_cons]; omega
  exact (h L 0).trans (Nat.zero_add _)
theorem fol_eq {α : Type} : ∀ (L : List Nat) (f : List Nat → α), fol L f = f L
  | [], f => rfl
  | h :: L, f => by
    show fo h (fun x => fol L (fun t => f (x :: t))) = _
    rw [fo_eq, fol_eq L]
theorem zc_t {cand : Nat → Bool} {ck : Nat → Nat → Bool} : ∀ {L cs : List Nat}, zc cand ck L cs = true → ∀ x, x ∈ L → cand x = true → ∃ y, ck x y = true
  | [], _, _, x, hx, _ => absurd hx List.not_mem_nil
  | h :: L, cs, hz, x, hx, hc => by
    have e : zc cand ck (h :: L) cs = Bool.rec (zc cand ck L cs) (List.rec (motive := fun _ => Bool) false (fun y t _ => Bool.rec false (zc cand ck L t) (ck h y)) cs) (cand h) := rfl
    rw [e] at hz
    cases hp : cand h with
    | false =>
      rw [hp] at hz
      rcases List.mem_cons.mp hx with rfl | hx
      · rw [hp] at hc; cases hc
      · exact zc_t hz x hx hc
    | true =>
      rw [hp] at hz
      cases cs with
      | nil => cases hz
      | cons y t =>
        have hz' : (Bool.rec false (zc cand ck L t) (ck h y) : Bool) = true := hz
        cases hq : ck h y with
        | false => rw [hq] at hz'; cases hz'
        | true =>
          rw [hq] at hz'
          rcases List.mem_cons.mp hx with rfl | hx
          · exact ⟨y, hq⟩
          · exact zc_t hz' x hx hc
theorem up_app (w : Nat) (r : List Nat) : ∀ (n C : Nat), upW w n C r = upW w n C [] ++ r
  | 0, C => rfl
  | n + 1, 0 => rfl
  | n + 1, C + 1 => by
    have e : ∀ r, upW w (n + 1) (C + 1) r = fo (Nat.land (Nat.succ C) (Nat.sub (Nat.shiftLeft 1 w) 1)) (fun x => x :: upW w n (Nat.shiftRight (Nat.succ C) w) r) := fun _ => rfl
    rw [e, e, fo_eq, fo_eq, up_app w r n, List.cons_append]
theorem fl_app (w n : Nat) : ∀ (A B : List Nat), flW w n (A ++ B) = flW w n A ++ flW w n B
  | [], B => rfl
  | C :: A, B => by
    have e : ∀ A, flW w n (C :: A) = upW w n C (flW w n A) := fun _ => rfl
    rw [List.cons_append, e, e, fl_app w n A B, up_app w (flW w n A ++ flW w n B), up_app w (flW w n A), List.append_assoc]
theorem zcc_t {w v n : Nat} {cand : Nat → Bool} {ck : Nat → Nat → Bool} : ∀ {Cs Ds : List Nat}, zcc w v n cand ck Cs Ds = true → ∀ x, x ∈ flW w n Cs → cand x = true → ∃ y, ck x y = true
  | [], _, _, x, hx, _ => absurd hx List.not_mem_nil
  | C :: Cs, Ds, h, x, hx, hc => by
    cases Ds with
    | nil => cases h
    | cons D t =>
      have h' : (Bool.rec false (zcc w v n cand ck Cs t) (zc cand ck (upW w n C []) (upW v n D [])) : Bool) = true := h
      cases hz : zc cand ck (upW w n C []) (upW v n D []) with
      | false => rw [hz] at h'; cases h'
      | true =>
        rw [hz] at h'
        have e : flW w n (C :: Cs) = upW w n C (flW w n Cs) := rfl
        rw [e, up_app, List.mem_append] at hx
        rcases hx with hx | hx
        · exact zc_t hz x hx hc
        · exact zcc_t h' x hx hc
theorem cl1_t {act : Nat → Nat → Nat} {c : Nat} {k : List Nat → List Nat → Bool} {all : List Nat} : ∀ {gens t S : List Nat}, (∀ g, g ∈ gens → g ∈ all) → S.Nodup → (∀ x, x ∈ t → x ∈ S) → c ∈ S → cl1 act c gens t S k = true →
    ∃ t' S', S'.Nodup ∧ (∀ x, x ∈ t' → x ∈ S') ∧ (∀ x, x ∈ S → x ∈ S') ∧ (∀ Y : Nat → Prop, (∀ x, x ∈ S → Y x) → (∀ x g, Y x → g ∈ all → Y (act x g)) → ∀ x, x ∈ S' → Y x) ∧ k t' S' = true
  | [], t, S, _, hS, ht, _, h => ⟨t, S, hS, ht, fun _ hx => hx, fun _ h1 _ => h1, h⟩
  | g :: gens, t, S, hg, hS, ht, hc, h => by
    have e : cl1 act c (g :: gens) t S k = fo (act c g) (fun x => Bool.rec (cl1 act c gens (x :: t) (x :: S) k) (cl1 act c gens t S k) (el x S)) := rfl
    rw [e, fo_eq] at h
    cases hp : el (act c g) S with
    | true =>
      rw [hp] at h
      exact cl1_t (fun g' h' => hg g' (List.mem_cons_of_mem _ h')) hS ht hc h
    | false =>
      rw [hp] at h
      have hn : act c g ∉ S := fun h9 => by rw [el_t.mpr h9] at hp; cases hp
      obtain ⟨t', S', a1, a2, a3, a4, a5⟩ := cl1_t (fun g' h' => hg g' (List.mem_cons_of_mem _ h')) (List.nodup_cons.mpr ⟨hn, hS⟩) (fun x hx => by
        rcases List.mem_cons.mp hx with rfl | hx
        · exact List.mem_cons_self
        · exact List.mem_cons_of_mem _ (ht x hx)) (List.mem_cons_of_mem _ hc) h
      refine ⟨t', S', a1, a2, fun x hx => a3 x (List.mem_cons_of_mem _ hx), fun Y h1 h2 => a4 Y (fun x hx => ?_) h2, a5⟩
      rcases List.mem_cons.mp hx with rfl | hx
      · exact h2 _ _ (h1 c hc) (hg g List.mem_cons_self)
      · exact h1 x hx
theorem cl_t {act : Nat → Nat → Nat} {gens : List Nat} {k : List Nat → Bool} : ∀ {f : Nat} {t S : List Nat}, S.Nodup → (∀ x, x ∈ t → x ∈ S) → clW act gens k f t S = true →
    ∃ S', S'.Nodup ∧ (∀ x, x ∈ S → x ∈ S') ∧ (∀ Y : Nat → Prop, (∀ x, x ∈ S → Y x) → (∀ x g, Y x → g ∈ gens → Y (act x g)) → ∀ x, x ∈ S' → Y x) ∧ k S' = true
  | 0, t, S, hS, _, h => ⟨S, hS, fun _ hx => hx, fun _ h1 _ => h1, h⟩
  | f + 1, [], S, hS, _, h => ⟨S, hS, fun _ hx => hx, fun _ h1 _ => h1, h⟩
  | f + 1, c :: t, S, hS, ht, h => by
    have e : clW act gens k (f + 1) (c :: t) S = cl1 act c gens t S (clW act gens k f) := rfl
    rw [e] at h
    obtain ⟨t', S', a1, a2, a3, a4, a5⟩ := cl1_t (all := gens) (fun _ h => h) hS (fun x hx => ht x (List.mem_cons_of_mem _ hx)) (ht c List.mem_cons_self) h
    obtain ⟨S2, b1, b2, b3, b4⟩ := cl_t a1 a2 a5
    exact ⟨S2, b1, fun x hx => b2 x (a3 x hx), fun Y h1 h2 => b3 Y (a4 Y h1 h2) h2, b4⟩
theorem isPb_t {c : Nat} (h : isPb c = true) : isP c := by
  obtain ⟨h1, h2⟩ := bth_t.mp h
  have h3 := Nat.le_of_ble_eq_true h1
  have h4 := Nat.eq_of_beq_eq_true h2
  rw [qm_eq] at h4
  refine ⟨by omega, fun x hx y hy e => ?_⟩
  have ex := pm_dg c (qv c) hx
  have ey := pm_dg c (qv c) hy
  rw [e, ← ey, h4] at ex
  have h5 : dg pid x = dg pid y := ex
  rw [pid_dg x hx, pid_dg y hy] at h5
  exact h5
theorem isP_0 {c : Nat} (h : isP c) : c ≠ 0 := fun e => by
  subst e
  have := h.2 0 (by decide) 1 (by decide) (by decide)
  cases this
theorem sls_t {B : Nat} {P : Nat → Bool} (h : sls B P = true) : ∀ i, i < Nat.land B 65535 → P (Nat.land (Nat.shiftRight B (16 + 32 * i)) 16777215) = true := by
  have h1 : ∀ (m C : Nat), (Nat.rec (motive := fun _ => Nat → Bool) (fun _ => true) (fun _ ih C => Bool.rec false (fo (Nat.shiftRight C 32) ih) (fo (Nat.land C 16777215) P)) m C : Bool) = true → ∀ i, i < m → P (Nat.land (Nat.shiftRight C (32 * i)) 16777215) = true := by
    intro m
    induction m with
    | zero => intro C _ i hi; exact absurd hi (Nat.not_lt_zero i)
    | succ m ih =>
      intro C h i hi
      have h2 : (Bool.rec false (fo (Nat.shiftRight C 32) (fun C => (Nat.rec (motive := fun _ => Nat → Bool) (fun _ => true) (fun _ ih C => Bool.rec false (fo (Nat.shiftRight C 32) ih) (fo (Nat.land C 16777215) P)) m C : Bool))) (fo (Nat.land C 16777215) P) : Bool) = true := h
      rw [fo_eq, fo_eq] at h2
      cases hp : P (Nat.land C 16777215) with
      | false => rw [hp] at h2; cases h2
      | true =>
        rw [hp] at h2
        cases i with
        | zero => exact hp
        | succ i =>
          have h3 := ih _ h2 i (by omega)
          have e : Nat.shiftRight (Nat.shiftRight C 32) (32 * i) = Nat.shiftRight C (32 * (i + 1)) := by
            show (C >>> 32) >>> (32 * i) = C >>> (32 * (i + 1))
            rw [← Nat.shiftRight_add]
            congr 1
            omega
          rw [e] at h3
          exact h3
  intro i hi
  have h2 := h1 _ _ h i hi
  have e : Nat.shiftRight (Nat.shiftRight B 16) (32 * i) = Nat.shiftRight B (16 + 32 * i) := by
    show (B >>> 16) >>> (32 * i) = B >>> (16 + 32 * i)
    rw [← Nat.shiftRight_add]
  rw [e] at h2
  exact h2
-- a finite part of the codes, kept by the product, is a group
theorem fin_gg {S : List Nat} (hn : S.Nodup) (hP : ∀ x, x ∈ S → isP x) (h1 : pid ∈ S) (hm : ∀ x, x ∈ S → ∀ y, y ∈ S → pm x y ∈ S) : gg_ok S pm pid piv := by
  have hlc : ∀ x, x ∈ S → ∀ y, y ∈ S → ∀ z, z ∈ S → pm x y = pm x z → y = z := fun x hx y hy z hz e => by
    have e2 := congrArg (pm (piv x)) e
    rw [← pm_as, ← pm_as, pinv_l (hP x hx) (piv_ok (hP x hx)), pm_l1 (hP y hy).1, pm_l1 (hP z hz).1] at e2
    exact e2
  have hinv : ∀ x, x ∈ S → piv x ∈ S := fun x hx => by
    have h3 : (S.map (pm x)).Nodup := List.pairwise_map.mpr (List.Pairwise.imp_of_mem (fun {u v} hu hv huv he => huv (hlc x hx u hu v hv he)) hn)
    have h2 : pid ∈ S.map (pm x) := Classical.byContradiction fun hq => by
      have h5 : (pid :: S.map (pm x)).Nodup := List.nodup_cons.mpr ⟨hq, h3⟩
      have h4 := h5.length_le_of_subset (l₂ := S) (fun y hy => by
        rcases List.mem_cons.mp hy with rfl | hy
        · exact h1
        · obtain ⟨z, hz, rfl⟩ := List.mem_map.mp hy
          exact hm x hx z hz)
      rw [List.length_cons, List.length_map] at h4
      omega
    obtain ⟨y, hy, e⟩ := List.mem_map.mp h2
    have e2 : y = piv x := by
      have e3 := congrArg (pm (piv x)) e
      rw [← pm_as, pinv_l (hP x hx) (piv_ok (hP x hx)), pm_l1 (hP y hy).1, pm_r1 (piv_ok (hP x hx)).1] at e3
      exact e3
    rw [← e2]; exact hy
  exact ⟨hn, h1, hm, hinv, pm_as, fun x hx => pm_l1 (hP x hx).1, fun x hx => pm_r1 (hP x hx).1, fun x hx => pinv_l (hP x hx) (piv_ok (hP x hx)), fun x hx => pinv_r (piv_ok (hP x hx))⟩
-- as many: then all
theorem pg_all {S T : List Nat} (hn : S.Nodup) (hs : ∀ x, x ∈ S → x ∈ T) (hl : T.length ≤ S.length) : ∀ x, x ∈ T → x ∈ S := fun x hx => Classical.byContradiction fun h => by
  have h1 := (List.nodup_cons.mpr ⟨h, hn⟩ : (x :: S).Nodup).length_le_of_subset (l₂ := T) (fun y hy => by
    rcases List.mem_cons.mp hy with rfl | hy
    · exact hx
    · exact hs y hy)
  rw [List.length_cons] at h1
  omega
-- S is the group of the table B, made by gens
def tbO (B : Nat) (gens : List Nat) (n : Nat) (S : List Nat) : Prop := gg_ok S pm pid piv ∧ (∀ x, x ∈ S → isP x) ∧ S.length = n ∧ (∀ c, isP c → (c ∈ S ↔ inB B c = true)) ∧ (∀ g, g ∈ gens → g ∈ S) ∧ (∀ Y : Nat → Prop, Y pid → (∀ c g, Y c → g ∈ gens → Y (pm c g)) → ∀ c, c ∈ S → Y c)
theorem ckT_t {B : Nat} {gens : List Nat} {n : Nat} (hm0 : 0 < Nat.land B 65535) (h : ckT B gens n = true) : ∃ S, tbO B gens n S := by
  obtain ⟨h1, h2⟩ := bth_t.mp h
  have hg : ∀ g, g ∈ gens → isP g := fun g hg => isPb_t (al_t.mp h1 g hg)
  obtain ⟨S, a1, a2, a3, a4⟩ := cl_t (by simp) (fun x hx => hx) h2
  obtain ⟨b1, b2⟩ := bth_t.mp a4
  obtain ⟨b3, b4⟩ := bth_t.mp b2
  obtain ⟨b5, b6⟩ := bth_t.mp b4
  have hl := Nat.eq_of_beq_eq_true b1
  rw [ln_eq] at hl
  have h1S : pid ∈ S := a2 _ List.mem_cons_self
  have hgen : ∀ Y : Nat → Prop, Y pid → (∀ c g, Y c → g ∈ gens → Y (pm c g)) → ∀ c, c ∈ S → Y c := fun Y h3 h4 => a3 Y (fun x hx => by rw [List.mem_singleton.mp hx]; exact h3) (fun x g hx hg' => by rw [qm_eq]; exact h4 x g hx hg')
  have hP : ∀ x, x ∈ S → isP x := hgen isP isP_id (fun c g hc hg' => isP_pm hc (hg g hg'))
  have hiff : ∀ c, isP c → (c ∈ S ↔ inB B c = true) := fun c hc => by
    refine ⟨fun h9 => al_t.mp b3 c h9, fun h9 => ?_⟩
    have e := Nat.eq_of_beq_eq_true h9
    have h8 := sls_t b6 (c % Nat.land B 65535) (Nat.mod_lt _ hm0)
    have e2 : Nat.land (Nat.shiftRight B (16 + 32 * (c % Nat.land B 65535))) 16777215 = c := e
    rw [e2] at h8
    cases h7 : Nat.beq c 0 with
    | true => exact absurd (Nat.eq_of_beq_eq_true h7) (isP_0 hc)
    | false => rw [h7] at h8; exact el_t.mp h8
  have hcl : ∀ x, x ∈ S → ∀ g, g ∈ gens → pm x g ∈ S := fun x hx g hg' => by
    have h9 := al_t.mp (al_t.mp b5 x hx) g hg'
    rw [qm_eq] at h9
    exact (hiff _ (isP_pm (hP x hx) (hg g hg'))).mpr h9
  have hmul : ∀ x, x ∈ S → ∀ y, y ∈ S → pm x y ∈ S := fun x hx y hy => hgen (fun y => pm x y ∈ S) (by rw [pm_r1 (hP x hx).1]; exact hx) (fun c g hc hg' => by rw [← pm_as]; exact hcl _ hc g hg') y hy
  refine ⟨S, fin_gg a1 hP h1S hmul, hP, hl, hiff, fun g hg' => ?_, hgen⟩
  have := hcl pid h1S g hg'
  rw [pm_l1 (hg g hg').1] at this
  exact this
