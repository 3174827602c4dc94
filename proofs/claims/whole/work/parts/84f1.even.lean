-- pure: a part of a group that holds all elements of odd order: its number of cosets, and an element that keeps it
section EV
variable {G X : List Nat} {mul : Nat → Nat → Nat} {one : Nat} {inv : Nat → Nat}
theorem fl_split {α : Type} (p : α → Bool) : ∀ l : List α, (l.filter p).length + (l.filter (fun q => !p q)).length = l.length
  | [] => rfl
  | a :: l => by
    have ih := fl_split p l
    rw [List.filter_cons, List.filter_cons, List.length_cons]
    cases h : p a <;> simp <;> omega
theorem fx_2 {Q : List Nat} (hn : Q.Nodup) (f : Nat → Nat) (hf : ∀ q, q ∈ Q → f q ∈ Q) (h2 : ∀ q, q ∈ Q → f (f q) = q) : (Q.filter (fun q => decide (f q = q))).length % 2 = Q.length % 2 := by
  have h1 : 2 ∣ (Q.filter (fun q => !decide (f q = q))).length := by
    refine fa_div f 2 (by decide) _ _ (Nat.le_refl _) (hn.filter _) ?_ ?_ ?_
    · intro x hx
      rw [List.mem_filter] at hx ⊢
      refine ⟨hf x hx.1, ?_⟩
      have h9 := hx.2
      simp at h9 ⊢
      intro e
      rw [h2 x hx.1] at e
      exact h9 e.symm
    · intro x hx
      exact h2 x (List.mem_filter.mp hx).1
    · intro x hx j h0 hj
      have : j = 1 := by omega
      subst this
      have h9 := (List.mem_filter.mp hx).2
      simp at h9
      exact h9
  have h3 := fl_split (fun q => decide (f q = q)) Q
  omega
theorem fx_8 {Q : List Nat} (hn : Q.Nodup) (f : Nat → Nat) (hf : ∀ q, q ∈ Q → f q ∈ Q) (h8 : ∀ q, q ∈ Q → f (f (f (f (f (f (f (f q))))))) = q) (ho : Q.length % 2 = 1) : ∃ q, q ∈ Q ∧ f q = q := by
  have a1 := fx_2 hn (fun q => f (f (f (f q)))) (fun q hq => hf _ (hf _ (hf _ (hf _ hq)))) (fun q hq => h8 q hq)
  have a2 := fx_2 (hn.filter (fun q => decide (f (f (f (f q))) = q))) (fun q => f (f q)) (fun q hq => by
    rw [List.mem_filter] at hq ⊢
    have h9 := of_decide_eq_true hq.2
    exact ⟨hf _ (hf _ hq.1), decide_eq_true (by show f (f (f (f (f (f q))))) = f (f q); rw [h9])⟩) (fun q hq => of_decide_eq_true (List.mem_filter.mp hq).2)
  have a3 := fx_2 ((hn.filter (fun q => decide (f (f (f (f q))) = q))).filter (fun q => decide (f (f q) = q))) f (fun q hq => by
    rw [List.mem_filter, List.mem_filter] at hq ⊢
    have h9 := of_decide_eq_true hq.2
    have h10 := of_decide_eq_true hq.1.2
    exact ⟨⟨hf _ hq.1.1, decide_eq_true (by show f (f (f (f (f q)))) = f q; rw [h10])⟩, decide_eq_true (by show f (f (f q)) = f q; rw [h9])⟩) (fun q hq => of_decide_eq_true (List.mem_filter.mp hq).2)
  rw [a2, a1, ho] at a3
  cases hL : ((Q.filter (fun q => decide (f (f (f (f q))) = q))).filter (fun q => decide (f (f q) = q))).filter (fun q => decide (f q = q)) with
  | nil => rw [hL] at a3; simp at a3
  | cons q l =>
    have hq : q ∈ ((Q.filter (fun q => decide (f (f (f (f q))) = q))).filter (fun q => decide (f (f q) = q))).filter (fun q => decide (f q = q)) := by rw [hL]; exact List.mem_cons_self
    rw [List.mem_filter, List.mem_filter, List.mem_filter] at hq
    exact ⟨q, hq.1.1.1, of_decide_eq_true hq.2⟩
-- powers
theorem gg_pp (h : gg_ok G mul one inv) {x : Nat} (hx : x ∈ G) (m : Nat) : ∀ n : Nat, gg_pw mul one (gg_pw mul one x m) n = gg_pw mul one x (m * n)
  | 0 => rfl
  | n + 1 => by
    show mul (gg_pw mul one (gg_pw mul one x m) n) (gg_pw mul one x m) = _
    rw [gg_pp h hx m n, ← gg_pa h hx, Nat.mul_succ]
theorem gg_cjm (h : gg_ok G mul one inv) {g x y : Nat} (hg : g ∈ G) (hx : x ∈ G) (hy : y ∈ G) : mul (mul (mul (inv g) x) g) (mul (mul (inv g) y) g) = mul (mul (inv g) (mul x y)) g := by
  have h1 : mul g (mul (mul (inv g) y) g) = mul y g := by rw [gg_as h, ← gg_as h, gg_ri h hg, gg_l1 h (gg_m h hy hg)]
  rw [gg_as h, h1, gg_as h, ← gg_as h x y g, ← gg_as h]
theorem gg_cp (h : gg_ok G mul one inv) {g x : Nat} (hg : g ∈ G) (hx : x ∈ G) : ∀ n : Nat, gg_pw mul one (mul (mul (inv g) x) g) n = mul (mul (inv g) (gg_pw mul one x n)) g
  | 0 => by
    show one = mul (mul (inv g) one) g
    rw [gg_r1 h (gg_i h hg), gg_li h hg]
  | n + 1 => by
    show mul (gg_pw mul one (mul (mul (inv g) x) g) n) (mul (mul (inv g) x) g) = mul (mul (inv g) (mul (gg_pw mul one x n) x)) g
    rw [gg_cp h hg hx n, gg_cjm h hg (gg_pm h hx n) hx]
-- cosets: x X; its first element in the list
def rpc (G X : List Nat) (mul : Nat → Nat → Nat) (inv : Nat → Nat) (x : Nat) : Nat := (G.filter (fun y => decide (mul (inv x) y ∈ X))).headD 0
theorem rpc_in (hG : gg_ok G mul one inv) (hX : gg_ok X mul one inv) {x : Nat} (hx : x ∈ G) : rpc G X mul inv x ∈ G ∧ mul (inv x) (rpc G X mul inv x) ∈ X := by
  have h1 : x ∈ G.filter (fun y => decide (mul (inv x) y ∈ X)) := List.mem_filter.mpr ⟨hx, decide_eq_true (by rw [gg_li hG hx]; exact gg_1 hX)⟩
  unfold rpc
  cases hL : G.filter (fun y => decide (mul (inv x) y ∈ X)) with
  | nil => rw [hL] at h1; cases h1
  | cons q l =>
    have hq : q ∈ G.filter (fun y => decide (mul (inv x) y ∈ X)) := by rw [hL]; exact List.mem_cons_self
    rw [List.mem_filter] at hq
    exact ⟨hq.1, of_decide_eq_true hq.2⟩
theorem gg_tr3 (hG : gg_ok G mul one inv) {x y z : Nat} (hx : x ∈ G) (hy : y ∈ G) (hz : z ∈ G) : mul (mul (inv x) y) (mul (inv y) z) = mul (inv x) z := by
  rw [gg_as hG, ← gg_as hG y, gg_ri hG hy, gg_l1 hG hz]
theorem gg_iv2 (hG : gg_ok G mul one inv) {x y : Nat} (hx : x ∈ G) (hy : y ∈ G) : inv (mul (inv x) y) = mul (inv y) x := by
  refine (gg_iu hG (gg_m hG (gg_i hG hx) hy) (gg_m hG (gg_i hG hy) hx) ?_).symm
  rw [gg_tr3 hG hx hy hx, gg_li hG hx]
theorem gg_sbi (hG : gg_ok G mul one inv) (hX : gg_ok X mul one inv) (hs : ∀ x, x ∈ X → x ∈ G) {x y : Nat} (hx : x ∈ G) (hy : y ∈ G) (h : mul (inv x) y ∈ X) : mul (inv y) x ∈ X := by
  rw [← gg_iv2 hG hx hy]
  exact gg_i hX h
theorem rpc_iff (hG : gg_ok G mul one inv) (hX : gg_ok X mul one inv) (hs : ∀ x, x ∈ X → x ∈ G) {x y : Nat} (hx : x ∈ G) (hy : y ∈ G) : rpc G X mul inv x = rpc G X mul inv y ↔ mul (inv x) y ∈ X := by
  constructor
  · intro e
    obtain ⟨a1, a2⟩ := rpc_in hG hX hx
    obtain ⟨b1, b2⟩ := rpc_in hG hX hy
    rw [e] at a2
    rw [← gg_tr3 hG hx b1 hy]
    exact gg_m hX a2 (gg_sbi hG hX hs hy b1 b2)
  · intro e
    unfold rpc
    rw [List.filter_congr (q := fun z => decide (mul (inv y) z ∈ X)) (fun z hz => ?_)]
    refine decide_eq_decide.mpr ⟨fun h => ?_, fun h => ?_⟩
    · rw [← gg_tr3 hG hy hx hz]
      exact gg_m hX (gg_sbi hG hX hs hx hy e) h
    · rw [← gg_tr3 hG hx hy hz]
      exact gg_m hX e h
theorem rpc_2 (hG : gg_ok G mul one inv) (hX : gg_ok X mul one inv) (hs : ∀ x, x ∈ X → x ∈ G) {x : Nat} (hx : x ∈ G) : rpc G X mul inv (rpc G X mul inv x) = rpc G X mul inv x := by
  obtain ⟨a1, a2⟩ := rpc_in hG hX hx
  exact ((rpc_iff hG hX hs hx a1).mpr a2).symm
theorem rpc_m (hG : gg_ok G mul one inv) (hX : gg_ok X mul one inv) (hs : ∀ x, x ∈ X → x ∈ G) {g x : Nat} (hg : g ∈ G) (hx : x ∈ G) : rpc G X mul inv (mul g (rpc G X mul inv x)) = rpc G X mul inv (mul g x) := by
  obtain ⟨a1, a2⟩ := rpc_in hG hX hx
  refine ((rpc_iff hG hX hs (gg_m hG hg hx) (gg_m hG hg a1)).mpr ?_).symm
  have e : mul (inv (mul g x)) (mul g (rpc G X mul inv x)) = mul (inv x) (rpc G X mul inv x) := by
    refine gg_lc hG (gg_m hG hg hx) (gg_m hG (gg_i hG (gg_m hG hg hx)) (gg_m hG hg a1)) (gg_m hG (gg_i hG hx) a1) ?_
    rw [← gg_as hG, gg_ri hG (gg_m hG hg hx), gg_l1 hG (gg_m hG hg a1), gg_as hG, ← gg_as hG x, gg_ri hG hx, gg_l1 hG a1]
  rw [e]; exact a2
def Qc (G X : List Nat) (mul : Nat → Nat → Nat) (inv : Nat → Nat) : List Nat := G.filter (fun x => decide (rpc G X mul inv x = x))
theorem Qc_mem {x : Nat} : x ∈ Qc G X mul inv ↔ x ∈ G ∧ rpc G X mul inv x = x := by
  unfold Qc
  rw [List.mem_filter]
  exact ⟨fun h => ⟨h.1, of_decide_eq_true h.2⟩, fun h => ⟨h.1, decide_eq_true h.2⟩⟩
theorem cnt_sub (hG : G.Nodup) (hX : X.Nodup) (hs : ∀ x, x ∈ X → x ∈ G) : G.countP (fun z => decide (z ∈ X)) = X.length := by
  have h1 : si (fun z => ib (decide (z ∈ X))) G = si (fun z => si (fun x => ib (decide (x = z))) X) G := si_congr fun z _ => by
    by_cases h : z ∈ X
    · have := si_one (fun _ => (1 : Int)) z hX h
      simp only [Int.mul_one] at this
      rw [this]
      simp [ib, h]
    · rw [si_z (fun x hx => ?_)]
      · simp [ib, h]
      · have : x ≠ z := fun e => h (e ▸ hx)
        simp [ib, this]
  have h2 : si (fun x => si (fun z => ib (decide (x = z))) G) X = si (fun _ => (1 : Int)) X := si_congr fun x hx => by
    have := si_one (fun _ => (1 : Int)) x hG (hs x hx)
    simp only [Int.mul_one] at this
    rw [← this]
    exact si_congr fun z _ => by simp only [eq_comm]
  rw [si_swap, h2, si_const, si_count] at h1
  omega
theorem cnt_cos (hG : gg_ok G mul one inv) (hX : gg_ok X mul one inv) (hs : ∀ x, x ∈ X → x ∈ G) {q : Nat} (hq : q ∈ Qc G X mul inv) : G.countP (fun x => decide (rpc G X mul inv x = q)) = X.length := by
  obtain ⟨q1, q2⟩ := Qc_mem.mp hq
  rw [← cnt_sub (gg_nd hG) (gg_nd hX) hs]
  refine gg_cnt hG (fun x => mul (inv q) x) (fun x hx => gg_m hG (gg_i hG q1) hx) (fun x hx y hy e => gg_lc hG (gg_i hG q1) hx hy e) (fun x hx => ?_)
  refine decide_eq_decide.mpr ?_
  rw [← rpc_iff hG hX hs q1 hx, q2]
  exact eq_comm
theorem lag (hG : gg_ok G mul one inv) (hX : gg_ok X mul one inv) (hs : ∀ x, x ∈ X → x ∈ G) : G.length = (Qc G X mul inv).length * X.length := by
  have h1 : si (fun x => si (fun q => ib (decide (q = rpc G X mul inv x))) (Qc G X mul inv)) G = si (fun _ => (1 : Int)) G := si_congr fun x hx => by
    have hq : rpc G X mul inv x ∈ Qc G X mul inv := Qc_mem.mpr ⟨(rpc_in hG hX hx).1, rpc_2 hG hX hs hx⟩
    have := si_one (fun _ => (1 : Int)) _ ((gg_nd hG).filter _) hq
    simp only [Int.mul_one] at this
    exact this
  have h2 : si (fun q => si (fun x => ib (decide (q = rpc G X mul inv x))) G) (Qc G X mul inv) = si (fun _ => (X.length : Int)) (Qc G X mul inv) := si_congr fun q hq => by
    rw [← cnt_cos hG hX hs hq, ← si_count]
    exact si_congr fun x _ => by simp only [eq_comm]
  rw [si_swap, h2, si_const, si_const, Int.mul_one, ← Int.natCast_mul] at h1
  omega
theorem si_ge {α : Type} {f : α → Int} : ∀ {l : List α}, (∀ a, a ∈ l → 0 ≤ f a) → 0 ≤ si f l
  | [], _ => Int.le_refl 0
  | a :: l, h => Int.add_nonneg (h a List.mem_cons_self) (si_ge fun b hb => h b (List.mem_cons_of_mem _ hb))
theorem si_ge0 {α : Type} {f : α → Int} : ∀ {l : List α}, (∀ a, a ∈ l → 0 ≤ f a) → si f l = 0 → ∀ a, a ∈ l → f a = 0
  | [], _, _, a, ha => by cases ha
  | b :: l, h, h0, a, ha => by
    rw [si_cons] at h0
    have h1 := h b List.mem_cons_self
    have h2 := si_ge (l := l) (f := f) (fun c hc => h c (List.mem_cons_of_mem _ hc))
    rcases List.mem_cons.mp ha with rfl | ha
    · omega
    · exact si_ge0 (fun c hc => h c (List.mem_cons_of_mem _ hc)) (by omega) a ha
-- elements of odd order keep every coset
theorem odd_fix (hG : gg_ok G mul one inv) (hX : gg_ok X mul one inv) (hs : ∀ x, x ∈ X → x ∈ G) (ho : ∀ g, g ∈ G → gg_pw mul one g 105 = one → g ∈ X) {h q : Nat} (hh : h ∈ G) (h105 : gg_pw mul one h 105 = one) (hq : q ∈ Qc G X mul inv) : rpc G X mul inv (mul h q) = q := by
  obtain ⟨q1, q2⟩ := Qc_mem.mp hq
  refine Eq.trans ?_ q2
  refine ((rpc_iff hG hX hs q1 (gg_m hG hh q1)).mpr ?_).symm
  rw [← gg_as hG]
  refine ho _ (gg_m hG (gg_m hG (gg_i hG q1) hh) q1) ?_
  rw [gg_cp hG q1 hh, h105, gg_r1 hG (gg_i hG q1), gg_li hG q1]
theorem rpc_Q (hG : gg_ok G mul one inv) (hX : gg_ok X mul one inv) (hs : ∀ x, x ∈ X → x ∈ G) {g q : Nat} (hg : g ∈ G) (hq : q ∈ Qc G X mul inv) : rpc G X mul inv (mul g q) ∈ Qc G X mul inv :=
  Qc_mem.mpr ⟨(rpc_in hG hX (gg_m hG hg (Qc_mem.mp hq).1)).1, rpc_2 hG hX hs (gg_m hG hg (Qc_mem.mp hq).1)⟩
-- the number of cosets is even, if there is more than one
theorem ev_ix (hG : gg_ok G mul one inv) (hX : gg_ok X mul one inv) (hs : ∀ x, x ∈ X → x ∈ G) (h840 : ∀ g, g ∈ G → gg_pw mul one g 840 = one) (ho : ∀ g, g ∈ G → gg_pw mul one g 105 = one → g ∈ X) {w : Nat} (hw : w ∈ G) (hwX : w ∉ X) : (Qc G X mul inv).length % 2 = 0 := Classical.byContradiction fun hn => by
  have hodd : (Qc G X mul inv).length % 2 = 1 := by omega
  have hnd : (Qc G X mul inv).Nodup := (gg_nd hG).filter _
  have hfix : ∀ g, g ∈ G → ∃ q, q ∈ Qc G X mul inv ∧ rpc G X mul inv (mul g q) = q := fun g hg => by
    refine fx_8 hnd (fun q => rpc G X mul inv (mul g q)) (fun q hq => rpc_Q hG hX hs hg hq) (fun q hq => ?_) hodd
    have q1 := (Qc_mem.mp hq).1
    have m1 := gg_m hG hg q1
    have m2 := gg_m hG hg m1
    have m3 := gg_m hG hg m2
    have m4 := gg_m hG hg m3
    have m5 := gg_m hG hg m4
    have m6 := gg_m hG hg m5
    have m7 := gg_m hG hg m6
    show rpc G X mul inv (mul g (rpc G X mul inv (mul g (rpc G X mul inv (mul g (rpc G X mul inv (mul g (rpc G X mul inv (mul g (rpc G X mul inv (mul g (rpc G X mul inv (mul g (rpc G X mul inv (mul g q))))))))))))))) = q
    rw [rpc_m hG hX hs hg m1, rpc_m hG hX hs hg m2, rpc_m hG hX hs hg m3, rpc_m hG hX hs hg m4, rpc_m hG hX hs hg m5, rpc_m hG hX hs hg m6, rpc_m hG hX hs hg m7]
    have e : mul g (mul g (mul g (mul g (mul g (mul g (mul g (mul g q))))))) = mul (gg_pw mul one g 8) q := by
      show _ = mul (mul (mul (mul (mul (mul (mul (mul (mul one g) g) g) g) g) g) g) g) q
      simp only [gg_as hG]
      rw [gg_l1 hG (gg_m hG hg m7)]
    rw [e]
    exact odd_fix hG hX hs ho (gg_pm hG hg 8) (by rw [gg_pp hG hg]; exact h840 g hg) hq
  have h1 : si (fun g => si (fun q => ib (decide (rpc G X mul inv (mul g q) = q))) (Qc G X mul inv)) G = (G.length : Int) := by
    rw [si_swap, lag hG hX hs, Int.natCast_mul, ← si_const]
    refine si_congr fun q hq => ?_
    have q1 := (Qc_mem.mp hq).1
    rw [si_count, ← cnt_cos hG hX hs hq]
    refine congrArg Nat.cast ?_
    exact gg_cnt hG (fun g => mul g q) (fun x hx => gg_m hG hx q1) (fun x hx y hy e => gg_rc hG q1 hx hy e) (fun x hx => rfl)
  have h2 : si (fun g => si (fun q => ib (decide (rpc G X mul inv (mul g q) = q))) (Qc G X mul inv) - 1) G = 0 := by
    rw [si_sub, h1, si_const]; omega
  have h3 := si_ge0 (fun g hg => by
    obtain ⟨q, hq, e⟩ := hfix g hg
    rw [si_count]
    have : 0 < (Qc G X mul inv).countP (fun q => decide (rpc G X mul inv (mul g q) = q)) := List.countP_pos_iff.mpr ⟨q, hq, decide_eq_true e⟩
    omega) h2 one (gg_1 hG)
  have h4 : si (fun q => ib (decide (rpc G X mul inv (mul one q) = q))) (Qc G X mul inv) = ((Qc G X mul inv).length : Int) := by
    rw [← Int.mul_one ((Qc G X mul inv).length : Int), ← si_const]
    refine si_congr fun q hq => ?_
    obtain ⟨q1, q2⟩ := Qc_mem.mp hq
    rw [gg_l1 hG q1, q2]
    simp [ib]
  rw [h4] at h3
  have h5 : (Qc G X mul inv).length = 1 := by omega
  have h6 : ∀ a b, a ∈ Qc G X mul inv → b ∈ Qc G X mul inv → a = b := by
    cases hL : Qc G X mul inv with
    | nil => rw [hL] at h5; simp at h5
    | cons c l =>
      cases l with
      | nil => intro a b ha hb; simp at ha hb; rw [ha, hb]
      | cons d l => rw [hL] at h5; simp at h5
  have h7 := h6 _ _ (rpc_Q hG hX hs (gg_1 hG) (Qc_mem.mpr ⟨(rpc_in hG hX hw).1, rpc_2 hG hX hs hw⟩)) (rpc_Q hG hX hs (gg_1 hG) (Qc_mem.mpr ⟨(rpc_in hG hX (gg_1 hG)).1, rpc_2 hG hX hs (gg_1 hG)⟩))
  rw [gg_l1 hG (rpc_in hG hX hw).1, gg_l1 hG (rpc_in hG hX (gg_1 hG)).1, rpc_2 hG hX hs hw, rpc_2 hG hX hs (gg_1 hG)] at h7
  have h8 := (rpc_iff hG hX hs (gg_1 hG) hw).mp h7.symm
  have h9 : inv one = one := (gg_iu hG (gg_1 hG) (gg_1 hG) (gg_l1 hG (gg_1 hG))).symm
  rw [h9, gg_l1 hG hw] at h8
  exact hwX h8
-- where elements of odd order move nothing, the points that X keeps are, but for an even number, all
def parO (G X : List Nat) (mul : Nat → Nat → Nat) (one : Nat) : Prop := ∀ (Q : List Nat) (φ : Nat → Nat → Nat), Q.Nodup → (∀ g q, g ∈ G → q ∈ Q → φ g q ∈ Q) → (∀ a b q, a ∈ G → b ∈ G → q ∈ Q → φ (mul a b) q = φ a (φ b q)) → (∀ q, q ∈ Q → φ one q = q) → (∀ g q, g ∈ G → gg_pw mul one g 105 = one → q ∈ Q → φ g q = q) → (Q.filter (fun q => X.all (fun x => decide (φ x q = q)))).length % 2 = Q.length % 2
theorem par_0 (hG : gg_ok G mul one inv) (hX : ∀ Y : Nat → Prop, Y one → (∀ a b, a ∈ G → Y a → b ∈ G → gg_pw mul one b 105 = one → Y (mul a b)) → ∀ x, x ∈ X → Y x) : parO G X mul one := by
  intro Q φ _ _ hm h1 ho
  have h2 : ∀ x, x ∈ X → x ∈ G ∧ ∀ q, q ∈ Q → φ x q = q := hX (fun x => x ∈ G ∧ ∀ q, q ∈ Q → φ x q = q) ⟨gg_1 hG, h1⟩ (fun a b ha h3 hb h5 => ⟨gg_m hG ha hb, fun q hq => by rw [hm a b q ha hb hq, ho b q hb h5 hq, h3.2 q hq]⟩)
  rw [List.filter_eq_self.mpr (fun q hq => List.all_eq_true.mpr fun x hx => decide_eq_true ((h2 x hx).2 q hq))]
theorem par_s {X' : List Nat} {g : Nat} (hG : gg_ok G mul one inv) (hs : ∀ x, x ∈ X → x ∈ G) (hg : g ∈ G) (hX' : ∀ x, x ∈ X' ↔ x ∈ X ∨ ∃ y, y ∈ X ∧ x = mul g y) (h1 : one ∈ X) (hn : ∀ x, x ∈ X → mul (mul (inv g) x) g ∈ X) (h2 : mul g g ∈ X) (h : parO G X mul one) : parO G X' mul one := by
  intro Q φ hQ hφ hm h1' ho
  rw [← h Q φ hQ hφ hm h1' ho]
  have e : Q.filter (fun q => X'.all (fun x => decide (φ x q = q))) = (Q.filter (fun q => X.all (fun x => decide (φ x q = q)))).filter (fun q => decide (φ g q = q)) := by
    rw [List.filter_filter]
    refine List.filter_congr fun q hq => ?_
    rw [Bool.eq_iff_iff, Bool.and_eq_true, List.all_eq_true, List.all_eq_true]
    constructor
    · intro h9
      refine ⟨h9 g ((hX' g).mpr (Or.inr ⟨one, h1, (gg_r1 hG hg).symm⟩)), fun x hx => h9 x ((hX' x).mpr (Or.inl hx))⟩
    · rintro ⟨h8, h9⟩ x hx
      rcases (hX' x).mp hx with h7 | ⟨y, hy, rfl⟩
      · exact h9 x h7
      · refine decide_eq_true ?_
        rw [hm g y q hg (hs y hy) hq, of_decide_eq_true (h9 y hy), of_decide_eq_true h8]
  rw [e]
  refine fx_2 (hQ.filter _) (φ g) (fun q hq => ?_) (fun q hq => ?_)
  · rw [List.mem_filter, List.all_eq_true] at hq ⊢
    refine ⟨hφ g q hg hq.1, fun x hx => decide_eq_true ?_⟩
    have e2 : mul x g = mul g (mul (mul (inv g) x) g) := by rw [gg_as hG, ← gg_as hG, gg_ri hG hg, gg_l1 hG (gg_m hG (hs x hx) hg)]
    rw [← hm x g q (hs x hx) hg hq.1, e2, hm g _ q hg (hs _ (hn x hx)) hq.1, of_decide_eq_true (hq.2 _ (hn x hx))]
  · rw [List.mem_filter, List.all_eq_true] at hq
    rw [← hm g g q hg hg hq.1]
    exact of_decide_eq_true (hq.2 _ h2)
theorem nrm_pw (hG : gg_ok G mul one inv) (hs : ∀ x, x ∈ X → x ∈ G) {q : Nat} (hq : q ∈ G) (hn : ∀ x, x ∈ X → mul (mul (inv q) x) q ∈ X) : ∀ (m x : Nat), x ∈ X → mul (mul (inv (gg_pw mul one q m)) x) (gg_pw mul one q m) ∈ X
  | 0, x, hx => by
    show mul (mul (inv one) x) one ∈ X
    rw [(gg_iu hG (gg_1 hG) (gg_1 hG) (gg_l1 hG (gg_1 hG))).symm, gg_l1 hG (hs x hx), gg_r1 hG (hs x hx)]
    exact hx
  | m + 1, x, hx => by
    have h1 := hn _ (nrm_pw hG hs hq hn m x hx)
    have hp := gg_pm hG hq m
    have e : inv (gg_pw mul one q (m + 1)) = mul (inv q) (inv (gg_pw mul one q m)) := by
      refine (gg_iu hG (gg_m hG hp hq) (gg_m hG (gg_i hG hq) (gg_i hG hp)) ?_).symm
      rw [gg_as hG, ← gg_as hG q, gg_ri hG hq, gg_l1 hG (gg_i hG hp), gg_ri hG hp]
    rw [e]
    show mul (mul (mul (inv q) (inv (gg_pw mul one q m))) x) (mul (gg_pw mul one q m) q) ∈ X
    simp only [gg_as hG] at h1 ⊢
    exact h1
-- an element outside that keeps X, its square in X, of order 2, 4 or 8
theorem grw (hG : gg_ok G mul one inv) (hX : gg_ok X mul one inv) (hs : ∀ x, x ∈ X → x ∈ G) (h840 : ∀ g, g ∈ G → gg_pw mul one g 840 = one) (ho : ∀ g, g ∈ G → gg_pw mul one g 105 = one → g ∈ X) (hpar : parO G X mul one) {w : Nat} (hw : w ∈ G) (hwX : w ∉ X) : ∃ g, g ∈ G ∧ g ∉ X ∧ (∀ x, x ∈ X → mul (mul (inv g) x) g ∈ X) ∧ mul g g ∈ X ∧ gg_pw mul one g 8 = one := by
  have hev := ev_ix hG hX hs h840 ho hw hwX
  have hnd : (Qc G X mul inv).Nodup := (gg_nd hG).filter _
  have hp := hpar (Qc G X mul inv) (fun g q => rpc G X mul inv (mul g q)) hnd (fun g q hg hq => rpc_Q hG hX hs hg hq)
    (fun a b q ha hb hq => by
      show rpc G X mul inv (mul (mul a b) q) = rpc G X mul inv (mul a (rpc G X mul inv (mul b q)))
      rw [rpc_m hG hX hs ha (gg_m hG hb (Qc_mem.mp hq).1), gg_as hG])
    (fun q hq => by
      show rpc G X mul inv (mul one q) = q
      rw [gg_l1 hG (Qc_mem.mp hq).1, (Qc_mem.mp hq).2])
    (fun g q hg h5 hq => odd_fix hG hX hs ho hg h5 hq)
  rw [hev] at hp
  have h1Q : rpc G X mul inv one ∈ Qc G X mul inv := Qc_mem.mpr ⟨(rpc_in hG hX (gg_1 hG)).1, rpc_2 hG hX hs (gg_1 hG)⟩
  have i1' : inv one = one := (gg_iu hG (gg_1 hG) (gg_1 hG) (gg_l1 hG (gg_1 hG))).symm
  have h1F : rpc G X mul inv one ∈ (Qc G X mul inv).filter (fun q => X.all (fun x => decide (rpc G X mul inv (mul x q) = q))) := List.mem_filter.mpr ⟨h1Q, List.all_eq_true.mpr fun x hx => decide_eq_true (by
    rw [rpc_m hG hX hs (hs x hx) (gg_1 hG), gg_r1 hG (hs x hx)]
    refine ((rpc_iff hG hX hs (gg_1 hG) (hs x hx)).mpr ?_).symm
    rw [i1', gg_l1 hG (hs x hx)]
    exact hx)⟩
  have h2F : ∃ q, q ∈ (Qc G X mul inv).filter (fun q => X.all (fun x => decide (rpc G X mul inv (mul x q) = q))) ∧ q ≠ rpc G X mul inv one := Classical.byContradiction fun hn => by
    have hall : ∀ q, q ∈ (Qc G X mul inv).filter (fun q => X.all (fun x => decide (rpc G X mul inv (mul x q) = q))) → q = rpc G X mul inv one := fun q hq => Classical.byContradiction fun h => hn ⟨q, hq, h⟩
    have hl := List.Nodup.length_le_of_subset (hnd.filter (fun q => X.all (fun x => decide (rpc G X mul inv (mul x q) = q)))) (l₂ := [rpc G X mul inv one]) (fun q hq => by rw [hall q hq]; exact List.mem_cons_self)
    cases hL : (Qc G X mul inv).filter (fun q => X.all (fun x => decide (rpc G X mul inv (mul x q) = q))) with
    | nil => rw [hL] at h1F; cases h1F
    | cons a t => rw [hL] at hl hp; simp at hl hp; subst hl; simp at hp
  obtain ⟨q, hqF, hq1⟩ := h2F
  rw [List.mem_filter, List.all_eq_true] at hqF
  obtain ⟨q1, q2⟩ := Qc_mem.mp hqF.1
  have hqX : q ∉ X := fun h => hq1 (by
    refine q2.symm.trans ((rpc_iff hG hX hs (gg_1 hG) q1).mpr ?_).symm
    rw [i1', gg_l1 hG q1]; exact h)
  have hqn : ∀ x, x ∈ X → mul (mul (inv q) x) q ∈ X := fun x hx => by
    have h9 := of_decide_eq_true (hqF.2 x hx)
    have h8 := (rpc_iff hG hX hs q1 (gg_m hG (hs x hx) q1)).mp (q2.trans h9.symm)
    rw [gg_as hG]; exact h8
  have hpw := fun m x hx => nrm_pw hG hs q1 hqn m x hx
  have h8X : gg_pw mul one q 8 ∈ X := ho _ (gg_pm hG q1 8) (by rw [gg_pp hG q1]; exact h840 q q1)
  have h104 : gg_pw mul one q 104 ∈ X := by
    rw [show (104 : Nat) = 8 * 13 from rfl, ← gg_pp hG q1]
    exact gg_pm hX h8X 13
  have h105 : gg_pw mul one q 105 ∉ X := fun h => hqX (by
    have e : gg_pw mul one q 105 = mul (gg_pw mul one q 104) q := rfl
    have e2 : q = mul (inv (gg_pw mul one q 104)) (gg_pw mul one q 105) := by
      rw [e, ← gg_as hG, gg_li hG (gg_pm hG q1 104), gg_l1 hG q1]
    rw [e2]
    exact gg_m hX (gg_i hX h104) h)
  have sq : ∀ m, mul (gg_pw mul one q m) (gg_pw mul one q m) = gg_pw mul one q (m + m) := fun m => (gg_pa hG q1 m m).symm
  have h8 : ∀ m, gg_pw mul one (gg_pw mul one q (105 * m)) 8 = one := fun m => by
    rw [gg_pp hG q1, show 105 * m * 8 = 840 * m by omega, ← gg_pp hG q1, h840 q q1]
    have h9 := gg_pz hG (gg_1 hG) (d := 1) (gg_p1 hG (gg_1 hG)) m
    rw [Nat.one_mul] at h9
    exact h9
  by_cases c4 : gg_pw mul one q 420 ∈ X
  · by_cases c2 : gg_pw mul one q 210 ∈ X
    · exact ⟨_, gg_pm hG q1 105, h105, hpw 105, by rw [sq]; exact c2, h8 1⟩
    · exact ⟨_, gg_pm hG q1 210, c2, hpw 210, by rw [sq]; exact c4, h8 2⟩
  · exact ⟨_, gg_pm hG q1 420, c4, hpw 420, by rw [sq, h840 q q1]; exact gg_1 hX, h8 4⟩
end EV
