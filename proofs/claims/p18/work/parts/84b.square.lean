-- pure: the number that belongs to a central map is a square modulo p
section FQ
variable {G : List Nat} {mul : Nat → Nat → Nat} {one : Nat} {inv : Nat → Nat} {p : Nat} {f : Nat → Int}
theorem gg_ip (hG : gg_ok G mul one inv) {x y : Nat} (hx : x ∈ G) (hy : y ∈ G) : inv (mul x y) = mul (inv y) (inv x) := by
  refine (gg_iu hG (gg_m hG hx hy) (gg_m hG (gg_i hG hy) (gg_i hG hx)) ?_).symm
  rw [gg_as hG, ← gg_as hG y, gg_ri hG hy, gg_l1 hG (gg_i hG hx), gg_ri hG hx]
theorem gg_cm (hG : gg_ok G mul one inv) {g x : Nat} (hg : g ∈ G) (hx : x ∈ G) : mul (mul (inv g) x) g ∈ G := gg_m hG (gg_m hG (gg_i hG hg) hx) hg
theorem gg_cj (hG : gg_ok G mul one inv) {g x y : Nat} (hg : g ∈ G) (hx : x ∈ G) (hy : y ∈ G) (e : mul (mul (inv g) x) g = mul (mul (inv g) y) g) : x = y := gg_lc hG (gg_i hG hg) hx hy (gg_rc hG hg (gg_m hG (gg_i hG hg) hx) (gg_m hG (gg_i hG hg) hy) e)
theorem gg_ci (hG : gg_ok G mul one inv) {g x : Nat} (hg : g ∈ G) (hx : x ∈ G) : inv (mul (mul (inv g) x) g) = mul (mul (inv g) (inv x)) g := by
  rw [gg_ip hG (gg_m hG (gg_i hG hg) hx) hg, gg_ip hG (gg_i hG hg) hx, gg_ii hG hg, gg_as hG]
theorem gg_ic (hG : gg_ok G mul one inv) {x y : Nat} (hx : x ∈ G) (hy : y ∈ G) (e : inv x = inv y) : x = y := by rw [← gg_ii hG hx, e, gg_ii hG hy]
theorem gg_lk (hG : gg_ok G mul one inv) {u w : Nat} (hu : u ∈ G) (hw : w ∈ G) : mul u (mul (inv u) w) = w := by rw [← gg_as hG, gg_ri hG hu, gg_l1 hG hw]
theorem gg_lk2 (hG : gg_ok G mul one inv) {u w : Nat} (hu : u ∈ G) (hw : w ∈ G) : mul (inv u) (mul u w) = w := by rw [← gg_as hG, gg_li hG hu, gg_l1 hG hw]
-- a function of the classes f with n f(x) f(y) = the sum of f(x (y turned by g)) over all g
def avO (G : List Nat) (mul : Nat → Nat → Nat) (inv : Nat → Nat) (p : Nat) (f : Nat → Int) : Prop := (∀ x y, x ∈ G → y ∈ G → f (mul x y) = f (mul y x)) ∧ ∀ x y, x ∈ G → y ∈ G → (p : Int) ∣ (G.length : Int) * (f x * f y) - si (fun g => f (mul x (mul (mul (inv g) y) g))) G
theorem av_c (hG : gg_ok G mul one inv) (h : avO G mul inv p f) {g x : Nat} (hg : g ∈ G) (hx : x ∈ G) : f (mul (mul (inv g) x) g) = f x := by
  rw [h.1 _ _ (gg_m hG (gg_i hG hg) hx) hg, gg_lk hG hg hx]
def avs (G : List Nat) (inv : Nat → Nat) (f : Nat → Int) : Int := si (fun x => f x * f (inv x)) G
theorem av_1 (hG : gg_ok G mul one inv) (hp : ∀ m, m ∣ p → m = 1 ∨ m = p) (hn : ¬ p ∣ G.length) (h : avO G mul inv p f) {z : Nat} (hz : z ∈ G) : (p : Int) ∣ si (fun x => f x * f (mul (inv x) z)) G - avs G inv f * f z := by
  refine nt_euclid hp hn ?_
  have e1 : ∀ g, g ∈ G → si (fun x => f x * f (mul z (mul (mul (inv g) (inv x)) g))) G = si (fun x => f x * f (mul (inv x) z)) G := fun g hg => by
    rw [← si_bij hG (fun x => f x * f (mul (inv x) z)) (fun x => mul (mul (inv g) x) g) (fun x hx => gg_cm hG hg hx) (fun x hx y hy e => gg_cj hG hg hx hy e)]
    refine si_congr fun x hx => ?_
    show f x * f (mul z (mul (mul (inv g) (inv x)) g)) = f (mul (mul (inv g) x) g) * f (mul (inv (mul (mul (inv g) x) g)) z)
    rw [av_c hG h hg hx, gg_ci hG hg hx, h.1 _ _ hz (gg_cm hG hg (gg_i hG hx))]
  have e2 : (p : Int) ∣ si (fun x => f x * ((G.length : Int) * (f z * f (inv x)))) G - si (fun x => f x * si (fun g => f (mul z (mul (mul (inv g) (inv x)) g))) G) G := si_cong fun x hx => dv_ml (f x) (h.2 z (inv x) hz (gg_i hG hx))
  have e3 : si (fun x => f x * si (fun g => f (mul z (mul (mul (inv g) (inv x)) g))) G) G = (G.length : Int) * si (fun x => f x * f (mul (inv x) z)) G := by
    have e : si (fun x => f x * si (fun g => f (mul z (mul (mul (inv g) (inv x)) g))) G) G = si (fun x => si (fun g => f x * f (mul z (mul (mul (inv g) (inv x)) g))) G) G := si_congr fun x _ => (si_mul _ _ _).symm
    refine (e.trans (si_swap (fun x g => f x * f (mul z (mul (mul (inv g) (inv x)) g))) G G)).trans ?_
    exact (si_congr fun g hg => e1 g hg).trans (si_const _ _)
  have e4 : si (fun x => f x * ((G.length : Int) * (f z * f (inv x)))) G = (G.length : Int) * (avs G inv f * f z) := by
    unfold avs
    rw [← si_mulr, ← si_mul]
    exact si_congr fun x _ => by grind
  rw [e3, e4] at e2
  have e5 := dv_sy e2
  rw [← Int.mul_sub] at e5
  exact e5
-- an operator on the functions of two elements
def twT (G : List Nat) (mul : Nat → Nat → Nat) (inv : Nat → Nat) (f : Nat → Int) (F : Nat → Nat → Int) (a b : Nat) : Int := si (fun u => si (fun v => f (mul u v) * F (mul (inv u) a) (mul (inv v) b)) G) G
theorem tw_cong (hG : gg_ok G mul one inv) {F F' : Nat → Nat → Int} (h : ∀ a b, a ∈ G → b ∈ G → (p : Int) ∣ F a b - F' a b) {a b : Nat} (ha : a ∈ G) (hb : b ∈ G) : (p : Int) ∣ twT G mul inv f F a b - twT G mul inv f F' a b := si_cong fun u hu => si_cong fun v hv => dv_ml _ (h _ _ (gg_m hG (gg_i hG hu) ha) (gg_m hG (gg_i hG hv) hb))
theorem tw_mul (c : Int) (F : Nat → Nat → Int) (a b : Nat) : twT G mul inv f (fun a b => c * F a b) a b = c * twT G mul inv f F a b := by
  unfold twT
  rw [← si_mul]
  refine si_congr fun u _ => ?_
  rw [← si_mul]
  exact si_congr fun v _ => by grind
theorem tw_1 (hG : gg_ok G mul one inv) {a b : Nat} (ha : a ∈ G) (hb : b ∈ G) : twT G mul inv f (fun a b => ib (decide (one = a)) * ib (decide (one = b))) a b = f (mul a b) := by
  unfold twT
  have e0 : ∀ u z, u ∈ G → z ∈ G → ib (decide (one = mul (inv u) z)) = ib (decide (u = z)) := fun u z hu hz => by
    congr 1
    apply decide_eq_decide.mpr
    constructor
    · intro e; rw [← gg_r1 hG hu, e, gg_lk hG hu hz]
    · intro e; rw [← e, gg_li hG hu]
  have e1 : ∀ u, u ∈ G → si (fun v => f (mul u v) * (ib (decide (one = mul (inv u) a)) * ib (decide (one = mul (inv v) b)))) G = ib (decide (u = a)) * f (mul u b) := fun u hu => by
    rw [← si_one (fun v => f (mul u v)) b (gg_nd hG) hb, ← si_mul]
    refine si_congr fun v hv => ?_
    rw [e0 u a hu ha, e0 v b hv hb]
    grind
  rw [si_congr e1]
  exact si_one (fun u => f (mul u b)) a (gg_nd hG) ha
theorem tw_2 (hG : gg_ok G mul one inv) (hp : ∀ m, m ∣ p → m = 1 ∨ m = p) (hn : ¬ p ∣ G.length) (h : avO G mul inv p f) {a b : Nat} (ha : a ∈ G) (hb : b ∈ G) : (p : Int) ∣ twT G mul inv f (fun a b => f (mul a b)) a b - (G.length : Int) * avs G inv f * (f a * f b) := by
  have e1 : ∀ u, u ∈ G → si (fun v => f (mul u v) * f (mul (mul (inv u) a) (mul (inv v) b))) G = si (fun w => f w * f (mul b (mul (mul (inv u) (mul a (inv w))) u))) G := fun u hu => by
    rw [← si_bij hG (fun v => f (mul u v) * f (mul (mul (inv u) a) (mul (inv v) b))) (fun w => mul (inv u) w) (fun w hw => gg_m hG (gg_i hG hu) hw) (fun x hx y hy e => gg_lc hG (gg_i hG hu) hx hy e)]
    refine si_congr fun w hw => ?_
    show f (mul u (mul (inv u) w)) * f (mul (mul (inv u) a) (mul (inv (mul (inv u) w)) b)) = _
    have hi := gg_i hG hw
    have hui := gg_i hG hu
    rw [gg_lk hG hu hw, gg_ip hG hui hw, gg_ii hG hu, h.1 b _ hb (gg_cm hG hu (gg_m hG ha hi))]
    have e9 : mul (mul (inv u) a) (mul (mul (inv w) u) b) = mul (mul (mul (inv u) (mul a (inv w))) u) b := by simp only [gg_as hG]
    rw [e9]
  have e2 : twT G mul inv f (fun a b => f (mul a b)) a b = si (fun w => f w * si (fun u => f (mul b (mul (mul (inv u) (mul a (inv w))) u))) G) G := by
    unfold twT
    refine (si_congr e1).trans ((si_swap (fun u w => f w * f (mul b (mul (mul (inv u) (mul a (inv w))) u))) G G).trans ?_)
    exact si_congr fun w _ => si_mul _ _ _
  have e3 : (p : Int) ∣ si (fun w => f w * ((G.length : Int) * (f b * f (mul a (inv w))))) G - si (fun w => f w * si (fun u => f (mul b (mul (mul (inv u) (mul a (inv w))) u))) G) G := si_cong fun w hw => dv_ml (f w) (h.2 b (mul a (inv w)) hb (gg_m hG ha (gg_i hG hw)))
  have e4 : si (fun w => f w * ((G.length : Int) * (f b * f (mul a (inv w))))) G = ((G.length : Int) * f b) * si (fun w => f w * f (mul (inv w) a)) G := by
    rw [← si_mul]
    refine si_congr fun w hw => ?_
    rw [h.1 a (inv w) ha (gg_i hG hw)]
    grind
  have e5 := dv_ml ((G.length : Int) * f b) (av_1 hG hp hn h ha)
  rw [e2]
  rw [e4] at e3
  have e6 := dv_tr (dv_sy e3) e5
  have e7 : (G.length : Int) * f b * (avs G inv f * f a) = (G.length : Int) * avs G inv f * (f a * f b) := by grind
  rw [e7] at e6
  exact e6
theorem tw_3 (hG : gg_ok G mul one inv) (hp : ∀ m, m ∣ p → m = 1 ∨ m = p) (hn : ¬ p ∣ G.length) (h : avO G mul inv p f) {a b : Nat} (ha : a ∈ G) (hb : b ∈ G) : (p : Int) ∣ twT G mul inv f (fun a b => f a * f b) a b - avs G inv f * avs G inv f * f (mul a b) := by
  have e1 : ∀ u, u ∈ G → (p : Int) ∣ si (fun v => f (mul u v) * (f (mul (inv u) a) * f (mul (inv v) b))) G - f (mul (inv u) a) * (avs G inv f * f (mul u b)) := fun u hu => by
    have e : si (fun v => f (mul u v) * (f (mul (inv u) a) * f (mul (inv v) b))) G = f (mul (inv u) a) * si (fun w => f w * f (mul (inv w) (mul u b))) G := by
      rw [← si_bij hG (fun v => f (mul u v) * (f (mul (inv u) a) * f (mul (inv v) b))) (fun w => mul (inv u) w) (fun w hw => gg_m hG (gg_i hG hu) hw) (fun x hx y hy e => gg_lc hG (gg_i hG hu) hx hy e), ← si_mul]
      refine si_congr fun w hw => ?_
      show f (mul u (mul (inv u) w)) * (f (mul (inv u) a) * f (mul (inv (mul (inv u) w)) b)) = _
      rw [gg_lk hG hu hw, gg_ip hG (gg_i hG hu) hw, gg_ii hG hu, gg_as hG (inv w) u b]
      grind
    rw [e]
    exact dv_ml _ (av_1 hG hp hn h (gg_m hG hu hb))
  have e2 : (p : Int) ∣ twT G mul inv f (fun a b => f a * f b) a b - si (fun u => f (mul (inv u) a) * (avs G inv f * f (mul u b))) G := si_cong e1
  have e3 : si (fun u => f (mul (inv u) a) * (avs G inv f * f (mul u b))) G = avs G inv f * si (fun w => f w * f (mul (inv w) (mul a b))) G := by
    rw [← si_bij hG (fun w => f w * f (mul (inv w) (mul a b))) (fun u => mul a (inv u)) (fun u hu => gg_m hG ha (gg_i hG hu)) (fun x hx y hy e => gg_ic hG hx hy (gg_lc hG ha (gg_i hG hx) (gg_i hG hy) e)), ← si_mul]
    refine si_congr fun u hu => ?_
    have hi := gg_i hG hu
    show _ = avs G inv f * (f (mul a (inv u)) * f (mul (inv (mul a (inv u))) (mul a b)))
    rw [gg_ip hG ha hi, gg_ii hG hu, gg_as hG u (inv a) (mul a b), gg_lk2 hG ha hb, h.1 a (inv u) ha hi]
    grind
  rw [e3] at e2
  have e4 := dv_tr e2 (dv_ml (avs G inv f) (av_1 hG hp hn h (gg_m hG ha hb)))
  rw [← Int.mul_assoc] at e4
  exact e4
end FQ
-- tuples of pairs, each pair (u, v) taken f(u v) times
def ftC (G : List Nat) (mul : Nat → Nat → Nat) (f : Nat → Nat) : List (Nat × Nat × Nat) := G.flatMap (fun u => G.flatMap (fun v => (List.range (f (mul u v))).map (fun i => (u, v, i))))
def ftM (mul : Nat → Nat → Nat) (one : Nat) (C : List (Nat × Nat × Nat)) (m a b : Nat) : Int := si (fun t => ib (decide (tp_pr mul one (t.map (fun c => c.1)) = a)) * ib (decide (tp_pr mul one (t.map (fun c => c.2.1)) = b))) (tp_all C m)
section FT
variable {G : List Nat} {mul : Nat → Nat → Nat} {one : Nat} {inv : Nat → Nat} {p : Nat} {f : Nat → Nat} {k : Nat} {kl re : Nat → Nat}
theorem ft_nd (hG : G.Nodup) : (ftC G mul f).Nodup := by
  refine List.pairwise_flatMap.mpr ⟨fun u _ => List.pairwise_flatMap.mpr ⟨fun v _ => ?_, ?_⟩, ?_⟩
  · refine List.pairwise_map.mpr (List.Pairwise.imp (fun {a b} hab he => hab ?_) List.nodup_range)
    exact congrArg (fun c : Nat × Nat × Nat => c.2.2) he
  · refine List.Pairwise.imp (fun {t t'} hne x hx y hy he => hne ?_) hG
    obtain ⟨g, _, rfl⟩ := List.mem_map.mp hx
    obtain ⟨g', _, rfl⟩ := List.mem_map.mp hy
    exact congrArg (fun c : Nat × Nat × Nat => c.2.1) he
  · refine List.Pairwise.imp (fun {t t'} hne x hx y hy he => hne ?_) hG
    obtain ⟨v, _, hx⟩ := List.mem_flatMap.mp hx
    obtain ⟨v', _, hy⟩ := List.mem_flatMap.mp hy
    obtain ⟨g, _, rfl⟩ := List.mem_map.mp hx
    obtain ⟨g', _, rfl⟩ := List.mem_map.mp hy
    exact congrArg (fun c : Nat × Nat × Nat => c.1) he
theorem ft_mem {c : Nat × Nat × Nat} (h : c ∈ ftC G mul f) : c.1 ∈ G ∧ c.2.1 ∈ G := by
  obtain ⟨u, hu, h⟩ := List.mem_flatMap.mp h
  obtain ⟨v, hv, h⟩ := List.mem_flatMap.mp h
  obtain ⟨i, _, rfl⟩ := List.mem_map.mp h
  exact ⟨hu, hv⟩
theorem ft_si (F : Nat → Nat → Int) : si (fun c : Nat × Nat × Nat => F c.1 c.2.1) (ftC G mul f) = si (fun u => si (fun v => (f (mul u v) : Int) * F u v) G) G := by
  unfold ftC
  rw [si_flat]
  refine si_congr fun u _ => ?_
  rw [si_flat]
  refine si_congr fun v _ => ?_
  rw [si_map]
  refine (si_const (F u v) _).trans ?_
  rw [List.length_range]
theorem ft_0 (C : List (Nat × Nat × Nat)) (a b : Nat) : ftM mul one C 0 a b = ib (decide (one = a)) * ib (decide (one = b)) := by
  unfold ftM
  show ib (decide (tp_pr mul one [] = a)) * ib (decide (tp_pr mul one [] = b)) + 0 = _
  rw [Int.add_zero]
  rfl
theorem ft_s (hG : gg_ok G mul one inv) {C : List (Nat × Nat × Nat)} (hC : ∀ c, c ∈ C → c.1 ∈ G ∧ c.2.1 ∈ G) (m : Nat) {a b : Nat} (ha : a ∈ G) (hb : b ∈ G) : ftM mul one C (m + 1) a b = si (fun c : Nat × Nat × Nat => ftM mul one C m (mul (inv c.1) a) (mul (inv c.2.1) b)) C := by
  unfold ftM
  show si _ ((tp_all C m).flatMap (fun t => C.map (fun g => g :: t))) = _
  rw [si_flat]
  have hq : ∀ (g x z : Nat), g ∈ G → x ∈ G → z ∈ G → ib (decide (mul g x = z)) = ib (decide (x = mul (inv g) z)) := fun g x z hg hx hz => by
    congr 1
    apply decide_eq_decide.mpr
    constructor
    · intro e; rw [← e, gg_lk2 hG hg hx]
    · intro e; rw [e, gg_lk hG hg hz]
  have h1 : ∀ t, t ∈ tp_all C m → si (fun t : List (Nat × Nat × Nat) => ib (decide (tp_pr mul one (t.map (fun c => c.1)) = a)) * ib (decide (tp_pr mul one (t.map (fun c => c.2.1)) = b))) (C.map (fun g => g :: t)) = si (fun c : Nat × Nat × Nat => ib (decide (tp_pr mul one (t.map (fun c => c.1)) = mul (inv c.1) a)) * ib (decide (tp_pr mul one (t.map (fun c => c.2.1)) = mul (inv c.2.1) b))) C := by
    intro t ht
    have hc := ((tp_mem C m t).mp ht).2
    rw [si_map]
    refine si_congr fun g hg => ?_
    have htG : tp_pr mul one (t.map (fun c => c.1)) ∈ G := tp_prm hG _ (fun x hx => by obtain ⟨c, hc1, rfl⟩ := List.mem_map.mp hx; exact (hC c (hc c hc1)).1)
    have htG2 : tp_pr mul one (t.map (fun c => c.2.1)) ∈ G := tp_prm hG _ (fun x hx => by obtain ⟨c, hc1, rfl⟩ := List.mem_map.mp hx; exact (hC c (hc c hc1)).2)
    show ib (decide (mul g.1 (tp_pr mul one (t.map (fun c => c.1))) = a)) * ib (decide (mul g.2.1 (tp_pr mul one (t.map (fun c => c.2.1))) = b)) = _
    rw [hq _ _ _ (hC g hg).1 htG ha, hq _ _ _ (hC g hg).2 htG2 hb]
  exact (si_congr h1).trans (si_swap _ _ _)
theorem ft_T (hG : gg_ok G mul one inv) (m : Nat) {a b : Nat} (ha : a ∈ G) (hb : b ∈ G) : ftM mul one (ftC G mul f) (m + 1) a b = twT G mul inv (fun x => (f x : Int)) (ftM mul one (ftC G mul f) m) a b := by
  rw [ft_s hG (fun c hc => ft_mem hc) m ha hb]
  exact ft_si (fun u v => ftM mul one (ftC G mul f) m (mul (inv u) a) (mul (inv v) b))
theorem tp_mrot {α β : Type} (g : α → β) : ∀ t : List α, (tp_rot t).map g = tp_rot (t.map g)
  | [] => rfl
  | x :: t => by
    show (t ++ [x]).map g = t.map g ++ [g x]
    rw [List.map_append]; rfl
theorem ib_and (x y : Bool) : ib (x && y) = ib x * ib y := by cases x <;> cases y <;> rfl
theorem ft_p (h : kc_ok G mul one inv k kl re) (hp1 : 1 < p) (hp : ∀ m, m ∣ p → m = 1 ∨ m = p) (hpw : ∀ x, x ∈ G → gg_pw mul one x p = x) : (p : Int) ∣ ftM mul one (ftC G mul f) p one one - (f (mul one one) : Int) := by
  have hG := kc_g h
  have hin : ∀ t : List (Nat × Nat × Nat), (∀ g, g ∈ t → g ∈ ftC G mul f) → (∀ x, x ∈ t.map (fun c => c.1) → x ∈ G) ∧ (∀ x, x ∈ t.map (fun c => c.2.1) → x ∈ G) := fun t ht => ⟨fun x hx => by obtain ⟨c, hc1, rfl⟩ := List.mem_map.mp hx; exact (ft_mem (ht c hc1)).1, fun x hx => by obtain ⟨c, hc1, rfl⟩ := List.mem_map.mp hx; exact (ft_mem (ht c hc1)).2⟩
  have hrot : ∀ t : List Nat, (∀ x, x ∈ t → x ∈ G) → decide (tp_pr mul one (tp_rot t) = one) = decide (tp_pr mul one t = one) := fun t ht => by
    apply decide_eq_decide.mpr
    have ht2 : ∀ x, x ∈ tp_rot t → x ∈ G := fun x hx => ht x ((tp_rot_mem t x).mp hx)
    rw [← kc_one h (tp_prm hG _ ht2), ← kc_one h (tp_prm hG _ ht), tp_prr h t ht]
  have h1 := tp_cong0 (ft_nd (mul := mul) (f := f) (gg_nd hG)) hp1 hp (fun t => decide (tp_pr mul one (t.map (fun c => c.1)) = one) && decide (tp_pr mul one (t.map (fun c => c.2.1)) = one)) (fun t ht => by
    show (decide (tp_pr mul one ((tp_rot t).map (fun c => c.1)) = one) && decide (tp_pr mul one ((tp_rot t).map (fun c => c.2.1)) = one)) = _
    rw [tp_mrot, tp_mrot, hrot _ (hin t ht).1, hrot _ (hin t ht).2])
  rw [← si_count, ← si_count] at h1
  have e1 : si (fun t : List (Nat × Nat × Nat) => ib (decide (tp_pr mul one (t.map (fun c => c.1)) = one) && decide (tp_pr mul one (t.map (fun c => c.2.1)) = one))) (tp_all (ftC G mul f) p) = ftM mul one (ftC G mul f) p one one := si_congr fun t _ => ib_and _ _
  have e2 : si (fun g : Nat × Nat × Nat => ib (decide (tp_pr mul one ((List.replicate p g).map (fun c => c.1)) = one) && decide (tp_pr mul one ((List.replicate p g).map (fun c => c.2.1)) = one))) (ftC G mul f) = (f (mul one one) : Int) := by
    have e3 : si (fun g : Nat × Nat × Nat => ib (decide (tp_pr mul one ((List.replicate p g).map (fun c => c.1)) = one) && decide (tp_pr mul one ((List.replicate p g).map (fun c => c.2.1)) = one))) (ftC G mul f) = si (fun g : Nat × Nat × Nat => ib (decide (g.1 = one)) * ib (decide (g.2.1 = one))) (ftC G mul f) := si_congr fun g hg => by
      rw [List.map_replicate, List.map_replicate, tp_prc hG (ft_mem hg).1, tp_prc hG (ft_mem hg).2, hpw _ (ft_mem hg).1, hpw _ (ft_mem hg).2, ib_and]
    rw [e3, ft_si (fun u v => ib (decide (u = one)) * ib (decide (v = one)))]
    have e4 : ∀ u, u ∈ G → si (fun v => (f (mul u v) : Int) * (ib (decide (u = one)) * ib (decide (v = one)))) G = ib (decide (u = one)) * (f (mul u one) : Int) := fun u hu => by
      rw [← si_one (fun v => (f (mul u v) : Int)) one (gg_nd hG) (gg_1 hG), ← si_mul]
      exact si_congr fun v _ => by grind
    rw [si_congr e4]
    exact si_one (fun u => (f (mul u one) : Int)) one (gg_nd hG) (gg_1 hG)
  rw [e2] at h1
  have h2 : (p : Int) ∣ ftM mul one (ftC G mul f) p one one - (f (mul one one) : Int) := by rw [← e1]; exact h1
  exact h2
-- so a power of n s^3 is 1
theorem ft_j (hG : gg_ok G mul one inv) (hp : ∀ m, m ∣ p → m = 1 ∨ m = p) (hn : ¬ p ∣ G.length) (h : avO G mul inv p (fun x => (f x : Int))) : ∀ (j a b : Nat), a ∈ G → b ∈ G → (p : Int) ∣ ftM mul one (ftC G mul f) (2 * j + 1) a b - ((G.length : Int) * avs G inv (fun x => (f x : Int)) * (avs G inv (fun x => (f x : Int)) * avs G inv (fun x => (f x : Int)))) ^ j * (f (mul a b) : Int)
  | 0, a, b, ha, hb => by
    rw [ft_T hG 0 ha hb]
    have e : ftM mul one (ftC G mul f) 0 = fun a b => ib (decide (one = a)) * ib (decide (one = b)) := funext fun a => funext fun b => ft_0 _ a b
    rw [e, tw_1 hG ha hb, Int.pow_zero, Int.one_mul, Int.sub_self]
    exact Int.dvd_zero _
  | j + 1, a, b, ha, hb => by
    have ih := ft_j hG hp hn h j
    generalize hc : ((G.length : Int) * avs G inv (fun x => (f x : Int)) * (avs G inv (fun x => (f x : Int)) * avs G inv (fun x => (f x : Int)))) ^ j = c at ih
    have h1 : ∀ a b, a ∈ G → b ∈ G → (p : Int) ∣ ftM mul one (ftC G mul f) (2 * j + 1 + 1) a b - c * ((G.length : Int) * avs G inv (fun x => (f x : Int))) * ((f a : Int) * (f b : Int)) := fun a b ha hb => by
      rw [ft_T hG _ ha hb]
      have q1 := tw_cong (f := fun x => (f x : Int)) hG ih ha hb
      rw [tw_mul c (fun a b => (f (mul a b) : Int))] at q1
      have q2 := dv_ml c (tw_2 hG hp hn h ha hb)
      have q3 := dv_tr q1 q2
      rw [← Int.mul_assoc c] at q3
      exact q3
    rw [show 2 * (j + 1) + 1 = 2 * j + 1 + 1 + 1 by omega, ft_T hG _ ha hb]
    have q1 := tw_cong (f := fun x => (f x : Int)) hG h1 ha hb
    rw [tw_mul (c * ((G.length : Int) * avs G inv (fun x => (f x : Int)))) (fun a b => (f a : Int) * (f b : Int))] at q1
    have q3 := dv_tr q1 (dv_ml _ (tw_3 hG hp hn h ha hb))
    rw [Int.pow_succ, hc]
    have e : c * ((G.length : Int) * avs G inv (fun x => (f x : Int))) * (avs G inv (fun x => (f x : Int)) * avs G inv (fun x => (f x : Int)) * (f (mul a b) : Int)) = c * ((G.length : Int) * avs G inv (fun x => (f x : Int)) * (avs G inv (fun x => (f x : Int)) * avs G inv (fun x => (f x : Int)))) * (f (mul a b) : Int) := by grind
    rw [← e]
    exact q3
theorem ft_end (h : kc_ok G mul one inv k kl re) (hp1 : 1 < p) (hp : ∀ m, m ∣ p → m = 1 ∨ m = p) (hpw : ∀ x, x ∈ G → gg_pw mul one x p = x) (hav : avO G mul inv p (fun x => (f x : Int))) (h1 : f one = 1) {j : Nat} (hj : p = 2 * j + 1) : (p : Int) ∣ ((G.length : Int) * avs G inv (fun x => (f x : Int)) * (avs G inv (fun x => (f x : Int)) * avs G inv (fun x => (f x : Int)))) ^ j - 1 := by
  have hG := kc_g h
  have q1 := ft_p (f := f) h hp1 hp hpw
  have q2 := ft_j hG hp (gg_np hG hp1 hp hpw) hav j one one (gg_1 hG) (gg_1 hG)
  rw [← hj] at q2
  have q3 := dv_tr (dv_sy q2) q1
  rw [gg_l1 hG (gg_1 hG), h1] at q3
  simpa using q3
end FT
