-- pure: a matrix with a^p = a modulo p: every vector is a sum of eigenvectors
def mv (a : Nat → Nat → Int) (d : Nat) (x : Nat → Int) (t : Nat) : Int := si (fun j => a t j * x j) (List.range d)
def vq (p : Nat) (d : Nat) (u v : Nat → Int) : Prop := ∀ t, t < d → (p : Int) ∣ u t - v t
theorem vq_rfl {p d : Nat} (u : Nat → Int) : vq p d u u := fun t _ => by rw [Int.sub_self]; exact Int.dvd_zero _
theorem vq_symm {p d : Nat} {u v : Nat → Int} (h : vq p d u v) : vq p d v u := fun t ht => by
  have h1 := Int.dvd_neg.mpr (h t ht)
  rw [Int.neg_sub] at h1
  exact h1
theorem vq_trans {p d : Nat} {u v w : Nat → Int} (h1 : vq p d u v) (h2 : vq p d v w) : vq p d u w := fun t ht => by
  have h3 := Int.dvd_add (h1 t ht) (h2 t ht)
  have h4 : u t - v t + (v t - w t) = u t - w t := by omega
  rw [h4] at h3
  exact h3
theorem vq_eq {p d : Nat} {u v : Nat → Int} (h : ∀ t, t < d → u t = v t) : vq p d u v := fun t ht => by rw [h t ht, Int.sub_self]; exact Int.dvd_zero _
theorem vq_add {p d : Nat} {u v u' v' : Nat → Int} (h1 : vq p d u v) (h2 : vq p d u' v') : vq p d (fun t => u t + u' t) (fun t => v t + v' t) := fun t ht => by
  have h3 := Int.dvd_add (h1 t ht) (h2 t ht)
  have h4 : u t - v t + (u' t - v' t) = u t + u' t - (v t + v' t) := by omega
  rw [h4] at h3
  exact h3
theorem vq_sub {p d : Nat} {u v u' v' : Nat → Int} (h1 : vq p d u v) (h2 : vq p d u' v') : vq p d (fun t => u t - u' t) (fun t => v t - v' t) := fun t ht => by
  have h3 := Int.dvd_sub (h1 t ht) (h2 t ht)
  have h4 : u t - v t - (u' t - v' t) = u t - u' t - (v t - v' t) := by omega
  rw [h4] at h3
  exact h3
theorem vq_mul {p d : Nat} {u v : Nat → Int} (c : Int) (h : vq p d u v) : vq p d (fun t => c * u t) (fun t => c * v t) := fun t ht => by
  show (p : Int) ∣ c * u t - c * v t
  rw [← Int.mul_sub]
  exact Int.dvd_mul_of_dvd_right (h t ht)
theorem vq_si {p d : Nat} {α : Type} {f g : α → Nat → Int} {S : List α} (h : ∀ s, s ∈ S → vq p d (f s) (g s)) : vq p d (fun t => si (fun s => f s t) S) (fun t => si (fun s => g s t) S) := fun t ht => si_cong fun s hs => h s hs t ht
theorem mv_cong {p d : Nat} (a : Nat → Nat → Int) {u v : Nat → Int} (h : vq p d u v) (e : Nat) : vq p e (mv a d u) (mv a d v) := fun t _ => si_cong fun j hj => by
  rw [← Int.mul_sub]
  exact Int.dvd_mul_of_dvd_right (h j (List.mem_range.mp hj))
theorem mv_si {α : Type} (a : Nat → Nat → Int) (d : Nat) (f : α → Nat → Int) (S : List α) (t : Nat) : mv a d (fun j => si (fun s => f s j) S) t = si (fun s => mv a d (f s) t) S := by
  unfold mv
  rw [← si_swap]
  exact si_congr fun j _ => (si_mul _ _ _).symm
theorem mv_add (a : Nat → Nat → Int) (d : Nat) (u v : Nat → Int) (t : Nat) : mv a d (fun j => u j + v j) t = mv a d u t + mv a d v t := by
  unfold mv
  rw [← si_add]
  exact si_congr fun j _ => Int.mul_add _ _ _
theorem mv_sub (a : Nat → Nat → Int) (d : Nat) (u v : Nat → Int) (t : Nat) : mv a d (fun j => u j - v j) t = mv a d u t - mv a d v t := by
  unfold mv
  rw [← si_sub]
  exact si_congr fun j _ => Int.mul_sub _ _ _
theorem mv_mul (a : Nat → Nat → Int) (d : Nat) (c : Int) (u : Nat → Int) (t : Nat) : mv a d (fun j => c * u j) t = c * mv a d u t := by
  unfold mv
  rw [← si_mul]
  exact si_congr fun j _ => by rw [← Int.mul_assoc, ← Int.mul_assoc, Int.mul_comm c]
-- a minus a number
def bv (a : Nat → Nat → Int) (d : Nat) (lam : Int) (x : Nat → Int) (t : Nat) : Int := mv a d x t - lam * x t
theorem bv_cong {p d : Nat} (a : Nat → Nat → Int) (lam : Int) {u v : Nat → Int} (h : vq p d u v) : vq p d (bv a d lam u) (bv a d lam v) := vq_sub (mv_cong a h d) (vq_mul lam h)
-- polynomials by their coefficients, lowest first
def pe (c : List Int) (x : Int) : Int := match c with
  | [] => 0
  | a :: c => a + x * pe c x
def pv (a : Nat → Nat → Int) (d : Nat) (c : List Int) (v : Nat → Int) : Nat → Int := match c with
  | [] => fun _ => 0
  | b :: c => fun t => b * v t + mv a d (pv a d c v) t
def pd (lam : Int) : List Int → Int × List Int
  | [] => (0, [])
  | [a] => (a, [])
  | a :: b :: c => (a + lam * (pd lam (b :: c)).1, (pd lam (b :: c)).1 :: (pd lam (b :: c)).2)
theorem pe_pd (lam x : Int) : ∀ c : List Int, pe c x = (pd lam c).1 + (x - lam) * pe (pd lam c).2 x
  | [] => by simp [pe, pd]
  | [a] => by simp [pe, pd]
  | a :: b :: c => by
    show a + x * pe (b :: c) x = a + lam * (pd lam (b :: c)).1 + (x - lam) * ((pd lam (b :: c)).1 + x * pe (pd lam (b :: c)).2 x)
    rw [pe_pd lam x (b :: c)]
    grind
theorem pv_pd (a : Nat → Nat → Int) (d : Nat) (lam : Int) (v : Nat → Int) : ∀ (c : List Int) (t : Nat), pv a d c v t = (pd lam c).1 * v t + bv a d lam (pv a d (pd lam c).2 v) t
  | [], t => by
    show 0 = 0 * v t + (mv a d (fun _ => 0) t - lam * 0)
    have h1 : mv a d (fun _ => 0) t = 0 := si_z fun j _ => Int.mul_zero _
    rw [h1]; simp
  | [b], t => by
    show b * v t + mv a d (fun _ => 0) t = b * v t + (mv a d (fun _ => 0) t - lam * 0)
    rw [Int.mul_zero, Int.sub_zero]
  | b :: b' :: c', t => by
    generalize hc : b' :: c' = c
    have hpd : pd lam (b :: c) = (b + lam * (pd lam c).1, (pd lam c).1 :: (pd lam c).2) := by rw [← hc]; rfl
    rw [hpd]
    show b * v t + mv a d (pv a d c v) t = (b + lam * (pd lam c).1) * v t + bv a d lam (fun t => (pd lam c).1 * v t + mv a d (pv a d (pd lam c).2 v) t) t
    have h1 : pv a d c v = fun t => (pd lam c).1 * v t + bv a d lam (pv a d (pd lam c).2 v) t := funext fun t => by rw [← hc]; exact pv_pd a d lam v (b' :: c') t
    rw [h1, mv_add, mv_mul]
    unfold bv
    rw [mv_add, mv_mul, mv_sub, mv_mul]
    grind
-- dividing by X, X - 1, .. one after the other
def pdn (c : List Int) : Nat → List Int
  | 0 => c
  | n + 1 => (pd (n : Int) (pdn c n)).2
def pmn : Nat → Int → Int
  | 0, _ => 1
  | n + 1, x => pmn n x * (x - (n : Int))
-- the operators a - m, .. , one after the other
def bvn (a : Nat → Nat → Int) (d : Nat) : Nat → (Nat → Int) → Nat → Int
  | 0, x => x
  | n + 1, x => bvn a d n (bv a d (n : Int) x)
theorem bvn_cong {p d : Nat} (a : Nat → Nat → Int) : ∀ (n : Nat) {u v : Nat → Int}, vq p d u v → vq p d (bvn a d n u) (bvn a d n v)
  | 0, _, _, h => h
  | n + 1, _, _, h => bvn_cong a n (bv_cong a n h)
theorem pd_last (lam : Int) : ∀ (c : List Int) (x y : Int), (pd lam (x :: (c ++ [y]))).2.getLast? = some y ∧ (pd lam (x :: (c ++ [y]))).2.length = c.length + 1
  | [], x, y => by simp [pd]
  | b :: c, x, y => by
    obtain ⟨h1, h2⟩ := pd_last lam c b y
    have hc : x :: (b :: c ++ [y]) = x :: b :: (c ++ [y]) := rfl
    rw [hc]
    have hpd : ∀ q : List Int, q ≠ [] → (pd lam (x :: b :: q)).2 = (pd lam (b :: q)).1 :: (pd lam (b :: q)).2 := fun q _ => rfl
    constructor
    · show ((pd lam (b :: (c ++ [y]))).1 :: (pd lam (b :: (c ++ [y]))).2).getLast? = some y
      rw [List.getLast?_cons, h1]; rfl
    · show ((pd lam (b :: (c ++ [y]))).1 :: (pd lam (b :: (c ++ [y]))).2).length = _
      rw [List.length_cons, h2]; rfl
theorem pdn_last {c : List Int} {y : Int} : ∀ (n : Nat), n < c.length → c.getLast? = some y → (pdn c n).getLast? = some y ∧ (pdn c n).length = c.length - n
  | 0, _, h => ⟨h, rfl⟩
  | n + 1, hn, h => by
    obtain ⟨h1, h2⟩ := pdn_last n (by omega) h
    show (pd (n : Int) (pdn c n)).2.getLast? = some y ∧ (pd (n : Int) (pdn c n)).2.length = _
    generalize pdn c n = q at h1 h2
    cases q with
    | nil => simp at h1
    | cons x q =>
      have hq : q ≠ [] := fun e => by rw [e] at h2; simp at h2; omega
      obtain ⟨q', y', rfl⟩ : ∃ q' y', q = q' ++ [y'] := ⟨q.dropLast, q.getLast hq, (List.dropLast_concat_getLast hq).symm⟩
      have hy : y' = y := by
        rw [List.getLast?_cons, List.getLast?_append] at h1
        simpa using h1
      subst hy
      obtain ⟨h3, h4⟩ := pd_last (n : Int) q' x y'
      exact ⟨h3, by rw [h4]; simp at h2; omega⟩
theorem pmn_nz {p : Nat} (hp1 : 1 < p) (hp : ∀ m, m ∣ p → m = 1 ∨ m = p) : ∀ (n x : Nat), n ≤ x → x < p → ¬ (p : Int) ∣ pmn n (x : Int)
  | 0, x, _, hx => fun h => by
    have h9 : (p : Int) ∣ 1 := h
    have h2 := Int.le_of_dvd (by decide) h9
    omega
  | n + 1, x, hn, hx => fun h => by
    rcases nt_mul hp h with h1 | h1
    · exact pmn_nz hp1 hp n x (by omega) hx h1
    · have h2 : (p : Int) ≤ (x : Int) - (n : Int) := Int.le_of_dvd (by omega) h1
      omega
-- X^p - X
def pX (p : Nat) : List Int := 0 :: -1 :: (List.replicate (p - 2) 0 ++ [1])
theorem pe_pow (x : Int) : ∀ m : Nat, pe (List.replicate m 0 ++ [1]) x = x ^ m
  | 0 => by simp [pe]
  | m + 1 => by
    show 0 + x * pe (List.replicate m 0 ++ [1]) x = _
    rw [pe_pow x m, Int.pow_succ, Int.zero_add, Int.mul_comm]
theorem pe_pX {p : Nat} (hp1 : 1 < p) (x : Int) : pe (pX p) x = x ^ p - x := by
  show 0 + x * (-1 + x * pe (List.replicate (p - 2) 0 ++ [1]) x) = _
  rw [pe_pow]
  have h1 : x ^ p = x ^ (p - 2) * x * x := by
    rw [← Int.pow_succ, ← Int.pow_succ]
    congr 1
    omega
  rw [h1]
  grind
theorem pv_pow (a : Nat → Nat → Int) (d : Nat) (v : Nat → Int) : ∀ m : Nat, pv a d (List.replicate m 0 ++ [1]) v = fa_it (mv a d) m v
  | 0 => by
    funext t
    show 1 * v t + mv a d (fun _ => 0) t = v t
    have h1 : mv a d (fun _ => 0) t = 0 := si_z fun j _ => Int.mul_zero _
    rw [h1]; simp
  | m + 1 => by
    funext t
    show 0 * v t + mv a d (pv a d (List.replicate m 0 ++ [1]) v) t = _
    rw [pv_pow a d v m, fa_succ]; simp
theorem pv_pX {p : Nat} (hp1 : 1 < p) (a : Nat → Nat → Int) (d : Nat) (v : Nat → Int) (t : Nat) : pv a d (pX p) v t = fa_it (mv a d) p v t - mv a d v t := by
  show 0 * v t + mv a d (fun t => -1 * v t + mv a d (pv a d (List.replicate (p - 2) 0 ++ [1]) v) t) t = _
  rw [pv_pow, mv_add, mv_mul, Int.zero_mul, Int.zero_add]
  have h1 : fa_it (mv a d) p v = mv a d (mv a d (fa_it (mv a d) (p - 2) v)) := by
    rw [← fa_succ (mv a d), ← fa_succ (mv a d)]
    congr 1
    omega
  rw [h1]
  show -1 * mv a d v t + mv a d (mv a d (fa_it (mv a d) (p - 2) v)) t = _
  omega
theorem pX_chain {p : Nat} (hp1 : 1 < p) (hp : ∀ m, m ∣ p → m = 1 ∨ m = p) : ∀ n : Nat, n ≤ p → (∀ m, m < n → (p : Int) ∣ (pd (m : Int) (pdn (pX p) m)).1) ∧ ∀ x : Int, (p : Int) ∣ pe (pX p) x - pmn n x * pe (pdn (pX p) n) x
  | 0, _ => ⟨fun m hm => absurd hm (Nat.not_lt_zero m), fun x => by
      show (p : Int) ∣ pe (pX p) x - 1 * pe (pX p) x
      rw [Int.one_mul, Int.sub_self]; exact Int.dvd_zero _⟩
  | n + 1, hn => by
    obtain ⟨h1, h2⟩ := pX_chain hp1 hp n (by omega)
    have h3 := h2 (n : Int)
    rw [pe_pX hp1] at h3
    have h4 : (p : Int) ∣ pmn n (n : Int) * pe (pdn (pX p) n) (n : Int) := by
      have h5 := Int.dvd_sub (nt_fermat hp1 hp n) h3
      have h6 : (n : Int) ^ p - (n : Int) - ((n : Int) ^ p - (n : Int) - pmn n (n : Int) * pe (pdn (pX p) n) (n : Int)) = pmn n (n : Int) * pe (pdn (pX p) n) (n : Int) := by omega
      rw [h6] at h5
      exact h5
    have h7 : (p : Int) ∣ (pd (n : Int) (pdn (pX p) n)).1 := by
      rcases nt_mul hp h4 with h8 | h8
      · exact absurd h8 (pmn_nz hp1 hp n n (Nat.le_refl n) (by omega))
      · rw [pe_pd (n : Int) (n : Int), Int.sub_self, Int.zero_mul, Int.add_zero] at h8
        exact h8
    refine ⟨fun m hm => ?_, fun x => ?_⟩
    · by_cases e : m = n
      · subst e; exact h7
      · exact h1 m (by omega)
    · have h9 := h2 x
      rw [pe_pd (n : Int) x (pdn (pX p) n)] at h9
      obtain ⟨c, hc⟩ := h9
      obtain ⟨r, hr⟩ := h7
      rw [hr] at hc
      refine ⟨c + pmn n x * r, ?_⟩
      show pe (pX p) x - pmn n x * (x - (n : Int)) * pe (pd (n : Int) (pdn (pX p) n)).2 x = _
      grind
theorem eg_zero {p : Nat} (hp1 : 1 < p) (hp : ∀ m, m ∣ p → m = 1 ∨ m = p) (a : Nat → Nat → Int) (d : Nat) (v : Nat → Int) (hA : vq p d (fa_it (mv a d) p v) (mv a d v)) : vq p d (bvn a d p v) (fun _ => 0) := by
  have h1 : ∀ n, n ≤ p → vq p d (pv a d (pX p) v) (bvn a d n (pv a d (pdn (pX p) n) v)) := by
    intro n
    induction n with
    | zero => intro _; exact vq_rfl _
    | succ n ih =>
      intro hn
      refine vq_trans (ih (by omega)) (bvn_cong a n ?_)
      intro t ht
      rw [pv_pd a d (n : Int) v (pdn (pX p) n) t]
      have h2 := (pX_chain hp1 hp (n + 1) hn).1 n (Nat.lt_succ_self n)
      show (p : Int) ∣ (pd (n : Int) (pdn (pX p) n)).1 * v t + bv a d (n : Int) (pv a d (pd (n : Int) (pdn (pX p) n)).2 v) t - bv a d (n : Int) (pv a d (pd (n : Int) (pdn (pX p) n)).2 v) t
      rw [Int.add_sub_cancel]
      exact Int.dvd_mul_of_dvd_left h2
  have hlen : (pX p).length = p + 1 := by
    simp [pX]; omega
  have hlast : (pX p).getLast? = some 1 := by
    simp [pX, List.getLast?_cons, List.getLast?_append]
  obtain ⟨h3, h4⟩ := pdn_last (y := 1) p (by omega) hlast
  have h5 : pdn (pX p) p = [1] := by
    rw [hlen] at h4
    generalize pdn (pX p) p = q at h3 h4
    match q, h3, h4 with
    | [x], h3, _ => simp at h3; rw [h3]
    | [], h3, _ => simp at h3
    | x :: y :: q, _, h4 => exfalso; simp at h4
  have h6 := h1 p (Nat.le_refl p)
  rw [h5] at h6
  have h7 : pv a d [1] v = v := by
    funext t
    show 1 * v t + mv a d (fun _ => 0) t = v t
    have h8 : mv a d (fun _ => 0) t = 0 := si_z fun j _ => Int.mul_zero _
    rw [h8]; simp
  rw [h7] at h6
  refine vq_trans (vq_symm h6) (fun t ht => ?_)
  rw [pv_pX hp1]
  show (p : Int) ∣ fa_it (mv a d) p v t - mv a d v t - 0
  rw [Int.sub_zero]
  exact hA t ht
theorem eg_dec {p : Nat} (hp : ∀ m, m ∣ p → m = 1 ∨ m = p) (a : Nat → Nat → Int) (d : Nat) : ∀ (n : Nat), n ≤ p → ∀ v : Nat → Int, vq p d (bvn a d n v) (fun _ => 0) → ∃ f : Nat → Nat → Int, (∀ m, m < n → vq p d (mv a d (f m)) (fun t => (m : Int) * f m t)) ∧ vq p d v (fun t => si (fun m => f m t) (List.range n))
  | 0, _, v, h => ⟨fun _ _ => 0, fun m hm => absurd hm (Nat.not_lt_zero m), h⟩
  | n + 1, hn, v, h => by
    obtain ⟨f, h1, h2⟩ := eg_dec hp a d n (by omega) (bv a d (n : Int) v) h
    have hi : ∀ m, ∃ b : Int, m < n → (p : Int) ∣ ((m : Int) - (n : Int)) * b - 1 := fun m => by
      by_cases hm : m < n
      · have h3 : ¬ (p : Int) ∣ ((m : Int) - (n : Int)) := fun h9 => by
          have h10 := Int.dvd_neg.mpr h9
          have h11 : (p : Int) ≤ -((m : Int) - (n : Int)) := Int.le_of_dvd (by omega) h10
          omega
        obtain ⟨b, hb⟩ := nt_inv hp h3
        exact ⟨b, fun _ => hb⟩
      · exact ⟨0, fun h9 => absurd h9 hm⟩
    have hi2 : ∃ b : Nat → Int, ∀ m, m < n → (p : Int) ∣ ((m : Int) - (n : Int)) * b m - 1 := ⟨fun m => Classical.choose (hi m), fun m => Classical.choose_spec (hi m)⟩
    obtain ⟨b, hb⟩ := hi2
    -- the rest: an eigenvector of n
    have h4 : vq p d (bv a d (n : Int) (fun t => v t - si (fun m => b m * f m t) (List.range n))) (fun _ => 0) := by
      have h5 : vq p d (fun t => si (fun m => b m * (mv a d (f m) t - (n : Int) * f m t)) (List.range n)) (fun t => si (fun m => f m t) (List.range n)) := by
        intro t ht
        refine si_cong fun m hm => ?_
        have hm' := List.mem_range.mp hm
        obtain ⟨c, hc⟩ := h1 m hm' t ht
        obtain ⟨r, hr⟩ := hb m hm'
        refine ⟨b m * c + f m t * r, ?_⟩
        grind
      have h6 : ∀ t, bv a d (n : Int) (fun t => v t - si (fun m => b m * f m t) (List.range n)) t = bv a d (n : Int) v t - si (fun m => b m * (mv a d (f m) t - (n : Int) * f m t)) (List.range n) := by
        intro t
        unfold bv
        rw [mv_sub, mv_si]
        have h7 : si (fun m => b m * (mv a d (f m) t - (n : Int) * f m t)) (List.range n) = si (fun m => mv a d (fun t => b m * f m t) t) (List.range n) - (n : Int) * si (fun m => b m * f m t) (List.range n) := by
          rw [← si_mul, ← si_sub]
          refine si_congr fun m _ => ?_
          rw [mv_mul]
          grind
        rw [h7]
        grind
      intro t ht
      rw [h6 t]
      have h8 := vq_sub h2 h5 t ht
      have h9 : bv a d (n : Int) v t - si (fun m => b m * (mv a d (f m) t - (n : Int) * f m t)) (List.range n) - (si (fun m => f m t) (List.range n) - si (fun m => f m t) (List.range n)) = bv a d (n : Int) v t - si (fun m => b m * (mv a d (f m) t - (n : Int) * f m t)) (List.range n) - 0 := by omega
      rw [← h9]
      exact h8
    refine ⟨fun m t => if m = n then v t - si (fun m => b m * f m t) (List.range n) else b m * f m t, fun m hm => ?_, ?_⟩
    · by_cases e : m = n
      · subst e
        intro t ht
        have h10 := h4 t ht
        unfold bv at h10
        simp only [if_true]
        have h11 : mv a d (fun t => v t - si (fun m => b m * f m t) (List.range m)) t - (m : Int) * (v t - si (fun m => b m * f m t) (List.range m)) - 0 = mv a d (fun t => v t - si (fun m => b m * f m t) (List.range m)) t - (m : Int) * (v t - si (fun m => b m * f m t) (List.range m)) := by omega
        rw [h11] at h10
        exact h10
      · intro t ht
        simp only [if_neg e]
        rw [mv_mul]
        have h12 := vq_mul (b m) (h1 m (by omega)) t ht
        have h13 : b m * mv a d (f m) t - (m : Int) * (b m * f m t) = b m * mv a d (f m) t - b m * ((m : Int) * f m t) := by grind
        rw [h13]
        exact h12
    · refine vq_eq fun t _ => ?_
      rw [List.range_succ, si_app, si_cons, si_nil]
      simp only [if_true]
      have h14 : si (fun m => if m = n then v t - si (fun m => b m * f m t) (List.range n) else b m * f m t) (List.range n) = si (fun m => b m * f m t) (List.range n) := si_congr fun m hm => if_neg (by have := List.mem_range.mp hm; omega)
      rw [h14]
      omega
