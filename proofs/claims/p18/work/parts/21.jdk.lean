set_option maxHeartbeats 4000000 in
set_option maxRecDepth 100000 in
theorem c_Ma_max (l : Launch) (D : va_G) (E : sx_E) (B : Nat) (A : Nat → Prop) (x y : Int32) (w : sx_M) : sM l D E B A yMa_max prog_10_method_65_code 2 (some .int) 0 0 [.inl x, .inl y] w (fun r w' => r = some (.inl (if x < y then y else x)) ∧ w' = w) := by
  refine sx_m0 (ls := lMa_max) (cs := noCalls) (by decide +kernel) kMa_max (fun pc i h1 h2 => sx_nc (ls := lMa_max) (by decide) pc i h1 h2) (by simp) (fun w' h => by cases h.1) ?_
  intro Z hZ
  refine z_iload_n hZ gMa_max_0 rfl ?_
  refine z_iload_n hZ gMa_max_1 rfl ?_
  refine z_cmplt hZ gMa_max_2 (fun c2 => ?_) (fun c2 => ?_)
  · have ct2 := c2
    refine z_iload_n hZ gMa_max_9 rfl ?_
    refine z_iret hZ gMa_max_10 ?_
    first | exact ⟨by rw [if_pos ct2], rfl⟩ | exact ⟨by rw [if_neg cf2], rfl⟩
  · have cf2 := c2
    refine z_iload_n hZ gMa_max_5 rfl ?_
    refine z_goto hZ gMa_max_6 ?_
    refine z_iret hZ gMa_max_10 ?_
    first | exact ⟨by rw [if_pos ct2], rfl⟩ | exact ⟨by rw [if_neg cf2], rfl⟩

-- the remainder as a number from 0 on
theorem fm_rem {x : Int32} {p : Nat} (hp : 0 < p) (hp2 : p < 2 ^ 31) : (x - x / nI p * nI p).toInt = x.toInt.tmod (p : Int) := by
  have hpt := nI_toInt hp2
  have hx1 := x.toInt_lt
  have hx2 := x.le_toInt
  have hm := Int.tmod_add_tdiv_mul x.toInt (p : Int)
  have h3 := Int.tmod_lt_of_pos x.toInt (show (0 : Int) < (p : Int) by omega)
  have h4 := Int.lt_tmod_of_pos x.toInt (show (0 : Int) < (p : Int) by omega)
  have hs : (0 ≤ x.toInt → 0 ≤ x.toInt.tmod (p : Int) ∧ 0 ≤ x.toInt.tdiv (p : Int)) ∧ (x.toInt ≤ 0 → x.toInt.tmod (p : Int) ≤ 0 ∧ x.toInt.tdiv (p : Int) ≤ 0) := by
    refine ⟨fun h => ⟨Int.tmod_nonneg _ h, Int.tdiv_nonneg h (by omega)⟩, fun h => ?_⟩
    have h5 : 0 ≤ -x.toInt := by omega
    have h6 := Int.tmod_nonneg (p : Int) h5
    have h7 := Int.tdiv_nonneg h5 (show (0 : Int) ≤ (p : Int) by omega)
    rw [Int.neg_tmod] at h6
    rw [Int.neg_tdiv] at h7
    omega
  generalize hq : x.toInt.tdiv (p : Int) = q at *
  generalize ht : x.toInt.tmod (p : Int) = t at *
  have hq1 : -(2 ^ 31) ≤ q ∧ q < 2 ^ 31 := by
    rcases Int.le_total 0 x.toInt with h | h
    · have h8 := (hs.1 h).2
      have h9 : q * 1 ≤ q * (p : Int) := Int.mul_le_mul_of_nonneg_left (by omega) h8
      have := (hs.1 h).1
      omega
    · have h8 := (hs.2 h).2
      have h9 : q * (p : Int) ≤ q * 1 := Int.mul_le_mul_of_nonpos_left h8 (by omega)
      have := (hs.2 h).1
      omega
  have hqp : -(2 ^ 31) ≤ q * (p : Int) ∧ q * (p : Int) < 2 ^ 31 := by
    rcases Int.le_total 0 x.toInt with h | h
    · have h8 := hs.1 h
      have h9 : 0 ≤ q * (p : Int) := Int.mul_nonneg h8.2 (by omega)
      omega
    · have h8 := hs.2 h
      have h9 : q * (p : Int) ≤ 0 := Int.mul_nonpos_of_nonpos_of_nonneg h8.2 (by omega)
      omega
  have e1 : (x / nI p).toInt = q := by
    rw [Int32.toInt_div, hpt, hq]
    exact Int.bmod_eq_of_le (by omega) (by omega)
  have e2 : (x / nI p * nI p).toInt = q * (p : Int) := by
    rw [Int32.toInt_mul, e1, hpt]
    exact Int.bmod_eq_of_le (by omega) (by omega)
  rw [Int32.toInt_sub, e2]
  have e3 : x.toInt - q * (p : Int) = t := by omega
  rw [e3]
  exact Int.bmod_eq_of_le (by omega) (by omega)
theorem fm_nI {x : Int32} {n : Nat} (h : x.toInt = (n : Int)) : x = nI n := by
  have hx1 := x.toInt_lt
  apply Int32.toInt_inj.mp
  rw [h, nI_toInt (by omega)]
theorem fm_sg {x : Int32} {p : Nat} (hp2 : p < 2 ^ 31) : 0 ≤ x ^^^ nI p ↔ 0 ≤ x.toInt := by
  rw [Int32.le_iff_toInt_le, Int32.toInt_zero]
  have h1 : ∀ y : Int32, 0 ≤ y.toInt ↔ y.toBitVec.msb = false := fun y => by
    have : y.toInt = y.toBitVec.toInt := rfl
    rw [this, BitVec.toInt_eq_msb_cond]
    cases hm : y.toBitVec.msb with
    | false => simp
    | true =>
      have := y.toBitVec.isLt
      simp
      omega
  rw [h1, h1, Int32.toBitVec_xor, BitVec.msb_xor]
  have h2 : (nI p).toBitVec.msb = false := (h1 (nI p)).mp (by rw [nI_toInt hp2]; omega)
  rw [h2]
  simp

set_option maxHeartbeats 4000000 in
set_option maxRecDepth 100000 in
theorem c_Ma_floorMod (l : Launch) (D : va_G) (E : sx_E) (B : Nat) (A : Nat → Prop) (x : Int32) {p : Nat} (hp : 0 < p) (hp2 : p < 2 ^ 31) (w : sx_M) : sM l D E B A yMa_floorMod prog_10_method_50_code 3 (some .int) 0 0 [.inl x, .inl (nI p)] w (fun r w' => r = some (.inl (nI (x.toInt % (p : Int)).toNat)) ∧ w' = w) := by
  refine sx_m0 (ls := lMa_floorMod) (cs := noCalls) (by decide +kernel) kMa_floorMod (fun pc i h1 h2 => sx_nc (ls := lMa_floorMod) (by decide) pc i h1 h2) (by simp) (fun w' h => by cases h.1) ?_
  intro Z hZ
  refine z_iload_n hZ gMa_floorMod_0 rfl ?_
  refine z_iload_n hZ gMa_floorMod_1 rfl ?_
  refine z_irem hZ gMa_floorMod_2 (nI_ne0 hp hp2) _ rfl ?_
  refine z_istore_n hZ gMa_floorMod_3 rfl ?_
  refine z_iload_n hZ gMa_floorMod_4 rfl ?_
  refine z_iload_n hZ gMa_floorMod_5 rfl ?_
  refine z_ixor hZ gMa_floorMod_6 _ rfl ?_
  refine z_ifge hZ gMa_floorMod_7 (fun c7 => ?_) (fun c7 => ?_)
  · have ct7 := c7
    refine z_iload_n hZ gMa_floorMod_18 rfl ?_
    refine z_iret hZ gMa_floorMod_19 ?_
    refine ⟨congrArg (fun v => some (Sum.inl v)) (fm_nI ?_), rfl⟩
    have h1 := fm_rem (x := x) hp hp2
    have h3 := Int.emod_nonneg x.toInt (show (p : Int) ≠ 0 by omega)
    first
      | (rw [ct11, Int32.toInt_zero] at h1
         have h4 : x.toInt % (p : Int) = 0 := Int.emod_eq_zero_of_dvd (Int.dvd_of_tmod_eq_zero h1.symm)
         rw [h4, ct11]; rfl)
      | (have h2 : x.toInt.tmod (p : Int) = x.toInt % (p : Int) := Int.tmod_eq_emod_of_nonneg ((fm_sg hp2).mp ct7)
         rw [h1, h2]; omega)
  · have cf7 := c7
    refine z_iload_n hZ gMa_floorMod_10 rfl ?_
    refine z_ifeq hZ gMa_floorMod_11 (fun c11 => ?_) (fun c11 => ?_)
    · have ct11 := c11
      refine z_iload_n hZ gMa_floorMod_18 rfl ?_
      refine z_iret hZ gMa_floorMod_19 ?_
      refine ⟨congrArg (fun v => some (Sum.inl v)) (fm_nI ?_), rfl⟩
      have h1 := fm_rem (x := x) hp hp2
      have h3 := Int.emod_nonneg x.toInt (show (p : Int) ≠ 0 by omega)
      first
        | (rw [ct11, Int32.toInt_zero] at h1
           have h4 : x.toInt % (p : Int) = 0 := Int.emod_eq_zero_of_dvd (Int.dvd_of_tmod_eq_zero h1.symm)
           rw [h4, ct11]; rfl)
        | (have h2 : x.toInt.tmod (p : Int) = x.toInt % (p : Int) := Int.tmod_eq_emod_of_nonneg ((fm_sg hp2).mp ct7)
           rw [h1, h2]; omega)
    · have cf11 := c11
      refine z_iload_n hZ gMa_floorMod_14 rfl ?_
      refine z_iload_n hZ gMa_floorMod_15 rfl ?_
      refine z_iadd hZ gMa_floorMod_16 _ rfl ?_
      refine z_iret hZ gMa_floorMod_17 ?_
      refine ⟨congrArg (fun v => some (Sum.inl v)) (fm_nI ?_), rfl⟩
      have h0 : ¬ 0 ≤ x.toInt := fun h => cf7 ((fm_sg hp2).mpr h)
      have h1 := fm_rem (x := x) hp hp2
      have h3 := Int.tmod_lt_of_pos x.toInt (show (0 : Int) < (p : Int) by omega)
      have h4 := Int.lt_tmod_of_pos x.toInt (show (0 : Int) < (p : Int) by omega)
      have h5 : ¬ x.toInt.tmod (p : Int) = 0 := fun h9 => cf11 (by apply Int32.toInt_inj.mp; rw [h1, h9, Int32.toInt_zero])
      have h6 : x.toInt % (p : Int) = x.toInt.tmod (p : Int) + (p : Int) := by
        have h7 := Int.tmod_eq_emod (a := x.toInt) (b := (p : Int))
        have h8 := Int.emod_nonneg x.toInt (show (p : Int) ≠ 0 by omega)
        rw [if_neg] at h7
        · have : ((p : Int).natAbs : Int) = (p : Int) := by omega
          omega
        · rintro (h9 | h9)
          · exact h0 h9
          · exact h5 (Int.tmod_eq_zero_of_dvd h9)
      have h10 : x.toInt.tmod (p : Int) ≤ 0 := by
        have h11 := Int.tmod_nonneg (p : Int) (show 0 ≤ -x.toInt by omega)
        rw [Int.neg_tmod] at h11
        omega
      rw [Int32.toInt_add, h1, nI_toInt hp2, h6, Int.bmod_eq_of_le (by omega) (by omega)]
      omega

def fl (v : Int32) (i : Nat) (f : Nat → Int32) : Nat → Int32 := fun j => if j < i then v else f j
theorem fl_s (v : Int32) (i : Nat) (f : Nat → Int32) : upd (fl v i f) i v = fl v (i + 1) f := by
  funext j
  by_cases e : j = i
  · subst e; rw [pk_us]; simp [fl]
  · rw [pk_un e]; simp only [fl]
    by_cases h : j < i
    · rw [if_pos h, if_pos (by omega)]
    · rw [if_neg h, if_neg (by omega)]
theorem fl_0 (v : Int32) (f : Nat → Int32) : fl v 0 f = f := by funext j; simp [fl]
theorem va_uu {α : Type} (f : Nat → α) (k : Nat) (v w : α) : va_up (va_up f k v) k w = va_up f k w := bx_uu f k v w
theorem va_id {α : Type} (f : Nat → α) {k : Nat} {v : α} (h : f k = v) : va_up f k v = f := by
  funext j
  by_cases e : j = k
  · subst e; rw [va_up_self, h]
  · rw [va_up_ne f v e]

set_option maxHeartbeats 4000000 in
set_option maxRecDepth 100000 in
theorem c_Ar_fill (l : Launch) (D : va_G) (E : sx_E) (B : Nat) (A : Nat → Prop) {n N : Nat} {f : Nat → Int32} (hn : n < B) (hN : N < 2 ^ 31) (v : Int32) (w : sx_M) (hw : w n = .inl (N, f)) : sM l D E B A yAr_fill prog_12_method_103_code 4 none 0 0 [.inr (n, 0), .inl v] w (fun r w' => r = none ∧ w' = va_up w n (.inl (N, fl v N f))) := by
  refine sx_m0 (ls := lAr_fill) (cs := noCalls) (by decide +kernel) kAr_fill (fun pc i h1 h2 => sx_nc (ls := lAr_fill) (by decide) pc i h1 h2) (by simp) (fun x w' h => by cases h.1) ?_
  intro Z hZ
  have loop : ∀ m i, m + i = N → Z 5 [some (.inr (n, 0)), some (.inl v), some (.inl (nI i)), some (.inl (nI N))] [] (va_up w n (.inl (N, fl v i f))) := by
    intro m
    induction m with
    | zero =>
      intro i hi
      have e : i = N := by omega
      subst e
      refine z_iload_n hZ gAr_fill_5 rfl ?_
      refine z_iload_n hZ gAr_fill_6 rfl ?_
      refine z_cmpge hZ gAr_fill_7 (fun c7 => ?_) (fun c7 => absurd (nI_le (Nat.le_refl i) hN) c7)
      refine z_vret hZ gAr_fill_20 ?_
      exact ⟨rfl, rfl⟩
    | succ m ih =>
      intro i hi
      refine z_iload_n hZ gAr_fill_5 rfl ?_
      refine z_iload_n hZ gAr_fill_6 rfl ?_
      refine z_cmpge hZ gAr_fill_7 (fun c7 => absurd c7 (nI_ge (by omega) hN)) (fun c7 => ?_)
      refine z_aload_n hZ gAr_fill_10 rfl ?_
      refine z_iload_n hZ gAr_fill_11 rfl ?_
      refine z_iload_n hZ gAr_fill_12 rfl ?_
      refine z_iast hZ gAr_fill_13 hn (va_up_self _ _ _) (vp_in_nI (by omega) hN) ?_
      rw [nI_clamp (by omega), fl_s, va_uu]
      refine z_iinc hZ gAr_fill_14 rfl _ (i1 i) rfl ?_
      refine z_goto hZ gAr_fill_17 ?_
      exact ih (i + 1) (by omega)
  refine z_iconst hZ gAr_fill_0 _ rfl ?_
  refine z_istore_n hZ gAr_fill_1 rfl ?_
  refine z_aload_n hZ gAr_fill_2 rfl ?_
  refine z_alen hZ gAr_fill_3 hn hw ?_
  refine z_istore_n hZ gAr_fill_4 rfl ?_
  have h9 := loop N 0 rfl
  rw [fl_0, va_id w hw] at h9
  exact h9
