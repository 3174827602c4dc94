-- the walker: a method's code as a list, its verification condition by computation (sx_go), and the row that turns it into W
-- a value: an int, or a reference: cell n itself (n, 0), or row j of the grid n: (n, j + 1)
abbrev sx_V : Type := Int32 ⊕ (Nat × Nat)
-- a cell: an int array (length, contents); a grid (rows, columns, contents); an object (number of its kind, fields)
abbrev sx_C : Type := (Nat × (Nat → Int32)) ⊕ ((Nat × Nat × (Nat → Nat → Int32)) ⊕ (Nat × List sx_V))
abbrev sx_M : Type := Nat → sx_C
-- addresses of cells, of rows; the kinds int[] and int[][]
abbrev sx_E : Type := (Nat → Nat) × (Nat → Nat → Nat) × ClassId × ClassId
def sx_v (E : sx_E) : sx_V → Value
  | .inl x => .int x
  | .inr (n, 0) => .ref (E.1 n)
  | .inr (n, j + 1) => .ref (E.2.1 n j)
def sx_c (E : sx_E) (n : Nat) : sx_C → va_W
  | .inl (k, f) => [(E.1 n, .inl (E.2.2.1, k, .inl f))]
  | .inr (.inl (N, k, M)) => (E.1 n, .inl (E.2.2.2, N, .inr (.inr (.inr (.inr (fun i => if i < N then some (E.2.1 n i) else none)))))) :: (List.range N).map (fun i => (E.2.1 n i, .inl (E.2.2.1, k, .inl (M i))))
  | .inr (.inr (ci, fs)) => [(E.1 n, .inr (ci, fs.map (sx_v E)))]
def sx_w (E : sx_E) (B : Nat) (w : sx_M) : va_W := (List.range B).flatMap (fun n => sx_c E n (w n))
theorem sx_w_succ (E : sx_E) (B : Nat) (w : sx_M) : sx_w E (B + 1) w = sx_w E B w ++ sx_c E B (w B) := by
  simp [sx_w, List.range_succ, List.flatMap_append]
theorem sx_w_congr (E : sx_E) {w w' : sx_M} : ∀ B : Nat, (∀ n, n < B → w n = w' n) → sx_w E B w = sx_w E B w'
  | 0, _ => rfl
  | B + 1, h => by
    rw [sx_w_succ, sx_w_succ, sx_w_congr E B (fun n hn => h n (Nat.lt_succ_of_lt hn)), h B (Nat.lt_succ_self B)]
theorem sx_off (E : sx_E) (w : sx_M) (n : Nat) : ∀ B : Nat, n < B → ∃ o : Nat, (∀ (j : Nat) (q : Nat × va_E), (sx_c E n (w n))[j]? = some q → (sx_w E B w)[o + j]? = some q) ∧ ∀ (j : Nat) (q : Nat × va_E) (c' : sx_C), j < (sx_c E n (w n)).length → (sx_c E n (w n)).set j q = sx_c E n c' → (sx_w E B w).set (o + j) q = sx_w E B (va_up w n c')
  | 0, h => absurd h (Nat.not_lt_zero n)
  | B + 1, h => by
    by_cases e : n = B
    · subst e
      refine ⟨(sx_w E n w).length, fun j q hq => ?_, fun j q c' hj hs => ?_⟩
      · rw [sx_w_succ, List.getElem?_append_right (Nat.le_add_right _ _), Nat.add_sub_cancel_left]; exact hq
      · rw [sx_w_succ, sx_w_succ, List.set_append_right _ _ (Nat.le_add_right _ _), Nat.add_sub_cancel_left, hs, va_up_self,
          sx_w_congr E (w := va_up w n c') (w' := w) n (fun k hk => va_up_ne w c' (Nat.ne_of_lt hk))]
    · obtain ⟨o, h1, h2⟩ := sx_off E w n B (by omega)
      have hlt : ∀ j, j < (sx_c E n (w n)).length → o + j < (sx_w E B w).length := fun j hj => by
        have := h1 j _ (List.getElem?_eq_getElem hj)
        exact (List.getElem?_eq_some_iff.mp this).1
      refine ⟨o, fun j q hq => ?_, fun j q c' hj hs => ?_⟩
      · rw [sx_w_succ, List.getElem?_append_left (hlt j (List.getElem?_eq_some_iff.mp hq).1)]; exact h1 j q hq
      · rw [sx_w_succ, sx_w_succ, List.set_append_left _ _ (hlt j hj), h2 j q c' hj hs, va_up_ne w c' (fun z => e z.symm)]
-- locals
def sx_l (E : sx_E) : Nat → List (Option sx_V) → List (Nat × Value)
  | _, [] => []
  | i, none :: L => sx_l E (i + 1) L
  | i, some v :: L => (i, sx_v E v) :: sx_l E (i + 1) L
theorem sx_l_mem (E : sx_E) : ∀ (L : List (Option sx_V)) (b : Nat) (q : Nat × Value), q ∈ sx_l E b L ↔ ∃ (k : Nat) (x : sx_V), L[k]? = some (some x) ∧ q = (b + k, sx_v E x)
  | [], b, q => by simp [sx_l]
  | none :: L, b, q => by
    rw [sx_l, sx_l_mem E L (b + 1) q]
    constructor
    · rintro ⟨k, x, h1, h2⟩
      exact ⟨k + 1, x, by simpa using h1, by rw [h2, Nat.add_assoc, Nat.add_comm 1 k]⟩
    · rintro ⟨k, x, h1, h2⟩
      cases k with
      | zero => simp at h1
      | succ k => exact ⟨k, x, by simpa using h1, by rw [h2, Nat.add_assoc, Nat.add_comm 1 k]⟩
  | some v :: L, b, q => by
    rw [sx_l, List.mem_cons, sx_l_mem E L (b + 1) q]
    constructor
    · rintro (h | ⟨k, x, h1, h2⟩)
      · exact ⟨0, v, by simp, by rw [h, Nat.add_zero]⟩
      · exact ⟨k + 1, x, by simpa using h1, by rw [h2, Nat.add_assoc, Nat.add_comm 1 k]⟩
    · rintro ⟨k, x, h1, h2⟩
      cases k with
      | zero =>
        left
        simp at h1
        rw [h2, ← h1, Nat.add_zero]
      | succ k => right; exact ⟨k, x, by simpa using h1, by rw [h2, Nat.add_assoc, Nat.add_comm 1 k]⟩
theorem sx_lv_mono {ls : Array Slot} {nL : Nat} {l l' : List (Nat × Value)} (h : lv_has ls nL l) (hs : ∀ q, q ∈ l' → q ∈ l) : lv_has ls nL l' := ⟨h.1, h.2.1, fun q hq => h.2.2 q (hs q hq)⟩
theorem sx_lv_at {E : sx_E} {ls : Array Slot} {nL : Nat} {L : List (Option sx_V)} (h : lv_has ls nL (sx_l E 0 L)) {k : Nat} {x : sx_V} (hk : L[k]? = some (some x)) : ls[k]? = some (.val (sx_v E x)) := by
  have := h.2.2 (0 + k, sx_v E x) ((sx_l_mem E L 0 _).mpr ⟨k, x, hk, rfl⟩)
  simpa using this
theorem sx_v_cat (E : sx_E) : ∀ v : sx_V, (sx_v E v).category = 1
  | .inl _ => rfl
  | .inr (_, 0) => rfl
  | .inr (_, _ + 1) => rfl
theorem sx_lv_put {E : sx_E} {ls : Array Slot} {nL : Nat} {L : List (Option sx_V)} {i : Nat} {x : sx_V} (hi : i < L.length) (h : lv_has ls nL ((i, sx_v E x) :: (sx_l E 0 L).filter (fun q => !(q.1 == i) && !(q.1 + 1 == i && q.2.category == 2)))) : lv_has ls nL (sx_l E 0 (L.set i (some x))) := by
  refine sx_lv_mono h fun q hq => ?_
  obtain ⟨k, y, h1, h2⟩ := (sx_l_mem E _ 0 q).mp hq
  rw [Nat.zero_add] at h2
  rw [List.getElem?_set] at h1
  by_cases e : i = k
  · subst e
    rw [if_pos rfl, if_pos hi] at h1
    obtain rfl := Option.some.inj (Option.some.inj h1)
    rw [h2]; exact List.mem_cons_self
  · rw [if_neg e] at h1
    refine List.mem_cons_of_mem _ (List.mem_filter.mpr ⟨(sx_l_mem E L 0 q).mpr ⟨k, y, h1, by rw [Nat.zero_add]; exact h2⟩, ?_⟩)
    subst h2
    have h3 := sx_v_cat E y
    simp [h3, Ne.symm e]
-- one instruction: its condition, and where it goes on
abbrev sx_K : Type := Nat → List (Option sx_V) → List sx_V → sx_M → Prop
-- a callee: how many values it takes; from which values and cells it is known to end so
abbrev sx_S : Type := Nat × (List sx_V → sx_M → (Option sx_V → sx_M → Prop) → Prop)
def sx_ldi (L : List (Option sx_V)) (i : Nat) (k : Int32 → Prop) : Prop := match L[i]? with
  | some (some (.inl x)) => k x
  | _ => False
def sx_lda (L : List (Option sx_V)) (i : Nat) (k : Nat × Nat → Prop) : Prop := match L[i]? with
  | some (some (.inr x)) => k x
  | _ => False
def sx_t1 (st : List sx_V) (k : Int32 → List sx_V → Prop) : Prop := match st with
  | .inl x :: r => k x r
  | _ => False
def sx_t2 (st : List sx_V) (k : Int32 → Int32 → List sx_V → Prop) : Prop := match st with
  | .inl y :: .inl x :: r => k x y r
  | _ => False
def sx_ta (st : List sx_V) (k : Nat × Nat → List sx_V → Prop) : Prop := match st with
  | .inr a :: r => k a r
  | _ => False
def sx_if (c : ClassFile.Cond) (x y : Int32) (a b : Prop) : Prop := match c with
  | .eq => (x = y → a) ∧ (¬ x = y → b)
  | .ne => (¬ x = y → a) ∧ (x = y → b)
  | .lt => (x < y → a) ∧ (¬ x < y → b)
  | .ge => (y ≤ x → a) ∧ (¬ y ≤ x → b)
  | .gt => (y < x → a) ∧ (¬ y < x → b)
  | .le => (x ≤ y → a) ∧ (¬ x ≤ y → b)
-- fields, arrays
def sx_gf (B : Nat) (h : Nat × Nat) (w : sx_M) (a : Nat × Nat) (k : sx_V → Prop) : Prop := match a.2, w a.1 with
  | 0, .inr (.inr (ci, fs)) => a.1 < B ∧ ci = h.1 ∧ (match fs[h.2]? with
    | some v => k v
    | none => False)
  | _, _ => False
def sx_pf (B : Nat) (h : Nat × Nat) (w : sx_M) (a : Nat × Nat) (x : Int32) (k : sx_M → Prop) : Prop := match a.2, w a.1 with
  | 0, .inr (.inr (ci, fs)) => a.1 < B ∧ ci = h.1 % 100 ∧ (h.1 < 100 ∨ x = 0 ∨ x = 1) ∧ h.2 < fs.length ∧ k (va_up w a.1 (.inr (.inr (ci, fs.set h.2 (.inl x)))))
  | _, _ => False
def sx_ga (B : Nat) (w : sx_M) (a : Nat × Nat) (i : Int32) (k : Int32 → Prop) : Prop := match a.2, w a.1 with
  | 0, .inl (n, f) => a.1 < B ∧ vp_in i n ∧ k (f i.toNatClampNeg)
  | j + 1, .inr (.inl (N, n, M)) => a.1 < B ∧ j < N ∧ vp_in i n ∧ k (M j i.toNatClampNeg)
  | _, _ => False
def sx_pa (B : Nat) (w : sx_M) (a : Nat × Nat) (i x : Int32) (k : sx_M → Prop) : Prop := match a.2, w a.1 with
  | 0, .inl (n, f) => a.1 < B ∧ vp_in i n ∧ k (va_up w a.1 (.inl (n, upd f i.toNatClampNeg x)))
  | j + 1, .inr (.inl (N, n, M)) => a.1 < B ∧ j < N ∧ vp_in i n ∧ k (va_up w a.1 (.inr (.inl (N, n, va_up M j (upd (M j) i.toNatClampNeg x)))))
  | _, _ => False
def sx_gr (B : Nat) (w : sx_M) (a : Nat × Nat) (i : Int32) (k : sx_V → Prop) : Prop := match a.2, w a.1 with
  | 0, .inr (.inl (N, _, _)) => a.1 < B ∧ vp_in i N ∧ k (.inr (a.1, i.toNatClampNeg + 1))
  | _, _ => False
def sx_al (B : Nat) (w : sx_M) (a : Nat × Nat) (k : Int32 → Prop) : Prop := match a.2, w a.1 with
  | 0, .inl (n, _) => a.1 < B ∧ k (nI n)
  | 0, .inr (.inl (N, _, _)) => a.1 < B ∧ k (nI N)
  | j + 1, .inr (.inl (N, n, _)) => a.1 < B ∧ j < N ∧ k (nI n)
  | _, _ => False
def sx_call (S : sx_S) (pc : Nat) (L : List (Option sx_V)) (st : List sx_V) (w : sx_M) (K : sx_K) : Prop :=
  S.1 ≤ st.length ∧ (st.drop S.1).length ≤ 8 ∧ ∃ Q : Option sx_V → sx_M → Prop, S.2 (st.take S.1).reverse w Q ∧ ∀ (r : Option sx_V) (w' : sx_M), Q r w' → K (pc + 3) L (r.toList ++ st.drop S.1) w'
def sx_1 (B : Nat) (cs : Nat → sx_S) (Rt : Option sx_V → sx_M → Prop) (i : Instr) (h : Nat × Nat) (pc : Nat) (L : List (Option sx_V)) (st : List sx_V) (w : sx_M) (K : sx_K) : Prop := match i with
  | .iconst v => K (pc + 1) L (.inl (Int32.ofInt v) :: st) w
  | .bipush v => K (pc + 2) L (.inl (Int8.ofInt v).toInt32 :: st) w
  | .sipush v => K (pc + 3) L (.inl (Int16.ofInt v).toInt32 :: st) w
  | .ldc _ => K (pc + 2) L (.inl (nI h.1) :: st) w
  | .iload_n k => sx_ldi L k.val fun x => K (pc + 1) L (.inl x :: st) w
  | .iload k => sx_ldi L k fun x => K (pc + 2) L (.inl x :: st) w
  | .aload_n k => sx_lda L k.val fun a => K (pc + 1) L (.inr a :: st) w
  | .aload k => sx_lda L k fun a => K (pc + 2) L (.inr a :: st) w
  | .istore_n k => sx_t1 st fun x r => K (pc + 1) (L.set k.val (some (.inl x))) r w
  | .istore k => sx_t1 st fun x r => K (pc + 2) (L.set k (some (.inl x))) r w
  | .astore_n k => sx_ta st fun a r => K (pc + 1) (L.set k.val (some (.inr a))) r w
  | .astore k => sx_ta st fun a r => K (pc + 2) (L.set k (some (.inr a))) r w
  | .iinc k n => sx_ldi L k fun x => K (pc + 3) (L.set k (some (.inl (x + Int32.ofInt n)))) st w
  | .iadd => sx_t2 st fun x y r => K (pc + 1) L (.inl (x + y) :: r) w
  | .isub => sx_t2 st fun x y r => K (pc + 1) L (.inl (x - y) :: r) w
  | .imul => sx_t2 st fun x y r => K (pc + 1) L (.inl (x * y) :: r) w
  | .idiv => sx_t2 st fun x y r => ¬ y = 0 ∧ K (pc + 1) L (.inl (x / y) :: r) w
  | .irem => sx_t2 st fun x y r => ¬ y = 0 ∧ K (pc + 1) L (.inl (x - x / y * y) :: r) w
  | .iand => sx_t2 st fun x y r => K (pc + 1) L (.inl (x &&& y) :: r) w
  | .ior => sx_t2 st fun x y r => K (pc + 1) L (.inl (x ||| y) :: r) w
  | .ixor => sx_t2 st fun x y r => K (pc + 1) L (.inl (x ^^^ y) :: r) w
  | .ishl => sx_t2 st fun x y r => K (pc + 1) L (.inl (x <<< (y &&& 31)) :: r) w
  | .ishr => sx_t2 st fun x y r => K (pc + 1) L (.inl (x >>> (y &&& 31)) :: r) w
  | .iushr => sx_t2 st fun x y r => K (pc + 1) L (.inl (x.toUInt32 >>> (y.toUInt32 &&& Int32.toUInt32 31)).toInt32 :: r) w
  | .ineg => sx_t1 st fun x r => K (pc + 1) L (.inl (-x) :: r) w
  | .dup => match st with
    | a :: r => K (pc + 1) L (a :: a :: r) w
    | _ => False
  | .dup_x1 => match st with
    | a :: b :: r => K (pc + 1) L (a :: b :: a :: r) w
    | _ => False
  | .dup_x2 => match st with
    | a :: b :: d :: r => K (pc + 1) L (a :: b :: d :: a :: r) w
    | _ => False
  | .dup2 => match st with
    | a :: b :: r => K (pc + 1) L (a :: b :: a :: b :: r) w
    | _ => False
  | .pop => match st with
    | _ :: r => K (pc + 1) L r w
    | _ => False
  | .ifCond c _ => sx_t1 st fun x r => sx_if c x 0 (K h.1 L r w) (K (pc + 3) L r w)
  | .if_icmp c _ => sx_t2 st fun x y r => sx_if c x y (K h.1 L r w) (K (pc + 3) L r w)
  | .goto _ => K h.1 L st w
  | .getfield _ => sx_ta st fun a r => sx_gf B h w a fun v => K (pc + 3) L (v :: r) w
  | .putfield _ => sx_t1 st fun x r => sx_ta r fun a r => sx_pf B h w a x fun w' => K (pc + 3) L r w'
  | .iaload => sx_t1 st fun i r => sx_ta r fun a r => sx_ga B w a i fun v => K (pc + 1) L (.inl v :: r) w
  | .iastore => sx_t2 st fun i x r => sx_ta r fun a r => sx_pa B w a i x fun w' => K (pc + 1) L r w'
  | .aaload => sx_t1 st fun i r => sx_ta r fun a r => sx_gr B w a i fun v => K (pc + 1) L (v :: r) w
  | .arraylength => sx_ta st fun a r => sx_al B w a fun v => K (pc + 1) L (.inl v :: r) w
  | .invokestatic _ => sx_call (cs h.1) pc L st w K
  | .invokevirtual _ => sx_call (cs h.1) pc L st w K
  | .invokespecial _ => sx_call (cs h.1) pc L st w K
  | .ireturn => match st with
    | [.inl x] => Rt (some (.inl x)) w
    | _ => False
  | .return_ => match st with
    | [] => Rt none w
    | _ => False
  | _ => False
-- the run: up to a cut, or n instructions
abbrev sx_F : Type := Nat → Option (Instr × Nat × Nat)
def sx_go (B : Nat) (cs : Nat → sx_S) (Rt : Option sx_V → sx_M → Prop) (F : sx_F) (cut : Nat → Bool) (Z : sx_K) : Nat → sx_K
  | 0, pc, L, st, w => Z pc L st w
  | n + 1, pc, L, st, w => match F pc with
    | some i => sx_1 B cs Rt i.1 i.2 pc L st w (fun pc' L' st' w' => if cut pc' = true then Z pc' L' st' w' else sx_go B cs Rt F cut Z n pc' L' st' w')
    | none => False
-- Z is closed under the method's instructions
def sx_Cl (B : Nat) (cs : Nat → sx_S) (Rt : Option sx_V → sx_M → Prop) (F : sx_F) (Z : sx_K) : Prop :=
  ∀ K : sx_K, (∀ pc L st w, K pc L st w → Z pc L st w) → ∀ pc i L st w, F pc = some i → sx_1 B cs Rt i.1 i.2 pc L st w K → Z pc L st w
theorem sx_run {B : Nat} {cs : Nat → sx_S} {Rt : Option sx_V → sx_M → Prop} {F : sx_F} {Z : sx_K} (hZ : sx_Cl B cs Rt F Z) (cut : Nat → Bool) : ∀ (n pc : Nat) (L : List (Option sx_V)) (st : List sx_V) (w : sx_M), sx_go B cs Rt F cut Z n pc L st w → Z pc L st w
  | 0, _, _, _, _, h => h
  | n + 1, pc, L, st, w, h => by
    unfold sx_go at h
    cases hF : F pc with
    | none => rw [hF] at h; exact False.elim h
    | some i =>
      rw [hF] at h
      refine hZ _ (fun pc' L' st' w' h' => ?_) pc i L st w hF h
      by_cases hc : cut pc' = true
      · rw [if_pos hc] at h'; exact h'
      · rw [if_neg hc] at h'; exact sx_run hZ cut n pc' L' st' w' h'
def sx_len : Instr → Nat
  | .bipush _ => 2
  | .sipush _ => 3
  | .ldc _ => 2
  | .iload _ => 2
  | .aload _ => 2
  | .istore _ => 2
  | .astore _ => 2
  | .iinc _ _ => 3
  | .ifCond _ _ => 3
  | .if_icmp _ _ => 3
  | .goto _ => 3
  | .getfield _ => 3
  | .putfield _ => 3
  | .invokestatic _ => 3
  | .invokevirtual _ => 3
  | .invokespecial _ => 3
  | _ => 1
def sx_lk (own host : String) (Ts wn : List Cond) (ix : Nat) (r : vw_C) (k : Nat) : Bool :=
  decide (k < r.2.2) && decide ((r.2.1 k).1 = r.1) &&
  (if own = r.1 then decide (Cond.fieldLink own ix r.1 (r.2.1 k).2.1 (r.2.1 k).2.2.1 ∈ Ts) else decide (Cond.fieldLinkNest own ix r.1 (r.2.1 k).2.1 (r.2.1 k).2.2.1 host ∈ wn))
def sx_ok (own host : String) (cl : List vw_C) (Ts wn : List Cond) (nL pc : Nat) (i : Instr) (h : Nat × Nat) : Bool := match i with
  | .ldc ix => decide (Cond.constant own ix (nI h.1) ∈ Ts)
  | .istore_n k => decide (k.val < nL)
  | .istore k => decide (k < nL)
  | .astore_n k => decide (k.val < nL)
  | .astore k => decide (k < nL)
  | .iinc k _ => decide (k < nL)
  | .ifCond _ off => decide ((pc : Int) + off = (h.1 : Int))
  | .if_icmp _ off => decide ((pc : Int) + off = (h.1 : Int))
  | .goto off => decide ((pc : Int) + off = (h.1 : Int))
  | .getfield ix => match cl[h.1]? with
    | some r => sx_lk own host Ts wn ix r h.2
    | none => false
  | .putfield ix => match cl[h.1 % 100]? with
    | some r => sx_lk own host Ts wn ix r h.2 && decide ((r.2.1 h.2).2.2.2 = false) && decide ((r.2.1 h.2).2.2.1 = if h.1 < 100 then "I" else "Z")
    | none => false
  | _ => true
def sx_isC : Instr → Bool
  | .invokestatic _ => true
  | .invokevirtual _ => true
  | .invokespecial _ => true
  | _ => false
abbrev sx_ty (E : sx_E) : List (ClassId × FieldType) := [(E.2.2.1, .int), (E.2.2.2, .array .int)]
-- links to private members of nest mates: they go with the state, not with the words
def sx_isN : Cond → Bool
  | .fieldLinkNest _ _ _ _ _ _ => true
  | .methodLinkNest _ _ _ _ => true
  | _ => false
def sx_N (wn : List Cond) (U : State) : Prop := ∀ w, w ∈ wn → sx_isN w = true ∧ va_Nw w U
theorem sx_N_warm {wn : List Cond} {s U : State} (hW : s.WarmedH U.vm) (h : sx_N wn s) : sx_N wn U := fun w hw => by
  obtain ⟨h1, h2⟩ := h w hw
  refine ⟨h1, ?_⟩
  cases w with
  | fieldLinkNest a i b n d q => exact va_Nw.warmF hW h2
  | methodLinkNest a i x q => exact va_Nw.warmM hW h2
  | _ => cases h1
theorem sx_N_same {wn : List Cond} {s U : State} (hv : s.vm = U.vm) (h : sx_N wn s) : sx_N wn U := fun w hw => by
  obtain ⟨h1, h2⟩ := h w hw
  refine ⟨h1, ?_⟩
  cases w with
  | fieldLinkNest a i b n d q => exact va_tabs rfl hv h2
  | methodLinkNest a i x q => exact va_tabs rfl hv h2
  | _ => cases h1
theorem sx_N_f {wn : List Cond} {args : Array Value} {s : State} (h : sx_N wn s) {a : String} {i : Nat} {b n d q : String} (hw : Cond.fieldLinkNest a i b n d q ∈ wn) : (Cond.fieldLinkNest a i b n d q).before args s = true := va_Nw.use rfl (h _ hw).2
def sx_Pc (wn : List Cond) (E : sx_E) (B : Nat) (D : va_G) (cl : List vw_C) (A : Nat → Prop) (As : List sx_V) (w : sx_M) : Array Value → State → Prop :=
  va_Pc (As.map (sx_v E)) (fun U => va_P D cl (sx_w E B w) U.heap ∧ va_K D cl (sx_ty E) U ∧ va_D A (sx_w E B w) ∧ sx_N wn U)
def sx_Qc (E : sx_E) (B : Nat) (D : va_G) (cl : List vw_C) (A : Nat → Prop) (Rt : Option sx_V → sx_M → Prop) : Array Value → State → Outcome → State → Prop :=
  fun _ st oc t => (∃ (r : Option sx_V) (w' : sx_M), oc = .returned (r.map (sx_v E)) ∧ Rt r w' ∧ va_P D cl (sx_w E B w') t.heap ∧ va_K D cl (sx_ty E) t ∧ va_D A (sx_w E B w')) ∧ va_F A st t
def sx_Z (p : Program) (l : Launch) (e : Env) (R : Room) (s : State) (m : MethodId) (args : Array Value) (below : List Frame) (meth : Method) (c : Code) (Q : State → Prop) (D : va_G) (cl : List vw_C) (A : Nat → Prop) (H0 : Heap) (E : sx_E) (B nL : Nat) : sx_K :=
  fun pc L st w => ∀ (H : Heap) (locs : List Loc) (ls : Array Slot), L.length = nL → lv_has ls nL (sx_l E 0 L) → va_P D cl (sx_w E B w) H → va_D A (sx_w E B w) → va_S A H0 H locs → W p l e R s m args below meth c H locs 0 0 Q (F0 m pc ls (st.map (sx_v E)))
-- a call site's closure
def sx_Cal (l : Launch) (own : String) (Ts wn : List Cond) (R : Room) (D : va_G) (cl : List vw_C) (A : Nat → Prop) (E : sx_E) (B nL : Nat) (cc : ByteArray) (i : Instr) (S : sx_S) : Prop :=
  ∀ (p : Program) (e : Env) (s : State) (m : MethodId) (args : Array Value) (below : List Frame) (meth : Method) (c : Code) (Q : State → Prop) (H0 : Heap),
    CallFix p m c cc nL s args Ts own → va_K D cl (sx_ty E) s → sx_N wn s →
    ∀ K : sx_K, (∀ pc L st w, K pc L st w → sx_Z p l e R s m args below meth c Q D cl A H0 E B nL pc L st w) →
    ∀ (pc : Nat) (L : List (Option sx_V)) (st : List sx_V) (w : sx_M), decode cc pc = .ok (i, 3) → sx_call S pc L st w K → sx_Z p l e R s m args below meth c Q D cl A H0 E B nL pc L st w
theorem sx_v_ref (E : sx_E) : ∀ a : Nat × Nat, ∃ x : Nat, sx_v E (.inr a) = .ref x
  | (n, 0) => ⟨E.1 n, rfl⟩
  | (n, j + 1) => ⟨E.2.1 n j, rfl⟩
theorem sx_rset {α : Type} (f : Nat → α) (N j : Nat) (x : α) : ((List.range N).map f).set j x = (List.range N).map (va_up f j x) := by
  apply List.ext_getElem?
  intro k
  rw [List.getElem?_set, List.getElem?_map, List.getElem?_map]
  by_cases hk : k < N
  · rw [List.getElem?_range hk]
    by_cases e : j = k
    · subst e
      simp [va_up, hk]
    · simp [va_up, e, Ne.symm e]
  · have : (List.range N)[k]? = none := by simp; omega
    rw [this]
    by_cases e : j = k
    · subst e; simp [hk]
    · simp [e]
section SX
variable {p : Program} {l : Launch} {e : Env} {R : Room} {s : State} {m : MethodId} {args : Array Value} {below : List Frame} {meth : Method} {c : Code} {Q : State → Prop} {H : Heap} {locs : List Loc} {ls : Array Slot}
variable {cc : ByteArray} {D : va_G} {cl : List vw_C} {A : Nat → Prop} {H0 : Heap} {E : sx_E} {B nL pc : Nat} {Ts wn : List Cond} {own host : String} {rest : List Value} {w : sx_M}
theorem sx_w_ga (hx : p.tables.exec = Jvm.exec) (hb : c.code = cc) (hK : va_K D cl (sx_ty E) s) (hP : va_P D cl (sx_w E B w) H) {a : Nat × Nat} {i : Int32} {k : Int32 → Prop} (hdg : decode cc pc = .ok (.iaload, 1)) (hg : sx_ga B w a i k)
    (kk : ∀ v : Int32, k v → W p l e R s m args below meth c H locs 0 0 Q (F0 m (pc + 1) ls (.int v :: rest))) : W p l e R s m args below meth c H locs 0 0 Q (F0 m pc ls (.int i :: sx_v E (.inr a) :: rest)) := by
  obtain ⟨n, j⟩ := a
  cases j with
  | zero =>
    cases hw : w n with
    | inl q =>
      obtain ⟨N, f⟩ := q
      simp only [sx_ga, hw] at hg
      obtain ⟨hn, hi, hg⟩ := hg
      obtain ⟨o, h1, -⟩ := sx_off E w n B hn
      have h1 := h1 0 (E.1 n, .inl (E.2.2.1, N, .inl f)) (by rw [hw]; rfl)
      exact va_iald hx hb hK hP (o + 0) 0 h1 rfl hi hdg (kk _ hg)
    | inr q => simp only [sx_ga, hw] at hg
  | succ j =>
    cases hw : w n with
    | inl q => simp only [sx_ga, hw] at hg
    | inr q =>
      cases q with
      | inr q => simp only [sx_ga, hw] at hg
      | inl q =>
        obtain ⟨N, k', M⟩ := q
        simp only [sx_ga, hw] at hg
        obtain ⟨hn, hj, hi, hg⟩ := hg
        obtain ⟨o, h1, -⟩ := sx_off E w n B hn
        have h1 := h1 (j + 1) (E.2.1 n j, .inl (E.2.2.1, k', .inl (M j))) (by rw [hw]; simp [sx_c, List.getElem?_range hj])
        exact va_iald hx hb hK hP (o + (j + 1)) 0 h1 rfl hi hdg (kk _ hg)
theorem sx_w_pa (hx : p.tables.exec = Jvm.exec) (hb : c.code = cc) (hK : va_K D cl (sx_ty E) s) (hP : va_P D cl (sx_w E B w) H) (hD : va_D A (sx_w E B w)) (hS : va_S A H0 H locs) {a : Nat × Nat} {i x : Int32} {k : sx_M → Prop} (hdg : decode cc pc = .ok (.iastore, 1)) (hg : sx_pa B w a i x k)
    (kk : ∀ (w' : sx_M) (H1 : Heap) (locs1 : List Loc), k w' → va_P D cl (sx_w E B w') H1 → va_D A (sx_w E B w') → va_S A H0 H1 locs1 → W p l e R s m args below meth c H1 locs1 0 0 Q (F0 m (pc + 1) ls rest)) : W p l e R s m args below meth c H locs 0 0 Q (F0 m pc ls (.int x :: .int i :: sx_v E (.inr a) :: rest)) := by
  obtain ⟨n, j⟩ := a
  cases j with
  | zero =>
    cases hw : w n with
    | inl q =>
      obtain ⟨N, f⟩ := q
      simp only [sx_pa, hw] at hg
      obtain ⟨hn, hi, hg⟩ := hg
      obtain ⟨o, h1, h2⟩ := sx_off E w n B hn
      have h1 := h1 0 (E.1 n, .inl (E.2.2.1, N, .inl f)) (by rw [hw]; rfl)
      have h2 := h2 0 (E.1 n, .inl (E.2.2.1, N, .inl (upd f i.toNatClampNeg x))) (.inl (N, upd f i.toNatClampNeg x)) (by rw [hw]; simp [sx_c]) (by rw [hw]; rfl)
      refine va_iast hx hb hK hP hD hS (o + 0) 0 h1 rfl hi hdg (fun H1 locs1 hP1 hD1 hS1 => ?_)
      rw [h2] at hP1 hD1
      exact kk _ H1 locs1 hg hP1 hD1 hS1
    | inr q => simp only [sx_pa, hw] at hg
  | succ j =>
    cases hw : w n with
    | inl q => simp only [sx_pa, hw] at hg
    | inr q =>
      cases q with
      | inr q => simp only [sx_pa, hw] at hg
      | inl q =>
        obtain ⟨N, k', M⟩ := q
        simp only [sx_pa, hw] at hg
        obtain ⟨hn, hj, hi, hg⟩ := hg
        obtain ⟨o, h1, h2⟩ := sx_off E w n B hn
        have h1 := h1 (j + 1) (E.2.1 n j, .inl (E.2.2.1, k', .inl (M j))) (by rw [hw]; simp [sx_c, List.getElem?_range hj])
        have h2 := h2 (j + 1) (E.2.1 n j, .inl (E.2.2.1, k', .inl (upd (M j) i.toNatClampNeg x))) (.inr (.inl (N, k', va_up M j (upd (M j) i.toNatClampNeg x)))) (by rw [hw]; simp [sx_c]; omega) (by
          rw [hw]
          simp only [sx_c, List.set_cons_succ]
          rw [sx_rset]
          refine congrArg _ (List.map_congr_left fun b _ => ?_)
          by_cases hb9 : b = j
          · subst hb9; simp [va_up]
          · simp [va_up, hb9])
        refine va_iast hx hb hK hP hD hS (o + (j + 1)) 0 h1 rfl hi hdg (fun H1 locs1 hP1 hD1 hS1 => ?_)
        rw [h2] at hP1 hD1
        exact kk _ H1 locs1 hg hP1 hD1 hS1
theorem sx_ald {ws : va_W} {tys : List (ClassId × FieldType)} {a : Nat} (hexec : p.tables.exec = Jvm.exec) (hb : c.code = cc) (hK : va_K D cl tys s) (hP : va_P D cl ws H) (q0 t0 : Nat) {cA : ClassId} {t : FieldType} {n : Nat} {f : Nat → Option Nat} (ha : ws[q0]? = some (a, .inl (cA, n, .inr (.inr (.inr (.inr f)))))) (ht : tys[t0]? = some (cA, .array t)) {i : Int32} (hin : vp_in i n) (hdg : decode cc pc = .ok (.aaload, 1))
    (kk : W p l e R s m args below meth c H locs 0 0 Q (F0 m (pc + 1) ls (va_rf (f i.toNatClampNeg) :: rest))) : W p l e R s m args below meth c H locs 0 0 Q (F0 m pc ls (.int i :: .ref a :: rest)) := by
  have hlt : i.toNatClampNeg < n := Nat.not_le.mp fun q => hin (Or.inr q)
  exact W.aald (v := va_rf (f i.toNatClampNeg)) (ty := .array t) hexec hb (hP q0 _ ha) ((hK.2 t0 _ ht).1 n (fun j => va_rf (f j))) rfl (fun q => by cases q) (by show ¬ (i < 0 ∨ (arrV _ _ _).slots.size ≤ _); rw [arrV_size]; exact hin) (by show (arrV _ _ _).slots[_]? = _; rw [arrV_read _ _ hlt]) rfl rfl hdg kk
theorem sx_w_gr (hx : p.tables.exec = Jvm.exec) (hb : c.code = cc) (hK : va_K D cl (sx_ty E) s) (hP : va_P D cl (sx_w E B w) H) {a : Nat × Nat} {i : Int32} {k : sx_V → Prop} (hdg : decode cc pc = .ok (.aaload, 1)) (hg : sx_gr B w a i k)
    (kk : ∀ v : sx_V, k v → W p l e R s m args below meth c H locs 0 0 Q (F0 m (pc + 1) ls (sx_v E v :: rest))) : W p l e R s m args below meth c H locs 0 0 Q (F0 m pc ls (.int i :: sx_v E (.inr a) :: rest)) := by
  obtain ⟨n, j⟩ := a
  cases j with
  | succ j => cases hw : w n <;> simp only [sx_gr, hw] at hg
  | zero =>
    cases hw : w n with
    | inl q => simp only [sx_gr, hw] at hg
    | inr q =>
      cases q with
      | inr q => simp only [sx_gr, hw] at hg
      | inl q =>
        obtain ⟨N, k', M⟩ := q
        simp only [sx_gr, hw] at hg
        obtain ⟨hn, hi, hg⟩ := hg
        obtain ⟨o, h1, -⟩ := sx_off E w n B hn
        have h1 := h1 0 (E.1 n, .inl (E.2.2.2, N, .inr (.inr (.inr (.inr (fun i => if i < N then some (E.2.1 n i) else none)))))) (by rw [hw]; rfl)
        have h3 := kk _ hg
        have hlt : i.toNatClampNeg < N := Nat.not_le.mp fun q => hi (Or.inr q)
        exact sx_ald hx hb hK hP (o + 0) 1 h1 rfl hi hdg (by simp only [hlt, if_true, va_rf]; exact h3)
theorem sx_w_al (hx : p.tables.exec = Jvm.exec) (hb : c.code = cc) (hK : va_K D cl (sx_ty E) s) (hP : va_P D cl (sx_w E B w) H) {a : Nat × Nat} {k : Int32 → Prop} (hdg : decode cc pc = .ok (.arraylength, 1)) (hg : sx_al B w a k)
    (kk : ∀ v : Int32, k v → W p l e R s m args below meth c H locs 0 0 Q (F0 m (pc + 1) ls (.int v :: rest))) : W p l e R s m args below meth c H locs 0 0 Q (F0 m pc ls (sx_v E (.inr a) :: rest)) := by
  obtain ⟨n, j⟩ := a
  cases j with
  | zero =>
    cases hw : w n with
    | inl q =>
      obtain ⟨N, f⟩ := q
      simp only [sx_al, hw] at hg
      obtain ⟨hn, hg⟩ := hg
      obtain ⟨o, h1, -⟩ := sx_off E w n B hn
      have h1 := h1 0 (E.1 n, .inl (E.2.2.1, N, .inl f)) (by rw [hw]; rfl)
      exact va_alen hx hb hK hP (o + 0) 0 h1 rfl rfl hdg (kk _ hg)
    | inr q =>
      cases q with
      | inr q => simp only [sx_al, hw] at hg
      | inl q =>
        obtain ⟨N, k', M⟩ := q
        simp only [sx_al, hw] at hg
        obtain ⟨hn, hg⟩ := hg
        obtain ⟨o, h1, -⟩ := sx_off E w n B hn
        have h1 := h1 0 (E.1 n, .inl (E.2.2.2, N, .inr (.inr (.inr (.inr (fun i => if i < N then some (E.2.1 n i) else none)))))) (by rw [hw]; rfl)
        exact va_alen hx hb hK hP (o + 0) 1 h1 rfl rfl hdg (kk _ hg)
  | succ j =>
    cases hw : w n with
    | inl q => simp only [sx_al, hw] at hg
    | inr q =>
      cases q with
      | inr q => simp only [sx_al, hw] at hg
      | inl q =>
        obtain ⟨N, k', M⟩ := q
        simp only [sx_al, hw] at hg
        obtain ⟨hn, hj, hg⟩ := hg
        obtain ⟨o, h1, -⟩ := sx_off E w n B hn
        have h1 := h1 (j + 1) (E.2.1 n j, .inl (E.2.2.1, k', .inl (M j))) (by rw [hw]; simp [sx_c, List.getElem?_range hj])
        exact va_alen hx hb hK hP (o + (j + 1)) 0 h1 rfl rfl hdg (kk _ hg)
theorem sx_lk_of {ix : Nat} {r : vw_C} {k : Nat} (h : sx_lk own host Ts wn ix r k = true) : k < r.2.2 ∧ (r.2.1 k).1 = r.1 ∧ ((own = r.1 ∧ Cond.fieldLink own ix r.1 (r.2.1 k).2.1 (r.2.1 k).2.2.1 ∈ Ts) ∨ Cond.fieldLinkNest own ix r.1 (r.2.1 k).2.1 (r.2.1 k).2.2.1 host ∈ wn) := by
  unfold sx_lk at h
  rw [Bool.and_eq_true, Bool.and_eq_true] at h
  obtain ⟨⟨h1, h2⟩, h4⟩ := h
  refine ⟨of_decide_eq_true h1, of_decide_eq_true h2, ?_⟩
  by_cases e : own = r.1
  · rw [if_pos e] at h4; exact Or.inl ⟨e, of_decide_eq_true h4⟩
  · rw [if_neg e] at h4; exact Or.inr (of_decide_eq_true h4)
def sx_Tw (cl : List vw_C) (Ts : List Cond) : Prop := ∀ (ci : Nat) (r : vw_C), cl[ci]? = some r → ∀ w ∈ u_ws r.1 r.2.1 r.2.2, w ∈ Ts
theorem sx_w_gf (hx : p.tables.exec = Jvm.exec) (hb : c.code = cc) (hts : ∀ w ∈ Ts, w.before args s = true) (hN : sx_N wn s) (hTw : sx_Tw cl Ts) (hown : s.vm.findClass own = some m.cls) (hK : va_K D cl (sx_ty E) s) (hP : va_P D cl (sx_w E B w) H) {a : Nat × Nat} {h : Nat × Nat} {ix : Nat} {k : sx_V → Prop} {r : vw_C} (hr : cl[h.1]? = some r) (hlk : sx_lk own host Ts wn ix r h.2 = true) (hdg : decode cc pc = .ok (.getfield ix, 3)) (hg : sx_gf B h w a k)
    (kk : ∀ v : sx_V, k v → W p l e R s m args below meth c H locs 0 0 Q (F0 m (pc + 3) ls (sx_v E v :: rest))) : W p l e R s m args below meth c H locs 0 0 Q (F0 m pc ls (sx_v E (.inr a) :: rest)) := by
  obtain ⟨n, j⟩ := a
  cases j with
  | succ j => cases hw : w n <;> simp only [sx_gf, hw] at hg
  | zero =>
    cases hw : w n with
    | inl q => simp only [sx_gf, hw] at hg
    | inr q =>
      cases q with
      | inl q => simp only [sx_gf, hw] at hg
      | inr q =>
        obtain ⟨ci, fs⟩ := q
        simp only [sx_gf, hw] at hg
        obtain ⟨hn, rfl, hg⟩ := hg
        cases hf : fs[h.2]? with
        | none => rw [hf] at hg; exact False.elim hg
        | some v =>
          rw [hf] at hg
          obtain ⟨o, h1, -⟩ := sx_off E w n B hn
          have h1 := h1 0 (E.1 n, .inr (h.1, fs.map (sx_v E))) (by rw [hw]; rfl)
          obtain ⟨e1, e2, e4⟩ := sx_lk_of hlk
          have e3 := hTw _ _ hr
          have hv : (fs.map (sx_v E))[h.2]? = some (sx_v E v) := by rw [List.getElem?_map, hf]; rfl
          obtain ⟨C, T, N⟩ := r
          rcases e4 with ⟨-, e4⟩ | e4
          · exact va_get hx hb hts e3 hown hK hP (o + 0) h1 hr h.2 e1 (hts _ e4) (fun x9 h9 => by rw [e2] at h9; exact h9) hv hdg (kk v hg)
          · exact va_getN hx hb hts e3 hown hK hP (o + 0) h1 hr h.2 e1 (sx_N_f hN e4) (fun x9 h9 => by rw [e2] at h9; exact h9) hv hdg (kk v hg)
def sx_Tb (cl : List vw_C) : Prop := ∀ (ci : Nat) (r : vw_C), cl[ci]? = some r → (∃ ty0 : Nat → FieldType, ∀ k, k < r.2.2 → parseFieldDescriptor (r.2.1 k).2.2.1 = some (ty0 k)) ∧ (∀ a, a < r.2.2 → ∀ b, b < r.2.2 → a ≠ b → (r.2.1 a).2.1 ≠ (r.2.1 b).2.1)
theorem sx_dI : parseFieldDescriptor "I" = some .int := by decide +kernel
theorem sx_dZ : parseFieldDescriptor "Z" = some .boolean := by decide +kernel
theorem sx_w_pf (hx : p.tables.exec = Jvm.exec) (hb : c.code = cc) (hts : ∀ w ∈ Ts, w.before args s = true) (hN : sx_N wn s) (hTw : sx_Tw cl Ts) (hown : s.vm.findClass own = some m.cls) (hK : va_K D cl (sx_ty E) s) (hcl : sx_Tb cl) (hP : va_P D cl (sx_w E B w) H) (hD : va_D A (sx_w E B w)) (hS : va_S A H0 H locs) {a : Nat × Nat} {h : Nat × Nat} {ix : Nat} {x : Int32} {k : sx_M → Prop} {r : vw_C} (hr : cl[h.1 % 100]? = some r) (hlk : sx_lk own host Ts wn ix r h.2 = true) (hfin : (r.2.1 h.2).2.2.2 = false) (hI : (r.2.1 h.2).2.2.1 = if h.1 < 100 then "I" else "Z") (hdg : decode cc pc = .ok (.putfield ix, 3)) (hg : sx_pf B h w a x k)
    (kk : ∀ (w' : sx_M) (H1 : Heap) (locs1 : List Loc), k w' → va_P D cl (sx_w E B w') H1 → va_D A (sx_w E B w') → va_S A H0 H1 locs1 → W p l e R s m args below meth c H1 locs1 0 0 Q (F0 m (pc + 3) ls rest)) : W p l e R s m args below meth c H locs 0 0 Q (F0 m pc ls (.int x :: sx_v E (.inr a) :: rest)) := by
  obtain ⟨n, j⟩ := a
  cases j with
  | succ j => cases hw : w n <;> simp only [sx_pf, hw] at hg
  | zero =>
    cases hw : w n with
    | inl q => simp only [sx_pf, hw] at hg
    | inr q =>
      cases q with
      | inl q => simp only [sx_pf, hw] at hg
      | inr q =>
        obtain ⟨ci, fs⟩ := q
        simp only [sx_pf, hw] at hg
        obtain ⟨hn, rfl, hbo, hlen, hg⟩ := hg
        obtain ⟨o, h1, h2⟩ := sx_off E w n B hn
        have h1 := h1 0 (E.1 n, .inr (h.1 % 100, fs.map (sx_v E))) (by rw [hw]; rfl)
        have h2 := h2 0 (E.1 n, .inr (h.1 % 100, (fs.map (sx_v E)).set h.2 (.int x))) (.inr (.inr (h.1 % 100, fs.set h.2 (.inl x)))) (by rw [hw]; simp [sx_c]) (by rw [hw]; simp [sx_c, List.map_set, sx_v])
        obtain ⟨e1, e2, e4⟩ := sx_lk_of hlk
        have e3 := hTw _ _ hr
        obtain ⟨⟨ty0, hty⟩, hnm⟩ := hcl (h.1 % 100) r hr
        obtain ⟨C, T, N⟩ := r
        have hd9 : ∃ ty : FieldType, parseFieldDescriptor (T h.2).2.2.1 = some ty ∧ narrow ty (.int x) = .int x ∧ fits ty (.int x) = true := by
          have h9 : (T h.2).2.2.1 = if h.1 < 100 then "I" else "Z" := hI
          rcases hbo with h100 | hx01
          · rw [if_pos h100] at h9
            exact ⟨.int, by rw [h9]; exact sx_dI, rfl, rfl⟩
          · by_cases h100 : h.1 < 100
            · rw [if_pos h100] at h9
              exact ⟨.int, by rw [h9]; exact sx_dI, rfl, rfl⟩
            · rw [if_neg h100] at h9
              refine ⟨.boolean, by rw [h9]; exact sx_dZ, ?_, ?_⟩
              · rcases hx01 with rfl | rfl <;> decide
              · rcases hx01 with rfl | rfl <;> decide
        obtain ⟨ty, hd9, hnar, hfit⟩ := hd9
        rcases e4 with ⟨-, e4⟩ | e4
        · refine va_put hx hb hts e3 ty0 hty hnm hown hK hP hD hS (o + 0) h1 hr h.2 e1 (hts _ e4) (fun x9 h9 => by rw [e2] at h9; exact h9) hfin hd9 hnar hfit (by rw [List.length_map]; exact hlen) hdg (fun H1 locs1 hP1 hD1 hS1 => ?_)
          rw [h2] at hP1 hD1
          exact kk _ H1 locs1 hg hP1 hD1 hS1
        · refine va_putN hx hb hts e3 ty0 hty hnm hown hK hP hD hS (o + 0) h1 hr h.2 e1 (sx_N_f hN e4) (fun x9 h9 => by rw [e2] at h9; exact h9) hfin hd9 hnar hfit (by rw [List.length_map]; exact hlen) hdg (fun H1 locs1 hP1 hD1 hS1 => ?_)
          rw [h2] at hP1 hD1
          exact kk _ H1 locs1 hg hP1 hD1 hS1
end SX
