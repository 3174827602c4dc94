-- the instructions' conditions as equations
section SE
variable {B : Nat} {cs : Nat → sx_S} {Rt : Option sx_V → sx_M → Prop} {h : Nat × Nat} {pc : Nat} {L : List (Option sx_V)} {st r : List sx_V} {w : sx_M} {K : sx_K} {x y : Int32} {a b d : sx_V} {q : Nat × Nat}
theorem se_iconst {v : Int} : sx_1 B cs Rt (.iconst v) h pc L st w K = K (pc + 1) L (.inl (Int32.ofInt v) :: st) w := rfl
theorem se_bipush {v : Int} : sx_1 B cs Rt (.bipush v) h pc L st w K = K (pc + 2) L (.inl (Int8.ofInt v).toInt32 :: st) w := rfl
theorem se_sipush {v : Int} : sx_1 B cs Rt (.sipush v) h pc L st w K = K (pc + 3) L (.inl (Int16.ofInt v).toInt32 :: st) w := rfl
theorem se_ldc {v : Nat} {j : Nat} {i : Nat} : sx_1 B cs Rt (.ldc v) (i, j) pc L st w K = K (pc + 2) L (.inl (nI i) :: st) w := rfl
theorem se_iload_n {k : Fin 4} : sx_1 B cs Rt (.iload_n k) h pc L st w K = sx_ldi L k.val (fun x => K (pc + 1) L (.inl x :: st) w) := rfl
theorem se_iload {k : Nat} : sx_1 B cs Rt (.iload k) h pc L st w K = sx_ldi L k (fun x => K (pc + 2) L (.inl x :: st) w) := rfl
theorem se_aload_n {k : Fin 4} : sx_1 B cs Rt (.aload_n k) h pc L st w K = sx_lda L k.val (fun a => K (pc + 1) L (.inr a :: st) w) := rfl
theorem se_aload {k : Nat} : sx_1 B cs Rt (.aload k) h pc L st w K = sx_lda L k (fun a => K (pc + 2) L (.inr a :: st) w) := rfl
theorem se_istore_n {k : Fin 4} : sx_1 B cs Rt (.istore_n k) h pc L (.inl x :: r) w K = K (pc + 1) (L.set k.val (some (.inl x))) r w := rfl
theorem se_istore {k : Nat} : sx_1 B cs Rt (.istore k) h pc L (.inl x :: r) w K = K (pc + 2) (L.set k (some (.inl x))) r w := rfl
theorem se_astore_n {k : Fin 4} : sx_1 B cs Rt (.astore_n k) h pc L (.inr q :: r) w K = K (pc + 1) (L.set k.val (some (.inr q))) r w := rfl
theorem se_astore {k : Nat} : sx_1 B cs Rt (.astore k) h pc L (.inr q :: r) w K = K (pc + 2) (L.set k (some (.inr q))) r w := rfl
theorem se_iinc {k : Nat} {n : Int} : sx_1 B cs Rt (.iinc k n) h pc L st w K = sx_ldi L k (fun x => K (pc + 3) (L.set k (some (.inl (x + Int32.ofInt n)))) st w) := rfl
theorem se_iadd : sx_1 B cs Rt .iadd h pc L (.inl y :: .inl x :: r) w K = K (pc + 1) L (.inl (x + y) :: r) w := rfl
theorem se_isub : sx_1 B cs Rt .isub h pc L (.inl y :: .inl x :: r) w K = K (pc + 1) L (.inl (x - y) :: r) w := rfl
theorem se_imul : sx_1 B cs Rt .imul h pc L (.inl y :: .inl x :: r) w K = K (pc + 1) L (.inl (x * y) :: r) w := rfl
theorem se_idiv : sx_1 B cs Rt .idiv h pc L (.inl y :: .inl x :: r) w K = (¬ y = 0 ∧ K (pc + 1) L (.inl (x / y) :: r) w) := rfl
theorem se_irem : sx_1 B cs Rt .irem h pc L (.inl y :: .inl x :: r) w K = (¬ y = 0 ∧ K (pc + 1) L (.inl (x - x / y * y) :: r) w) := rfl
theorem se_iand : sx_1 B cs Rt .iand h pc L (.inl y :: .inl x :: r) w K = K (pc + 1) L (.inl (x &&& y) :: r) w := rfl
theorem se_ior : sx_1 B cs Rt .ior h pc L (.inl y :: .inl x :: r) w K = K (pc + 1) L (.inl (x ||| y) :: r) w := rfl
theorem se_ixor : sx_1 B cs Rt .ixor h pc L (.inl y :: .inl x :: r) w K = K (pc + 1) L (.inl (x ^^^ y) :: r) w := rfl
theorem se_ishl : sx_1 B cs Rt .ishl h pc L (.inl y :: .inl x :: r) w K = K (pc + 1) L (.inl (x <<< (y &&& 31)) :: r) w := rfl
theorem se_ishr : sx_1 B cs Rt .ishr h pc L (.inl y :: .inl x :: r) w K = K (pc + 1) L (.inl (x >>> (y &&& 31)) :: r) w := rfl
theorem se_ineg : sx_1 B cs Rt .ineg h pc L (.inl x :: r) w K = K (pc + 1) L (.inl (-x) :: r) w := rfl
theorem se_dup : sx_1 B cs Rt .dup h pc L (a :: r) w K = K (pc + 1) L (a :: a :: r) w := rfl
theorem se_dup_x1 : sx_1 B cs Rt .dup_x1 h pc L (a :: b :: r) w K = K (pc + 1) L (a :: b :: a :: r) w := rfl
theorem se_dup_x2 : sx_1 B cs Rt .dup_x2 h pc L (a :: b :: d :: r) w K = K (pc + 1) L (a :: b :: d :: a :: r) w := rfl
theorem se_dup2 : sx_1 B cs Rt .dup2 h pc L (a :: b :: r) w K = K (pc + 1) L (a :: b :: a :: b :: r) w := rfl
theorem se_pop : sx_1 B cs Rt .pop h pc L (a :: r) w K = K (pc + 1) L r w := rfl
theorem se_if {c : ClassFile.Cond} {o : Int} {t j : Nat} : sx_1 B cs Rt (.ifCond c o) (t, j) pc L (.inl x :: r) w K = sx_if c x 0 (K t L r w) (K (pc + 3) L r w) := rfl
theorem se_icmp {c : ClassFile.Cond} {o : Int} {t j : Nat} : sx_1 B cs Rt (.if_icmp c o) (t, j) pc L (.inl y :: .inl x :: r) w K = sx_if c x y (K t L r w) (K (pc + 3) L r w) := rfl
theorem se_goto {o : Int} {t j : Nat} : sx_1 B cs Rt (.goto o) (t, j) pc L st w K = K t L st w := rfl
theorem se_get {i : Nat} : sx_1 B cs Rt (.getfield i) h pc L (.inr q :: r) w K = sx_gf B h w q (fun v => K (pc + 3) L (v :: r) w) := rfl
theorem se_put {i : Nat} : sx_1 B cs Rt (.putfield i) h pc L (.inl x :: .inr q :: r) w K = sx_pf B h w q x (fun w' => K (pc + 3) L r w') := rfl
theorem se_iald : sx_1 B cs Rt .iaload h pc L (.inl x :: .inr q :: r) w K = sx_ga B w q x (fun v => K (pc + 1) L (.inl v :: r) w) := rfl
theorem se_iast : sx_1 B cs Rt .iastore h pc L (.inl y :: .inl x :: .inr q :: r) w K = sx_pa B w q x y (fun w' => K (pc + 1) L r w') := rfl
theorem se_aald : sx_1 B cs Rt .aaload h pc L (.inl x :: .inr q :: r) w K = sx_gr B w q x (fun v => K (pc + 1) L (v :: r) w) := rfl
theorem se_alen : sx_1 B cs Rt .arraylength h pc L (.inr q :: r) w K = sx_al B w q (fun v => K (pc + 1) L (.inl v :: r) w) := rfl
theorem se_cs {i j t : Nat} : sx_1 B cs Rt (.invokestatic i) (t, j) pc L st w K = sx_call (cs t) pc L st w K := rfl
theorem se_cv {i j t : Nat} : sx_1 B cs Rt (.invokevirtual i) (t, j) pc L st w K = sx_call (cs t) pc L st w K := rfl
theorem se_iret : sx_1 B cs Rt .ireturn h pc L [.inl x] w K = Rt (some (.inl x)) w := rfl
theorem se_vret : sx_1 B cs Rt .return_ h pc L [] w K = Rt none w := rfl
end SE
theorem se_eq {x y : Int32} {a b : Prop} : sx_if .eq x y a b = ((x = y → a) ∧ (¬ x = y → b)) := rfl
theorem se_ne {x y : Int32} {a b : Prop} : sx_if .ne x y a b = ((¬ x = y → a) ∧ (x = y → b)) := rfl
theorem se_lt {x y : Int32} {a b : Prop} : sx_if .lt x y a b = ((x < y → a) ∧ (¬ x < y → b)) := rfl
theorem se_ge {x y : Int32} {a b : Prop} : sx_if .ge x y a b = ((y ≤ x → a) ∧ (¬ y ≤ x → b)) := rfl
theorem se_gt {x y : Int32} {a b : Prop} : sx_if .gt x y a b = ((y < x → a) ∧ (¬ y < x → b)) := rfl
theorem se_le {x y : Int32} {a b : Prop} : sx_if .le x y a b = ((x ≤ y → a) ∧ (¬ x ≤ y → b)) := rfl
theorem se_ldi0 {v : Int32} {L : List (Option sx_V)} {k : Int32 → Prop} : sx_ldi (some (.inl v) :: L) 0 k = k v := rfl
theorem se_ldiS {a : Option sx_V} {L : List (Option sx_V)} {n : Nat} {k : Int32 → Prop} : sx_ldi (a :: L) (n + 1) k = sx_ldi L n k := rfl
theorem se_lda0 {v : Nat × Nat} {L : List (Option sx_V)} {k : Nat × Nat → Prop} : sx_lda (some (.inr v) :: L) 0 k = k v := rfl
theorem se_ldaS {a : Option sx_V} {L : List (Option sx_V)} {n : Nat} {k : Nat × Nat → Prop} : sx_lda (a :: L) (n + 1) k = sx_lda L n k := rfl
theorem se_go {B : Nat} {cs : Nat → sx_S} {Rt : Option sx_V → sx_M → Prop} {F : sx_F} {cut : Nat → Bool} {Z : sx_K} {n pc : Nat} {L : List (Option sx_V)} {st : List sx_V} {w : sx_M} : sx_go B cs Rt F cut Z (n + 1) pc L st w = (match F pc with
    | some i => sx_1 B cs Rt i.1 i.2 pc L st w (fun pc' L' st' w' => if cut pc' = true then Z pc' L' st' w' else sx_go B cs Rt F cut Z n pc' L' st' w')
    | none => False) := rfl
-- a method without calls; the shape of a contract
abbrev sM (l : Launch) (D : va_G) (E : sx_E) (B : Nat) (A : Nat → Prop) (y : MethodName) (cc : ByteArray) (nL : Nat) (ret : Option FieldType) (fr lo : Nat) (As : List sx_V) (w : sx_M) (post : Option sx_V → sx_M → Prop) : Prop :=
  Met l y (wy y cc nL ret) ({ frames := fr, cells := 0, slots := 0, locals := lo }) (sx_Pc wn E B D kinds A As w) (sx_Qc E B D kinds A post) 0 0 A
theorem sx_m0 {l : Launch} {D : va_G} {E : sx_E} {B : Nat} {A : Nat → Prop} {y : MethodName} {cc : ByteArray} {nL : Nat} {ret : Option FieldType} {fr lo : Nat} {As : List sx_V} {w : sx_M} {post : Option sx_V → sx_M → Prop} {ls : List (Nat × Instr × Nat × Nat)} {cs : Nat → sx_S}
    (hy : plainFor y = true) (hk : sx_chk y.cls (wy y cc nL ret) nL cc ls = true)
    (hC : ∀ (pc : Nat) (i : Instr × Nat × Nat), sx_tab ls pc = some i → sx_isC i.1 = true → sx_Cal l y.cls (wy y cc nL ret) wn ({ frames := fr, cells := 0, slots := 0, locals := lo }) D kinds A E B nL cc i.1 (cs i.2.1))
    (hlen : As.length ≤ nL) (hret : sx_rt ret post) (body : ∀ Z : sx_K, sx_Cl B cs post (sx_tab ls) Z → Z 0 (As.map some ++ List.replicate (nL - As.length) none) [] w) : sM l D E B A y cc nL ret fr lo As w post :=
  sx_method hostC hy rfl kinds_ok (wt_kinds _ _ _ _) (sx_chk_ok hk) hC hlen hret body
-- no call in a list
theorem sx_nc {ls : List (Nat × Instr × Nat × Nat)} (h : ls.all (fun q => !sx_isC q.2.1) = true) {P : Prop} (pc : Nat) (i : Instr × Nat × Nat) (hF : sx_tab ls pc = some i) (hi : sx_isC i.1 = true) : P := by
  have h1 := List.all_eq_true.mp h _ (sx_tab_mem hF)
  rw [hi] at h1
  cases h1
abbrev noCalls : Nat → sx_S := fun _ => (0, fun _ _ _ => False)
