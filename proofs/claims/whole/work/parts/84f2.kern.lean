-- functions for the kernel: a value made a number before it is used
noncomputable def fo {α : Type} (x : Nat) (f : Nat → α) : α := Nat.rec (motive := fun _ => α) (f 0) (fun n _ => f (Nat.succ n)) x
theorem fo_eq {α : Type} (x : Nat) (f : Nat → α) : fo x f = f x := by cases x <;> rfl
noncomputable def qd (b d : Nat) : Nat := Nat.land (Nat.shiftRight b (Nat.sub 21 (Nat.mul 3 d))) 7
noncomputable def qa (a s : Nat) : Nat := Nat.land (Nat.shiftRight a s) 7
noncomputable def qm (a b : Nat) : Nat :=
  Nat.add (Nat.mul (Nat.add (Nat.mul (Nat.add (Nat.mul (Nat.add (Nat.mul (Nat.add (Nat.mul (Nat.add (Nat.mul (Nat.add (Nat.mul
  (qd b (qa a 21)) 8) (qd b (qa a 18))) 8) (qd b (qa a 15))) 8) (qd b (qa a 12))) 8) (qd b (qa a 9))) 8) (qd b (qa a 6))) 8) (qd b (qa a 3))) 8) (qd b (qa a 0))
noncomputable def qs (v d : Nat) : Nat := Nat.shiftLeft v (Nat.sub 21 (Nat.mul 3 d))
noncomputable def qv (a : Nat) : Nat := Nat.lor (Nat.lor (Nat.lor (Nat.lor (Nat.lor (Nat.lor (qs 1 (qa a 18)) (qs 2 (qa a 15))) (qs 3 (qa a 12))) (qs 4 (qa a 9))) (qs 5 (qa a 6))) (qs 6 (qa a 3))) (qs 7 (qa a 0))
-- a table B of a group: by the remainder of a code modulo m (the last 16 bits), the code and (8 bits) the number of its conjugates
noncomputable def sB (B c : Nat) : Nat := Nat.shiftRight B (Nat.add 16 (Nat.mul 32 (Nat.mod c (Nat.land B 65535))))
noncomputable def inB (B c : Nat) : Bool := Nat.beq (Nat.land (sB B c) 16777215) c
noncomputable def lb (B c : Nat) : Nat := Nat.land (Nat.shiftRight (sB B c) 24) 255
-- lists
noncomputable def bth (a b : Bool) : Bool := Bool.rec false b a
noncomputable def alW (L : List Nat) (P : Nat → Bool) : Bool := List.rec (motive := fun _ => Bool) true (fun h _ ih => Bool.rec false ih (P h)) L
noncomputable def el (x : Nat) (L : List Nat) : Bool := List.rec (motive := fun _ => Bool) false (fun h _ ih => Bool.rec ih true (Nat.beq h x)) L
noncomputable def ln (L : List Nat) : Nat := List.rec (motive := fun _ => Nat → Nat) (fun n => n) (fun _ _ ih n => fo (Nat.succ n) ih) L 0
noncomputable def nt (L : List Nat) (j : Nat) : Nat := List.rec (motive := fun _ => Nat → Nat) (fun _ => 0) (fun h _ ih j => Nat.rec (motive := fun _ => Nat) h (fun j' _ => ih j') j) L j
-- every element of L that is a candidate takes the next number of cs, and both go through
noncomputable def zc (cand : Nat → Bool) (ck : Nat → Nat → Bool) (L : List Nat) (cs : List Nat) : Bool :=
  List.rec (motive := fun _ => List Nat → Bool) (fun _ => true) (fun x _ ih cs => Bool.rec (ih cs) (List.rec (motive := fun _ => Bool) false (fun y t _ => Bool.rec false (ih t) (ck x y)) cs) (cand x)) L cs
-- numbers of w bits, n of them, out of one
noncomputable def upW (w n C : Nat) (r : List Nat) : List Nat := Nat.rec (motive := fun _ => Nat → List Nat) (fun _ => r) (fun _ ih C => Nat.rec (motive := fun _ => List Nat) r (fun c _ => fo (Nat.land (Nat.succ c) (Nat.sub (Nat.shiftLeft 1 w) 1)) (fun x => x :: ih (Nat.shiftRight (Nat.succ c) w))) C) n C
noncomputable def fol {α : Type} (L : List Nat) (f : List Nat → α) : α := List.rec (motive := fun _ => (List Nat → α) → α) (fun k => k []) (fun h _ ih k => fo h (fun x => ih (fun t => k (x :: t)))) L f
noncomputable def flW (w n : Nat) (Cs : List Nat) : List Nat := List.rec (motive := fun _ => List Nat) [] (fun C _ ih => upW w n C ih) Cs
-- the same in pieces, so that the kernel does not go deep
noncomputable def zcc (w v n : Nat) (cand : Nat → Bool) (ck : Nat → Nat → Bool) (Cs Ds : List Nat) : Bool :=
  List.rec (motive := fun _ => List Nat → Bool) (fun _ => true) (fun C _ ih Ds => List.rec (motive := fun _ => Bool) false (fun D t _ => Bool.rec false (ih t) (zc cand ck (upW w n C []) (upW v n D []))) Ds) Cs Ds
-- what is reached from t, S by act with gens
noncomputable def cl1 (act : Nat → Nat → Nat) (c : Nat) (gens : List Nat) (t S : List Nat) (k : List Nat → List Nat → Bool) : Bool :=
  List.rec (motive := fun _ => List Nat → List Nat → Bool) k (fun g _ ih t S => fo (act c g) (fun x => Bool.rec (ih (x :: t) (x :: S)) (ih t S) (el x S))) gens t S
noncomputable def clW (act : Nat → Nat → Nat) (gens : List Nat) (k : List Nat → Bool) (f : Nat) (t S : List Nat) : Bool :=
  Nat.rec (motive := fun _ => List Nat → List Nat → Bool) (fun _ S => k S) (fun _ ih t S => List.rec (motive := fun _ => Bool) (k S) (fun c t' _ => cl1 act c gens t' S ih) t) f t S
noncomputable def isPb (c : Nat) : Bool := bth (Nat.ble c 16777215) (Nat.beq (qm c (qv c)) 342391)
noncomputable def qj (t c : Nat) : Nat := qm (qm (qv t) c) t
-- a group's table
noncomputable def sls (B : Nat) (P : Nat → Bool) : Bool := Nat.rec (motive := fun _ => Nat → Bool) (fun _ => true) (fun _ ih C => Bool.rec false (fo (Nat.shiftRight C 32) ih) (fo (Nat.land C 16777215) P)) (Nat.land B 65535) (Nat.shiftRight B 16)
noncomputable def ckT (B : Nat) (gens : List Nat) (n : Nat) : Bool :=
  bth (alW gens isPb) (clW qm gens (fun S => bth (Nat.beq (ln S) n) (bth (alW S (inB B)) (bth (alW S (fun c => alW gens (fun g => inB B (qm c g)))) (sls B (fun x => Bool.rec (el x S) true (Nat.beq x 0)))))) 130 [342391] [342391])
-- enumeration of all codes
noncomputable def ef (P : Nat → Bool) (key : Nat → Nat → Bool) (f : Nat) (u a : Nat) (s : List Nat) (k : List Nat → Bool) : Bool :=
  Nat.rec (motive := fun _ => Nat → Nat → List Nat → (List Nat → Bool) → Bool) (fun _ a s k => Bool.rec (k s) (List.rec (motive := fun _ => Bool) false (fun h t _ => Bool.rec false (k t) (key h a)) s) (P a))
    (fun _ ih u a s k => Nat.rec (motive := fun _ => List Nat → Bool) k (fun i lp s => fo (Nat.sub 7 i) (fun d => Bool.rec (lp s) (fo (Nat.lor u (Nat.shiftLeft 1 d)) (fun u' => fo (Nat.add (Nat.mul a 8) d) (fun a' => ih u' a' s lp))) (Nat.beq (Nat.land (Nat.shiftRight u d) 1) 0))) 8 s) f u a s k
noncomputable def q8 (g : Nat) : Bool := fo (qm g g) (fun a => fo (qm a a) (fun b => Nat.beq (qm b b) 342391))
noncomputable def q7 (g : Nat) : Bool := fo (qm g g) (fun a => fo (qm a a) (fun b => fo (qm b a) (fun c => Nat.beq (qm c g) 342391)))
noncomputable def q5 (g : Nat) : Bool := fo (qm g g) (fun a => fo (qm a a) (fun b => Nat.beq (qm b g) 342391))
noncomputable def q3 (g : Nat) : Bool := fo (qm g g) (fun a => Nat.beq (qm a g) 342391)
