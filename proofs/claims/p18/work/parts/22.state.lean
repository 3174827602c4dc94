-- the states: arrays, grids and numbers of an object of the checked program (cells 0 to 28), and of the reference (cells 0 to 10)
abbrev sA : Type := Nat → Nat → Int32
abbrev sG : Type := Nat → Nat → Nat → Int32
def cW (a : sA) (g : sG) (i : sA) : sx_M := fun n => match n with
  | 0 => .inr (.inr (0, [.inr (1, 0), .inl (i 0 1), .inl (i 0 2), .inr (2, 0), .inr (5, 0), .inr (12, 0), .inr (13, 0), .inr (22, 0)]))
  | 1 => .inl (4, a 1)
  | 2 => .inr (.inr (1, [.inr (3, 0), .inr (4, 0), .inl (i 2 2)]))
  | 3 => .inl (120, a 3)
  | 4 => .inl (120, a 4)
  | 5 => .inr (.inr (2, [.inl (i 5 0), .inr (6, 0), .inr (7, 0), .inr (8, 0), .inr (9, 0), .inr (10, 0), .inl (i 5 6), .inr (11, 0)]))
  | 6 => .inl (120, a 6)
  | 7 => .inl (16, a 7)
  | 8 => .inl (16, a 8)
  | 9 => .inr (.inl (16, 120, g 9))
  | 10 => .inl (16, a 10)
  | 11 => .inl (4096, a 11)
  | 12 => .inr (.inr (3, [.inl (i 12 0), .inl (i 12 1)]))
  | 13 => .inr (.inr (4, [.inl (i 13 0), .inr (14, 0), .inr (15, 0), .inr (16, 0), .inr (17, 0), .inr (18, 0), .inr (19, 0), .inr (20, 0), .inr (21, 0)]))
  | 14 => .inr (.inl (16, 16, g 14))
  | 15 => .inl (16, a 15)
  | 16 => .inl (16, a 16)
  | 17 => .inr (.inl (16, 16, g 17))
  | 18 => .inl (16, a 18)
  | 19 => .inr (.inl (16, 16, g 19))
  | 20 => .inr (.inl (16, 16, g 20))
  | 21 => .inl (16, a 21)
  | 22 => .inr (.inr (5, [.inl (i 22 0), .inr (23, 0), .inr (24, 0), .inr (25, 0), .inr (26, 0), .inr (27, 0), .inr (28, 0), .inl (i 22 7)]))
  | 23 => .inl (16, a 23)
  | 24 => .inr (.inl (16, 16, g 24))
  | 25 => .inl (16, a 25)
  | 26 => .inl (16, a 26)
  | 27 => .inl (16, a 27)
  | 28 => .inl (128, a 28)
  | _ => .inl (0, fun _ => 0)
theorem cW_i0_1 {a : sA} {g : sG} {i : sA} {x : Int32} : va_up (cW a g i) 0 (.inr (.inr (0, [.inr (1, 0), .inl x, .inl (i 0 2), .inr (2, 0), .inr (5, 0), .inr (12, 0), .inr (13, 0), .inr (22, 0)]))) = cW a g (va_up i 0 (va_up (i 0) 1 x)) := by
  funext k
  by_cases e : k = 0
  · subst e; rw [va_up_self]; simp [cW, va_up]
  · rw [va_up_ne _ _ e]; unfold cW; split <;> first | exact absurd rfl e | rfl | simp [va_up]
theorem cW_i0_2 {a : sA} {g : sG} {i : sA} {x : Int32} : va_up (cW a g i) 0 (.inr (.inr (0, [.inr (1, 0), .inl (i 0 1), .inl x, .inr (2, 0), .inr (5, 0), .inr (12, 0), .inr (13, 0), .inr (22, 0)]))) = cW a g (va_up i 0 (va_up (i 0) 2 x)) := by
  funext k
  by_cases e : k = 0
  · subst e; rw [va_up_self]; simp [cW, va_up]
  · rw [va_up_ne _ _ e]; unfold cW; split <;> first | exact absurd rfl e | rfl | simp [va_up]
theorem cW_a1 {a : sA} {g : sG} {i : sA} {f : Nat → Int32} : va_up (cW a g i) 1 (.inl (4, f)) = cW (va_up a 1 f) g i := by
  funext k
  by_cases e : k = 1
  · subst e; rw [va_up_self]; simp [cW, va_up]
  · rw [va_up_ne _ _ e]; unfold cW; split <;> first | exact absurd rfl e | rfl | simp [va_up]
theorem cW_i2_2 {a : sA} {g : sG} {i : sA} {x : Int32} : va_up (cW a g i) 2 (.inr (.inr (1, [.inr (3, 0), .inr (4, 0), .inl x]))) = cW a g (va_up i 2 (va_up (i 2) 2 x)) := by
  funext k
  by_cases e : k = 2
  · subst e; rw [va_up_self]; simp [cW, va_up]
  · rw [va_up_ne _ _ e]; unfold cW; split <;> first | exact absurd rfl e | rfl | simp [va_up]
theorem cW_a3 {a : sA} {g : sG} {i : sA} {f : Nat → Int32} : va_up (cW a g i) 3 (.inl (120, f)) = cW (va_up a 3 f) g i := by
  funext k
  by_cases e : k = 3
  · subst e; rw [va_up_self]; simp [cW, va_up]
  · rw [va_up_ne _ _ e]; unfold cW; split <;> first | exact absurd rfl e | rfl | simp [va_up]
theorem cW_a4 {a : sA} {g : sG} {i : sA} {f : Nat → Int32} : va_up (cW a g i) 4 (.inl (120, f)) = cW (va_up a 4 f) g i := by
  funext k
  by_cases e : k = 4
  · subst e; rw [va_up_self]; simp [cW, va_up]
  · rw [va_up_ne _ _ e]; unfold cW; split <;> first | exact absurd rfl e | rfl | simp [va_up]
theorem cW_i5_0 {a : sA} {g : sG} {i : sA} {x : Int32} : va_up (cW a g i) 5 (.inr (.inr (2, [.inl x, .inr (6, 0), .inr (7, 0), .inr (8, 0), .inr (9, 0), .inr (10, 0), .inl (i 5 6), .inr (11, 0)]))) = cW a g (va_up i 5 (va_up (i 5) 0 x)) := by
  funext k
  by_cases e : k = 5
  · subst e; rw [va_up_self]; simp [cW, va_up]
  · rw [va_up_ne _ _ e]; unfold cW; split <;> first | exact absurd rfl e | rfl | simp [va_up]
theorem cW_i5_6 {a : sA} {g : sG} {i : sA} {x : Int32} : va_up (cW a g i) 5 (.inr (.inr (2, [.inl (i 5 0), .inr (6, 0), .inr (7, 0), .inr (8, 0), .inr (9, 0), .inr (10, 0), .inl x, .inr (11, 0)]))) = cW a g (va_up i 5 (va_up (i 5) 6 x)) := by
  funext k
  by_cases e : k = 5
  · subst e; rw [va_up_self]; simp [cW, va_up]
  · rw [va_up_ne _ _ e]; unfold cW; split <;> first | exact absurd rfl e | rfl | simp [va_up]
theorem cW_a6 {a : sA} {g : sG} {i : sA} {f : Nat → Int32} : va_up (cW a g i) 6 (.inl (120, f)) = cW (va_up a 6 f) g i := by
  funext k
  by_cases e : k = 6
  · subst e; rw [va_up_self]; simp [cW, va_up]
  · rw [va_up_ne _ _ e]; unfold cW; split <;> first | exact absurd rfl e | rfl | simp [va_up]
theorem cW_a7 {a : sA} {g : sG} {i : sA} {f : Nat → Int32} : va_up (cW a g i) 7 (.inl (16, f)) = cW (va_up a 7 f) g i := by
  funext k
  by_cases e : k = 7
  · subst e; rw [va_up_self]; simp [cW, va_up]
  · rw [va_up_ne _ _ e]; unfold cW; split <;> first | exact absurd rfl e | rfl | simp [va_up]
theorem cW_a8 {a : sA} {g : sG} {i : sA} {f : Nat → Int32} : va_up (cW a g i) 8 (.inl (16, f)) = cW (va_up a 8 f) g i := by
  funext k
  by_cases e : k = 8
  · subst e; rw [va_up_self]; simp [cW, va_up]
  · rw [va_up_ne _ _ e]; unfold cW; split <;> first | exact absurd rfl e | rfl | simp [va_up]
theorem cW_g9 {a : sA} {g : sG} {i : sA} {f : Nat → Nat → Int32} : va_up (cW a g i) 9 (.inr (.inl (16, 120, f))) = cW a (va_up g 9 f) i := by
  funext k
  by_cases e : k = 9
  · subst e; rw [va_up_self]; simp [cW, va_up]
  · rw [va_up_ne _ _ e]; unfold cW; split <;> first | exact absurd rfl e | rfl | simp [va_up]
theorem cW_a10 {a : sA} {g : sG} {i : sA} {f : Nat → Int32} : va_up (cW a g i) 10 (.inl (16, f)) = cW (va_up a 10 f) g i := by
  funext k
  by_cases e : k = 10
  · subst e; rw [va_up_self]; simp [cW, va_up]
  · rw [va_up_ne _ _ e]; unfold cW; split <;> first | exact absurd rfl e | rfl | simp [va_up]
theorem cW_a11 {a : sA} {g : sG} {i : sA} {f : Nat → Int32} : va_up (cW a g i) 11 (.inl (4096, f)) = cW (va_up a 11 f) g i := by
  funext k
  by_cases e : k = 11
  · subst e; rw [va_up_self]; simp [cW, va_up]
  · rw [va_up_ne _ _ e]; unfold cW; split <;> first | exact absurd rfl e | rfl | simp [va_up]
theorem cW_i12_0 {a : sA} {g : sG} {i : sA} {x : Int32} : va_up (cW a g i) 12 (.inr (.inr (3, [.inl x, .inl (i 12 1)]))) = cW a g (va_up i 12 (va_up (i 12) 0 x)) := by
  funext k
  by_cases e : k = 12
  · subst e; rw [va_up_self]; simp [cW, va_up]
  · rw [va_up_ne _ _ e]; unfold cW; split <;> first | exact absurd rfl e | rfl | simp [va_up]
theorem cW_i12_1 {a : sA} {g : sG} {i : sA} {x : Int32} : va_up (cW a g i) 12 (.inr (.inr (3, [.inl (i 12 0), .inl x]))) = cW a g (va_up i 12 (va_up (i 12) 1 x)) := by
  funext k
  by_cases e : k = 12
  · subst e; rw [va_up_self]; simp [cW, va_up]
  · rw [va_up_ne _ _ e]; unfold cW; split <;> first | exact absurd rfl e | rfl | simp [va_up]
theorem cW_i13_0 {a : sA} {g : sG} {i : sA} {x : Int32} : va_up (cW a g i) 13 (.inr (.inr (4, [.inl x, .inr (14, 0), .inr (15, 0), .inr (16, 0), .inr (17, 0), .inr (18, 0), .inr (19, 0), .inr (20, 0), .inr (21, 0)]))) = cW a g (va_up i 13 (va_up (i 13) 0 x)) := by
  funext k
  by_cases e : k = 13
  · subst e; rw [va_up_self]; simp [cW, va_up]
  · rw [va_up_ne _ _ e]; unfold cW; split <;> first | exact absurd rfl e | rfl | simp [va_up]
theorem cW_g14 {a : sA} {g : sG} {i : sA} {f : Nat → Nat → Int32} : va_up (cW a g i) 14 (.inr (.inl (16, 16, f))) = cW a (va_up g 14 f) i := by
  funext k
  by_cases e : k = 14
  · subst e; rw [va_up_self]; simp [cW, va_up]
  · rw [va_up_ne _ _ e]; unfold cW; split <;> first | exact absurd rfl e | rfl | simp [va_up]
theorem cW_a15 {a : sA} {g : sG} {i : sA} {f : Nat → Int32} : va_up (cW a g i) 15 (.inl (16, f)) = cW (va_up a 15 f) g i := by
  funext k
  by_cases e : k = 15
  · subst e; rw [va_up_self]; simp [cW, va_up]
  · rw [va_up_ne _ _ e]; unfold cW; split <;> first | exact absurd rfl e | rfl | simp [va_up]
theorem cW_a16 {a : sA} {g : sG} {i : sA} {f : Nat → Int32} : va_up (cW a g i) 16 (.inl (16, f)) = cW (va_up a 16 f) g i := by
  funext k
  by_cases e : k = 16
  · subst e; rw [va_up_self]; simp [cW, va_up]
  · rw [va_up_ne _ _ e]; unfold cW; split <;> first | exact absurd rfl e | rfl | simp [va_up]
theorem cW_g17 {a : sA} {g : sG} {i : sA} {f : Nat → Nat → Int32} : va_up (cW a g i) 17 (.inr (.inl (16, 16, f))) = cW a (va_up g 17 f) i := by
  funext k
  by_cases e : k = 17
  · subst e; rw [va_up_self]; simp [cW, va_up]
  · rw [va_up_ne _ _ e]; unfold cW; split <;> first | exact absurd rfl e | rfl | simp [va_up]
theorem cW_a18 {a : sA} {g : sG} {i : sA} {f : Nat → Int32} : va_up (cW a g i) 18 (.inl (16, f)) = cW (va_up a 18 f) g i := by
  funext k
  by_cases e : k = 18
  · subst e; rw [va_up_self]; simp [cW, va_up]
  · rw [va_up_ne _ _ e]; unfold cW; split <;> first | exact absurd rfl e | rfl | simp [va_up]
theorem cW_g19 {a : sA} {g : sG} {i : sA} {f : Nat → Nat → Int32} : va_up (cW a g i) 19 (.inr (.inl (16, 16, f))) = cW a (va_up g 19 f) i := by
  funext k
  by_cases e : k = 19
  · subst e; rw [va_up_self]; simp [cW, va_up]
  · rw [va_up_ne _ _ e]; unfold cW; split <;> first | exact absurd rfl e | rfl | simp [va_up]
theorem cW_g20 {a : sA} {g : sG} {i : sA} {f : Nat → Nat → Int32} : va_up (cW a g i) 20 (.inr (.inl (16, 16, f))) = cW a (va_up g 20 f) i := by
  funext k
  by_cases e : k = 20
  · subst e; rw [va_up_self]; simp [cW, va_up]
  · rw [va_up_ne _ _ e]; unfold cW; split <;> first | exact absurd rfl e | rfl | simp [va_up]
theorem cW_a21 {a : sA} {g : sG} {i : sA} {f : Nat → Int32} : va_up (cW a g i) 21 (.inl (16, f)) = cW (va_up a 21 f) g i := by
  funext k
  by_cases e : k = 21
  · subst e; rw [va_up_self]; simp [cW, va_up]
  · rw [va_up_ne _ _ e]; unfold cW; split <;> first | exact absurd rfl e | rfl | simp [va_up]
theorem cW_i22_0 {a : sA} {g : sG} {i : sA} {x : Int32} : va_up (cW a g i) 22 (.inr (.inr (5, [.inl x, .inr (23, 0), .inr (24, 0), .inr (25, 0), .inr (26, 0), .inr (27, 0), .inr (28, 0), .inl (i 22 7)]))) = cW a g (va_up i 22 (va_up (i 22) 0 x)) := by
  funext k
  by_cases e : k = 22
  · subst e; rw [va_up_self]; simp [cW, va_up]
  · rw [va_up_ne _ _ e]; unfold cW; split <;> first | exact absurd rfl e | rfl | simp [va_up]
theorem cW_i22_7 {a : sA} {g : sG} {i : sA} {x : Int32} : va_up (cW a g i) 22 (.inr (.inr (5, [.inl (i 22 0), .inr (23, 0), .inr (24, 0), .inr (25, 0), .inr (26, 0), .inr (27, 0), .inr (28, 0), .inl x]))) = cW a g (va_up i 22 (va_up (i 22) 7 x)) := by
  funext k
  by_cases e : k = 22
  · subst e; rw [va_up_self]; simp [cW, va_up]
  · rw [va_up_ne _ _ e]; unfold cW; split <;> first | exact absurd rfl e | rfl | simp [va_up]
theorem cW_a23 {a : sA} {g : sG} {i : sA} {f : Nat → Int32} : va_up (cW a g i) 23 (.inl (16, f)) = cW (va_up a 23 f) g i := by
  funext k
  by_cases e : k = 23
  · subst e; rw [va_up_self]; simp [cW, va_up]
  · rw [va_up_ne _ _ e]; unfold cW; split <;> first | exact absurd rfl e | rfl | simp [va_up]
theorem cW_g24 {a : sA} {g : sG} {i : sA} {f : Nat → Nat → Int32} : va_up (cW a g i) 24 (.inr (.inl (16, 16, f))) = cW a (va_up g 24 f) i := by
  funext k
  by_cases e : k = 24
  · subst e; rw [va_up_self]; simp [cW, va_up]
  · rw [va_up_ne _ _ e]; unfold cW; split <;> first | exact absurd rfl e | rfl | simp [va_up]
theorem cW_a25 {a : sA} {g : sG} {i : sA} {f : Nat → Int32} : va_up (cW a g i) 25 (.inl (16, f)) = cW (va_up a 25 f) g i := by
  funext k
  by_cases e : k = 25
  · subst e; rw [va_up_self]; simp [cW, va_up]
  · rw [va_up_ne _ _ e]; unfold cW; split <;> first | exact absurd rfl e | rfl | simp [va_up]
theorem cW_a26 {a : sA} {g : sG} {i : sA} {f : Nat → Int32} : va_up (cW a g i) 26 (.inl (16, f)) = cW (va_up a 26 f) g i := by
  funext k
  by_cases e : k = 26
  · subst e; rw [va_up_self]; simp [cW, va_up]
  · rw [va_up_ne _ _ e]; unfold cW; split <;> first | exact absurd rfl e | rfl | simp [va_up]
theorem cW_a27 {a : sA} {g : sG} {i : sA} {f : Nat → Int32} : va_up (cW a g i) 27 (.inl (16, f)) = cW (va_up a 27 f) g i := by
  funext k
  by_cases e : k = 27
  · subst e; rw [va_up_self]; simp [cW, va_up]
  · rw [va_up_ne _ _ e]; unfold cW; split <;> first | exact absurd rfl e | rfl | simp [va_up]
theorem cW_a28 {a : sA} {g : sG} {i : sA} {f : Nat → Int32} : va_up (cW a g i) 28 (.inl (128, f)) = cW (va_up a 28 f) g i := by
  funext k
  by_cases e : k = 28
  · subst e; rw [va_up_self]; simp [cW, va_up]
  · rw [va_up_ne _ _ e]; unfold cW; split <;> first | exact absurd rfl e | rfl | simp [va_up]
def mW (a : sA) (i : sA) : sx_M := fun n => match n with
  | 0 => .inr (.inr (6, [.inl (i 0 0), .inr (1, 0), .inl (i 0 2), .inl (i 0 3), .inr (2, 0), .inr (3, 0), .inl (i 0 6), .inr (4, 0), .inr (5, 0), .inr (6, 0), .inl (i 0 10), .inl (i 0 11), .inl (i 0 12), .inr (7, 0), .inl (i 0 14), .inr (8, 0), .inr (9, 0), .inr (10, 0)]))
  | 1 => .inl (4, a 1)
  | 2 => .inl (120, a 2)
  | 3 => .inl (120, a 3)
  | 4 => .inl (16, a 4)
  | 5 => .inl (16, a 5)
  | 6 => .inl (4096, a 6)
  | 7 => .inl (640, a 7)
  | 8 => .inl (16, a 8)
  | 9 => .inl (256, a 9)
  | 10 => .inl (200, a 10)
  | _ => .inl (0, fun _ => 0)
theorem mW_i0_0 {a : sA} {i : sA} {x : Int32} : va_up (mW a i) 0 (.inr (.inr (6, [.inl x, .inr (1, 0), .inl (i 0 2), .inl (i 0 3), .inr (2, 0), .inr (3, 0), .inl (i 0 6), .inr (4, 0), .inr (5, 0), .inr (6, 0), .inl (i 0 10), .inl (i 0 11), .inl (i 0 12), .inr (7, 0), .inl (i 0 14), .inr (8, 0), .inr (9, 0), .inr (10, 0)]))) = mW a (va_up i 0 (va_up (i 0) 0 x)) := by
  funext k
  by_cases e : k = 0
  · subst e; rw [va_up_self]; simp [mW, va_up]
  · rw [va_up_ne _ _ e]; unfold mW; split <;> first | exact absurd rfl e | rfl | simp [va_up]
theorem mW_i0_2 {a : sA} {i : sA} {x : Int32} : va_up (mW a i) 0 (.inr (.inr (6, [.inl (i 0 0), .inr (1, 0), .inl x, .inl (i 0 3), .inr (2, 0), .inr (3, 0), .inl (i 0 6), .inr (4, 0), .inr (5, 0), .inr (6, 0), .inl (i 0 10), .inl (i 0 11), .inl (i 0 12), .inr (7, 0), .inl (i 0 14), .inr (8, 0), .inr (9, 0), .inr (10, 0)]))) = mW a (va_up i 0 (va_up (i 0) 2 x)) := by
  funext k
  by_cases e : k = 0
  · subst e; rw [va_up_self]; simp [mW, va_up]
  · rw [va_up_ne _ _ e]; unfold mW; split <;> first | exact absurd rfl e | rfl | simp [va_up]
theorem mW_i0_3 {a : sA} {i : sA} {x : Int32} : va_up (mW a i) 0 (.inr (.inr (6, [.inl (i 0 0), .inr (1, 0), .inl (i 0 2), .inl x, .inr (2, 0), .inr (3, 0), .inl (i 0 6), .inr (4, 0), .inr (5, 0), .inr (6, 0), .inl (i 0 10), .inl (i 0 11), .inl (i 0 12), .inr (7, 0), .inl (i 0 14), .inr (8, 0), .inr (9, 0), .inr (10, 0)]))) = mW a (va_up i 0 (va_up (i 0) 3 x)) := by
  funext k
  by_cases e : k = 0
  · subst e; rw [va_up_self]; simp [mW, va_up]
  · rw [va_up_ne _ _ e]; unfold mW; split <;> first | exact absurd rfl e | rfl | simp [va_up]
theorem mW_i0_6 {a : sA} {i : sA} {x : Int32} : va_up (mW a i) 0 (.inr (.inr (6, [.inl (i 0 0), .inr (1, 0), .inl (i 0 2), .inl (i 0 3), .inr (2, 0), .inr (3, 0), .inl x, .inr (4, 0), .inr (5, 0), .inr (6, 0), .inl (i 0 10), .inl (i 0 11), .inl (i 0 12), .inr (7, 0), .inl (i 0 14), .inr (8, 0), .inr (9, 0), .inr (10, 0)]))) = mW a (va_up i 0 (va_up (i 0) 6 x)) := by
  funext k
  by_cases e : k = 0
  · subst e; rw [va_up_self]; simp [mW, va_up]
  · rw [va_up_ne _ _ e]; unfold mW; split <;> first | exact absurd rfl e | rfl | simp [va_up]
theorem mW_i0_10 {a : sA} {i : sA} {x : Int32} : va_up (mW a i) 0 (.inr (.inr (6, [.inl (i 0 0), .inr (1, 0), .inl (i 0 2), .inl (i 0 3), .inr (2, 0), .inr (3, 0), .inl (i 0 6), .inr (4, 0), .inr (5, 0), .inr (6, 0), .inl x, .inl (i 0 11), .inl (i 0 12), .inr (7, 0), .inl (i 0 14), .inr (8, 0), .inr (9, 0), .inr (10, 0)]))) = mW a (va_up i 0 (va_up (i 0) 10 x)) := by
  funext k
  by_cases e : k = 0
  · subst e; rw [va_up_self]; simp [mW, va_up]
  · rw [va_up_ne _ _ e]; unfold mW; split <;> first | exact absurd rfl e | rfl | simp [va_up]
theorem mW_i0_11 {a : sA} {i : sA} {x : Int32} : va_up (mW a i) 0 (.inr (.inr (6, [.inl (i 0 0), .inr (1, 0), .inl (i 0 2), .inl (i 0 3), .inr (2, 0), .inr (3, 0), .inl (i 0 6), .inr (4, 0), .inr (5, 0), .inr (6, 0), .inl (i 0 10), .inl x, .inl (i 0 12), .inr (7, 0), .inl (i 0 14), .inr (8, 0), .inr (9, 0), .inr (10, 0)]))) = mW a (va_up i 0 (va_up (i 0) 11 x)) := by
  funext k
  by_cases e : k = 0
  · subst e; rw [va_up_self]; simp [mW, va_up]
  · rw [va_up_ne _ _ e]; unfold mW; split <;> first | exact absurd rfl e | rfl | simp [va_up]
theorem mW_i0_12 {a : sA} {i : sA} {x : Int32} : va_up (mW a i) 0 (.inr (.inr (6, [.inl (i 0 0), .inr (1, 0), .inl (i 0 2), .inl (i 0 3), .inr (2, 0), .inr (3, 0), .inl (i 0 6), .inr (4, 0), .inr (5, 0), .inr (6, 0), .inl (i 0 10), .inl (i 0 11), .inl x, .inr (7, 0), .inl (i 0 14), .inr (8, 0), .inr (9, 0), .inr (10, 0)]))) = mW a (va_up i 0 (va_up (i 0) 12 x)) := by
  funext k
  by_cases e : k = 0
  · subst e; rw [va_up_self]; simp [mW, va_up]
  · rw [va_up_ne _ _ e]; unfold mW; split <;> first | exact absurd rfl e | rfl | simp [va_up]
theorem mW_i0_14 {a : sA} {i : sA} {x : Int32} : va_up (mW a i) 0 (.inr (.inr (6, [.inl (i 0 0), .inr (1, 0), .inl (i 0 2), .inl (i 0 3), .inr (2, 0), .inr (3, 0), .inl (i 0 6), .inr (4, 0), .inr (5, 0), .inr (6, 0), .inl (i 0 10), .inl (i 0 11), .inl (i 0 12), .inr (7, 0), .inl x, .inr (8, 0), .inr (9, 0), .inr (10, 0)]))) = mW a (va_up i 0 (va_up (i 0) 14 x)) := by
  funext k
  by_cases e : k = 0
  · subst e; rw [va_up_self]; simp [mW, va_up]
  · rw [va_up_ne _ _ e]; unfold mW; split <;> first | exact absurd rfl e | rfl | simp [va_up]
theorem mW_a1 {a : sA} {i : sA} {f : Nat → Int32} : va_up (mW a i) 1 (.inl (4, f)) = mW (va_up a 1 f) i := by
  funext k
  by_cases e : k = 1
  · subst e; rw [va_up_self]; simp [mW, va_up]
  · rw [va_up_ne _ _ e]; unfold mW; split <;> first | exact absurd rfl e | rfl | simp [va_up]
theorem mW_a2 {a : sA} {i : sA} {f : Nat → Int32} : va_up (mW a i) 2 (.inl (120, f)) = mW (va_up a 2 f) i := by
  funext k
  by_cases e : k = 2
  · subst e; rw [va_up_self]; simp [mW, va_up]
  · rw [va_up_ne _ _ e]; unfold mW; split <;> first | exact absurd rfl e | rfl | simp [va_up]
theorem mW_a3 {a : sA} {i : sA} {f : Nat → Int32} : va_up (mW a i) 3 (.inl (120, f)) = mW (va_up a 3 f) i := by
  funext k
  by_cases e : k = 3
  · subst e; rw [va_up_self]; simp [mW, va_up]
  · rw [va_up_ne _ _ e]; unfold mW; split <;> first | exact absurd rfl e | rfl | simp [va_up]
theorem mW_a4 {a : sA} {i : sA} {f : Nat → Int32} : va_up (mW a i) 4 (.inl (16, f)) = mW (va_up a 4 f) i := by
  funext k
  by_cases e : k = 4
  · subst e; rw [va_up_self]; simp [mW, va_up]
  · rw [va_up_ne _ _ e]; unfold mW; split <;> first | exact absurd rfl e | rfl | simp [va_up]
theorem mW_a5 {a : sA} {i : sA} {f : Nat → Int32} : va_up (mW a i) 5 (.inl (16, f)) = mW (va_up a 5 f) i := by
  funext k
  by_cases e : k = 5
  · subst e; rw [va_up_self]; simp [mW, va_up]
  · rw [va_up_ne _ _ e]; unfold mW; split <;> first | exact absurd rfl e | rfl | simp [va_up]
theorem mW_a6 {a : sA} {i : sA} {f : Nat → Int32} : va_up (mW a i) 6 (.inl (4096, f)) = mW (va_up a 6 f) i := by
  funext k
  by_cases e : k = 6
  · subst e; rw [va_up_self]; simp [mW, va_up]
  · rw [va_up_ne _ _ e]; unfold mW; split <;> first | exact absurd rfl e | rfl | simp [va_up]
theorem mW_a7 {a : sA} {i : sA} {f : Nat → Int32} : va_up (mW a i) 7 (.inl (640, f)) = mW (va_up a 7 f) i := by
  funext k
  by_cases e : k = 7
  · subst e; rw [va_up_self]; simp [mW, va_up]
  · rw [va_up_ne _ _ e]; unfold mW; split <;> first | exact absurd rfl e | rfl | simp [va_up]
theorem mW_a8 {a : sA} {i : sA} {f : Nat → Int32} : va_up (mW a i) 8 (.inl (16, f)) = mW (va_up a 8 f) i := by
  funext k
  by_cases e : k = 8
  · subst e; rw [va_up_self]; simp [mW, va_up]
  · rw [va_up_ne _ _ e]; unfold mW; split <;> first | exact absurd rfl e | rfl | simp [va_up]
theorem mW_a9 {a : sA} {i : sA} {f : Nat → Int32} : va_up (mW a i) 9 (.inl (256, f)) = mW (va_up a 9 f) i := by
  funext k
  by_cases e : k = 9
  · subst e; rw [va_up_self]; simp [mW, va_up]
  · rw [va_up_ne _ _ e]; unfold mW; split <;> first | exact absurd rfl e | rfl | simp [va_up]
theorem mW_a10 {a : sA} {i : sA} {f : Nat → Int32} : va_up (mW a i) 10 (.inl (200, f)) = mW (va_up a 10 f) i := by
  funext k
  by_cases e : k = 10
  · subst e; rw [va_up_self]; simp [mW, va_up]
  · rw [va_up_ne _ _ e]; unfold mW; split <;> first | exact absurd rfl e | rfl | simp [va_up]
