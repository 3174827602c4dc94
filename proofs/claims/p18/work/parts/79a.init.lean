-- constructors
def yEl_init : MethodName := ⟨REl, "<init>", "()V"⟩
theorem dEl_init_0 : decode prog_5_method_1_code 0 = .ok (.aload_n 0, 1) := by decide +kernel
theorem dEl_init_1 : decode prog_5_method_1_code 1 = .ok (.invokespecial 3, 3) := by decide +kernel
theorem dEl_init_4 : decode prog_5_method_1_code 4 = .ok (.aload_n 0, 1) := by decide +kernel
theorem dEl_init_5 : decode prog_5_method_1_code 5 = .ok (.bipush (120), 2) := by decide +kernel
theorem dEl_init_7 : decode prog_5_method_1_code 7 = .ok (.newarray .int, 2) := by decide +kernel
theorem dEl_init_9 : decode prog_5_method_1_code 9 = .ok (.putfield 9, 3) := by decide +kernel
theorem dEl_init_12 : decode prog_5_method_1_code 12 = .ok (.aload_n 0, 1) := by decide +kernel
theorem dEl_init_13 : decode prog_5_method_1_code 13 = .ok (.bipush (120), 2) := by decide +kernel
theorem dEl_init_15 : decode prog_5_method_1_code 15 = .ok (.newarray .int, 2) := by decide +kernel
theorem dEl_init_17 : decode prog_5_method_1_code 17 = .ok (.putfield 15, 3) := by decide +kernel
theorem dEl_init_20 : decode prog_5_method_1_code 20 = .ok (.aload_n 0, 1) := by decide +kernel
theorem dEl_init_21 : decode prog_5_method_1_code 21 = .ok (.iconst (0), 1) := by decide +kernel
theorem dEl_init_22 : decode prog_5_method_1_code 22 = .ok (.putfield 18, 3) := by decide +kernel
theorem dEl_init_25 : decode prog_5_method_1_code 25 = .ok (.return_, 1) := by decide +kernel
theorem mEl_init : Cond.code yEl_init prog_5_method_1_code 1 none ∈ wt := by decide +kernel
theorem miEl_init : Cond.instanceMethod yEl_init ∈ wt := by decide +kernel
theorem wt_kEl : ∀ w ∈ u_ws REl TEl 3, w ∈ wt := by decide +kernel
abbrev finEl (cI cII : ClassId) (h0 : Nat) (u : (Nat → Nat) × (Nat → Nat → Nat)) : va_W := ((h0, .inr (1, [.ref (u.1 3), .ref (u.1 4), .int (Int32.ofInt (0))])) :: (([] ++ nwA cI (u.1 3) 120) ++ nwA cI (u.1 4) 120))
set_option maxHeartbeats 4000000 in
set_option maxRecDepth 100000 in
theorem c_El_init (l : Launch) (D : va_G) (cI cII : ClassId) (h0 sz : Nat) (A : Nat → Prop) (hA0 : ∀ q, sz ≤ q → A q) : Met l yEl_init (wy yEl_init prog_5_method_1_code 1 none) ({ frames := 1, cells := 2, slots := 240, locals := 12 }) (va_Pc [.ref h0] (fun U => U.heap.size = sz ∧ va_P D kinds [(h0, .inr (1, [.null, .null, .int 0]))] U.heap ∧ va_K D kinds (tyI cI cII) U ∧ va_D A [(h0, .inr (1, [.null, .null, .int 0]))] ∧ aoI U)) (va_Qv (fun u : (Nat → Nat) × (Nat → Nat → Nat) => u = u) (fun u t => va_P D kinds (finEl cI cII h0 u) t.heap ∧ va_K D kinds (tyI cI cII) t ∧ va_D A (finEl cI cII h0 u)) A) 2 240 A := by
  refine Met.ofW (cc := prog_5_method_1_code) (maxL := 1) (ret := none) (by decide) rfl ?_
  intro p e s m args below meth c s₁ B hml hv
  obtain ⟨rfl, hsz, hP, hK, hD, hao⟩ := hv
  have hx := B.exec
  have hb := B.bytes
  have hr := B.returns
  have hts := atoms_spec (ws := wy yEl_init prog_5_method_1_code 1 none) B.pre
  have hown : s.vm.findClass REl = some m.cls := findClass_of_methodNamed B.named
  have hlocks := B.notSynchronized
  have hin : meth.name = "<init>" := (name_of_methodNamed B.named B.method).1
  have harr : (Cond.arrayClass .int).before _ s = true := hts (.arrayClass .int) (List.mem_cons_of_mem _ (by decide +kernel))
  have hA : ∀ q, s.heap.size ≤ q → A q := fun q h => hA0 q (by rw [← hsz]; exact h)
  have hS : va_S A s.heap s.heap [] := va_S.rf
  have hl := lv_entry ([.ref h0]) (n := 1) (Nat.le_of_ble_eq_true rfl)
  rw [lg_entry_eq]
  generalize (lg_sl ([.ref h0]) ++ List.replicate (1 - (lg_sl ([.ref h0])).length) Slot.unset).toArray = ls at hl ⊢
  have hl : lv_has ls 1 [(0, .ref h0)] := hl
  refine lv_aload_n hx hb dEl_init_0 rfl (lv_at hl 0 rfl) ?_
  refine W.objInit hx hb hown (hts (.methodLink REl 3 objectInit) (List.mem_cons_of_mem _ (by decide +kernel))) (hts (.instanceMethod objectInit) (List.mem_cons_of_mem _ (by decide +kernel))) (hts _ (List.mem_cons_of_mem _ (show Cond.code objectInit ⟨#[0xb1]⟩ 1 none ∈ wt by decide +kernel))) rfl (by rw [hml]; exact hl.1) rfl dEl_init_1 (Nat.le_of_ble_eq_true rfl) (Nat.le_of_ble_eq_true rfl) ?_
  refine W.eq (g2 := F0 m 4 ls []) rfl ?_
  refine lv_aload_n hx hb dEl_init_4 rfl (lv_at hl 0 rfl) ?_
  refine lv_bipush hx hb dEl_init_5 (show (Int8.ofInt 120).toInt32 = nI 120 by decide +kernel) ?_
  refine nw_a (n := nI 120) hx hb harr hK hP hD hS hA (by decide +kernel) (N' := 120) (by decide +kernel) (by decide) (Nat.le_of_ble_eq_true rfl) (Nat.le_of_ble_eq_true rfl) dEl_init_7 (fun q3 H hP hD hS => ?_)
  have hP : va_P D kinds ((h0, .inr (1, [.null, .null, .int 0])) :: ([] ++ nwA cI q3 120)) H := hP
  have hD : va_D A ((h0, .inr (1, [.null, .null, .int 0])) :: ([] ++ nwA cI q3 120)) := hD
  refine W.widen (k := 1) (n := 120) (by omega) (by omega) ?_
  refine va_putF (D := D) (ci := 1) (v := .ref q3) (ty := .array .int) (C := REl) (T := TEl) (N := 3) hx hb hts (fun w hw => List.mem_cons_of_mem _ (wt_kEl w hw)) tEl tEl_ok nEl hown hK hP hD hS 0 rfl rfl 0 (by decide) (hts (.fieldLink REl 9 "ClassCharacters$Elements" "sorted" "[I") (List.mem_cons_of_mem _ (by decide +kernel))) (fun _ h9 => h9) rfl hin rfl (by decide +kernel) rfl rfl (Nat.le_of_ble_eq_true rfl) dEl_init_9 (fun H locs hP hD hS => ?_)
  have hP : va_P D kinds ((h0, .inr (1, [.ref q3, .null, .int 0])) :: ([] ++ nwA cI q3 120)) H := hP
  have hD : va_D A ((h0, .inr (1, [.ref q3, .null, .int 0])) :: ([] ++ nwA cI q3 120)) := hD
  refine lv_aload_n hx hb dEl_init_12 rfl (lv_at hl 0 rfl) ?_
  refine lv_bipush hx hb dEl_init_13 (show (Int8.ofInt 120).toInt32 = nI 120 by decide +kernel) ?_
  refine nw_a (n := nI 120) hx hb harr hK hP hD hS hA (by decide +kernel) (N' := 120) (by decide +kernel) (by decide) (Nat.le_of_ble_eq_true rfl) (Nat.le_of_ble_eq_true rfl) dEl_init_15 (fun q4 H hP hD hS => ?_)
  have hP : va_P D kinds ((h0, .inr (1, [.ref q3, .null, .int 0])) :: (([] ++ nwA cI q3 120) ++ nwA cI q4 120)) H := hP
  have hD : va_D A ((h0, .inr (1, [.ref q3, .null, .int 0])) :: (([] ++ nwA cI q3 120) ++ nwA cI q4 120)) := hD
  refine W.widen (k := 2) (n := 240) (by omega) (by omega) ?_
  refine va_putF (D := D) (ci := 1) (v := .ref q4) (ty := .array .int) (C := REl) (T := TEl) (N := 3) hx hb hts (fun w hw => List.mem_cons_of_mem _ (wt_kEl w hw)) tEl tEl_ok nEl hown hK hP hD hS 0 rfl rfl 1 (by decide) (hts (.fieldLink REl 15 "ClassCharacters$Elements" "found" "[I") (List.mem_cons_of_mem _ (by decide +kernel))) (fun _ h9 => h9) rfl hin rfl (by decide +kernel) rfl rfl (Nat.le_of_ble_eq_true rfl) dEl_init_17 (fun H locs hP hD hS => ?_)
  have hP : va_P D kinds ((h0, .inr (1, [.ref q3, .ref q4, .int 0])) :: (([] ++ nwA cI q3 120) ++ nwA cI q4 120)) H := hP
  have hD : va_D A ((h0, .inr (1, [.ref q3, .ref q4, .int 0])) :: (([] ++ nwA cI q3 120) ++ nwA cI q4 120)) := hD
  refine lv_aload_n hx hb dEl_init_20 rfl (lv_at hl 0 rfl) ?_
  refine lv_iconst hx hb dEl_init_21 rfl ?_
  refine va_put (D := D) (ci := 1) (v := .int (Int32.ofInt (0))) (ty := .int) (C := REl) (T := TEl) (N := 3) hx hb hts (fun w hw => List.mem_cons_of_mem _ (wt_kEl w hw)) tEl tEl_ok nEl hown hK hP hD hS 0 rfl rfl 2 (by decide) (hts (.fieldLink REl 18 "ClassCharacters$Elements" "count" "I") (List.mem_cons_of_mem _ (by decide +kernel))) (fun _ h9 => h9) rfl (by decide +kernel) rfl rfl (Nat.le_of_ble_eq_true rfl) dEl_init_22 (fun H locs hP hD hS => ?_)
  have hP : va_P D kinds ((h0, .inr (1, [.ref q3, .ref q4, .int (Int32.ofInt (0))])) :: (([] ++ nwA cI q3 120) ++ nwA cI q4 120)) H := hP
  have hD : va_D A ((h0, .inr (1, [.ref q3, .ref q4, .int (Int32.ofInt (0))])) :: (([] ++ nwA cI q3 120) ++ nwA cI q4 120)) := hD
  refine W.widen (k := 2) (n := 240) (by omega) (by omega) ?_
  exact W.vret hx hb hr (fun t ht hW => ⟨⟨((fun n => if n = 3 then q3 else if n = 4 then q4 else h0), (fun n j =>  0)), rfl, rfl, by rw [ht]; exact hP, va_K.moved hW.alike hK, hD⟩, hS.F ht⟩) hS.2.2 dEl_init_25
def yRe_init : MethodName := ⟨RRe, "<init>", "()V"⟩
theorem dRe_init_0 : decode prog_6_method_1_code 0 = .ok (.aload_n 0, 1) := by decide +kernel
theorem dRe_init_1 : decode prog_6_method_1_code 1 = .ok (.invokespecial 1, 3) := by decide +kernel
theorem dRe_init_4 : decode prog_6_method_1_code 4 = .ok (.aload_n 0, 1) := by decide +kernel
theorem dRe_init_5 : decode prog_6_method_1_code 5 = .ok (.iconst (3), 1) := by decide +kernel
theorem dRe_init_6 : decode prog_6_method_1_code 6 = .ok (.putfield 7, 3) := by decide +kernel
theorem dRe_init_9 : decode prog_6_method_1_code 9 = .ok (.aload_n 0, 1) := by decide +kernel
theorem dRe_init_10 : decode prog_6_method_1_code 10 = .ok (.iconst (1), 1) := by decide +kernel
theorem dRe_init_11 : decode prog_6_method_1_code 11 = .ok (.putfield 13, 3) := by decide +kernel
theorem dRe_init_14 : decode prog_6_method_1_code 14 = .ok (.return_, 1) := by decide +kernel
theorem mRe_init : Cond.code yRe_init prog_6_method_1_code 1 none ∈ wt := by decide +kernel
theorem miRe_init : Cond.instanceMethod yRe_init ∈ wt := by decide +kernel
theorem wt_kRe : ∀ w ∈ u_ws RRe TRe 2, w ∈ wt := by decide +kernel
abbrev finRe (cI cII : ClassId) (h0 : Nat) (u : (Nat → Nat) × (Nat → Nat → Nat)) : va_W := ((h0, .inr (3, [.int (Int32.ofInt (3)), .int (Int32.ofInt (1))])) :: [])
set_option maxHeartbeats 4000000 in
set_option maxRecDepth 100000 in
theorem c_Re_init (l : Launch) (D : va_G) (cI cII : ClassId) (h0 sz : Nat) (A : Nat → Prop) (hA0 : ∀ q, sz ≤ q → A q) : Met l yRe_init (wy yRe_init prog_6_method_1_code 1 none) ({ frames := 1, cells := 0, slots := 0, locals := 12 }) (va_Pc [.ref h0] (fun U => U.heap.size = sz ∧ va_P D kinds [(h0, .inr (3, [.int 0, .int 0]))] U.heap ∧ va_K D kinds (tyI cI cII) U ∧ va_D A [(h0, .inr (3, [.int 0, .int 0]))] ∧ aoI U)) (va_Qv (fun u : (Nat → Nat) × (Nat → Nat → Nat) => u = u) (fun u t => va_P D kinds (finRe cI cII h0 u) t.heap ∧ va_K D kinds (tyI cI cII) t ∧ va_D A (finRe cI cII h0 u)) A) 0 0 A := by
  refine Met.ofW (cc := prog_6_method_1_code) (maxL := 1) (ret := none) (by decide) rfl ?_
  intro p e s m args below meth c s₁ B hml hv
  obtain ⟨rfl, hsz, hP, hK, hD, hao⟩ := hv
  have hx := B.exec
  have hb := B.bytes
  have hr := B.returns
  have hts := atoms_spec (ws := wy yRe_init prog_6_method_1_code 1 none) B.pre
  have hown : s.vm.findClass RRe = some m.cls := findClass_of_methodNamed B.named
  have hlocks := B.notSynchronized
  have hin : meth.name = "<init>" := (name_of_methodNamed B.named B.method).1
  have harr : (Cond.arrayClass .int).before _ s = true := hts (.arrayClass .int) (List.mem_cons_of_mem _ (by decide +kernel))
  have hA : ∀ q, s.heap.size ≤ q → A q := fun q h => hA0 q (by rw [← hsz]; exact h)
  have hS : va_S A s.heap s.heap [] := va_S.rf
  have hl := lv_entry ([.ref h0]) (n := 1) (Nat.le_of_ble_eq_true rfl)
  rw [lg_entry_eq]
  generalize (lg_sl ([.ref h0]) ++ List.replicate (1 - (lg_sl ([.ref h0])).length) Slot.unset).toArray = ls at hl ⊢
  have hl : lv_has ls 1 [(0, .ref h0)] := hl
  refine lv_aload_n hx hb dRe_init_0 rfl (lv_at hl 0 rfl) ?_
  refine W.objInit hx hb hown (hts (.methodLink RRe 1 objectInit) (List.mem_cons_of_mem _ (by decide +kernel))) (hts (.instanceMethod objectInit) (List.mem_cons_of_mem _ (by decide +kernel))) (hts _ (List.mem_cons_of_mem _ (show Cond.code objectInit ⟨#[0xb1]⟩ 1 none ∈ wt by decide +kernel))) rfl (by rw [hml]; exact hl.1) rfl dRe_init_1 (Nat.le_of_ble_eq_true rfl) (Nat.le_of_ble_eq_true rfl) ?_
  refine W.eq (g2 := F0 m 4 ls []) rfl ?_
  refine lv_aload_n hx hb dRe_init_4 rfl (lv_at hl 0 rfl) ?_
  refine lv_iconst hx hb dRe_init_5 rfl ?_
  refine va_put (D := D) (ci := 3) (v := .int (Int32.ofInt (3))) (ty := .int) (C := RRe) (T := TRe) (N := 2) hx hb hts (fun w hw => List.mem_cons_of_mem _ (wt_kRe w hw)) tRe tRe_ok nRe hown hK hP hD hS 0 rfl rfl 0 (by decide) (hts (.fieldLink RRe 7 "ClassCharacters$Residues" "modulus" "I") (List.mem_cons_of_mem _ (by decide +kernel))) (fun _ h9 => h9) rfl (by decide +kernel) rfl rfl (Nat.le_of_ble_eq_true rfl) dRe_init_6 (fun H locs hP hD hS => ?_)
  have hP : va_P D kinds ((h0, .inr (3, [.int (Int32.ofInt (3)), .int 0])) :: []) H := hP
  have hD : va_D A ((h0, .inr (3, [.int (Int32.ofInt (3)), .int 0])) :: []) := hD
  refine lv_aload_n hx hb dRe_init_9 rfl (lv_at hl 0 rfl) ?_
  refine lv_iconst hx hb dRe_init_10 rfl ?_
  refine va_put (D := D) (ci := 3) (v := .int (Int32.ofInt (1))) (ty := .int) (C := RRe) (T := TRe) (N := 2) hx hb hts (fun w hw => List.mem_cons_of_mem _ (wt_kRe w hw)) tRe tRe_ok nRe hown hK hP hD hS 0 rfl rfl 1 (by decide) (hts (.fieldLink RRe 13 "ClassCharacters$Residues" "leastRoot" "I") (List.mem_cons_of_mem _ (by decide +kernel))) (fun _ h9 => h9) rfl (by decide +kernel) rfl rfl (Nat.le_of_ble_eq_true rfl) dRe_init_11 (fun H locs hP hD hS => ?_)
  have hP : va_P D kinds ((h0, .inr (3, [.int (Int32.ofInt (3)), .int (Int32.ofInt (1))])) :: []) H := hP
  have hD : va_D A ((h0, .inr (3, [.int (Int32.ofInt (3)), .int (Int32.ofInt (1))])) :: []) := hD
  refine W.widen (k := 0) (n := 0) (by omega) (by omega) ?_
  exact W.vret hx hb hr (fun t ht hW => ⟨⟨((fun n =>  h0), (fun n j =>  0)), rfl, rfl, by rw [ht]; exact hP, va_K.moved hW.alike hK, hD⟩, hS.F ht⟩) hS.2.2 dRe_init_14
