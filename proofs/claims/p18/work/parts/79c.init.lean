-- constructors
def yCm_init : MethodName := ⟨RCm, "<init>", "()V"⟩
theorem dCm_init_0 : decode prog_2_method_1_code 0 = .ok (.aload_n 0, 1) := by decide +kernel
theorem dCm_init_1 : decode prog_2_method_1_code 1 = .ok (.invokespecial 3, 3) := by decide +kernel
theorem dCm_init_4 : decode prog_2_method_1_code 4 = .ok (.aload_n 0, 1) := by decide +kernel
theorem dCm_init_5 : decode prog_2_method_1_code 5 = .ok (.iconst (0), 1) := by decide +kernel
theorem dCm_init_6 : decode prog_2_method_1_code 6 = .ok (.putfield 9, 3) := by decide +kernel
theorem dCm_init_9 : decode prog_2_method_1_code 9 = .ok (.aload_n 0, 1) := by decide +kernel
theorem dCm_init_10 : decode prog_2_method_1_code 10 = .ok (.bipush (16), 2) := by decide +kernel
theorem dCm_init_12 : decode prog_2_method_1_code 12 = .ok (.bipush (16), 2) := by decide +kernel
theorem dCm_init_14 : decode prog_2_method_1_code 14 = .ok (.multianewarray 15 2, 4) := by decide +kernel
theorem dCm_init_18 : decode prog_2_method_1_code 18 = .ok (.putfield 17, 3) := by decide +kernel
theorem dCm_init_21 : decode prog_2_method_1_code 21 = .ok (.aload_n 0, 1) := by decide +kernel
theorem dCm_init_22 : decode prog_2_method_1_code 22 = .ok (.bipush (16), 2) := by decide +kernel
theorem dCm_init_24 : decode prog_2_method_1_code 24 = .ok (.newarray .int, 2) := by decide +kernel
theorem dCm_init_26 : decode prog_2_method_1_code 26 = .ok (.putfield 20, 3) := by decide +kernel
theorem dCm_init_29 : decode prog_2_method_1_code 29 = .ok (.aload_n 0, 1) := by decide +kernel
theorem dCm_init_30 : decode prog_2_method_1_code 30 = .ok (.bipush (16), 2) := by decide +kernel
theorem dCm_init_32 : decode prog_2_method_1_code 32 = .ok (.newarray .int, 2) := by decide +kernel
theorem dCm_init_34 : decode prog_2_method_1_code 34 = .ok (.putfield 24, 3) := by decide +kernel
theorem dCm_init_37 : decode prog_2_method_1_code 37 = .ok (.aload_n 0, 1) := by decide +kernel
theorem dCm_init_38 : decode prog_2_method_1_code 38 = .ok (.bipush (16), 2) := by decide +kernel
theorem dCm_init_40 : decode prog_2_method_1_code 40 = .ok (.bipush (16), 2) := by decide +kernel
theorem dCm_init_42 : decode prog_2_method_1_code 42 = .ok (.multianewarray 15 2, 4) := by decide +kernel
theorem dCm_init_46 : decode prog_2_method_1_code 46 = .ok (.putfield 27, 3) := by decide +kernel
theorem dCm_init_49 : decode prog_2_method_1_code 49 = .ok (.aload_n 0, 1) := by decide +kernel
theorem dCm_init_50 : decode prog_2_method_1_code 50 = .ok (.bipush (16), 2) := by decide +kernel
theorem dCm_init_52 : decode prog_2_method_1_code 52 = .ok (.newarray .int, 2) := by decide +kernel
theorem dCm_init_54 : decode prog_2_method_1_code 54 = .ok (.putfield 30, 3) := by decide +kernel
theorem dCm_init_57 : decode prog_2_method_1_code 57 = .ok (.aload_n 0, 1) := by decide +kernel
theorem dCm_init_58 : decode prog_2_method_1_code 58 = .ok (.bipush (16), 2) := by decide +kernel
theorem dCm_init_60 : decode prog_2_method_1_code 60 = .ok (.bipush (16), 2) := by decide +kernel
theorem dCm_init_62 : decode prog_2_method_1_code 62 = .ok (.multianewarray 15 2, 4) := by decide +kernel
theorem dCm_init_66 : decode prog_2_method_1_code 66 = .ok (.putfield 33, 3) := by decide +kernel
theorem dCm_init_69 : decode prog_2_method_1_code 69 = .ok (.aload_n 0, 1) := by decide +kernel
theorem dCm_init_70 : decode prog_2_method_1_code 70 = .ok (.bipush (16), 2) := by decide +kernel
theorem dCm_init_72 : decode prog_2_method_1_code 72 = .ok (.bipush (16), 2) := by decide +kernel
theorem dCm_init_74 : decode prog_2_method_1_code 74 = .ok (.multianewarray 15 2, 4) := by decide +kernel
theorem dCm_init_78 : decode prog_2_method_1_code 78 = .ok (.putfield 36, 3) := by decide +kernel
theorem dCm_init_81 : decode prog_2_method_1_code 81 = .ok (.aload_n 0, 1) := by decide +kernel
theorem dCm_init_82 : decode prog_2_method_1_code 82 = .ok (.bipush (16), 2) := by decide +kernel
theorem dCm_init_84 : decode prog_2_method_1_code 84 = .ok (.newarray .int, 2) := by decide +kernel
theorem dCm_init_86 : decode prog_2_method_1_code 86 = .ok (.putfield 39, 3) := by decide +kernel
theorem dCm_init_89 : decode prog_2_method_1_code 89 = .ok (.return_, 1) := by decide +kernel
theorem mCm_init : Cond.code yCm_init prog_2_method_1_code 1 none ∈ wt := by decide +kernel
theorem miCm_init : Cond.instanceMethod yCm_init ∈ wt := by decide +kernel
theorem wt_kCm : ∀ w ∈ u_ws RCm TCm 9, w ∈ wt := by decide +kernel
abbrev finCm (cI cII : ClassId) (h0 : Nat) (u : (Nat → Nat) × (Nat → Nat → Nat)) : va_W := ((h0, .inr (4, [.int (Int32.ofInt (0)), .ref (u.1 14), .ref (u.1 15), .ref (u.1 16), .ref (u.1 17), .ref (u.1 18), .ref (u.1 19), .ref (u.1 20), .ref (u.1 21)])) :: (((((((([] ++ nwG cI cII (u.1 14) (u.2 14) 16 16) ++ nwA cI (u.1 15) 16) ++ nwA cI (u.1 16) 16) ++ nwG cI cII (u.1 17) (u.2 17) 16 16) ++ nwA cI (u.1 18) 16) ++ nwG cI cII (u.1 19) (u.2 19) 16 16) ++ nwG cI cII (u.1 20) (u.2 20) 16 16) ++ nwA cI (u.1 21) 16))
set_option maxHeartbeats 4000000 in
set_option maxRecDepth 100000 in
theorem c_Cm_init (l : Launch) (D : va_G) (cI cII : ClassId) (h0 sz : Nat) (A : Nat → Prop) (hA0 : ∀ q, sz ≤ q → A q) : Met l yCm_init (wy yCm_init prog_2_method_1_code 1 none) ({ frames := 1, cells := 72, slots := 1152, locals := 12 }) (va_Pc [.ref h0] (fun U => U.heap.size = sz ∧ va_P D kinds [(h0, .inr (4, [.int 0, .null, .null, .null, .null, .null, .null, .null, .null]))] U.heap ∧ va_K D kinds (tyI cI cII) U ∧ va_D A [(h0, .inr (4, [.int 0, .null, .null, .null, .null, .null, .null, .null, .null]))] ∧ aoI U)) (va_Qv (fun u : (Nat → Nat) × (Nat → Nat → Nat) => u = u) (fun u t => va_P D kinds (finCm cI cII h0 u) t.heap ∧ va_K D kinds (tyI cI cII) t ∧ va_D A (finCm cI cII h0 u)) A) 72 1152 A := by
  refine Met.ofW (cc := prog_2_method_1_code) (maxL := 1) (ret := none) (by decide) rfl ?_
  intro p e s m args below meth c s₁ B hml hv
  obtain ⟨rfl, hsz, hP, hK, hD, hao⟩ := hv
  have hx := B.exec
  have hb := B.bytes
  have hr := B.returns
  have hts := atoms_spec (ws := wy yCm_init prog_2_method_1_code 1 none) B.pre
  have hown : s.vm.findClass RCm = some m.cls := findClass_of_methodNamed B.named
  have hlocks := B.notSynchronized
  have hin : meth.name = "<init>" := (name_of_methodNamed B.named B.method).1
  have harr : (Cond.arrayClass .int).before _ s = true := hts (.arrayClass .int) (List.mem_cons_of_mem _ (by decide +kernel))
  have hA : ∀ q, s.heap.size ≤ q → A q := fun q h => hA0 q (by rw [← hsz]; exact h)
  have hS : va_S A s.heap s.heap [] := va_S.rf
  have hl := lv_entry ([.ref h0]) (n := 1) (Nat.le_of_ble_eq_true rfl)
  rw [lg_entry_eq]
  generalize (lg_sl ([.ref h0]) ++ List.replicate (1 - (lg_sl ([.ref h0])).length) Slot.unset).toArray = ls at hl ⊢
  have hl : lv_has ls 1 [(0, .ref h0)] := hl
  refine lv_aload_n hx hb dCm_init_0 rfl (lv_at hl 0 rfl) ?_
  refine W.objInit hx hb hown (hts (.methodLink RCm 3 objectInit) (List.mem_cons_of_mem _ (by decide +kernel))) (hts (.instanceMethod objectInit) (List.mem_cons_of_mem _ (by decide +kernel))) (hts _ (List.mem_cons_of_mem _ (show Cond.code objectInit ⟨#[0xb1]⟩ 1 none ∈ wt by decide +kernel))) rfl (by rw [hml]; exact hl.1) rfl dCm_init_1 (Nat.le_of_ble_eq_true rfl) (Nat.le_of_ble_eq_true rfl) ?_
  refine W.eq (g2 := F0 m 4 ls []) rfl ?_
  refine lv_aload_n hx hb dCm_init_4 rfl (lv_at hl 0 rfl) ?_
  refine lv_iconst hx hb dCm_init_5 rfl ?_
  refine va_put (D := D) (ci := 4) (v := .int (Int32.ofInt (0))) (ty := .int) (C := RCm) (T := TCm) (N := 9) hx hb hts (fun w hw => List.mem_cons_of_mem _ (wt_kCm w hw)) tCm tCm_ok nCm hown hK hP hD hS 0 rfl rfl 0 (by decide) (hts (.fieldLink RCm 9 "ClassCharacters$CentralMaps" "count" "I") (List.mem_cons_of_mem _ (by decide +kernel))) (fun _ h9 => h9) rfl (by decide +kernel) rfl rfl (Nat.le_of_ble_eq_true rfl) dCm_init_6 (fun H locs hP hD hS => ?_)
  have hP : va_P D kinds ((h0, .inr (4, [.int (Int32.ofInt (0)), .null, .null, .null, .null, .null, .null, .null, .null])) :: []) H := hP
  have hD : va_D A ((h0, .inr (4, [.int (Int32.ofInt (0)), .null, .null, .null, .null, .null, .null, .null, .null])) :: []) := hD
  refine lv_aload_n hx hb dCm_init_9 rfl (lv_at hl 0 rfl) ?_
  refine lv_bipush hx hb dCm_init_10 (show (Int8.ofInt 16).toInt32 = nI 16 by decide +kernel) ?_
  refine lv_bipush hx hb dCm_init_12 (show (Int8.ofInt 16).toInt32 = nI 16 by decide +kernel) ?_
  refine nw_g (n := nI 16) (k := nI 16) hx hb hown (hts (.classLink RCm 15 "[[I") (List.mem_cons_of_mem _ (by decide +kernel))) hao harr hK hP hD hS hA (by decide +kernel) (by decide +kernel) (N' := 16) (K' := 16) (by decide +kernel) (by decide +kernel) (by decide) (by decide) (Nat.le_of_ble_eq_true rfl) (Nat.le_of_ble_eq_true rfl) dCm_init_14 (fun q14 r14 H hP hD hS => ?_)
  have hP : va_P D kinds ((h0, .inr (4, [.int (Int32.ofInt (0)), .null, .null, .null, .null, .null, .null, .null, .null])) :: ([] ++ nwG cI cII q14 r14 16 16)) H := hP
  have hD : va_D A ((h0, .inr (4, [.int (Int32.ofInt (0)), .null, .null, .null, .null, .null, .null, .null, .null])) :: ([] ++ nwG cI cII q14 r14 16 16)) := hD
  refine W.widen (k := 17) (n := 272) (by omega) (by omega) ?_
  refine va_putF (D := D) (ci := 4) (v := .ref q14) (ty := .array (.array .int)) (C := RCm) (T := TCm) (N := 9) hx hb hts (fun w hw => List.mem_cons_of_mem _ (wt_kCm w hw)) tCm tCm_ok nCm hown hK hP hD hS 0 rfl rfl 1 (by decide) (hts (.fieldLink RCm 17 "ClassCharacters$CentralMaps" "basis" "[[I") (List.mem_cons_of_mem _ (by decide +kernel))) (fun _ h9 => h9) rfl hin rfl (by decide +kernel) rfl rfl (Nat.le_of_ble_eq_true rfl) dCm_init_18 (fun H locs hP hD hS => ?_)
  have hP : va_P D kinds ((h0, .inr (4, [.int (Int32.ofInt (0)), .ref q14, .null, .null, .null, .null, .null, .null, .null])) :: ([] ++ nwG cI cII q14 r14 16 16)) H := hP
  have hD : va_D A ((h0, .inr (4, [.int (Int32.ofInt (0)), .ref q14, .null, .null, .null, .null, .null, .null, .null])) :: ([] ++ nwG cI cII q14 r14 16 16)) := hD
  refine lv_aload_n hx hb dCm_init_21 rfl (lv_at hl 0 rfl) ?_
  refine lv_bipush hx hb dCm_init_22 (show (Int8.ofInt 16).toInt32 = nI 16 by decide +kernel) ?_
  refine nw_a (n := nI 16) hx hb harr hK hP hD hS hA (by decide +kernel) (N' := 16) (by decide +kernel) (by decide) (Nat.le_of_ble_eq_true rfl) (Nat.le_of_ble_eq_true rfl) dCm_init_24 (fun q15 H hP hD hS => ?_)
  have hP : va_P D kinds ((h0, .inr (4, [.int (Int32.ofInt (0)), .ref q14, .null, .null, .null, .null, .null, .null, .null])) :: (([] ++ nwG cI cII q14 r14 16 16) ++ nwA cI q15 16)) H := hP
  have hD : va_D A ((h0, .inr (4, [.int (Int32.ofInt (0)), .ref q14, .null, .null, .null, .null, .null, .null, .null])) :: (([] ++ nwG cI cII q14 r14 16 16) ++ nwA cI q15 16)) := hD
  refine W.widen (k := 18) (n := 288) (by omega) (by omega) ?_
  refine va_putF (D := D) (ci := 4) (v := .ref q15) (ty := .array .int) (C := RCm) (T := TCm) (N := 9) hx hb hts (fun w hw => List.mem_cons_of_mem _ (wt_kCm w hw)) tCm tCm_ok nCm hown hK hP hD hS 0 rfl rfl 2 (by decide) (hts (.fieldLink RCm 20 "ClassCharacters$CentralMaps" "pivots" "[I") (List.mem_cons_of_mem _ (by decide +kernel))) (fun _ h9 => h9) rfl hin rfl (by decide +kernel) rfl rfl (Nat.le_of_ble_eq_true rfl) dCm_init_26 (fun H locs hP hD hS => ?_)
  have hP : va_P D kinds ((h0, .inr (4, [.int (Int32.ofInt (0)), .ref q14, .ref q15, .null, .null, .null, .null, .null, .null])) :: (([] ++ nwG cI cII q14 r14 16 16) ++ nwA cI q15 16)) H := hP
  have hD : va_D A ((h0, .inr (4, [.int (Int32.ofInt (0)), .ref q14, .ref q15, .null, .null, .null, .null, .null, .null])) :: (([] ++ nwG cI cII q14 r14 16 16) ++ nwA cI q15 16)) := hD
  refine lv_aload_n hx hb dCm_init_29 rfl (lv_at hl 0 rfl) ?_
  refine lv_bipush hx hb dCm_init_30 (show (Int8.ofInt 16).toInt32 = nI 16 by decide +kernel) ?_
  refine nw_a (n := nI 16) hx hb harr hK hP hD hS hA (by decide +kernel) (N' := 16) (by decide +kernel) (by decide) (Nat.le_of_ble_eq_true rfl) (Nat.le_of_ble_eq_true rfl) dCm_init_32 (fun q16 H hP hD hS => ?_)
  have hP : va_P D kinds ((h0, .inr (4, [.int (Int32.ofInt (0)), .ref q14, .ref q15, .null, .null, .null, .null, .null, .null])) :: ((([] ++ nwG cI cII q14 r14 16 16) ++ nwA cI q15 16) ++ nwA cI q16 16)) H := hP
  have hD : va_D A ((h0, .inr (4, [.int (Int32.ofInt (0)), .ref q14, .ref q15, .null, .null, .null, .null, .null, .null])) :: ((([] ++ nwG cI cII q14 r14 16 16) ++ nwA cI q15 16) ++ nwA cI q16 16)) := hD
  refine W.widen (k := 19) (n := 304) (by omega) (by omega) ?_
  refine va_putF (D := D) (ci := 4) (v := .ref q16) (ty := .array .int) (C := RCm) (T := TCm) (N := 9) hx hb hts (fun w hw => List.mem_cons_of_mem _ (wt_kCm w hw)) tCm tCm_ok nCm hown hK hP hD hS 0 rfl rfl 3 (by decide) (hts (.fieldLink RCm 24 "ClassCharacters$CentralMaps" "ends" "[I") (List.mem_cons_of_mem _ (by decide +kernel))) (fun _ h9 => h9) rfl hin rfl (by decide +kernel) rfl rfl (Nat.le_of_ble_eq_true rfl) dCm_init_34 (fun H locs hP hD hS => ?_)
  have hP : va_P D kinds ((h0, .inr (4, [.int (Int32.ofInt (0)), .ref q14, .ref q15, .ref q16, .null, .null, .null, .null, .null])) :: ((([] ++ nwG cI cII q14 r14 16 16) ++ nwA cI q15 16) ++ nwA cI q16 16)) H := hP
  have hD : va_D A ((h0, .inr (4, [.int (Int32.ofInt (0)), .ref q14, .ref q15, .ref q16, .null, .null, .null, .null, .null])) :: ((([] ++ nwG cI cII q14 r14 16 16) ++ nwA cI q15 16) ++ nwA cI q16 16)) := hD
  refine lv_aload_n hx hb dCm_init_37 rfl (lv_at hl 0 rfl) ?_
  refine lv_bipush hx hb dCm_init_38 (show (Int8.ofInt 16).toInt32 = nI 16 by decide +kernel) ?_
  refine lv_bipush hx hb dCm_init_40 (show (Int8.ofInt 16).toInt32 = nI 16 by decide +kernel) ?_
  refine nw_g (n := nI 16) (k := nI 16) hx hb hown (hts (.classLink RCm 15 "[[I") (List.mem_cons_of_mem _ (by decide +kernel))) hao harr hK hP hD hS hA (by decide +kernel) (by decide +kernel) (N' := 16) (K' := 16) (by decide +kernel) (by decide +kernel) (by decide) (by decide) (Nat.le_of_ble_eq_true rfl) (Nat.le_of_ble_eq_true rfl) dCm_init_42 (fun q17 r17 H hP hD hS => ?_)
  have hP : va_P D kinds ((h0, .inr (4, [.int (Int32.ofInt (0)), .ref q14, .ref q15, .ref q16, .null, .null, .null, .null, .null])) :: (((([] ++ nwG cI cII q14 r14 16 16) ++ nwA cI q15 16) ++ nwA cI q16 16) ++ nwG cI cII q17 r17 16 16)) H := hP
  have hD : va_D A ((h0, .inr (4, [.int (Int32.ofInt (0)), .ref q14, .ref q15, .ref q16, .null, .null, .null, .null, .null])) :: (((([] ++ nwG cI cII q14 r14 16 16) ++ nwA cI q15 16) ++ nwA cI q16 16) ++ nwG cI cII q17 r17 16 16)) := hD
  refine W.widen (k := 36) (n := 576) (by omega) (by omega) ?_
  refine va_putF (D := D) (ci := 4) (v := .ref q17) (ty := .array (.array .int)) (C := RCm) (T := TCm) (N := 9) hx hb hts (fun w hw => List.mem_cons_of_mem _ (wt_kCm w hw)) tCm tCm_ok nCm hown hK hP hD hS 0 rfl rfl 4 (by decide) (hts (.fieldLink RCm 27 "ClassCharacters$CentralMaps" "parts" "[[I") (List.mem_cons_of_mem _ (by decide +kernel))) (fun _ h9 => h9) rfl hin rfl (by decide +kernel) rfl rfl (Nat.le_of_ble_eq_true rfl) dCm_init_46 (fun H locs hP hD hS => ?_)
  have hP : va_P D kinds ((h0, .inr (4, [.int (Int32.ofInt (0)), .ref q14, .ref q15, .ref q16, .ref q17, .null, .null, .null, .null])) :: (((([] ++ nwG cI cII q14 r14 16 16) ++ nwA cI q15 16) ++ nwA cI q16 16) ++ nwG cI cII q17 r17 16 16)) H := hP
  have hD : va_D A ((h0, .inr (4, [.int (Int32.ofInt (0)), .ref q14, .ref q15, .ref q16, .ref q17, .null, .null, .null, .null])) :: (((([] ++ nwG cI cII q14 r14 16 16) ++ nwA cI q15 16) ++ nwA cI q16 16) ++ nwG cI cII q17 r17 16 16)) := hD
  refine lv_aload_n hx hb dCm_init_49 rfl (lv_at hl 0 rfl) ?_
  refine lv_bipush hx hb dCm_init_50 (show (Int8.ofInt 16).toInt32 = nI 16 by decide +kernel) ?_
  refine nw_a (n := nI 16) hx hb harr hK hP hD hS hA (by decide +kernel) (N' := 16) (by decide +kernel) (by decide) (Nat.le_of_ble_eq_true rfl) (Nat.le_of_ble_eq_true rfl) dCm_init_52 (fun q18 H hP hD hS => ?_)
  have hP : va_P D kinds ((h0, .inr (4, [.int (Int32.ofInt (0)), .ref q14, .ref q15, .ref q16, .ref q17, .null, .null, .null, .null])) :: ((((([] ++ nwG cI cII q14 r14 16 16) ++ nwA cI q15 16) ++ nwA cI q16 16) ++ nwG cI cII q17 r17 16 16) ++ nwA cI q18 16)) H := hP
  have hD : va_D A ((h0, .inr (4, [.int (Int32.ofInt (0)), .ref q14, .ref q15, .ref q16, .ref q17, .null, .null, .null, .null])) :: ((((([] ++ nwG cI cII q14 r14 16 16) ++ nwA cI q15 16) ++ nwA cI q16 16) ++ nwG cI cII q17 r17 16 16) ++ nwA cI q18 16)) := hD
  refine W.widen (k := 37) (n := 592) (by omega) (by omega) ?_
  refine va_putF (D := D) (ci := 4) (v := .ref q18) (ty := .array .int) (C := RCm) (T := TCm) (N := 9) hx hb hts (fun w hw => List.mem_cons_of_mem _ (wt_kCm w hw)) tCm tCm_ok nCm hown hK hP hD hS 0 rfl rfl 5 (by decide) (hts (.fieldLink RCm 30 "ClassCharacters$CentralMaps" "partPivots" "[I") (List.mem_cons_of_mem _ (by decide +kernel))) (fun _ h9 => h9) rfl hin rfl (by decide +kernel) rfl rfl (Nat.le_of_ble_eq_true rfl) dCm_init_54 (fun H locs hP hD hS => ?_)
  have hP : va_P D kinds ((h0, .inr (4, [.int (Int32.ofInt (0)), .ref q14, .ref q15, .ref q16, .ref q17, .ref q18, .null, .null, .null])) :: ((((([] ++ nwG cI cII q14 r14 16 16) ++ nwA cI q15 16) ++ nwA cI q16 16) ++ nwG cI cII q17 r17 16 16) ++ nwA cI q18 16)) H := hP
  have hD : va_D A ((h0, .inr (4, [.int (Int32.ofInt (0)), .ref q14, .ref q15, .ref q16, .ref q17, .ref q18, .null, .null, .null])) :: ((((([] ++ nwG cI cII q14 r14 16 16) ++ nwA cI q15 16) ++ nwA cI q16 16) ++ nwG cI cII q17 r17 16 16) ++ nwA cI q18 16)) := hD
  refine lv_aload_n hx hb dCm_init_57 rfl (lv_at hl 0 rfl) ?_
  refine lv_bipush hx hb dCm_init_58 (show (Int8.ofInt 16).toInt32 = nI 16 by decide +kernel) ?_
  refine lv_bipush hx hb dCm_init_60 (show (Int8.ofInt 16).toInt32 = nI 16 by decide +kernel) ?_
  refine nw_g (n := nI 16) (k := nI 16) hx hb hown (hts (.classLink RCm 15 "[[I") (List.mem_cons_of_mem _ (by decide +kernel))) hao harr hK hP hD hS hA (by decide +kernel) (by decide +kernel) (N' := 16) (K' := 16) (by decide +kernel) (by decide +kernel) (by decide) (by decide) (Nat.le_of_ble_eq_true rfl) (Nat.le_of_ble_eq_true rfl) dCm_init_62 (fun q19 r19 H hP hD hS => ?_)
  have hP : va_P D kinds ((h0, .inr (4, [.int (Int32.ofInt (0)), .ref q14, .ref q15, .ref q16, .ref q17, .ref q18, .null, .null, .null])) :: (((((([] ++ nwG cI cII q14 r14 16 16) ++ nwA cI q15 16) ++ nwA cI q16 16) ++ nwG cI cII q17 r17 16 16) ++ nwA cI q18 16) ++ nwG cI cII q19 r19 16 16)) H := hP
  have hD : va_D A ((h0, .inr (4, [.int (Int32.ofInt (0)), .ref q14, .ref q15, .ref q16, .ref q17, .ref q18, .null, .null, .null])) :: (((((([] ++ nwG cI cII q14 r14 16 16) ++ nwA cI q15 16) ++ nwA cI q16 16) ++ nwG cI cII q17 r17 16 16) ++ nwA cI q18 16) ++ nwG cI cII q19 r19 16 16)) := hD
  refine W.widen (k := 54) (n := 864) (by omega) (by omega) ?_
  refine va_putF (D := D) (ci := 4) (v := .ref q19) (ty := .array (.array .int)) (C := RCm) (T := TCm) (N := 9) hx hb hts (fun w hw => List.mem_cons_of_mem _ (wt_kCm w hw)) tCm tCm_ok nCm hown hK hP hD hS 0 rfl rfl 6 (by decide) (hts (.fieldLink RCm 33 "ClassCharacters$CentralMaps" "action" "[[I") (List.mem_cons_of_mem _ (by decide +kernel))) (fun _ h9 => h9) rfl hin rfl (by decide +kernel) rfl rfl (Nat.le_of_ble_eq_true rfl) dCm_init_66 (fun H locs hP hD hS => ?_)
  have hP : va_P D kinds ((h0, .inr (4, [.int (Int32.ofInt (0)), .ref q14, .ref q15, .ref q16, .ref q17, .ref q18, .ref q19, .null, .null])) :: (((((([] ++ nwG cI cII q14 r14 16 16) ++ nwA cI q15 16) ++ nwA cI q16 16) ++ nwG cI cII q17 r17 16 16) ++ nwA cI q18 16) ++ nwG cI cII q19 r19 16 16)) H := hP
  have hD : va_D A ((h0, .inr (4, [.int (Int32.ofInt (0)), .ref q14, .ref q15, .ref q16, .ref q17, .ref q18, .ref q19, .null, .null])) :: (((((([] ++ nwG cI cII q14 r14 16 16) ++ nwA cI q15 16) ++ nwA cI q16 16) ++ nwG cI cII q17 r17 16 16) ++ nwA cI q18 16) ++ nwG cI cII q19 r19 16 16)) := hD
  refine lv_aload_n hx hb dCm_init_69 rfl (lv_at hl 0 rfl) ?_
  refine lv_bipush hx hb dCm_init_70 (show (Int8.ofInt 16).toInt32 = nI 16 by decide +kernel) ?_
  refine lv_bipush hx hb dCm_init_72 (show (Int8.ofInt 16).toInt32 = nI 16 by decide +kernel) ?_
  refine nw_g (n := nI 16) (k := nI 16) hx hb hown (hts (.classLink RCm 15 "[[I") (List.mem_cons_of_mem _ (by decide +kernel))) hao harr hK hP hD hS hA (by decide +kernel) (by decide +kernel) (N' := 16) (K' := 16) (by decide +kernel) (by decide +kernel) (by decide) (by decide) (Nat.le_of_ble_eq_true rfl) (Nat.le_of_ble_eq_true rfl) dCm_init_74 (fun q20 r20 H hP hD hS => ?_)
  have hP : va_P D kinds ((h0, .inr (4, [.int (Int32.ofInt (0)), .ref q14, .ref q15, .ref q16, .ref q17, .ref q18, .ref q19, .null, .null])) :: ((((((([] ++ nwG cI cII q14 r14 16 16) ++ nwA cI q15 16) ++ nwA cI q16 16) ++ nwG cI cII q17 r17 16 16) ++ nwA cI q18 16) ++ nwG cI cII q19 r19 16 16) ++ nwG cI cII q20 r20 16 16)) H := hP
  have hD : va_D A ((h0, .inr (4, [.int (Int32.ofInt (0)), .ref q14, .ref q15, .ref q16, .ref q17, .ref q18, .ref q19, .null, .null])) :: ((((((([] ++ nwG cI cII q14 r14 16 16) ++ nwA cI q15 16) ++ nwA cI q16 16) ++ nwG cI cII q17 r17 16 16) ++ nwA cI q18 16) ++ nwG cI cII q19 r19 16 16) ++ nwG cI cII q20 r20 16 16)) := hD
  refine W.widen (k := 71) (n := 1136) (by omega) (by omega) ?_
  refine va_putF (D := D) (ci := 4) (v := .ref q20) (ty := .array (.array .int)) (C := RCm) (T := TCm) (N := 9) hx hb hts (fun w hw => List.mem_cons_of_mem _ (wt_kCm w hw)) tCm tCm_ok nCm hown hK hP hD hS 0 rfl rfl 7 (by decide) (hts (.fieldLink RCm 36 "ClassCharacters$CentralMaps" "system" "[[I") (List.mem_cons_of_mem _ (by decide +kernel))) (fun _ h9 => h9) rfl hin rfl (by decide +kernel) rfl rfl (Nat.le_of_ble_eq_true rfl) dCm_init_78 (fun H locs hP hD hS => ?_)
  have hP : va_P D kinds ((h0, .inr (4, [.int (Int32.ofInt (0)), .ref q14, .ref q15, .ref q16, .ref q17, .ref q18, .ref q19, .ref q20, .null])) :: ((((((([] ++ nwG cI cII q14 r14 16 16) ++ nwA cI q15 16) ++ nwA cI q16 16) ++ nwG cI cII q17 r17 16 16) ++ nwA cI q18 16) ++ nwG cI cII q19 r19 16 16) ++ nwG cI cII q20 r20 16 16)) H := hP
  have hD : va_D A ((h0, .inr (4, [.int (Int32.ofInt (0)), .ref q14, .ref q15, .ref q16, .ref q17, .ref q18, .ref q19, .ref q20, .null])) :: ((((((([] ++ nwG cI cII q14 r14 16 16) ++ nwA cI q15 16) ++ nwA cI q16 16) ++ nwG cI cII q17 r17 16 16) ++ nwA cI q18 16) ++ nwG cI cII q19 r19 16 16) ++ nwG cI cII q20 r20 16 16)) := hD
  refine lv_aload_n hx hb dCm_init_81 rfl (lv_at hl 0 rfl) ?_
  refine lv_bipush hx hb dCm_init_82 (show (Int8.ofInt 16).toInt32 = nI 16 by decide +kernel) ?_
  refine nw_a (n := nI 16) hx hb harr hK hP hD hS hA (by decide +kernel) (N' := 16) (by decide +kernel) (by decide) (Nat.le_of_ble_eq_true rfl) (Nat.le_of_ble_eq_true rfl) dCm_init_84 (fun q21 H hP hD hS => ?_)
  have hP : va_P D kinds ((h0, .inr (4, [.int (Int32.ofInt (0)), .ref q14, .ref q15, .ref q16, .ref q17, .ref q18, .ref q19, .ref q20, .null])) :: (((((((([] ++ nwG cI cII q14 r14 16 16) ++ nwA cI q15 16) ++ nwA cI q16 16) ++ nwG cI cII q17 r17 16 16) ++ nwA cI q18 16) ++ nwG cI cII q19 r19 16 16) ++ nwG cI cII q20 r20 16 16) ++ nwA cI q21 16)) H := hP
  have hD : va_D A ((h0, .inr (4, [.int (Int32.ofInt (0)), .ref q14, .ref q15, .ref q16, .ref q17, .ref q18, .ref q19, .ref q20, .null])) :: (((((((([] ++ nwG cI cII q14 r14 16 16) ++ nwA cI q15 16) ++ nwA cI q16 16) ++ nwG cI cII q17 r17 16 16) ++ nwA cI q18 16) ++ nwG cI cII q19 r19 16 16) ++ nwG cI cII q20 r20 16 16) ++ nwA cI q21 16)) := hD
  refine W.widen (k := 72) (n := 1152) (by omega) (by omega) ?_
  refine va_putF (D := D) (ci := 4) (v := .ref q21) (ty := .array .int) (C := RCm) (T := TCm) (N := 9) hx hb hts (fun w hw => List.mem_cons_of_mem _ (wt_kCm w hw)) tCm tCm_ok nCm hown hK hP hD hS 0 rfl rfl 8 (by decide) (hts (.fieldLink RCm 39 "ClassCharacters$CentralMaps" "solvedBy" "[I") (List.mem_cons_of_mem _ (by decide +kernel))) (fun _ h9 => h9) rfl hin rfl (by decide +kernel) rfl rfl (Nat.le_of_ble_eq_true rfl) dCm_init_86 (fun H locs hP hD hS => ?_)
  have hP : va_P D kinds ((h0, .inr (4, [.int (Int32.ofInt (0)), .ref q14, .ref q15, .ref q16, .ref q17, .ref q18, .ref q19, .ref q20, .ref q21])) :: (((((((([] ++ nwG cI cII q14 r14 16 16) ++ nwA cI q15 16) ++ nwA cI q16 16) ++ nwG cI cII q17 r17 16 16) ++ nwA cI q18 16) ++ nwG cI cII q19 r19 16 16) ++ nwG cI cII q20 r20 16 16) ++ nwA cI q21 16)) H := hP
  have hD : va_D A ((h0, .inr (4, [.int (Int32.ofInt (0)), .ref q14, .ref q15, .ref q16, .ref q17, .ref q18, .ref q19, .ref q20, .ref q21])) :: (((((((([] ++ nwG cI cII q14 r14 16 16) ++ nwA cI q15 16) ++ nwA cI q16 16) ++ nwG cI cII q17 r17 16 16) ++ nwA cI q18 16) ++ nwG cI cII q19 r19 16 16) ++ nwG cI cII q20 r20 16 16) ++ nwA cI q21 16)) := hD
  refine W.widen (k := 72) (n := 1152) (by omega) (by omega) ?_
  exact W.vret hx hb hr (fun t ht hW => ⟨⟨((fun n => if n = 14 then q14 else if n = 15 then q15 else if n = 16 then q16 else if n = 17 then q17 else if n = 18 then q18 else if n = 19 then q19 else if n = 20 then q20 else if n = 21 then q21 else h0), (fun n j => if n = 14 then r14 j else if n = 17 then r17 j else if n = 19 then r19 j else if n = 20 then r20 j else 0)), rfl, rfl, by rw [ht]; exact hP, va_K.moved hW.alike hK, hD⟩, hS.F ht⟩) hS.2.2 dCm_init_89
