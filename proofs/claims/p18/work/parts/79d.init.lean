-- constructors
def yRo_init : MethodName := ⟨RRo, "<init>", "()V"⟩
theorem dRo_init_0 : decode prog_7_method_1_code 0 = .ok (.aload_n 0, 1) := by decide +kernel
theorem dRo_init_1 : decode prog_7_method_1_code 1 = .ok (.invokespecial 3, 3) := by decide +kernel
theorem dRo_init_4 : decode prog_7_method_1_code 4 = .ok (.aload_n 0, 1) := by decide +kernel
theorem dRo_init_5 : decode prog_7_method_1_code 5 = .ok (.iconst (0), 1) := by decide +kernel
theorem dRo_init_6 : decode prog_7_method_1_code 6 = .ok (.putfield 9, 3) := by decide +kernel
theorem dRo_init_9 : decode prog_7_method_1_code 9 = .ok (.aload_n 0, 1) := by decide +kernel
theorem dRo_init_10 : decode prog_7_method_1_code 10 = .ok (.bipush (16), 2) := by decide +kernel
theorem dRo_init_12 : decode prog_7_method_1_code 12 = .ok (.newarray .int, 2) := by decide +kernel
theorem dRo_init_14 : decode prog_7_method_1_code 14 = .ok (.putfield 15, 3) := by decide +kernel
theorem dRo_init_17 : decode prog_7_method_1_code 17 = .ok (.aload_n 0, 1) := by decide +kernel
theorem dRo_init_18 : decode prog_7_method_1_code 18 = .ok (.bipush (16), 2) := by decide +kernel
theorem dRo_init_20 : decode prog_7_method_1_code 20 = .ok (.bipush (16), 2) := by decide +kernel
theorem dRo_init_22 : decode prog_7_method_1_code 22 = .ok (.multianewarray 19 2, 4) := by decide +kernel
theorem dRo_init_26 : decode prog_7_method_1_code 26 = .ok (.putfield 21, 3) := by decide +kernel
theorem dRo_init_29 : decode prog_7_method_1_code 29 = .ok (.aload_n 0, 1) := by decide +kernel
theorem dRo_init_30 : decode prog_7_method_1_code 30 = .ok (.bipush (16), 2) := by decide +kernel
theorem dRo_init_32 : decode prog_7_method_1_code 32 = .ok (.newarray .int, 2) := by decide +kernel
theorem dRo_init_34 : decode prog_7_method_1_code 34 = .ok (.putfield 24, 3) := by decide +kernel
theorem dRo_init_37 : decode prog_7_method_1_code 37 = .ok (.aload_n 0, 1) := by decide +kernel
theorem dRo_init_38 : decode prog_7_method_1_code 38 = .ok (.bipush (16), 2) := by decide +kernel
theorem dRo_init_40 : decode prog_7_method_1_code 40 = .ok (.newarray .int, 2) := by decide +kernel
theorem dRo_init_42 : decode prog_7_method_1_code 42 = .ok (.putfield 27, 3) := by decide +kernel
theorem dRo_init_45 : decode prog_7_method_1_code 45 = .ok (.aload_n 0, 1) := by decide +kernel
theorem dRo_init_46 : decode prog_7_method_1_code 46 = .ok (.bipush (16), 2) := by decide +kernel
theorem dRo_init_48 : decode prog_7_method_1_code 48 = .ok (.newarray .int, 2) := by decide +kernel
theorem dRo_init_50 : decode prog_7_method_1_code 50 = .ok (.putfield 30, 3) := by decide +kernel
theorem dRo_init_53 : decode prog_7_method_1_code 53 = .ok (.aload_n 0, 1) := by decide +kernel
theorem dRo_init_54 : decode prog_7_method_1_code 54 = .ok (.sipush (128), 3) := by decide +kernel
theorem dRo_init_57 : decode prog_7_method_1_code 57 = .ok (.newarray .int, 2) := by decide +kernel
theorem dRo_init_59 : decode prog_7_method_1_code 59 = .ok (.putfield 33, 3) := by decide +kernel
theorem dRo_init_62 : decode prog_7_method_1_code 62 = .ok (.aload_n 0, 1) := by decide +kernel
theorem dRo_init_63 : decode prog_7_method_1_code 63 = .ok (.iconst (0), 1) := by decide +kernel
theorem dRo_init_64 : decode prog_7_method_1_code 64 = .ok (.putfield 36, 3) := by decide +kernel
theorem dRo_init_67 : decode prog_7_method_1_code 67 = .ok (.return_, 1) := by decide +kernel
theorem mRo_init : Cond.code yRo_init prog_7_method_1_code 1 none ∈ wt := by decide +kernel
theorem miRo_init : Cond.instanceMethod yRo_init ∈ wt := by decide +kernel
theorem wt_kRo : ∀ w ∈ u_ws RRo TRo 8, w ∈ wt := by decide +kernel
abbrev finRo (cI cII : ClassId) (h0 : Nat) (u : (Nat → Nat) × (Nat → Nat → Nat)) : va_W := ((h0, .inr (5, [.int (Int32.ofInt (0)), .ref (u.1 23), .ref (u.1 24), .ref (u.1 25), .ref (u.1 26), .ref (u.1 27), .ref (u.1 28), .int (Int32.ofInt (0))])) :: (((((([] ++ nwA cI (u.1 23) 16) ++ nwG cI cII (u.1 24) (u.2 24) 16 16) ++ nwA cI (u.1 25) 16) ++ nwA cI (u.1 26) 16) ++ nwA cI (u.1 27) 16) ++ nwA cI (u.1 28) 128))
set_option maxHeartbeats 4000000 in
set_option maxRecDepth 100000 in
theorem c_Ro_init (l : Launch) (D : va_G) (cI cII : ClassId) (h0 sz : Nat) (A : Nat → Prop) (hA0 : ∀ q, sz ≤ q → A q) : Met l yRo_init (wy yRo_init prog_7_method_1_code 1 none) ({ frames := 1, cells := 22, slots := 464, locals := 12 }) (va_Pc [.ref h0] (fun U => U.heap.size = sz ∧ va_P D kinds [(h0, .inr (5, [.int 0, .null, .null, .null, .null, .null, .null, .int 0]))] U.heap ∧ va_K D kinds (tyI cI cII) U ∧ va_D A [(h0, .inr (5, [.int 0, .null, .null, .null, .null, .null, .null, .int 0]))] ∧ aoI U)) (va_Qv (fun u : (Nat → Nat) × (Nat → Nat → Nat) => u = u) (fun u t => va_P D kinds (finRo cI cII h0 u) t.heap ∧ va_K D kinds (tyI cI cII) t ∧ va_D A (finRo cI cII h0 u)) A) 22 464 A := by
  refine Met.ofW (cc := prog_7_method_1_code) (maxL := 1) (ret := none) (by decide) rfl ?_
  intro p e s m args below meth c s₁ B hml hv
  obtain ⟨rfl, hsz, hP, hK, hD, hao⟩ := hv
  have hx := B.exec
  have hb := B.bytes
  have hr := B.returns
  have hts := atoms_spec (ws := wy yRo_init prog_7_method_1_code 1 none) B.pre
  have hown : s.vm.findClass RRo = some m.cls := findClass_of_methodNamed B.named
  have hlocks := B.notSynchronized
  have hin : meth.name = "<init>" := (name_of_methodNamed B.named B.method).1
  have harr : (Cond.arrayClass .int).before _ s = true := hts (.arrayClass .int) (List.mem_cons_of_mem _ (by decide +kernel))
  have hA : ∀ q, s.heap.size ≤ q → A q := fun q h => hA0 q (by rw [← hsz]; exact h)
  have hS : va_S A s.heap s.heap [] := va_S.rf
  have hl := lv_entry ([.ref h0]) (n := 1) (Nat.le_of_ble_eq_true rfl)
  rw [lg_entry_eq]
  generalize (lg_sl ([.ref h0]) ++ List.replicate (1 - (lg_sl ([.ref h0])).length) Slot.unset).toArray = ls at hl ⊢
  have hl : lv_has ls 1 [(0, .ref h0)] := hl
  refine lv_aload_n hx hb dRo_init_0 rfl (lv_at hl 0 rfl) ?_
  refine W.objInit hx hb hown (hts (.methodLink RRo 3 objectInit) (List.mem_cons_of_mem _ (by decide +kernel))) (hts (.instanceMethod objectInit) (List.mem_cons_of_mem _ (by decide +kernel))) (hts _ (List.mem_cons_of_mem _ (show Cond.code objectInit ⟨#[0xb1]⟩ 1 none ∈ wt by decide +kernel))) rfl (by rw [hml]; exact hl.1) rfl dRo_init_1 (Nat.le_of_ble_eq_true rfl) (Nat.le_of_ble_eq_true rfl) ?_
  refine W.eq (g2 := F0 m 4 ls []) rfl ?_
  refine lv_aload_n hx hb dRo_init_4 rfl (lv_at hl 0 rfl) ?_
  refine lv_iconst hx hb dRo_init_5 rfl ?_
  refine va_put (D := D) (ci := 5) (v := .int (Int32.ofInt (0))) (ty := .int) (C := RRo) (T := TRo) (N := 8) hx hb hts (fun w hw => List.mem_cons_of_mem _ (wt_kRo w hw)) tRo tRo_ok nRo hown hK hP hD hS 0 rfl rfl 0 (by decide) (hts (.fieldLink RRo 9 "ClassCharacters$Rows" "count" "I") (List.mem_cons_of_mem _ (by decide +kernel))) (fun _ h9 => h9) rfl (by decide +kernel) rfl rfl (Nat.le_of_ble_eq_true rfl) dRo_init_6 (fun H locs hP hD hS => ?_)
  have hP : va_P D kinds ((h0, .inr (5, [.int (Int32.ofInt (0)), .null, .null, .null, .null, .null, .null, .int 0])) :: []) H := hP
  have hD : va_D A ((h0, .inr (5, [.int (Int32.ofInt (0)), .null, .null, .null, .null, .null, .null, .int 0])) :: []) := hD
  refine lv_aload_n hx hb dRo_init_9 rfl (lv_at hl 0 rfl) ?_
  refine lv_bipush hx hb dRo_init_10 (show (Int8.ofInt 16).toInt32 = nI 16 by decide +kernel) ?_
  refine nw_a (n := nI 16) hx hb harr hK hP hD hS hA (by decide +kernel) (N' := 16) (by decide +kernel) (by decide) (Nat.le_of_ble_eq_true rfl) (Nat.le_of_ble_eq_true rfl) dRo_init_12 (fun q23 H hP hD hS => ?_)
  have hP : va_P D kinds ((h0, .inr (5, [.int (Int32.ofInt (0)), .null, .null, .null, .null, .null, .null, .int 0])) :: ([] ++ nwA cI q23 16)) H := hP
  have hD : va_D A ((h0, .inr (5, [.int (Int32.ofInt (0)), .null, .null, .null, .null, .null, .null, .int 0])) :: ([] ++ nwA cI q23 16)) := hD
  refine W.widen (k := 1) (n := 16) (by omega) (by omega) ?_
  refine va_putF (D := D) (ci := 5) (v := .ref q23) (ty := .array .int) (C := RRo) (T := TRo) (N := 8) hx hb hts (fun w hw => List.mem_cons_of_mem _ (wt_kRo w hw)) tRo tRo_ok nRo hown hK hP hD hS 0 rfl rfl 1 (by decide) (hts (.fieldLink RRo 15 "ClassCharacters$Rows" "degrees" "[I") (List.mem_cons_of_mem _ (by decide +kernel))) (fun _ h9 => h9) rfl hin rfl (by decide +kernel) rfl rfl (Nat.le_of_ble_eq_true rfl) dRo_init_14 (fun H locs hP hD hS => ?_)
  have hP : va_P D kinds ((h0, .inr (5, [.int (Int32.ofInt (0)), .ref q23, .null, .null, .null, .null, .null, .int 0])) :: ([] ++ nwA cI q23 16)) H := hP
  have hD : va_D A ((h0, .inr (5, [.int (Int32.ofInt (0)), .ref q23, .null, .null, .null, .null, .null, .int 0])) :: ([] ++ nwA cI q23 16)) := hD
  refine lv_aload_n hx hb dRo_init_17 rfl (lv_at hl 0 rfl) ?_
  refine lv_bipush hx hb dRo_init_18 (show (Int8.ofInt 16).toInt32 = nI 16 by decide +kernel) ?_
  refine lv_bipush hx hb dRo_init_20 (show (Int8.ofInt 16).toInt32 = nI 16 by decide +kernel) ?_
  refine nw_g (n := nI 16) (k := nI 16) hx hb hown (hts (.classLink RRo 19 "[[I") (List.mem_cons_of_mem _ (by decide +kernel))) hao harr hK hP hD hS hA (by decide +kernel) (by decide +kernel) (N' := 16) (K' := 16) (by decide +kernel) (by decide +kernel) (by decide) (by decide) (Nat.le_of_ble_eq_true rfl) (Nat.le_of_ble_eq_true rfl) dRo_init_22 (fun q24 r24 H hP hD hS => ?_)
  have hP : va_P D kinds ((h0, .inr (5, [.int (Int32.ofInt (0)), .ref q23, .null, .null, .null, .null, .null, .int 0])) :: (([] ++ nwA cI q23 16) ++ nwG cI cII q24 r24 16 16)) H := hP
  have hD : va_D A ((h0, .inr (5, [.int (Int32.ofInt (0)), .ref q23, .null, .null, .null, .null, .null, .int 0])) :: (([] ++ nwA cI q23 16) ++ nwG cI cII q24 r24 16 16)) := hD
  refine W.widen (k := 18) (n := 288) (by omega) (by omega) ?_
  refine va_putF (D := D) (ci := 5) (v := .ref q24) (ty := .array (.array .int)) (C := RRo) (T := TRo) (N := 8) hx hb hts (fun w hw => List.mem_cons_of_mem _ (wt_kRo w hw)) tRo tRo_ok nRo hown hK hP hD hS 0 rfl rfl 2 (by decide) (hts (.fieldLink RRo 21 "ClassCharacters$Rows" "values" "[[I") (List.mem_cons_of_mem _ (by decide +kernel))) (fun _ h9 => h9) rfl hin rfl (by decide +kernel) rfl rfl (Nat.le_of_ble_eq_true rfl) dRo_init_26 (fun H locs hP hD hS => ?_)
  have hP : va_P D kinds ((h0, .inr (5, [.int (Int32.ofInt (0)), .ref q23, .ref q24, .null, .null, .null, .null, .int 0])) :: (([] ++ nwA cI q23 16) ++ nwG cI cII q24 r24 16 16)) H := hP
  have hD : va_D A ((h0, .inr (5, [.int (Int32.ofInt (0)), .ref q23, .ref q24, .null, .null, .null, .null, .int 0])) :: (([] ++ nwA cI q23 16) ++ nwG cI cII q24 r24 16 16)) := hD
  refine lv_aload_n hx hb dRo_init_29 rfl (lv_at hl 0 rfl) ?_
  refine lv_bipush hx hb dRo_init_30 (show (Int8.ofInt 16).toInt32 = nI 16 by decide +kernel) ?_
  refine nw_a (n := nI 16) hx hb harr hK hP hD hS hA (by decide +kernel) (N' := 16) (by decide +kernel) (by decide) (Nat.le_of_ble_eq_true rfl) (Nat.le_of_ble_eq_true rfl) dRo_init_32 (fun q25 H hP hD hS => ?_)
  have hP : va_P D kinds ((h0, .inr (5, [.int (Int32.ofInt (0)), .ref q23, .ref q24, .null, .null, .null, .null, .int 0])) :: ((([] ++ nwA cI q23 16) ++ nwG cI cII q24 r24 16 16) ++ nwA cI q25 16)) H := hP
  have hD : va_D A ((h0, .inr (5, [.int (Int32.ofInt (0)), .ref q23, .ref q24, .null, .null, .null, .null, .int 0])) :: ((([] ++ nwA cI q23 16) ++ nwG cI cII q24 r24 16 16) ++ nwA cI q25 16)) := hD
  refine W.widen (k := 19) (n := 304) (by omega) (by omega) ?_
  refine va_putF (D := D) (ci := 5) (v := .ref q25) (ty := .array .int) (C := RRo) (T := TRo) (N := 8) hx hb hts (fun w hw => List.mem_cons_of_mem _ (wt_kRo w hw)) tRo tRo_ok nRo hown hK hP hD hS 0 rfl rfl 3 (by decide) (hts (.fieldLink RRo 24 "ClassCharacters$Rows" "indicators" "[I") (List.mem_cons_of_mem _ (by decide +kernel))) (fun _ h9 => h9) rfl hin rfl (by decide +kernel) rfl rfl (Nat.le_of_ble_eq_true rfl) dRo_init_34 (fun H locs hP hD hS => ?_)
  have hP : va_P D kinds ((h0, .inr (5, [.int (Int32.ofInt (0)), .ref q23, .ref q24, .ref q25, .null, .null, .null, .int 0])) :: ((([] ++ nwA cI q23 16) ++ nwG cI cII q24 r24 16 16) ++ nwA cI q25 16)) H := hP
  have hD : va_D A ((h0, .inr (5, [.int (Int32.ofInt (0)), .ref q23, .ref q24, .ref q25, .null, .null, .null, .int 0])) :: ((([] ++ nwA cI q23 16) ++ nwG cI cII q24 r24 16 16) ++ nwA cI q25 16)) := hD
  refine lv_aload_n hx hb dRo_init_37 rfl (lv_at hl 0 rfl) ?_
  refine lv_bipush hx hb dRo_init_38 (show (Int8.ofInt 16).toInt32 = nI 16 by decide +kernel) ?_
  refine nw_a (n := nI 16) hx hb harr hK hP hD hS hA (by decide +kernel) (N' := 16) (by decide +kernel) (by decide) (Nat.le_of_ble_eq_true rfl) (Nat.le_of_ble_eq_true rfl) dRo_init_40 (fun q26 H hP hD hS => ?_)
  have hP : va_P D kinds ((h0, .inr (5, [.int (Int32.ofInt (0)), .ref q23, .ref q24, .ref q25, .null, .null, .null, .int 0])) :: (((([] ++ nwA cI q23 16) ++ nwG cI cII q24 r24 16 16) ++ nwA cI q25 16) ++ nwA cI q26 16)) H := hP
  have hD : va_D A ((h0, .inr (5, [.int (Int32.ofInt (0)), .ref q23, .ref q24, .ref q25, .null, .null, .null, .int 0])) :: (((([] ++ nwA cI q23 16) ++ nwG cI cII q24 r24 16 16) ++ nwA cI q25 16) ++ nwA cI q26 16)) := hD
  refine W.widen (k := 20) (n := 320) (by omega) (by omega) ?_
  refine va_putF (D := D) (ci := 5) (v := .ref q26) (ty := .array .int) (C := RRo) (T := TRo) (N := 8) hx hb hts (fun w hw => List.mem_cons_of_mem _ (wt_kRo w hw)) tRo tRo_ok nRo hown hK hP hD hS 0 rfl rfl 4 (by decide) (hts (.fieldLink RRo 27 "ClassCharacters$Rows" "kernels" "[I") (List.mem_cons_of_mem _ (by decide +kernel))) (fun _ h9 => h9) rfl hin rfl (by decide +kernel) rfl rfl (Nat.le_of_ble_eq_true rfl) dRo_init_42 (fun H locs hP hD hS => ?_)
  have hP : va_P D kinds ((h0, .inr (5, [.int (Int32.ofInt (0)), .ref q23, .ref q24, .ref q25, .ref q26, .null, .null, .int 0])) :: (((([] ++ nwA cI q23 16) ++ nwG cI cII q24 r24 16 16) ++ nwA cI q25 16) ++ nwA cI q26 16)) H := hP
  have hD : va_D A ((h0, .inr (5, [.int (Int32.ofInt (0)), .ref q23, .ref q24, .ref q25, .ref q26, .null, .null, .int 0])) :: (((([] ++ nwA cI q23 16) ++ nwG cI cII q24 r24 16 16) ++ nwA cI q25 16) ++ nwA cI q26 16)) := hD
  refine lv_aload_n hx hb dRo_init_45 rfl (lv_at hl 0 rfl) ?_
  refine lv_bipush hx hb dRo_init_46 (show (Int8.ofInt 16).toInt32 = nI 16 by decide +kernel) ?_
  refine nw_a (n := nI 16) hx hb harr hK hP hD hS hA (by decide +kernel) (N' := 16) (by decide +kernel) (by decide) (Nat.le_of_ble_eq_true rfl) (Nat.le_of_ble_eq_true rfl) dRo_init_48 (fun q27 H hP hD hS => ?_)
  have hP : va_P D kinds ((h0, .inr (5, [.int (Int32.ofInt (0)), .ref q23, .ref q24, .ref q25, .ref q26, .null, .null, .int 0])) :: ((((([] ++ nwA cI q23 16) ++ nwG cI cII q24 r24 16 16) ++ nwA cI q25 16) ++ nwA cI q26 16) ++ nwA cI q27 16)) H := hP
  have hD : va_D A ((h0, .inr (5, [.int (Int32.ofInt (0)), .ref q23, .ref q24, .ref q25, .ref q26, .null, .null, .int 0])) :: ((((([] ++ nwA cI q23 16) ++ nwG cI cII q24 r24 16 16) ++ nwA cI q25 16) ++ nwA cI q26 16) ++ nwA cI q27 16)) := hD
  refine W.widen (k := 21) (n := 336) (by omega) (by omega) ?_
  refine va_putF (D := D) (ci := 5) (v := .ref q27) (ty := .array .int) (C := RRo) (T := TRo) (N := 8) hx hb hts (fun w hw => List.mem_cons_of_mem _ (wt_kRo w hw)) tRo tRo_ok nRo hown hK hP hD hS 0 rfl rfl 5 (by decide) (hts (.fieldLink RRo 30 "ClassCharacters$Rows" "places" "[I") (List.mem_cons_of_mem _ (by decide +kernel))) (fun _ h9 => h9) rfl hin rfl (by decide +kernel) rfl rfl (Nat.le_of_ble_eq_true rfl) dRo_init_50 (fun H locs hP hD hS => ?_)
  have hP : va_P D kinds ((h0, .inr (5, [.int (Int32.ofInt (0)), .ref q23, .ref q24, .ref q25, .ref q26, .ref q27, .null, .int 0])) :: ((((([] ++ nwA cI q23 16) ++ nwG cI cII q24 r24 16 16) ++ nwA cI q25 16) ++ nwA cI q26 16) ++ nwA cI q27 16)) H := hP
  have hD : va_D A ((h0, .inr (5, [.int (Int32.ofInt (0)), .ref q23, .ref q24, .ref q25, .ref q26, .ref q27, .null, .int 0])) :: ((((([] ++ nwA cI q23 16) ++ nwG cI cII q24 r24 16 16) ++ nwA cI q25 16) ++ nwA cI q26 16) ++ nwA cI q27 16)) := hD
  refine lv_aload_n hx hb dRo_init_53 rfl (lv_at hl 0 rfl) ?_
  refine lv_sipush hx hb dRo_init_54 (show (Int16.ofInt 128).toInt32 = nI 128 by decide +kernel) ?_
  refine nw_a (n := nI 128) hx hb harr hK hP hD hS hA (by decide +kernel) (N' := 128) (by decide +kernel) (by decide) (Nat.le_of_ble_eq_true rfl) (Nat.le_of_ble_eq_true rfl) dRo_init_57 (fun q28 H hP hD hS => ?_)
  have hP : va_P D kinds ((h0, .inr (5, [.int (Int32.ofInt (0)), .ref q23, .ref q24, .ref q25, .ref q26, .ref q27, .null, .int 0])) :: (((((([] ++ nwA cI q23 16) ++ nwG cI cII q24 r24 16 16) ++ nwA cI q25 16) ++ nwA cI q26 16) ++ nwA cI q27 16) ++ nwA cI q28 128)) H := hP
  have hD : va_D A ((h0, .inr (5, [.int (Int32.ofInt (0)), .ref q23, .ref q24, .ref q25, .ref q26, .ref q27, .null, .int 0])) :: (((((([] ++ nwA cI q23 16) ++ nwG cI cII q24 r24 16 16) ++ nwA cI q25 16) ++ nwA cI q26 16) ++ nwA cI q27 16) ++ nwA cI q28 128)) := hD
  refine W.widen (k := 22) (n := 464) (by omega) (by omega) ?_
  refine va_putF (D := D) (ci := 5) (v := .ref q28) (ty := .array .int) (C := RRo) (T := TRo) (N := 8) hx hb hts (fun w hw => List.mem_cons_of_mem _ (wt_kRo w hw)) tRo tRo_ok nRo hown hK hP hD hS 0 rfl rfl 6 (by decide) (hts (.fieldLink RRo 33 "ClassCharacters$Rows" "normalSets" "[I") (List.mem_cons_of_mem _ (by decide +kernel))) (fun _ h9 => h9) rfl hin rfl (by decide +kernel) rfl rfl (Nat.le_of_ble_eq_true rfl) dRo_init_59 (fun H locs hP hD hS => ?_)
  have hP : va_P D kinds ((h0, .inr (5, [.int (Int32.ofInt (0)), .ref q23, .ref q24, .ref q25, .ref q26, .ref q27, .ref q28, .int 0])) :: (((((([] ++ nwA cI q23 16) ++ nwG cI cII q24 r24 16 16) ++ nwA cI q25 16) ++ nwA cI q26 16) ++ nwA cI q27 16) ++ nwA cI q28 128)) H := hP
  have hD : va_D A ((h0, .inr (5, [.int (Int32.ofInt (0)), .ref q23, .ref q24, .ref q25, .ref q26, .ref q27, .ref q28, .int 0])) :: (((((([] ++ nwA cI q23 16) ++ nwG cI cII q24 r24 16 16) ++ nwA cI q25 16) ++ nwA cI q26 16) ++ nwA cI q27 16) ++ nwA cI q28 128)) := hD
  refine lv_aload_n hx hb dRo_init_62 rfl (lv_at hl 0 rfl) ?_
  refine lv_iconst hx hb dRo_init_63 rfl ?_
  refine va_put (D := D) (ci := 5) (v := .int (Int32.ofInt (0))) (ty := .int) (C := RRo) (T := TRo) (N := 8) hx hb hts (fun w hw => List.mem_cons_of_mem _ (wt_kRo w hw)) tRo tRo_ok nRo hown hK hP hD hS 0 rfl rfl 7 (by decide) (hts (.fieldLink RRo 36 "ClassCharacters$Rows" "normalCount" "I") (List.mem_cons_of_mem _ (by decide +kernel))) (fun _ h9 => h9) rfl (by decide +kernel) rfl rfl (Nat.le_of_ble_eq_true rfl) dRo_init_64 (fun H locs hP hD hS => ?_)
  have hP : va_P D kinds ((h0, .inr (5, [.int (Int32.ofInt (0)), .ref q23, .ref q24, .ref q25, .ref q26, .ref q27, .ref q28, .int (Int32.ofInt (0))])) :: (((((([] ++ nwA cI q23 16) ++ nwG cI cII q24 r24 16 16) ++ nwA cI q25 16) ++ nwA cI q26 16) ++ nwA cI q27 16) ++ nwA cI q28 128)) H := hP
  have hD : va_D A ((h0, .inr (5, [.int (Int32.ofInt (0)), .ref q23, .ref q24, .ref q25, .ref q26, .ref q27, .ref q28, .int (Int32.ofInt (0))])) :: (((((([] ++ nwA cI q23 16) ++ nwG cI cII q24 r24 16 16) ++ nwA cI q25 16) ++ nwA cI q26 16) ++ nwA cI q27 16) ++ nwA cI q28 128)) := hD
  refine W.widen (k := 22) (n := 464) (by omega) (by omega) ?_
  exact W.vret hx hb hr (fun t ht hW => ⟨⟨((fun n => if n = 23 then q23 else if n = 24 then q24 else if n = 25 then q25 else if n = 26 then q26 else if n = 27 then q27 else if n = 28 then q28 else h0), (fun n j => if n = 24 then r24 j else 0)), rfl, rfl, by rw [ht]; exact hP, va_K.moved hW.alike hK, hD⟩, hS.F ht⟩) hS.2.2 dRo_init_67
