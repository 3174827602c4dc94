-- constructors
def yCo_init : MethodName := ⟨RCo, "<init>", "()V"⟩
theorem dCo_init_0 : decode prog_4_method_1_code 0 = .ok (.aload_n 0, 1) := by decide +kernel
theorem dCo_init_1 : decode prog_4_method_1_code 1 = .ok (.invokespecial 3, 3) := by decide +kernel
theorem dCo_init_4 : decode prog_4_method_1_code 4 = .ok (.aload_n 0, 1) := by decide +kernel
theorem dCo_init_5 : decode prog_4_method_1_code 5 = .ok (.iconst (0), 1) := by decide +kernel
theorem dCo_init_6 : decode prog_4_method_1_code 6 = .ok (.putfield 9, 3) := by decide +kernel
theorem dCo_init_9 : decode prog_4_method_1_code 9 = .ok (.aload_n 0, 1) := by decide +kernel
theorem dCo_init_10 : decode prog_4_method_1_code 10 = .ok (.bipush (120), 2) := by decide +kernel
theorem dCo_init_12 : decode prog_4_method_1_code 12 = .ok (.newarray .int, 2) := by decide +kernel
theorem dCo_init_14 : decode prog_4_method_1_code 14 = .ok (.putfield 15, 3) := by decide +kernel
theorem dCo_init_17 : decode prog_4_method_1_code 17 = .ok (.aload_n 0, 1) := by decide +kernel
theorem dCo_init_18 : decode prog_4_method_1_code 18 = .ok (.bipush (16), 2) := by decide +kernel
theorem dCo_init_20 : decode prog_4_method_1_code 20 = .ok (.newarray .int, 2) := by decide +kernel
theorem dCo_init_22 : decode prog_4_method_1_code 22 = .ok (.putfield 19, 3) := by decide +kernel
theorem dCo_init_25 : decode prog_4_method_1_code 25 = .ok (.aload_n 0, 1) := by decide +kernel
theorem dCo_init_26 : decode prog_4_method_1_code 26 = .ok (.bipush (16), 2) := by decide +kernel
theorem dCo_init_28 : decode prog_4_method_1_code 28 = .ok (.newarray .int, 2) := by decide +kernel
theorem dCo_init_30 : decode prog_4_method_1_code 30 = .ok (.putfield 22, 3) := by decide +kernel
theorem dCo_init_33 : decode prog_4_method_1_code 33 = .ok (.aload_n 0, 1) := by decide +kernel
theorem dCo_init_34 : decode prog_4_method_1_code 34 = .ok (.bipush (16), 2) := by decide +kernel
theorem dCo_init_36 : decode prog_4_method_1_code 36 = .ok (.bipush (120), 2) := by decide +kernel
theorem dCo_init_38 : decode prog_4_method_1_code 38 = .ok (.multianewarray 25 2, 4) := by decide +kernel
theorem dCo_init_42 : decode prog_4_method_1_code 42 = .ok (.putfield 27, 3) := by decide +kernel
theorem dCo_init_45 : decode prog_4_method_1_code 45 = .ok (.aload_n 0, 1) := by decide +kernel
theorem dCo_init_46 : decode prog_4_method_1_code 46 = .ok (.bipush (16), 2) := by decide +kernel
theorem dCo_init_48 : decode prog_4_method_1_code 48 = .ok (.newarray .int, 2) := by decide +kernel
theorem dCo_init_50 : decode prog_4_method_1_code 50 = .ok (.putfield 30, 3) := by decide +kernel
theorem dCo_init_53 : decode prog_4_method_1_code 53 = .ok (.aload_n 0, 1) := by decide +kernel
theorem dCo_init_54 : decode prog_4_method_1_code 54 = .ok (.iconst (1), 1) := by decide +kernel
theorem dCo_init_55 : decode prog_4_method_1_code 55 = .ok (.putfield 33, 3) := by decide +kernel
theorem dCo_init_58 : decode prog_4_method_1_code 58 = .ok (.aload_n 0, 1) := by decide +kernel
theorem dCo_init_59 : decode prog_4_method_1_code 59 = .ok (.sipush (4096), 3) := by decide +kernel
theorem dCo_init_62 : decode prog_4_method_1_code 62 = .ok (.newarray .int, 2) := by decide +kernel
theorem dCo_init_64 : decode prog_4_method_1_code 64 = .ok (.putfield 36, 3) := by decide +kernel
theorem dCo_init_67 : decode prog_4_method_1_code 67 = .ok (.return_, 1) := by decide +kernel
theorem mCo_init : Cond.code yCo_init prog_4_method_1_code 1 none ∈ wt := by decide +kernel
theorem miCo_init : Cond.instanceMethod yCo_init ∈ wt := by decide +kernel
theorem wt_kCo : ∀ w ∈ u_ws RCo TCo 8, w ∈ wt := by decide +kernel
abbrev finCo (cI cII : ClassId) (h0 : Nat) (u : (Nat → Nat) × (Nat → Nat → Nat)) : va_W := ((h0, .inr (2, [.int (Int32.ofInt (0)), .ref (u.1 6), .ref (u.1 7), .ref (u.1 8), .ref (u.1 9), .ref (u.1 10), .int (Int32.ofInt (1)), .ref (u.1 11)])) :: (((((([] ++ nwA cI (u.1 6) 120) ++ nwA cI (u.1 7) 16) ++ nwA cI (u.1 8) 16) ++ nwG cI cII (u.1 9) (u.2 9) 16 120) ++ nwA cI (u.1 10) 16) ++ nwA cI (u.1 11) 4096))
set_option maxHeartbeats 4000000 in
set_option maxRecDepth 100000 in
theorem c_Co_init (l : Launch) (D : va_G) (cI cII : ClassId) (h0 sz : Nat) (A : Nat → Prop) (hA0 : ∀ q, sz ≤ q → A q) : Met l yCo_init (wy yCo_init prog_4_method_1_code 1 none) ({ frames := 1, cells := 22, slots := 6200, locals := 12 }) (va_Pc [.ref h0] (fun U => U.heap.size = sz ∧ va_P D kinds [(h0, .inr (2, [.int 0, .null, .null, .null, .null, .null, .int 0, .null]))] U.heap ∧ va_K D kinds (tyI cI cII) U ∧ va_D A [(h0, .inr (2, [.int 0, .null, .null, .null, .null, .null, .int 0, .null]))] ∧ aoI U)) (va_Qv (fun u : (Nat → Nat) × (Nat → Nat → Nat) => u = u) (fun u t => va_P D kinds (finCo cI cII h0 u) t.heap ∧ va_K D kinds (tyI cI cII) t ∧ va_D A (finCo cI cII h0 u)) A) 22 6200 A := by
  refine Met.ofW (cc := prog_4_method_1_code) (maxL := 1) (ret := none) (by decide) rfl ?_
  intro p e s m args below meth c s₁ B hml hv
  obtain ⟨rfl, hsz, hP, hK, hD, hao⟩ := hv
  have hx := B.exec
  have hb := B.bytes
  have hr := B.returns
  have hts := atoms_spec (ws := wy yCo_init prog_4_method_1_code 1 none) B.pre
  have hown : s.vm.findClass RCo = some m.cls := findClass_of_methodNamed B.named
  have hlocks := B.notSynchronized
  have hin : meth.name = "<init>" := (name_of_methodNamed B.named B.method).1
  have harr : (Cond.arrayClass .int).before _ s = true := hts (.arrayClass .int) (List.mem_cons_of_mem _ (by decide +kernel))
  have hA : ∀ q, s.heap.size ≤ q → A q := fun q h => hA0 q (by rw [← hsz]; exact h)
  have hS : va_S A s.heap s.heap [] := va_S.rf
  have hl := lv_entry ([.ref h0]) (n := 1) (Nat.le_of_ble_eq_true rfl)
  rw [lg_entry_eq]
  generalize (lg_sl ([.ref h0]) ++ List.replicate (1 - (lg_sl ([.ref h0])).length) Slot.unset).toArray = ls at hl ⊢
  have hl : lv_has ls 1 [(0, .ref h0)] := hl
  refine lv_aload_n hx hb dCo_init_0 rfl (lv_at hl 0 rfl) ?_
  refine W.objInit hx hb hown (hts (.methodLink RCo 3 objectInit) (List.mem_cons_of_mem _ (by decide +kernel))) (hts (.instanceMethod objectInit) (List.mem_cons_of_mem _ (by decide +kernel))) (hts _ (List.mem_cons_of_mem _ (show Cond.code objectInit ⟨#[0xb1]⟩ 1 none ∈ wt by decide +kernel))) rfl (by rw [hml]; exact hl.1) rfl dCo_init_1 (Nat.le_of_ble_eq_true rfl) (Nat.le_of_ble_eq_true rfl) ?_
  refine W.eq (g2 := F0 m 4 ls []) rfl ?_
  refine lv_aload_n hx hb dCo_init_4 rfl (lv_at hl 0 rfl) ?_
  refine lv_iconst hx hb dCo_init_5 rfl ?_
  refine va_put (D := D) (ci := 2) (v := .int (Int32.ofInt (0))) (ty := .int) (C := RCo) (T := TCo) (N := 8) hx hb hts (fun w hw => List.mem_cons_of_mem _ (wt_kCo w hw)) tCo tCo_ok nCo hown hK hP hD hS 0 rfl rfl 0 (by decide) (hts (.fieldLink RCo 9 "ClassCharacters$Conjugates" "count" "I") (List.mem_cons_of_mem _ (by decide +kernel))) (fun _ h9 => h9) rfl (by decide +kernel) rfl rfl (Nat.le_of_ble_eq_true rfl) dCo_init_6 (fun H locs hP hD hS => ?_)
  have hP : va_P D kinds ((h0, .inr (2, [.int (Int32.ofInt (0)), .null, .null, .null, .null, .null, .int 0, .null])) :: []) H := hP
  have hD : va_D A ((h0, .inr (2, [.int (Int32.ofInt (0)), .null, .null, .null, .null, .null, .int 0, .null])) :: []) := hD
  refine lv_aload_n hx hb dCo_init_9 rfl (lv_at hl 0 rfl) ?_
  refine lv_bipush hx hb dCo_init_10 (show (Int8.ofInt 120).toInt32 = nI 120 by decide +kernel) ?_
  refine nw_a (n := nI 120) hx hb harr hK hP hD hS hA (by decide +kernel) (N' := 120) (by decide +kernel) (by decide) (Nat.le_of_ble_eq_true rfl) (Nat.le_of_ble_eq_true rfl) dCo_init_12 (fun q6 H hP hD hS => ?_)
  have hP : va_P D kinds ((h0, .inr (2, [.int (Int32.ofInt (0)), .null, .null, .null, .null, .null, .int 0, .null])) :: ([] ++ nwA cI q6 120)) H := hP
  have hD : va_D A ((h0, .inr (2, [.int (Int32.ofInt (0)), .null, .null, .null, .null, .null, .int 0, .null])) :: ([] ++ nwA cI q6 120)) := hD
  refine W.widen (k := 1) (n := 120) (by omega) (by omega) ?_
  refine va_putF (D := D) (ci := 2) (v := .ref q6) (ty := .array .int) (C := RCo) (T := TCo) (N := 8) hx hb hts (fun w hw => List.mem_cons_of_mem _ (wt_kCo w hw)) tCo tCo_ok nCo hown hK hP hD hS 0 rfl rfl 1 (by decide) (hts (.fieldLink RCo 15 "ClassCharacters$Conjugates" "classAt" "[I") (List.mem_cons_of_mem _ (by decide +kernel))) (fun _ h9 => h9) rfl hin rfl (by decide +kernel) rfl rfl (Nat.le_of_ble_eq_true rfl) dCo_init_14 (fun H locs hP hD hS => ?_)
  have hP : va_P D kinds ((h0, .inr (2, [.int (Int32.ofInt (0)), .ref q6, .null, .null, .null, .null, .int 0, .null])) :: ([] ++ nwA cI q6 120)) H := hP
  have hD : va_D A ((h0, .inr (2, [.int (Int32.ofInt (0)), .ref q6, .null, .null, .null, .null, .int 0, .null])) :: ([] ++ nwA cI q6 120)) := hD
  refine lv_aload_n hx hb dCo_init_17 rfl (lv_at hl 0 rfl) ?_
  refine lv_bipush hx hb dCo_init_18 (show (Int8.ofInt 16).toInt32 = nI 16 by decide +kernel) ?_
  refine nw_a (n := nI 16) hx hb harr hK hP hD hS hA (by decide +kernel) (N' := 16) (by decide +kernel) (by decide) (Nat.le_of_ble_eq_true rfl) (Nat.le_of_ble_eq_true rfl) dCo_init_20 (fun q7 H hP hD hS => ?_)
  have hP : va_P D kinds ((h0, .inr (2, [.int (Int32.ofInt (0)), .ref q6, .null, .null, .null, .null, .int 0, .null])) :: (([] ++ nwA cI q6 120) ++ nwA cI q7 16)) H := hP
  have hD : va_D A ((h0, .inr (2, [.int (Int32.ofInt (0)), .ref q6, .null, .null, .null, .null, .int 0, .null])) :: (([] ++ nwA cI q6 120) ++ nwA cI q7 16)) := hD
  refine W.widen (k := 2) (n := 136) (by omega) (by omega) ?_
  refine va_putF (D := D) (ci := 2) (v := .ref q7) (ty := .array .int) (C := RCo) (T := TCo) (N := 8) hx hb hts (fun w hw => List.mem_cons_of_mem _ (wt_kCo w hw)) tCo tCo_ok nCo hown hK hP hD hS 0 rfl rfl 2 (by decide) (hts (.fieldLink RCo 19 "ClassCharacters$Conjugates" "sizes" "[I") (List.mem_cons_of_mem _ (by decide +kernel))) (fun _ h9 => h9) rfl hin rfl (by decide +kernel) rfl rfl (Nat.le_of_ble_eq_true rfl) dCo_init_22 (fun H locs hP hD hS => ?_)
  have hP : va_P D kinds ((h0, .inr (2, [.int (Int32.ofInt (0)), .ref q6, .ref q7, .null, .null, .null, .int 0, .null])) :: (([] ++ nwA cI q6 120) ++ nwA cI q7 16)) H := hP
  have hD : va_D A ((h0, .inr (2, [.int (Int32.ofInt (0)), .ref q6, .ref q7, .null, .null, .null, .int 0, .null])) :: (([] ++ nwA cI q6 120) ++ nwA cI q7 16)) := hD
  refine lv_aload_n hx hb dCo_init_25 rfl (lv_at hl 0 rfl) ?_
  refine lv_bipush hx hb dCo_init_26 (show (Int8.ofInt 16).toInt32 = nI 16 by decide +kernel) ?_
  refine nw_a (n := nI 16) hx hb harr hK hP hD hS hA (by decide +kernel) (N' := 16) (by decide +kernel) (by decide) (Nat.le_of_ble_eq_true rfl) (Nat.le_of_ble_eq_true rfl) dCo_init_28 (fun q8 H hP hD hS => ?_)
  have hP : va_P D kinds ((h0, .inr (2, [.int (Int32.ofInt (0)), .ref q6, .ref q7, .null, .null, .null, .int 0, .null])) :: ((([] ++ nwA cI q6 120) ++ nwA cI q7 16) ++ nwA cI q8 16)) H := hP
  have hD : va_D A ((h0, .inr (2, [.int (Int32.ofInt (0)), .ref q6, .ref q7, .null, .null, .null, .int 0, .null])) :: ((([] ++ nwA cI q6 120) ++ nwA cI q7 16) ++ nwA cI q8 16)) := hD
  refine W.widen (k := 3) (n := 152) (by omega) (by omega) ?_
  refine va_putF (D := D) (ci := 2) (v := .ref q8) (ty := .array .int) (C := RCo) (T := TCo) (N := 8) hx hb hts (fun w hw => List.mem_cons_of_mem _ (wt_kCo w hw)) tCo tCo_ok nCo hown hK hP hD hS 0 rfl rfl 3 (by decide) (hts (.fieldLink RCo 22 "ClassCharacters$Conjugates" "leasts" "[I") (List.mem_cons_of_mem _ (by decide +kernel))) (fun _ h9 => h9) rfl hin rfl (by decide +kernel) rfl rfl (Nat.le_of_ble_eq_true rfl) dCo_init_30 (fun H locs hP hD hS => ?_)
  have hP : va_P D kinds ((h0, .inr (2, [.int (Int32.ofInt (0)), .ref q6, .ref q7, .ref q8, .null, .null, .int 0, .null])) :: ((([] ++ nwA cI q6 120) ++ nwA cI q7 16) ++ nwA cI q8 16)) H := hP
  have hD : va_D A ((h0, .inr (2, [.int (Int32.ofInt (0)), .ref q6, .ref q7, .ref q8, .null, .null, .int 0, .null])) :: ((([] ++ nwA cI q6 120) ++ nwA cI q7 16) ++ nwA cI q8 16)) := hD
  refine lv_aload_n hx hb dCo_init_33 rfl (lv_at hl 0 rfl) ?_
  refine lv_bipush hx hb dCo_init_34 (show (Int8.ofInt 16).toInt32 = nI 16 by decide +kernel) ?_
  refine lv_bipush hx hb dCo_init_36 (show (Int8.ofInt 120).toInt32 = nI 120 by decide +kernel) ?_
  refine nw_g (n := nI 16) (k := nI 120) hx hb hown (hts (.classLink RCo 25 "[[I") (List.mem_cons_of_mem _ (by decide +kernel))) hao harr hK hP hD hS hA (by decide +kernel) (by decide +kernel) (N' := 16) (K' := 120) (by decide +kernel) (by decide +kernel) (by decide) (by decide) (Nat.le_of_ble_eq_true rfl) (Nat.le_of_ble_eq_true rfl) dCo_init_38 (fun q9 r9 H hP hD hS => ?_)
  have hP : va_P D kinds ((h0, .inr (2, [.int (Int32.ofInt (0)), .ref q6, .ref q7, .ref q8, .null, .null, .int 0, .null])) :: (((([] ++ nwA cI q6 120) ++ nwA cI q7 16) ++ nwA cI q8 16) ++ nwG cI cII q9 r9 16 120)) H := hP
  have hD : va_D A ((h0, .inr (2, [.int (Int32.ofInt (0)), .ref q6, .ref q7, .ref q8, .null, .null, .int 0, .null])) :: (((([] ++ nwA cI q6 120) ++ nwA cI q7 16) ++ nwA cI q8 16) ++ nwG cI cII q9 r9 16 120)) := hD
  refine W.widen (k := 20) (n := 2088) (by omega) (by omega) ?_
  refine va_putF (D := D) (ci := 2) (v := .ref q9) (ty := .array (.array .int)) (C := RCo) (T := TCo) (N := 8) hx hb hts (fun w hw => List.mem_cons_of_mem _ (wt_kCo w hw)) tCo tCo_ok nCo hown hK hP hD hS 0 rfl rfl 4 (by decide) (hts (.fieldLink RCo 27 "ClassCharacters$Conjugates" "powers" "[[I") (List.mem_cons_of_mem _ (by decide +kernel))) (fun _ h9 => h9) rfl hin rfl (by decide +kernel) rfl rfl (Nat.le_of_ble_eq_true rfl) dCo_init_42 (fun H locs hP hD hS => ?_)
  have hP : va_P D kinds ((h0, .inr (2, [.int (Int32.ofInt (0)), .ref q6, .ref q7, .ref q8, .ref q9, .null, .int 0, .null])) :: (((([] ++ nwA cI q6 120) ++ nwA cI q7 16) ++ nwA cI q8 16) ++ nwG cI cII q9 r9 16 120)) H := hP
  have hD : va_D A ((h0, .inr (2, [.int (Int32.ofInt (0)), .ref q6, .ref q7, .ref q8, .ref q9, .null, .int 0, .null])) :: (((([] ++ nwA cI q6 120) ++ nwA cI q7 16) ++ nwA cI q8 16) ++ nwG cI cII q9 r9 16 120)) := hD
  refine lv_aload_n hx hb dCo_init_45 rfl (lv_at hl 0 rfl) ?_
  refine lv_bipush hx hb dCo_init_46 (show (Int8.ofInt 16).toInt32 = nI 16 by decide +kernel) ?_
  refine nw_a (n := nI 16) hx hb harr hK hP hD hS hA (by decide +kernel) (N' := 16) (by decide +kernel) (by decide) (Nat.le_of_ble_eq_true rfl) (Nat.le_of_ble_eq_true rfl) dCo_init_48 (fun q10 H hP hD hS => ?_)
  have hP : va_P D kinds ((h0, .inr (2, [.int (Int32.ofInt (0)), .ref q6, .ref q7, .ref q8, .ref q9, .null, .int 0, .null])) :: ((((([] ++ nwA cI q6 120) ++ nwA cI q7 16) ++ nwA cI q8 16) ++ nwG cI cII q9 r9 16 120) ++ nwA cI q10 16)) H := hP
  have hD : va_D A ((h0, .inr (2, [.int (Int32.ofInt (0)), .ref q6, .ref q7, .ref q8, .ref q9, .null, .int 0, .null])) :: ((((([] ++ nwA cI q6 120) ++ nwA cI q7 16) ++ nwA cI q8 16) ++ nwG cI cII q9 r9 16 120) ++ nwA cI q10 16)) := hD
  refine W.widen (k := 21) (n := 2104) (by omega) (by omega) ?_
  refine va_putF (D := D) (ci := 2) (v := .ref q10) (ty := .array .int) (C := RCo) (T := TCo) (N := 8) hx hb hts (fun w hw => List.mem_cons_of_mem _ (wt_kCo w hw)) tCo tCo_ok nCo hown hK hP hD hS 0 rfl rfl 5 (by decide) (hts (.fieldLink RCo 30 "ClassCharacters$Conjugates" "current" "[I") (List.mem_cons_of_mem _ (by decide +kernel))) (fun _ h9 => h9) rfl hin rfl (by decide +kernel) rfl rfl (Nat.le_of_ble_eq_true rfl) dCo_init_50 (fun H locs hP hD hS => ?_)
  have hP : va_P D kinds ((h0, .inr (2, [.int (Int32.ofInt (0)), .ref q6, .ref q7, .ref q8, .ref q9, .ref q10, .int 0, .null])) :: ((((([] ++ nwA cI q6 120) ++ nwA cI q7 16) ++ nwA cI q8 16) ++ nwG cI cII q9 r9 16 120) ++ nwA cI q10 16)) H := hP
  have hD : va_D A ((h0, .inr (2, [.int (Int32.ofInt (0)), .ref q6, .ref q7, .ref q8, .ref q9, .ref q10, .int 0, .null])) :: ((((([] ++ nwA cI q6 120) ++ nwA cI q7 16) ++ nwA cI q8 16) ++ nwG cI cII q9 r9 16 120) ++ nwA cI q10 16)) := hD
  refine lv_aload_n hx hb dCo_init_53 rfl (lv_at hl 0 rfl) ?_
  refine lv_iconst hx hb dCo_init_54 rfl ?_
  refine va_put (D := D) (ci := 2) (v := .int (Int32.ofInt (1))) (ty := .int) (C := RCo) (T := TCo) (N := 8) hx hb hts (fun w hw => List.mem_cons_of_mem _ (wt_kCo w hw)) tCo tCo_ok nCo hown hK hP hD hS 0 rfl rfl 6 (by decide) (hts (.fieldLink RCo 33 "ClassCharacters$Conjugates" "commonExponent" "I") (List.mem_cons_of_mem _ (by decide +kernel))) (fun _ h9 => h9) rfl (by decide +kernel) rfl rfl (Nat.le_of_ble_eq_true rfl) dCo_init_55 (fun H locs hP hD hS => ?_)
  have hP : va_P D kinds ((h0, .inr (2, [.int (Int32.ofInt (0)), .ref q6, .ref q7, .ref q8, .ref q9, .ref q10, .int (Int32.ofInt (1)), .null])) :: ((((([] ++ nwA cI q6 120) ++ nwA cI q7 16) ++ nwA cI q8 16) ++ nwG cI cII q9 r9 16 120) ++ nwA cI q10 16)) H := hP
  have hD : va_D A ((h0, .inr (2, [.int (Int32.ofInt (0)), .ref q6, .ref q7, .ref q8, .ref q9, .ref q10, .int (Int32.ofInt (1)), .null])) :: ((((([] ++ nwA cI q6 120) ++ nwA cI q7 16) ++ nwA cI q8 16) ++ nwG cI cII q9 r9 16 120) ++ nwA cI q10 16)) := hD
  refine lv_aload_n hx hb dCo_init_58 rfl (lv_at hl 0 rfl) ?_
  refine lv_sipush hx hb dCo_init_59 (show (Int16.ofInt 4096).toInt32 = nI 4096 by decide +kernel) ?_
  refine nw_a (n := nI 4096) hx hb harr hK hP hD hS hA (by decide +kernel) (N' := 4096) (by decide +kernel) (by decide) (Nat.le_of_ble_eq_true rfl) (Nat.le_of_ble_eq_true rfl) dCo_init_62 (fun q11 H hP hD hS => ?_)
  have hP : va_P D kinds ((h0, .inr (2, [.int (Int32.ofInt (0)), .ref q6, .ref q7, .ref q8, .ref q9, .ref q10, .int (Int32.ofInt (1)), .null])) :: (((((([] ++ nwA cI q6 120) ++ nwA cI q7 16) ++ nwA cI q8 16) ++ nwG cI cII q9 r9 16 120) ++ nwA cI q10 16) ++ nwA cI q11 4096)) H := hP
  have hD : va_D A ((h0, .inr (2, [.int (Int32.ofInt (0)), .ref q6, .ref q7, .ref q8, .ref q9, .ref q10, .int (Int32.ofInt (1)), .null])) :: (((((([] ++ nwA cI q6 120) ++ nwA cI q7 16) ++ nwA cI q8 16) ++ nwG cI cII q9 r9 16 120) ++ nwA cI q10 16) ++ nwA cI q11 4096)) := hD
  refine W.widen (k := 22) (n := 6200) (by omega) (by omega) ?_
  refine va_putF (D := D) (ci := 2) (v := .ref q11) (ty := .array .int) (C := RCo) (T := TCo) (N := 8) hx hb hts (fun w hw => List.mem_cons_of_mem _ (wt_kCo w hw)) tCo tCo_ok nCo hown hK hP hD hS 0 rfl rfl 7 (by decide) (hts (.fieldLink RCo 36 "ClassCharacters$Conjugates" "pairCounts" "[I") (List.mem_cons_of_mem _ (by decide +kernel))) (fun _ h9 => h9) rfl hin rfl (by decide +kernel) rfl rfl (Nat.le_of_ble_eq_true rfl) dCo_init_64 (fun H locs hP hD hS => ?_)
  have hP : va_P D kinds ((h0, .inr (2, [.int (Int32.ofInt (0)), .ref q6, .ref q7, .ref q8, .ref q9, .ref q10, .int (Int32.ofInt (1)), .ref q11])) :: (((((([] ++ nwA cI q6 120) ++ nwA cI q7 16) ++ nwA cI q8 16) ++ nwG cI cII q9 r9 16 120) ++ nwA cI q10 16) ++ nwA cI q11 4096)) H := hP
  have hD : va_D A ((h0, .inr (2, [.int (Int32.ofInt (0)), .ref q6, .ref q7, .ref q8, .ref q9, .ref q10, .int (Int32.ofInt (1)), .ref q11])) :: (((((([] ++ nwA cI q6 120) ++ nwA cI q7 16) ++ nwA cI q8 16) ++ nwG cI cII q9 r9 16 120) ++ nwA cI q10 16) ++ nwA cI q11 4096)) := hD
  refine W.widen (k := 22) (n := 6200) (by omega) (by omega) ?_
  exact W.vret hx hb hr (fun t ht hW => ⟨⟨((fun n => if n = 6 then q6 else if n = 7 then q7 else if n = 8 then q8 else if n = 9 then q9 else if n = 10 then q10 else if n = 11 then q11 else h0), (fun n j => if n = 9 then r9 j else 0)), rfl, rfl, by rw [ht]; exact hP, va_K.moved hW.alike hK, hD⟩, hS.F ht⟩) hS.2.2 dCo_init_67
