-- constructors
def yMo_init : MethodName := ⟨RMo, "<init>", "()V"⟩
theorem dMo_init_0 : decode prog_9_method_1_code 0 = .ok (.aload_n 0, 1) := by decide +kernel
theorem dMo_init_1 : decode prog_9_method_1_code 1 = .ok (.invokespecial 1, 3) := by decide +kernel
theorem dMo_init_4 : decode prog_9_method_1_code 4 = .ok (.aload_n 0, 1) := by decide +kernel
theorem dMo_init_5 : decode prog_9_method_1_code 5 = .ok (.iconst (4), 1) := by decide +kernel
theorem dMo_init_6 : decode prog_9_method_1_code 6 = .ok (.newarray .int, 2) := by decide +kernel
theorem dMo_init_8 : decode prog_9_method_1_code 8 = .ok (.putfield 7, 3) := by decide +kernel
theorem dMo_init_11 : decode prog_9_method_1_code 11 = .ok (.aload_n 0, 1) := by decide +kernel
theorem dMo_init_12 : decode prog_9_method_1_code 12 = .ok (.bipush (120), 2) := by decide +kernel
theorem dMo_init_14 : decode prog_9_method_1_code 14 = .ok (.newarray .int, 2) := by decide +kernel
theorem dMo_init_16 : decode prog_9_method_1_code 16 = .ok (.putfield 13, 3) := by decide +kernel
theorem dMo_init_19 : decode prog_9_method_1_code 19 = .ok (.aload_n 0, 1) := by decide +kernel
theorem dMo_init_20 : decode prog_9_method_1_code 20 = .ok (.bipush (120), 2) := by decide +kernel
theorem dMo_init_22 : decode prog_9_method_1_code 22 = .ok (.newarray .int, 2) := by decide +kernel
theorem dMo_init_24 : decode prog_9_method_1_code 24 = .ok (.putfield 16, 3) := by decide +kernel
theorem dMo_init_27 : decode prog_9_method_1_code 27 = .ok (.aload_n 0, 1) := by decide +kernel
theorem dMo_init_28 : decode prog_9_method_1_code 28 = .ok (.bipush (16), 2) := by decide +kernel
theorem dMo_init_30 : decode prog_9_method_1_code 30 = .ok (.newarray .int, 2) := by decide +kernel
theorem dMo_init_32 : decode prog_9_method_1_code 32 = .ok (.putfield 19, 3) := by decide +kernel
theorem dMo_init_35 : decode prog_9_method_1_code 35 = .ok (.aload_n 0, 1) := by decide +kernel
theorem dMo_init_36 : decode prog_9_method_1_code 36 = .ok (.bipush (16), 2) := by decide +kernel
theorem dMo_init_38 : decode prog_9_method_1_code 38 = .ok (.newarray .int, 2) := by decide +kernel
theorem dMo_init_40 : decode prog_9_method_1_code 40 = .ok (.putfield 22, 3) := by decide +kernel
theorem dMo_init_43 : decode prog_9_method_1_code 43 = .ok (.aload_n 0, 1) := by decide +kernel
theorem dMo_init_44 : decode prog_9_method_1_code 44 = .ok (.sipush (4096), 3) := by decide +kernel
theorem dMo_init_47 : decode prog_9_method_1_code 47 = .ok (.newarray .int, 2) := by decide +kernel
theorem dMo_init_49 : decode prog_9_method_1_code 49 = .ok (.putfield 25, 3) := by decide +kernel
theorem dMo_init_52 : decode prog_9_method_1_code 52 = .ok (.aload_n 0, 1) := by decide +kernel
theorem dMo_init_53 : decode prog_9_method_1_code 53 = .ok (.sipush (640), 3) := by decide +kernel
theorem dMo_init_56 : decode prog_9_method_1_code 56 = .ok (.newarray .int, 2) := by decide +kernel
theorem dMo_init_58 : decode prog_9_method_1_code 58 = .ok (.putfield 28, 3) := by decide +kernel
theorem dMo_init_61 : decode prog_9_method_1_code 61 = .ok (.aload_n 0, 1) := by decide +kernel
theorem dMo_init_62 : decode prog_9_method_1_code 62 = .ok (.bipush (16), 2) := by decide +kernel
theorem dMo_init_64 : decode prog_9_method_1_code 64 = .ok (.newarray .int, 2) := by decide +kernel
theorem dMo_init_66 : decode prog_9_method_1_code 66 = .ok (.putfield 31, 3) := by decide +kernel
theorem dMo_init_69 : decode prog_9_method_1_code 69 = .ok (.aload_n 0, 1) := by decide +kernel
theorem dMo_init_70 : decode prog_9_method_1_code 70 = .ok (.sipush (256), 3) := by decide +kernel
theorem dMo_init_73 : decode prog_9_method_1_code 73 = .ok (.newarray .int, 2) := by decide +kernel
theorem dMo_init_75 : decode prog_9_method_1_code 75 = .ok (.putfield 34, 3) := by decide +kernel
theorem dMo_init_78 : decode prog_9_method_1_code 78 = .ok (.aload_n 0, 1) := by decide +kernel
theorem dMo_init_79 : decode prog_9_method_1_code 79 = .ok (.sipush (200), 3) := by decide +kernel
theorem dMo_init_82 : decode prog_9_method_1_code 82 = .ok (.newarray .int, 2) := by decide +kernel
theorem dMo_init_84 : decode prog_9_method_1_code 84 = .ok (.putfield 37, 3) := by decide +kernel
theorem dMo_init_87 : decode prog_9_method_1_code 87 = .ok (.return_, 1) := by decide +kernel
theorem mMo_init : Cond.code yMo_init prog_9_method_1_code 1 none ∈ wt := by decide +kernel
theorem miMo_init : Cond.instanceMethod yMo_init ∈ wt := by decide +kernel
theorem wt_kMo : ∀ w ∈ u_ws RMo TMo 18, w ∈ wt := by decide +kernel
abbrev finMo (cI cII : ClassId) (h0 : Nat) (u : (Nat → Nat) × (Nat → Nat → Nat)) : va_W := ((h0, .inr (6, [.int 0, .ref (u.1 1), .int 0, .int 0, .ref (u.1 2), .ref (u.1 3), .int 0, .ref (u.1 4), .ref (u.1 5), .ref (u.1 6), .int 0, .int 0, .int 0, .ref (u.1 7), .int 0, .ref (u.1 8), .ref (u.1 9), .ref (u.1 10)])) :: (((((((((([] ++ nwA cI (u.1 1) 4) ++ nwA cI (u.1 2) 120) ++ nwA cI (u.1 3) 120) ++ nwA cI (u.1 4) 16) ++ nwA cI (u.1 5) 16) ++ nwA cI (u.1 6) 4096) ++ nwA cI (u.1 7) 640) ++ nwA cI (u.1 8) 16) ++ nwA cI (u.1 9) 256) ++ nwA cI (u.1 10) 200))
set_option maxHeartbeats 4000000 in
set_option maxRecDepth 100000 in
theorem c_Mo_init (l : Launch) (D : va_G) (cI cII : ClassId) (h0 sz : Nat) (A : Nat → Prop) (hA0 : ∀ q, sz ≤ q → A q) : Met l yMo_init (wy yMo_init prog_9_method_1_code 1 none) ({ frames := 1, cells := 10, slots := 5484, locals := 12 }) (va_Pc [.ref h0] (fun U => U.heap.size = sz ∧ va_P D kinds [(h0, .inr (6, [.int 0, .null, .int 0, .int 0, .null, .null, .int 0, .null, .null, .null, .int 0, .int 0, .int 0, .null, .int 0, .null, .null, .null]))] U.heap ∧ va_K D kinds (tyI cI cII) U ∧ va_D A [(h0, .inr (6, [.int 0, .null, .int 0, .int 0, .null, .null, .int 0, .null, .null, .null, .int 0, .int 0, .int 0, .null, .int 0, .null, .null, .null]))] ∧ aoI U)) (va_Qv (fun u : (Nat → Nat) × (Nat → Nat → Nat) => u = u) (fun u t => va_P D kinds (finMo cI cII h0 u) t.heap ∧ va_K D kinds (tyI cI cII) t ∧ va_D A (finMo cI cII h0 u)) A) 10 5484 A := by
  refine Met.ofW (cc := prog_9_method_1_code) (maxL := 1) (ret := none) (by decide) rfl ?_
  intro p e s m args below meth c s₁ B hml hv
  obtain ⟨rfl, hsz, hP, hK, hD, hao⟩ := hv
  have hx := B.exec
  have hb := B.bytes
  have hr := B.returns
  have hts := atoms_spec (ws := wy yMo_init prog_9_method_1_code 1 none) B.pre
  have hown : s.vm.findClass RMo = some m.cls := findClass_of_methodNamed B.named
  have hlocks := B.notSynchronized
  have hin : meth.name = "<init>" := (name_of_methodNamed B.named B.method).1
  have harr : (Cond.arrayClass .int).before _ s = true := hts (.arrayClass .int) (List.mem_cons_of_mem _ (by decide +kernel))
  have hA : ∀ q, s.heap.size ≤ q → A q := fun q h => hA0 q (by rw [← hsz]; exact h)
  have hS : va_S A s.heap s.heap [] := va_S.rf
  have hl := lv_entry ([.ref h0]) (n := 1) (Nat.le_of_ble_eq_true rfl)
  rw [lg_entry_eq]
  generalize (lg_sl ([.ref h0]) ++ List.replicate (1 - (lg_sl ([.ref h0])).length) Slot.unset).toArray = ls at hl ⊢
  have hl : lv_has ls 1 [(0, .ref h0)] := hl
  refine lv_aload_n hx hb dMo_init_0 rfl (lv_at hl 0 rfl) ?_
  refine W.objInit hx hb hown (hts (.methodLink RMo 1 objectInit) (List.mem_cons_of_mem _ (by decide +kernel))) (hts (.instanceMethod objectInit) (List.mem_cons_of_mem _ (by decide +kernel))) (hts _ (List.mem_cons_of_mem _ (show Cond.code objectInit ⟨#[0xb1]⟩ 1 none ∈ wt by decide +kernel))) rfl (by rw [hml]; exact hl.1) rfl dMo_init_1 (Nat.le_of_ble_eq_true rfl) (Nat.le_of_ble_eq_true rfl) ?_
  refine W.eq (g2 := F0 m 4 ls []) rfl ?_
  refine lv_aload_n hx hb dMo_init_4 rfl (lv_at hl 0 rfl) ?_
  refine lv_iconst hx hb dMo_init_5 rfl ?_
  refine nw_a (n := Int32.ofInt 4) hx hb harr hK hP hD hS hA (by decide +kernel) (N' := 4) (by decide +kernel) (by decide) (Nat.le_of_ble_eq_true rfl) (Nat.le_of_ble_eq_true rfl) dMo_init_6 (fun q1 H hP hD hS => ?_)
  have hP : va_P D kinds ((h0, .inr (6, [.int 0, .null, .int 0, .int 0, .null, .null, .int 0, .null, .null, .null, .int 0, .int 0, .int 0, .null, .int 0, .null, .null, .null])) :: ([] ++ nwA cI q1 4)) H := hP
  have hD : va_D A ((h0, .inr (6, [.int 0, .null, .int 0, .int 0, .null, .null, .int 0, .null, .null, .null, .int 0, .int 0, .int 0, .null, .int 0, .null, .null, .null])) :: ([] ++ nwA cI q1 4)) := hD
  refine W.widen (k := 1) (n := 4) (by omega) (by omega) ?_
  refine va_putF (D := D) (ci := 6) (v := .ref q1) (ty := .array .int) (C := RMo) (T := TMo) (N := 18) hx hb hts (fun w hw => List.mem_cons_of_mem _ (wt_kMo w hw)) tMo tMo_ok nMo hown hK hP hD hS 0 rfl rfl 1 (by decide) (hts (.fieldLink RMo 7 "ClassCharactersModel" "generator" "[I") (List.mem_cons_of_mem _ (by decide +kernel))) (fun _ h9 => h9) rfl hin rfl (by decide +kernel) rfl rfl (Nat.le_of_ble_eq_true rfl) dMo_init_8 (fun H locs hP hD hS => ?_)
  have hP : va_P D kinds ((h0, .inr (6, [.int 0, .ref q1, .int 0, .int 0, .null, .null, .int 0, .null, .null, .null, .int 0, .int 0, .int 0, .null, .int 0, .null, .null, .null])) :: ([] ++ nwA cI q1 4)) H := hP
  have hD : va_D A ((h0, .inr (6, [.int 0, .ref q1, .int 0, .int 0, .null, .null, .int 0, .null, .null, .null, .int 0, .int 0, .int 0, .null, .int 0, .null, .null, .null])) :: ([] ++ nwA cI q1 4)) := hD
  refine lv_aload_n hx hb dMo_init_11 rfl (lv_at hl 0 rfl) ?_
  refine lv_bipush hx hb dMo_init_12 (show (Int8.ofInt 120).toInt32 = nI 120 by decide +kernel) ?_
  refine nw_a (n := nI 120) hx hb harr hK hP hD hS hA (by decide +kernel) (N' := 120) (by decide +kernel) (by decide) (Nat.le_of_ble_eq_true rfl) (Nat.le_of_ble_eq_true rfl) dMo_init_14 (fun q2 H hP hD hS => ?_)
  have hP : va_P D kinds ((h0, .inr (6, [.int 0, .ref q1, .int 0, .int 0, .null, .null, .int 0, .null, .null, .null, .int 0, .int 0, .int 0, .null, .int 0, .null, .null, .null])) :: (([] ++ nwA cI q1 4) ++ nwA cI q2 120)) H := hP
  have hD : va_D A ((h0, .inr (6, [.int 0, .ref q1, .int 0, .int 0, .null, .null, .int 0, .null, .null, .null, .int 0, .int 0, .int 0, .null, .int 0, .null, .null, .null])) :: (([] ++ nwA cI q1 4) ++ nwA cI q2 120)) := hD
  refine W.widen (k := 2) (n := 124) (by omega) (by omega) ?_
  refine va_putF (D := D) (ci := 6) (v := .ref q2) (ty := .array .int) (C := RMo) (T := TMo) (N := 18) hx hb hts (fun w hw => List.mem_cons_of_mem _ (wt_kMo w hw)) tMo tMo_ok nMo hown hK hP hD hS 0 rfl rfl 4 (by decide) (hts (.fieldLink RMo 13 "ClassCharactersModel" "code" "[I") (List.mem_cons_of_mem _ (by decide +kernel))) (fun _ h9 => h9) rfl hin rfl (by decide +kernel) rfl rfl (Nat.le_of_ble_eq_true rfl) dMo_init_16 (fun H locs hP hD hS => ?_)
  have hP : va_P D kinds ((h0, .inr (6, [.int 0, .ref q1, .int 0, .int 0, .ref q2, .null, .int 0, .null, .null, .null, .int 0, .int 0, .int 0, .null, .int 0, .null, .null, .null])) :: (([] ++ nwA cI q1 4) ++ nwA cI q2 120)) H := hP
  have hD : va_D A ((h0, .inr (6, [.int 0, .ref q1, .int 0, .int 0, .ref q2, .null, .int 0, .null, .null, .null, .int 0, .int 0, .int 0, .null, .int 0, .null, .null, .null])) :: (([] ++ nwA cI q1 4) ++ nwA cI q2 120)) := hD
  refine lv_aload_n hx hb dMo_init_19 rfl (lv_at hl 0 rfl) ?_
  refine lv_bipush hx hb dMo_init_20 (show (Int8.ofInt 120).toInt32 = nI 120 by decide +kernel) ?_
  refine nw_a (n := nI 120) hx hb harr hK hP hD hS hA (by decide +kernel) (N' := 120) (by decide +kernel) (by decide) (Nat.le_of_ble_eq_true rfl) (Nat.le_of_ble_eq_true rfl) dMo_init_22 (fun q3 H hP hD hS => ?_)
  have hP : va_P D kinds ((h0, .inr (6, [.int 0, .ref q1, .int 0, .int 0, .ref q2, .null, .int 0, .null, .null, .null, .int 0, .int 0, .int 0, .null, .int 0, .null, .null, .null])) :: ((([] ++ nwA cI q1 4) ++ nwA cI q2 120) ++ nwA cI q3 120)) H := hP
  have hD : va_D A ((h0, .inr (6, [.int 0, .ref q1, .int 0, .int 0, .ref q2, .null, .int 0, .null, .null, .null, .int 0, .int 0, .int 0, .null, .int 0, .null, .null, .null])) :: ((([] ++ nwA cI q1 4) ++ nwA cI q2 120) ++ nwA cI q3 120)) := hD
  refine W.widen (k := 3) (n := 244) (by omega) (by omega) ?_
  refine va_putF (D := D) (ci := 6) (v := .ref q3) (ty := .array .int) (C := RMo) (T := TMo) (N := 18) hx hb hts (fun w hw => List.mem_cons_of_mem _ (wt_kMo w hw)) tMo tMo_ok nMo hown hK hP hD hS 0 rfl rfl 5 (by decide) (hts (.fieldLink RMo 16 "ClassCharactersModel" "kind" "[I") (List.mem_cons_of_mem _ (by decide +kernel))) (fun _ h9 => h9) rfl hin rfl (by decide +kernel) rfl rfl (Nat.le_of_ble_eq_true rfl) dMo_init_24 (fun H locs hP hD hS => ?_)
  have hP : va_P D kinds ((h0, .inr (6, [.int 0, .ref q1, .int 0, .int 0, .ref q2, .ref q3, .int 0, .null, .null, .null, .int 0, .int 0, .int 0, .null, .int 0, .null, .null, .null])) :: ((([] ++ nwA cI q1 4) ++ nwA cI q2 120) ++ nwA cI q3 120)) H := hP
  have hD : va_D A ((h0, .inr (6, [.int 0, .ref q1, .int 0, .int 0, .ref q2, .ref q3, .int 0, .null, .null, .null, .int 0, .int 0, .int 0, .null, .int 0, .null, .null, .null])) :: ((([] ++ nwA cI q1 4) ++ nwA cI q2 120) ++ nwA cI q3 120)) := hD
  refine lv_aload_n hx hb dMo_init_27 rfl (lv_at hl 0 rfl) ?_
  refine lv_bipush hx hb dMo_init_28 (show (Int8.ofInt 16).toInt32 = nI 16 by decide +kernel) ?_
  refine nw_a (n := nI 16) hx hb harr hK hP hD hS hA (by decide +kernel) (N' := 16) (by decide +kernel) (by decide) (Nat.le_of_ble_eq_true rfl) (Nat.le_of_ble_eq_true rfl) dMo_init_30 (fun q4 H hP hD hS => ?_)
  have hP : va_P D kinds ((h0, .inr (6, [.int 0, .ref q1, .int 0, .int 0, .ref q2, .ref q3, .int 0, .null, .null, .null, .int 0, .int 0, .int 0, .null, .int 0, .null, .null, .null])) :: (((([] ++ nwA cI q1 4) ++ nwA cI q2 120) ++ nwA cI q3 120) ++ nwA cI q4 16)) H := hP
  have hD : va_D A ((h0, .inr (6, [.int 0, .ref q1, .int 0, .int 0, .ref q2, .ref q3, .int 0, .null, .null, .null, .int 0, .int 0, .int 0, .null, .int 0, .null, .null, .null])) :: (((([] ++ nwA cI q1 4) ++ nwA cI q2 120) ++ nwA cI q3 120) ++ nwA cI q4 16)) := hD
  refine W.widen (k := 4) (n := 260) (by omega) (by omega) ?_
  refine va_putF (D := D) (ci := 6) (v := .ref q4) (ty := .array .int) (C := RMo) (T := TMo) (N := 18) hx hb hts (fun w hw => List.mem_cons_of_mem _ (wt_kMo w hw)) tMo tMo_ok nMo hown hK hP hD hS 0 rfl rfl 7 (by decide) (hts (.fieldLink RMo 19 "ClassCharactersModel" "size" "[I") (List.mem_cons_of_mem _ (by decide +kernel))) (fun _ h9 => h9) rfl hin rfl (by decide +kernel) rfl rfl (Nat.le_of_ble_eq_true rfl) dMo_init_32 (fun H locs hP hD hS => ?_)
  have hP : va_P D kinds ((h0, .inr (6, [.int 0, .ref q1, .int 0, .int 0, .ref q2, .ref q3, .int 0, .ref q4, .null, .null, .int 0, .int 0, .int 0, .null, .int 0, .null, .null, .null])) :: (((([] ++ nwA cI q1 4) ++ nwA cI q2 120) ++ nwA cI q3 120) ++ nwA cI q4 16)) H := hP
  have hD : va_D A ((h0, .inr (6, [.int 0, .ref q1, .int 0, .int 0, .ref q2, .ref q3, .int 0, .ref q4, .null, .null, .int 0, .int 0, .int 0, .null, .int 0, .null, .null, .null])) :: (((([] ++ nwA cI q1 4) ++ nwA cI q2 120) ++ nwA cI q3 120) ++ nwA cI q4 16)) := hD
  refine lv_aload_n hx hb dMo_init_35 rfl (lv_at hl 0 rfl) ?_
  refine lv_bipush hx hb dMo_init_36 (show (Int8.ofInt 16).toInt32 = nI 16 by decide +kernel) ?_
  refine nw_a (n := nI 16) hx hb harr hK hP hD hS hA (by decide +kernel) (N' := 16) (by decide +kernel) (by decide) (Nat.le_of_ble_eq_true rfl) (Nat.le_of_ble_eq_true rfl) dMo_init_38 (fun q5 H hP hD hS => ?_)
  have hP : va_P D kinds ((h0, .inr (6, [.int 0, .ref q1, .int 0, .int 0, .ref q2, .ref q3, .int 0, .ref q4, .null, .null, .int 0, .int 0, .int 0, .null, .int 0, .null, .null, .null])) :: ((((([] ++ nwA cI q1 4) ++ nwA cI q2 120) ++ nwA cI q3 120) ++ nwA cI q4 16) ++ nwA cI q5 16)) H := hP
  have hD : va_D A ((h0, .inr (6, [.int 0, .ref q1, .int 0, .int 0, .ref q2, .ref q3, .int 0, .ref q4, .null, .null, .int 0, .int 0, .int 0, .null, .int 0, .null, .null, .null])) :: ((((([] ++ nwA cI q1 4) ++ nwA cI q2 120) ++ nwA cI q3 120) ++ nwA cI q4 16) ++ nwA cI q5 16)) := hD
  refine W.widen (k := 5) (n := 276) (by omega) (by omega) ?_
  refine va_putF (D := D) (ci := 6) (v := .ref q5) (ty := .array .int) (C := RMo) (T := TMo) (N := 18) hx hb hts (fun w hw => List.mem_cons_of_mem _ (wt_kMo w hw)) tMo tMo_ok nMo hown hK hP hD hS 0 rfl rfl 8 (by decide) (hts (.fieldLink RMo 22 "ClassCharactersModel" "least" "[I") (List.mem_cons_of_mem _ (by decide +kernel))) (fun _ h9 => h9) rfl hin rfl (by decide +kernel) rfl rfl (Nat.le_of_ble_eq_true rfl) dMo_init_40 (fun H locs hP hD hS => ?_)
  have hP : va_P D kinds ((h0, .inr (6, [.int 0, .ref q1, .int 0, .int 0, .ref q2, .ref q3, .int 0, .ref q4, .ref q5, .null, .int 0, .int 0, .int 0, .null, .int 0, .null, .null, .null])) :: ((((([] ++ nwA cI q1 4) ++ nwA cI q2 120) ++ nwA cI q3 120) ++ nwA cI q4 16) ++ nwA cI q5 16)) H := hP
  have hD : va_D A ((h0, .inr (6, [.int 0, .ref q1, .int 0, .int 0, .ref q2, .ref q3, .int 0, .ref q4, .ref q5, .null, .int 0, .int 0, .int 0, .null, .int 0, .null, .null, .null])) :: ((((([] ++ nwA cI q1 4) ++ nwA cI q2 120) ++ nwA cI q3 120) ++ nwA cI q4 16) ++ nwA cI q5 16)) := hD
  refine lv_aload_n hx hb dMo_init_43 rfl (lv_at hl 0 rfl) ?_
  refine lv_sipush hx hb dMo_init_44 (show (Int16.ofInt 4096).toInt32 = nI 4096 by decide +kernel) ?_
  refine nw_a (n := nI 4096) hx hb harr hK hP hD hS hA (by decide +kernel) (N' := 4096) (by decide +kernel) (by decide) (Nat.le_of_ble_eq_true rfl) (Nat.le_of_ble_eq_true rfl) dMo_init_47 (fun q6 H hP hD hS => ?_)
  have hP : va_P D kinds ((h0, .inr (6, [.int 0, .ref q1, .int 0, .int 0, .ref q2, .ref q3, .int 0, .ref q4, .ref q5, .null, .int 0, .int 0, .int 0, .null, .int 0, .null, .null, .null])) :: (((((([] ++ nwA cI q1 4) ++ nwA cI q2 120) ++ nwA cI q3 120) ++ nwA cI q4 16) ++ nwA cI q5 16) ++ nwA cI q6 4096)) H := hP
  have hD : va_D A ((h0, .inr (6, [.int 0, .ref q1, .int 0, .int 0, .ref q2, .ref q3, .int 0, .ref q4, .ref q5, .null, .int 0, .int 0, .int 0, .null, .int 0, .null, .null, .null])) :: (((((([] ++ nwA cI q1 4) ++ nwA cI q2 120) ++ nwA cI q3 120) ++ nwA cI q4 16) ++ nwA cI q5 16) ++ nwA cI q6 4096)) := hD
  refine W.widen (k := 6) (n := 4372) (by omega) (by omega) ?_
  refine va_putF (D := D) (ci := 6) (v := .ref q6) (ty := .array .int) (C := RMo) (T := TMo) (N := 18) hx hb hts (fun w hw => List.mem_cons_of_mem _ (wt_kMo w hw)) tMo tMo_ok nMo hown hK hP hD hS 0 rfl rfl 9 (by decide) (hts (.fieldLink RMo 25 "ClassCharactersModel" "constants" "[I") (List.mem_cons_of_mem _ (by decide +kernel))) (fun _ h9 => h9) rfl hin rfl (by decide +kernel) rfl rfl (Nat.le_of_ble_eq_true rfl) dMo_init_49 (fun H locs hP hD hS => ?_)
  have hP : va_P D kinds ((h0, .inr (6, [.int 0, .ref q1, .int 0, .int 0, .ref q2, .ref q3, .int 0, .ref q4, .ref q5, .ref q6, .int 0, .int 0, .int 0, .null, .int 0, .null, .null, .null])) :: (((((([] ++ nwA cI q1 4) ++ nwA cI q2 120) ++ nwA cI q3 120) ++ nwA cI q4 16) ++ nwA cI q5 16) ++ nwA cI q6 4096)) H := hP
  have hD : va_D A ((h0, .inr (6, [.int 0, .ref q1, .int 0, .int 0, .ref q2, .ref q3, .int 0, .ref q4, .ref q5, .ref q6, .int 0, .int 0, .int 0, .null, .int 0, .null, .null, .null])) :: (((((([] ++ nwA cI q1 4) ++ nwA cI q2 120) ++ nwA cI q3 120) ++ nwA cI q4 16) ++ nwA cI q5 16) ++ nwA cI q6 4096)) := hD
  refine lv_aload_n hx hb dMo_init_52 rfl (lv_at hl 0 rfl) ?_
  refine lv_sipush hx hb dMo_init_53 (show (Int16.ofInt 640).toInt32 = nI 640 by decide +kernel) ?_
  refine nw_a (n := nI 640) hx hb harr hK hP hD hS hA (by decide +kernel) (N' := 640) (by decide +kernel) (by decide) (Nat.le_of_ble_eq_true rfl) (Nat.le_of_ble_eq_true rfl) dMo_init_56 (fun q7 H hP hD hS => ?_)
  have hP : va_P D kinds ((h0, .inr (6, [.int 0, .ref q1, .int 0, .int 0, .ref q2, .ref q3, .int 0, .ref q4, .ref q5, .ref q6, .int 0, .int 0, .int 0, .null, .int 0, .null, .null, .null])) :: ((((((([] ++ nwA cI q1 4) ++ nwA cI q2 120) ++ nwA cI q3 120) ++ nwA cI q4 16) ++ nwA cI q5 16) ++ nwA cI q6 4096) ++ nwA cI q7 640)) H := hP
  have hD : va_D A ((h0, .inr (6, [.int 0, .ref q1, .int 0, .int 0, .ref q2, .ref q3, .int 0, .ref q4, .ref q5, .ref q6, .int 0, .int 0, .int 0, .null, .int 0, .null, .null, .null])) :: ((((((([] ++ nwA cI q1 4) ++ nwA cI q2 120) ++ nwA cI q3 120) ++ nwA cI q4 16) ++ nwA cI q5 16) ++ nwA cI q6 4096) ++ nwA cI q7 640)) := hD
  refine W.widen (k := 7) (n := 5012) (by omega) (by omega) ?_
  refine va_putF (D := D) (ci := 6) (v := .ref q7) (ty := .array .int) (C := RMo) (T := TMo) (N := 18) hx hb hts (fun w hw => List.mem_cons_of_mem _ (wt_kMo w hw)) tMo tMo_ok nMo hown hK hP hD hS 0 rfl rfl 13 (by decide) (hts (.fieldLink RMo 28 "ClassCharactersModel" "cells" "[I") (List.mem_cons_of_mem _ (by decide +kernel))) (fun _ h9 => h9) rfl hin rfl (by decide +kernel) rfl rfl (Nat.le_of_ble_eq_true rfl) dMo_init_58 (fun H locs hP hD hS => ?_)
  have hP : va_P D kinds ((h0, .inr (6, [.int 0, .ref q1, .int 0, .int 0, .ref q2, .ref q3, .int 0, .ref q4, .ref q5, .ref q6, .int 0, .int 0, .int 0, .ref q7, .int 0, .null, .null, .null])) :: ((((((([] ++ nwA cI q1 4) ++ nwA cI q2 120) ++ nwA cI q3 120) ++ nwA cI q4 16) ++ nwA cI q5 16) ++ nwA cI q6 4096) ++ nwA cI q7 640)) H := hP
  have hD : va_D A ((h0, .inr (6, [.int 0, .ref q1, .int 0, .int 0, .ref q2, .ref q3, .int 0, .ref q4, .ref q5, .ref q6, .int 0, .int 0, .int 0, .ref q7, .int 0, .null, .null, .null])) :: ((((((([] ++ nwA cI q1 4) ++ nwA cI q2 120) ++ nwA cI q3 120) ++ nwA cI q4 16) ++ nwA cI q5 16) ++ nwA cI q6 4096) ++ nwA cI q7 640)) := hD
  refine lv_aload_n hx hb dMo_init_61 rfl (lv_at hl 0 rfl) ?_
  refine lv_bipush hx hb dMo_init_62 (show (Int8.ofInt 16).toInt32 = nI 16 by decide +kernel) ?_
  refine nw_a (n := nI 16) hx hb harr hK hP hD hS hA (by decide +kernel) (N' := 16) (by decide +kernel) (by decide) (Nat.le_of_ble_eq_true rfl) (Nat.le_of_ble_eq_true rfl) dMo_init_64 (fun q8 H hP hD hS => ?_)
  have hP : va_P D kinds ((h0, .inr (6, [.int 0, .ref q1, .int 0, .int 0, .ref q2, .ref q3, .int 0, .ref q4, .ref q5, .ref q6, .int 0, .int 0, .int 0, .ref q7, .int 0, .null, .null, .null])) :: (((((((([] ++ nwA cI q1 4) ++ nwA cI q2 120) ++ nwA cI q3 120) ++ nwA cI q4 16) ++ nwA cI q5 16) ++ nwA cI q6 4096) ++ nwA cI q7 640) ++ nwA cI q8 16)) H := hP
  have hD : va_D A ((h0, .inr (6, [.int 0, .ref q1, .int 0, .int 0, .ref q2, .ref q3, .int 0, .ref q4, .ref q5, .ref q6, .int 0, .int 0, .int 0, .ref q7, .int 0, .null, .null, .null])) :: (((((((([] ++ nwA cI q1 4) ++ nwA cI q2 120) ++ nwA cI q3 120) ++ nwA cI q4 16) ++ nwA cI q5 16) ++ nwA cI q6 4096) ++ nwA cI q7 640) ++ nwA cI q8 16)) := hD
  refine W.widen (k := 8) (n := 5028) (by omega) (by omega) ?_
  refine va_putF (D := D) (ci := 6) (v := .ref q8) (ty := .array .int) (C := RMo) (T := TMo) (N := 18) hx hb hts (fun w hw => List.mem_cons_of_mem _ (wt_kMo w hw)) tMo tMo_ok nMo hown hK hP hD hS 0 rfl rfl 15 (by decide) (hts (.fieldLink RMo 31 "ClassCharactersModel" "degrees" "[I") (List.mem_cons_of_mem _ (by decide +kernel))) (fun _ h9 => h9) rfl hin rfl (by decide +kernel) rfl rfl (Nat.le_of_ble_eq_true rfl) dMo_init_66 (fun H locs hP hD hS => ?_)
  have hP : va_P D kinds ((h0, .inr (6, [.int 0, .ref q1, .int 0, .int 0, .ref q2, .ref q3, .int 0, .ref q4, .ref q5, .ref q6, .int 0, .int 0, .int 0, .ref q7, .int 0, .ref q8, .null, .null])) :: (((((((([] ++ nwA cI q1 4) ++ nwA cI q2 120) ++ nwA cI q3 120) ++ nwA cI q4 16) ++ nwA cI q5 16) ++ nwA cI q6 4096) ++ nwA cI q7 640) ++ nwA cI q8 16)) H := hP
  have hD : va_D A ((h0, .inr (6, [.int 0, .ref q1, .int 0, .int 0, .ref q2, .ref q3, .int 0, .ref q4, .ref q5, .ref q6, .int 0, .int 0, .int 0, .ref q7, .int 0, .ref q8, .null, .null])) :: (((((((([] ++ nwA cI q1 4) ++ nwA cI q2 120) ++ nwA cI q3 120) ++ nwA cI q4 16) ++ nwA cI q5 16) ++ nwA cI q6 4096) ++ nwA cI q7 640) ++ nwA cI q8 16)) := hD
  refine lv_aload_n hx hb dMo_init_69 rfl (lv_at hl 0 rfl) ?_
  refine lv_sipush hx hb dMo_init_70 (show (Int16.ofInt 256).toInt32 = nI 256 by decide +kernel) ?_
  refine nw_a (n := nI 256) hx hb harr hK hP hD hS hA (by decide +kernel) (N' := 256) (by decide +kernel) (by decide) (Nat.le_of_ble_eq_true rfl) (Nat.le_of_ble_eq_true rfl) dMo_init_73 (fun q9 H hP hD hS => ?_)
  have hP : va_P D kinds ((h0, .inr (6, [.int 0, .ref q1, .int 0, .int 0, .ref q2, .ref q3, .int 0, .ref q4, .ref q5, .ref q6, .int 0, .int 0, .int 0, .ref q7, .int 0, .ref q8, .null, .null])) :: ((((((((([] ++ nwA cI q1 4) ++ nwA cI q2 120) ++ nwA cI q3 120) ++ nwA cI q4 16) ++ nwA cI q5 16) ++ nwA cI q6 4096) ++ nwA cI q7 640) ++ nwA cI q8 16) ++ nwA cI q9 256)) H := hP
  have hD : va_D A ((h0, .inr (6, [.int 0, .ref q1, .int 0, .int 0, .ref q2, .ref q3, .int 0, .ref q4, .ref q5, .ref q6, .int 0, .int 0, .int 0, .ref q7, .int 0, .ref q8, .null, .null])) :: ((((((((([] ++ nwA cI q1 4) ++ nwA cI q2 120) ++ nwA cI q3 120) ++ nwA cI q4 16) ++ nwA cI q5 16) ++ nwA cI q6 4096) ++ nwA cI q7 640) ++ nwA cI q8 16) ++ nwA cI q9 256)) := hD
  refine W.widen (k := 9) (n := 5284) (by omega) (by omega) ?_
  refine va_putF (D := D) (ci := 6) (v := .ref q9) (ty := .array .int) (C := RMo) (T := TMo) (N := 18) hx hb hts (fun w hw => List.mem_cons_of_mem _ (wt_kMo w hw)) tMo tMo_ok nMo hown hK hP hD hS 0 rfl rfl 16 (by decide) (hts (.fieldLink RMo 34 "ClassCharactersModel" "values" "[I") (List.mem_cons_of_mem _ (by decide +kernel))) (fun _ h9 => h9) rfl hin rfl (by decide +kernel) rfl rfl (Nat.le_of_ble_eq_true rfl) dMo_init_75 (fun H locs hP hD hS => ?_)
  have hP : va_P D kinds ((h0, .inr (6, [.int 0, .ref q1, .int 0, .int 0, .ref q2, .ref q3, .int 0, .ref q4, .ref q5, .ref q6, .int 0, .int 0, .int 0, .ref q7, .int 0, .ref q8, .ref q9, .null])) :: ((((((((([] ++ nwA cI q1 4) ++ nwA cI q2 120) ++ nwA cI q3 120) ++ nwA cI q4 16) ++ nwA cI q5 16) ++ nwA cI q6 4096) ++ nwA cI q7 640) ++ nwA cI q8 16) ++ nwA cI q9 256)) H := hP
  have hD : va_D A ((h0, .inr (6, [.int 0, .ref q1, .int 0, .int 0, .ref q2, .ref q3, .int 0, .ref q4, .ref q5, .ref q6, .int 0, .int 0, .int 0, .ref q7, .int 0, .ref q8, .ref q9, .null])) :: ((((((((([] ++ nwA cI q1 4) ++ nwA cI q2 120) ++ nwA cI q3 120) ++ nwA cI q4 16) ++ nwA cI q5 16) ++ nwA cI q6 4096) ++ nwA cI q7 640) ++ nwA cI q8 16) ++ nwA cI q9 256)) := hD
  refine lv_aload_n hx hb dMo_init_78 rfl (lv_at hl 0 rfl) ?_
  refine lv_sipush hx hb dMo_init_79 (show (Int16.ofInt 200).toInt32 = nI 200 by decide +kernel) ?_
  refine nw_a (n := nI 200) hx hb harr hK hP hD hS hA (by decide +kernel) (N' := 200) (by decide +kernel) (by decide) (Nat.le_of_ble_eq_true rfl) (Nat.le_of_ble_eq_true rfl) dMo_init_82 (fun q10 H hP hD hS => ?_)
  have hP : va_P D kinds ((h0, .inr (6, [.int 0, .ref q1, .int 0, .int 0, .ref q2, .ref q3, .int 0, .ref q4, .ref q5, .ref q6, .int 0, .int 0, .int 0, .ref q7, .int 0, .ref q8, .ref q9, .null])) :: (((((((((([] ++ nwA cI q1 4) ++ nwA cI q2 120) ++ nwA cI q3 120) ++ nwA cI q4 16) ++ nwA cI q5 16) ++ nwA cI q6 4096) ++ nwA cI q7 640) ++ nwA cI q8 16) ++ nwA cI q9 256) ++ nwA cI q10 200)) H := hP
  have hD : va_D A ((h0, .inr (6, [.int 0, .ref q1, .int 0, .int 0, .ref q2, .ref q3, .int 0, .ref q4, .ref q5, .ref q6, .int 0, .int 0, .int 0, .ref q7, .int 0, .ref q8, .ref q9, .null])) :: (((((((((([] ++ nwA cI q1 4) ++ nwA cI q2 120) ++ nwA cI q3 120) ++ nwA cI q4 16) ++ nwA cI q5 16) ++ nwA cI q6 4096) ++ nwA cI q7 640) ++ nwA cI q8 16) ++ nwA cI q9 256) ++ nwA cI q10 200)) := hD
  refine W.widen (k := 10) (n := 5484) (by omega) (by omega) ?_
  refine va_putF (D := D) (ci := 6) (v := .ref q10) (ty := .array .int) (C := RMo) (T := TMo) (N := 18) hx hb hts (fun w hw => List.mem_cons_of_mem _ (wt_kMo w hw)) tMo tMo_ok nMo hown hK hP hD hS 0 rfl rfl 17 (by decide) (hts (.fieldLink RMo 37 "ClassCharactersModel" "sets" "[I") (List.mem_cons_of_mem _ (by decide +kernel))) (fun _ h9 => h9) rfl hin rfl (by decide +kernel) rfl rfl (Nat.le_of_ble_eq_true rfl) dMo_init_84 (fun H locs hP hD hS => ?_)
  have hP : va_P D kinds ((h0, .inr (6, [.int 0, .ref q1, .int 0, .int 0, .ref q2, .ref q3, .int 0, .ref q4, .ref q5, .ref q6, .int 0, .int 0, .int 0, .ref q7, .int 0, .ref q8, .ref q9, .ref q10])) :: (((((((((([] ++ nwA cI q1 4) ++ nwA cI q2 120) ++ nwA cI q3 120) ++ nwA cI q4 16) ++ nwA cI q5 16) ++ nwA cI q6 4096) ++ nwA cI q7 640) ++ nwA cI q8 16) ++ nwA cI q9 256) ++ nwA cI q10 200)) H := hP
  have hD : va_D A ((h0, .inr (6, [.int 0, .ref q1, .int 0, .int 0, .ref q2, .ref q3, .int 0, .ref q4, .ref q5, .ref q6, .int 0, .int 0, .int 0, .ref q7, .int 0, .ref q8, .ref q9, .ref q10])) :: (((((((((([] ++ nwA cI q1 4) ++ nwA cI q2 120) ++ nwA cI q3 120) ++ nwA cI q4 16) ++ nwA cI q5 16) ++ nwA cI q6 4096) ++ nwA cI q7 640) ++ nwA cI q8 16) ++ nwA cI q9 256) ++ nwA cI q10 200)) := hD
  refine W.widen (k := 10) (n := 5484) (by omega) (by omega) ?_
  exact W.vret hx hb hr (fun t ht hW => ⟨⟨((fun n => if n = 1 then q1 else if n = 2 then q2 else if n = 3 then q3 else if n = 4 then q4 else if n = 5 then q5 else if n = 6 then q6 else if n = 7 then q7 else if n = 8 then q8 else if n = 9 then q9 else if n = 10 then q10 else h0), (fun n j =>  0)), rfl, rfl, by rw [ht]; exact hP, va_K.moved hW.alike hK, hD⟩, hS.F ht⟩) hS.2.2 dMo_init_87
