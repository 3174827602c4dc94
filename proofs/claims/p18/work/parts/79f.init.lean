-- the class's constructor
theorem nw_p1 {D : va_G} {cl : List vw_C} {ws : va_W} {x : Nat × va_E} {H : Heap} (hP : va_P D cl (ws ++ [x]) H) : va_P D cl [x] H := fun k y hy => by
  have h0 : k < 1 := (List.getElem?_eq_some_iff.mp hy).1
  rw [show k = 0 by omega] at hy
  exact hP ws.length y (by rw [List.getElem?_append_right (Nat.le_refl _), Nat.sub_self]; exact hy)
theorem nw_d1 {A : Nat → Prop} {x : Nat × va_E} (h : A x.1) : va_D A [x] := ⟨fun i j y z hi hj _ => by
  have h1 : i < 1 := (List.getElem?_eq_some_iff.mp hi).1
  have h2 : j < 1 := (List.getElem?_eq_some_iff.mp hj).1
  omega, fun k y hy => by
  have h0 : k < 1 := (List.getElem?_eq_some_iff.mp hy).1
  rw [show k = 0 by omega] at hy
  cases hy
  exact h⟩
theorem nw_f {A : Nat → Prop} {ws : va_W} {q : Nat} {x : va_E} {sz : Nat} (hD : va_D A (ws ++ [(q, x)])) (hA : ∀ y, sz ≤ y → A y) {y : Nat} (hy : nwF q sz y) : A y := by
  rcases hy with h | h
  · rw [h]
    exact hD.2 ws.length (q, x) (by rw [List.getElem?_append_right (Nat.le_refl _), Nat.sub_self]; rfl)
  · exact hA y h
def adX (h0 q1 q2 q5 q12 q13 q22 : Nat) (u2 u5 u13 u22 : Nat → Nat) : Nat → Nat := fun n => if n = 0 then h0 else if n = 1 then q1 else if n = 2 then q2 else if n < 5 then u2 n else if n = 5 then q5 else if n < 12 then u5 n else if n = 12 then q12 else if n = 13 then q13 else if n < 22 then u13 n else if n = 22 then q22 else u22 n
def rwX (u5 u13 u22 : Nat → Nat → Nat) : Nat → Nat → Nat := fun n j => if n = 9 then u5 9 j else if n = 24 then u22 24 j else u13 n j
-- the ints of a new object
def iX : sA := fun n q => if n = 0 then (if q = 2 then -1 else 0) else if n = 5 then (if q = 6 then 1 else 0) else if n = 12 then (if q = 0 then 3 else 1) else 0
abbrev zA : sA := fun _ _ => 0
abbrev zG : sG := fun _ _ _ => 0

theorem dfEl : ∀ j, j < 3 → defaultValue (tEl j) = vp_V [.null, .null, .int 0] j := by
  intro j hj
  have : j = 0 ∨ j = 1 ∨ j = 2 := by omega
  rcases this with rfl | rfl | rfl <;> rfl
theorem dfRe : ∀ j, j < 2 → defaultValue (tRe j) = vp_V [.int 0, .int 0] j := by
  intro j hj
  have : j = 0 ∨ j = 1 := by omega
  rcases this with rfl | rfl <;> rfl
theorem dfCo : ∀ j, j < 8 → defaultValue (tCo j) = vp_V [.int 0, .null, .null, .null, .null, .null, .int 0, .null] j := by
  intro j hj
  have : j = 0 ∨ j = 1 ∨ j = 2 ∨ j = 3 ∨ j = 4 ∨ j = 5 ∨ j = 6 ∨ j = 7 := by omega
  rcases this with rfl | rfl | rfl | rfl | rfl | rfl | rfl | rfl <;> rfl
theorem dfCm : ∀ j, j < 9 → defaultValue (tCm j) = vp_V [.int 0, .null, .null, .null, .null, .null, .null, .null, .null] j := by
  intro j hj
  have : j = 0 ∨ j = 1 ∨ j = 2 ∨ j = 3 ∨ j = 4 ∨ j = 5 ∨ j = 6 ∨ j = 7 ∨ j = 8 := by omega
  rcases this with rfl | rfl | rfl | rfl | rfl | rfl | rfl | rfl | rfl <;> rfl
theorem dfRo : ∀ j, j < 8 → defaultValue (tRo j) = vp_V [.int 0, .null, .null, .null, .null, .null, .null, .int 0] j := by
  intro j hj
  have : j = 0 ∨ j = 1 ∨ j = 2 ∨ j = 3 ∨ j = 4 ∨ j = 5 ∨ j = 6 ∨ j = 7 := by omega
  rcases this with rfl | rfl | rfl | rfl | rfl | rfl | rfl | rfl <;> rfl
theorem dfMo : ∀ j, j < 18 → defaultValue (tMo j) = vp_V [.int 0, .null, .int 0, .int 0, .null, .null, .int 0, .null, .null, .null, .int 0, .int 0, .int 0, .null, .int 0, .null, .null, .null] j := by
  intro j hj
  have : j = 0 ∨ j = 1 ∨ j = 2 ∨ j = 3 ∨ j = 4 ∨ j = 5 ∨ j = 6 ∨ j = 7 ∨ j = 8 ∨ j = 9 ∨ j = 10 ∨ j = 11 ∨ j = 12 ∨ j = 13 ∨ j = 14 ∨ j = 15 ∨ j = 16 ∨ j = 17 := by omega
  rcases this with rfl | rfl | rfl | rfl | rfl | rfl | rfl | rfl | rfl | rfl | rfl | rfl | rfl | rfl | rfl | rfl | rfl | rfl <;> rfl
theorem dfCc : ∀ j, j < 8 → defaultValue (tCc j) = vp_V [.null, .int 0, .int 0, .null, .null, .null, .null, .null] j := by
  intro j hj
  have : j = 0 ∨ j = 1 ∨ j = 2 ∨ j = 3 ∨ j = 4 ∨ j = 5 ∨ j = 6 ∨ j = 7 := by omega
  rcases this with rfl | rfl | rfl | rfl | rfl | rfl | rfl | rfl <;> rfl
def yCc_init : MethodName := ⟨RCc, "<init>", "()V"⟩
theorem dCc_init_0 : decode prog_1_method_1_code 0 = .ok (.aload_n 0, 1) := by decide +kernel
theorem dCc_init_1 : decode prog_1_method_1_code 1 = .ok (.invokespecial 1, 3) := by decide +kernel
theorem dCc_init_4 : decode prog_1_method_1_code 4 = .ok (.aload_n 0, 1) := by decide +kernel
theorem dCc_init_5 : decode prog_1_method_1_code 5 = .ok (.iconst (4), 1) := by decide +kernel
theorem dCc_init_6 : decode prog_1_method_1_code 6 = .ok (.newarray .int, 2) := by decide +kernel
theorem dCc_init_8 : decode prog_1_method_1_code 8 = .ok (.putfield 9, 3) := by decide +kernel
theorem dCc_init_11 : decode prog_1_method_1_code 11 = .ok (.aload_n 0, 1) := by decide +kernel
theorem dCc_init_12 : decode prog_1_method_1_code 12 = .ok (.iconst (0), 1) := by decide +kernel
theorem dCc_init_13 : decode prog_1_method_1_code 13 = .ok (.putfield 13, 3) := by decide +kernel
theorem dCc_init_16 : decode prog_1_method_1_code 16 = .ok (.aload_n 0, 1) := by decide +kernel
theorem dCc_init_17 : decode prog_1_method_1_code 17 = .ok (.iconst (-1), 1) := by decide +kernel
theorem dCc_init_18 : decode prog_1_method_1_code 18 = .ok (.putfield 17, 3) := by decide +kernel
theorem dCc_init_21 : decode prog_1_method_1_code 21 = .ok (.aload_n 0, 1) := by decide +kernel
theorem dCc_init_22 : decode prog_1_method_1_code 22 = .ok (.new 20, 3) := by decide +kernel
theorem dCc_init_25 : decode prog_1_method_1_code 25 = .ok (.dup, 1) := by decide +kernel
theorem dCc_init_26 : decode prog_1_method_1_code 26 = .ok (.invokespecial 22, 3) := by decide +kernel
theorem dCc_init_29 : decode prog_1_method_1_code 29 = .ok (.putfield 23, 3) := by decide +kernel
theorem dCc_init_32 : decode prog_1_method_1_code 32 = .ok (.aload_n 0, 1) := by decide +kernel
theorem dCc_init_33 : decode prog_1_method_1_code 33 = .ok (.new 27, 3) := by decide +kernel
theorem dCc_init_36 : decode prog_1_method_1_code 36 = .ok (.dup, 1) := by decide +kernel
theorem dCc_init_37 : decode prog_1_method_1_code 37 = .ok (.invokespecial 29, 3) := by decide +kernel
theorem dCc_init_40 : decode prog_1_method_1_code 40 = .ok (.putfield 30, 3) := by decide +kernel
theorem dCc_init_43 : decode prog_1_method_1_code 43 = .ok (.aload_n 0, 1) := by decide +kernel
theorem dCc_init_44 : decode prog_1_method_1_code 44 = .ok (.new 34, 3) := by decide +kernel
theorem dCc_init_47 : decode prog_1_method_1_code 47 = .ok (.dup, 1) := by decide +kernel
theorem dCc_init_48 : decode prog_1_method_1_code 48 = .ok (.invokespecial 36, 3) := by decide +kernel
theorem dCc_init_51 : decode prog_1_method_1_code 51 = .ok (.putfield 37, 3) := by decide +kernel
theorem dCc_init_54 : decode prog_1_method_1_code 54 = .ok (.aload_n 0, 1) := by decide +kernel
theorem dCc_init_55 : decode prog_1_method_1_code 55 = .ok (.new 41, 3) := by decide +kernel
theorem dCc_init_58 : decode prog_1_method_1_code 58 = .ok (.dup, 1) := by decide +kernel
theorem dCc_init_59 : decode prog_1_method_1_code 59 = .ok (.invokespecial 43, 3) := by decide +kernel
theorem dCc_init_62 : decode prog_1_method_1_code 62 = .ok (.putfield 44, 3) := by decide +kernel
theorem dCc_init_65 : decode prog_1_method_1_code 65 = .ok (.aload_n 0, 1) := by decide +kernel
theorem dCc_init_66 : decode prog_1_method_1_code 66 = .ok (.new 48, 3) := by decide +kernel
theorem dCc_init_69 : decode prog_1_method_1_code 69 = .ok (.dup, 1) := by decide +kernel
theorem dCc_init_70 : decode prog_1_method_1_code 70 = .ok (.invokespecial 50, 3) := by decide +kernel
theorem dCc_init_73 : decode prog_1_method_1_code 73 = .ok (.putfield 51, 3) := by decide +kernel
theorem dCc_init_76 : decode prog_1_method_1_code 76 = .ok (.return_, 1) := by decide +kernel
theorem mCc_init : Cond.code yCc_init prog_1_method_1_code 1 none ∈ wt := by decide +kernel
theorem miCc_init : Cond.instanceMethod yCc_init ∈ wt := by decide +kernel
theorem wt_kCc : ∀ w ∈ u_ws RCc TCc 8, w ∈ wt := by decide +kernel
set_option maxHeartbeats 4000000 in
set_option maxRecDepth 100000 in
theorem c_Cc_init (l : Launch) (D : va_G) (cI cII : ClassId) (h0 sz : Nat) (A : Nat → Prop) (hA0 : ∀ q, sz ≤ q → A q) : Met l yCc_init (wy yCc_init prog_1_method_1_code 1 none) ({ frames := 2, cells := 124, slots := 8090, locals := 32 }) (va_Pc [.ref h0] (fun U => U.heap.size = sz ∧ va_P D kinds [(h0, .inr (0, [.null, .int 0, .int 0, .null, .null, .null, .null, .null]))] U.heap ∧ va_K D kinds (tyI cI cII) U ∧ va_D A [(h0, .inr (0, [.null, .int 0, .int 0, .null, .null, .null, .null, .null]))] ∧ aoI U ∧ sx_N wn U)) (va_Qv (fun u : (Nat → Nat) × (Nat → Nat → Nat) => u.1 0 = h0) (fun u t => va_P D kinds (sx_w (u.1, u.2, cI, cII) 29 (cW zA zG iX)) t.heap ∧ va_K D kinds (tyI cI cII) t ∧ va_D A (sx_w (u.1, u.2, cI, cII) 29 (cW zA zG iX))) A) 124 8090 A := by
  refine Met.ofW (cc := prog_1_method_1_code) (maxL := 1) (ret := none) (by decide) rfl ?_
  intro p e s m args below meth c s₁ B hml hv
  obtain ⟨rfl, hsz, hP, hK, hD, hao, hN⟩ := hv
  have hx := B.exec
  have hb := B.bytes
  have hr := B.returns
  have hts := atoms_spec (ws := wy yCc_init prog_1_method_1_code 1 none) B.pre
  have hown : s.vm.findClass RCc = some m.cls := findClass_of_methodNamed B.named
  have hlocks := B.notSynchronized
  have hin : meth.name = "<init>" := (name_of_methodNamed B.named B.method).1
  have harr : (Cond.arrayClass .int).before _ s = true := hts (.arrayClass .int) (List.mem_cons_of_mem _ (by decide +kernel))
  have hA : ∀ q, s.heap.size ≤ q → A q := fun q h => hA0 q (by rw [← hsz]; exact h)
  have hS : va_S A s.heap s.heap [] := va_S.rf
  have hl := lv_entry ([.ref h0]) (n := 1) (Nat.le_of_ble_eq_true rfl)
  rw [lg_entry_eq]
  generalize (lg_sl ([.ref h0]) ++ List.replicate (1 - (lg_sl ([.ref h0])).length) Slot.unset).toArray = ls at hl ⊢
  have hl : lv_has ls 1 [(0, .ref h0)] := hl
  refine lv_aload_n hx hb dCc_init_0 rfl (lv_at hl 0 rfl) ?_
  refine W.objInit hx hb hown (hts (.methodLink RCc 1 objectInit) (List.mem_cons_of_mem _ (by decide +kernel))) (hts (.instanceMethod objectInit) (List.mem_cons_of_mem _ (by decide +kernel))) (hts _ (List.mem_cons_of_mem _ (show Cond.code objectInit ⟨#[0xb1]⟩ 1 none ∈ wt by decide +kernel))) rfl (by rw [hml]; exact hl.1) rfl dCc_init_1 (Nat.le_of_ble_eq_true rfl) (Nat.le_of_ble_eq_true rfl) ?_
  refine W.eq (g2 := F0 m 4 ls []) rfl ?_
  refine lv_aload_n hx hb dCc_init_4 rfl (lv_at hl 0 rfl) ?_
  refine lv_iconst hx hb dCc_init_5 rfl ?_
  refine nw_a (n := Int32.ofInt 4) hx hb harr hK hP hD hS hA (by decide +kernel) (N' := 4) (by decide +kernel) (by decide) (Nat.le_of_ble_eq_true rfl) (Nat.le_of_ble_eq_true rfl) dCc_init_6 (fun q1 H hP hD hS => ?_)
  have hP : va_P D kinds ((h0, .inr (0, [.null, .int 0, .int 0, .null, .null, .null, .null, .null])) :: ([] ++ nwA cI q1 4)) H := hP
  have hD : va_D A ((h0, .inr (0, [.null, .int 0, .int 0, .null, .null, .null, .null, .null])) :: ([] ++ nwA cI q1 4)) := hD
  refine W.widen (k := 1) (n := 4) (by omega) (by omega) ?_
  refine va_putF (D := D) (ci := 0) (v := .ref q1) (ty := .array .int) (C := RCc) (T := TCc) (N := 8) hx hb hts (fun w hw => List.mem_cons_of_mem _ (wt_kCc w hw)) tCc tCc_ok nCc hown hK hP hD hS 0 rfl rfl 0 (by decide) (hts (.fieldLink RCc 9 "ClassCharacters" "generators" "[I") (List.mem_cons_of_mem _ (by decide +kernel))) (fun _ h9 => h9) rfl hin rfl (by decide +kernel) rfl rfl (Nat.le_of_ble_eq_true rfl) dCc_init_8 (fun H locs hP hD hS => ?_)
  have hP : va_P D kinds ((h0, .inr (0, [.ref q1, .int 0, .int 0, .null, .null, .null, .null, .null])) :: ([] ++ nwA cI q1 4)) H := hP
  have hD : va_D A ((h0, .inr (0, [.ref q1, .int 0, .int 0, .null, .null, .null, .null, .null])) :: ([] ++ nwA cI q1 4)) := hD
  refine lv_aload_n hx hb dCc_init_11 rfl (lv_at hl 0 rfl) ?_
  refine lv_iconst hx hb dCc_init_12 rfl ?_
  refine va_put (D := D) (ci := 0) (v := .int (Int32.ofInt (0))) (ty := .int) (C := RCc) (T := TCc) (N := 8) hx hb hts (fun w hw => List.mem_cons_of_mem _ (wt_kCc w hw)) tCc tCc_ok nCc hown hK hP hD hS 0 rfl rfl 1 (by decide) (hts (.fieldLink RCc 13 "ClassCharacters" "generatorCount" "I") (List.mem_cons_of_mem _ (by decide +kernel))) (fun _ h9 => h9) rfl (by decide +kernel) rfl rfl (Nat.le_of_ble_eq_true rfl) dCc_init_13 (fun H locs hP hD hS => ?_)
  have hP : va_P D kinds ((h0, .inr (0, [.ref q1, .int (Int32.ofInt (0)), .int 0, .null, .null, .null, .null, .null])) :: ([] ++ nwA cI q1 4)) H := hP
  have hD : va_D A ((h0, .inr (0, [.ref q1, .int (Int32.ofInt (0)), .int 0, .null, .null, .null, .null, .null])) :: ([] ++ nwA cI q1 4)) := hD
  refine lv_aload_n hx hb dCc_init_16 rfl (lv_at hl 0 rfl) ?_
  refine lv_iconst hx hb dCc_init_17 rfl ?_
  refine va_put (D := D) (ci := 0) (v := .int (Int32.ofInt (-1))) (ty := .int) (C := RCc) (T := TCc) (N := 8) hx hb hts (fun w hw => List.mem_cons_of_mem _ (wt_kCc w hw)) tCc tCc_ok nCc hown hK hP hD hS 0 rfl rfl 2 (by decide) (hts (.fieldLink RCc 17 "ClassCharacters" "outcome" "I") (List.mem_cons_of_mem _ (by decide +kernel))) (fun _ h9 => h9) rfl (by decide +kernel) rfl rfl (Nat.le_of_ble_eq_true rfl) dCc_init_18 (fun H locs hP hD hS => ?_)
  have hP : va_P D kinds ((h0, .inr (0, [.ref q1, .int (Int32.ofInt (0)), .int (Int32.ofInt (-1)), .null, .null, .null, .null, .null])) :: ([] ++ nwA cI q1 4)) H := hP
  have hD : va_D A ((h0, .inr (0, [.ref q1, .int (Int32.ofInt (0)), .int (Int32.ofInt (-1)), .null, .null, .null, .null, .null])) :: ([] ++ nwA cI q1 4)) := hD
  refine lv_aload_n hx hb dCc_init_21 rfl (lv_at hl 0 rfl) ?_
  refine va_new (ci := 1) (fs := [.null, .null, .int 0]) (C := REl) (T := TEl) (N := 3) hx hb hts (fun w hw => List.mem_cons_of_mem _ (wt_kEl w hw)) tEl tEl_ok hown (hts (.classLink RCc 20 REl) (List.mem_cons_of_mem _ (by decide +kernel))) (hts (.instantiable REl 3) (List.mem_cons_of_mem _ (by decide +kernel))) (hts (.initialized REl) (List.mem_cons_of_mem _ (by decide +kernel))) hK hP hD hS hA rfl dfEl (Nat.le_of_ble_eq_true rfl) (Nat.le_of_ble_eq_true rfl) dCc_init_22 (fun q2 H hP hD hS => ?_)
  have hP : va_P D kinds (((h0, .inr (0, [.ref q1, .int (Int32.ofInt (0)), .int (Int32.ofInt (-1)), .null, .null, .null, .null, .null])) :: ([] ++ nwA cI q1 4)) ++ [(q2, .inr (1, [.null, .null, .int 0]))]) H := hP
  have hD : va_D A (((h0, .inr (0, [.ref q1, .int (Int32.ofInt (0)), .int (Int32.ofInt (-1)), .null, .null, .null, .null, .null])) :: ([] ++ nwA cI q1 4)) ++ [(q2, .inr (1, [.null, .null, .int 0]))]) := hD
  refine W.widen (k := 2) (n := 7) (by omega) (by omega) ?_
  refine lv_dup hx hb dCc_init_25 rfl ?_
  have hAq2 : ∀ y, H.size ≤ y → A y := fun y hy => hA y (Nat.le_trans hS.1 hy)
  have hFq2 : ∀ y, nwF q2 H.size y → A y := fun y hy => nw_f hD hAq2 hy
  refine va_callv (va_runIN (b := q2) (As := []) (rest := [.ref q2, .ref h0]) ⟨hx, hb, hml, hown, hts⟩ (c_El_init l D cI cII q2 H.size (nwF q2 H.size) (fun y hy => Or.inr hy)) ⟨va_cnB 0 hts (wy_in mEl_init) rfl rfl rfl (hN (.methodLinkNest RCc 22 yEl_init hostC) (by decide +kernel)).2 (hts (.initialized REl) (List.mem_cons_of_mem _ (by decide +kernel))) (by decide +kernel) ⟨Nat.le_of_ble_eq_true rfl, Nat.le_of_ble_eq_true rfl⟩, rfl, hts _ (List.mem_cons_of_mem _ miEl_init)⟩ ⟨fun a U g mk q => by obtain ⟨q0, q1, qP, qK, qD, qO⟩ := q; exact ⟨q0, q1, qP, va_K.moved (u := U) (U := U.calling g mk a) (Vm.Alike.refl U.vm) qK, qD, aoI_moved (u := U) (U := U.calling g mk a) (Vm.Alike.refl U.vm) qO⟩, fun U hU hW => ⟨rfl, by rw [hU], by rw [hU]; exact nw_p1 hP, va_K.moved hW.alike hK, nw_d1 (Or.inl rfl), aoI_moved hW.alike hao⟩⟩ rfl rfl hl.1 rfl (lv_room (Nat.le_of_ble_eq_true rfl)) dCc_init_26 ⟨Nat.le_of_ble_eq_true rfl, Nat.le_of_ble_eq_true rfl⟩) hS (fun y _ h => hFq2 y h) hFq2 (fun u2 t H1 locs ht hvm _ hB hz1 hk1 hS => ?_)
  obtain ⟨hP1, -, hD1⟩ := hB
  rw [ht] at hP1
  obtain ⟨hP, hD⟩ := nw_j hP hD hAq2 hk1 hP1 hD1
  generalize H1 = H at hP hS ⊢
  have hP : va_P D kinds ((h0, .inr (0, [.ref q1, .int (Int32.ofInt (0)), .int (Int32.ofInt (-1)), .null, .null, .null, .null, .null])) :: (([] ++ nwA cI q1 4) ++ finEl cI cII q2 u2)) H := hP
  have hD : va_D A ((h0, .inr (0, [.ref q1, .int (Int32.ofInt (0)), .int (Int32.ofInt (-1)), .null, .null, .null, .null, .null])) :: (([] ++ nwA cI q1 4) ++ finEl cI cII q2 u2)) := hD
  refine W.widen (k := 4) (n := 247) (by omega) (by omega) ?_
  refine va_putF (D := D) (ci := 0) (v := .ref q2) (ty := .object "ClassCharacters$Elements") (C := RCc) (T := TCc) (N := 8) hx hb hts (fun w hw => List.mem_cons_of_mem _ (wt_kCc w hw)) tCc tCc_ok nCc hown hK hP hD hS 0 rfl rfl 3 (by decide) (hts (.fieldLink RCc 23 "ClassCharacters" "elements" "LClassCharacters$Elements;") (List.mem_cons_of_mem _ (by decide +kernel))) (fun _ h9 => h9) rfl hin rfl (by decide +kernel) rfl rfl (Nat.le_of_ble_eq_true rfl) dCc_init_29 (fun H locs hP hD hS => ?_)
  have hP : va_P D kinds ((h0, .inr (0, [.ref q1, .int (Int32.ofInt (0)), .int (Int32.ofInt (-1)), .ref q2, .null, .null, .null, .null])) :: (([] ++ nwA cI q1 4) ++ finEl cI cII q2 u2)) H := hP
  have hD : va_D A ((h0, .inr (0, [.ref q1, .int (Int32.ofInt (0)), .int (Int32.ofInt (-1)), .ref q2, .null, .null, .null, .null])) :: (([] ++ nwA cI q1 4) ++ finEl cI cII q2 u2)) := hD
  refine lv_aload_n hx hb dCc_init_32 rfl (lv_at hl 0 rfl) ?_
  refine va_new (ci := 2) (fs := [.int 0, .null, .null, .null, .null, .null, .int 0, .null]) (C := RCo) (T := TCo) (N := 8) hx hb hts (fun w hw => List.mem_cons_of_mem _ (wt_kCo w hw)) tCo tCo_ok hown (hts (.classLink RCc 27 RCo) (List.mem_cons_of_mem _ (by decide +kernel))) (hts (.instantiable RCo 8) (List.mem_cons_of_mem _ (by decide +kernel))) (hts (.initialized RCo) (List.mem_cons_of_mem _ (by decide +kernel))) hK hP hD hS hA rfl dfCo (Nat.le_of_ble_eq_true rfl) (Nat.le_of_ble_eq_true rfl) dCc_init_33 (fun q5 H hP hD hS => ?_)
  have hP : va_P D kinds (((h0, .inr (0, [.ref q1, .int (Int32.ofInt (0)), .int (Int32.ofInt (-1)), .ref q2, .null, .null, .null, .null])) :: (([] ++ nwA cI q1 4) ++ finEl cI cII q2 u2)) ++ [(q5, .inr (2, [.int 0, .null, .null, .null, .null, .null, .int 0, .null]))]) H := hP
  have hD : va_D A (((h0, .inr (0, [.ref q1, .int (Int32.ofInt (0)), .int (Int32.ofInt (-1)), .ref q2, .null, .null, .null, .null])) :: (([] ++ nwA cI q1 4) ++ finEl cI cII q2 u2)) ++ [(q5, .inr (2, [.int 0, .null, .null, .null, .null, .null, .int 0, .null]))]) := hD
  refine W.widen (k := 5) (n := 255) (by omega) (by omega) ?_
  refine lv_dup hx hb dCc_init_36 rfl ?_
  have hAq5 : ∀ y, H.size ≤ y → A y := fun y hy => hA y (Nat.le_trans hS.1 hy)
  have hFq5 : ∀ y, nwF q5 H.size y → A y := fun y hy => nw_f hD hAq5 hy
  refine va_callv (va_runIN (b := q5) (As := []) (rest := [.ref q5, .ref h0]) ⟨hx, hb, hml, hown, hts⟩ (c_Co_init l D cI cII q5 H.size (nwF q5 H.size) (fun y hy => Or.inr hy)) ⟨va_cnB 0 hts (wy_in mCo_init) rfl rfl rfl (hN (.methodLinkNest RCc 29 yCo_init hostC) (by decide +kernel)).2 (hts (.initialized RCo) (List.mem_cons_of_mem _ (by decide +kernel))) (by decide +kernel) ⟨Nat.le_of_ble_eq_true rfl, Nat.le_of_ble_eq_true rfl⟩, rfl, hts _ (List.mem_cons_of_mem _ miCo_init)⟩ ⟨fun a U g mk q => by obtain ⟨q0, q1, qP, qK, qD, qO⟩ := q; exact ⟨q0, q1, qP, va_K.moved (u := U) (U := U.calling g mk a) (Vm.Alike.refl U.vm) qK, qD, aoI_moved (u := U) (U := U.calling g mk a) (Vm.Alike.refl U.vm) qO⟩, fun U hU hW => ⟨rfl, by rw [hU], by rw [hU]; exact nw_p1 hP, va_K.moved hW.alike hK, nw_d1 (Or.inl rfl), aoI_moved hW.alike hao⟩⟩ rfl rfl hl.1 rfl (lv_room (Nat.le_of_ble_eq_true rfl)) dCc_init_37 ⟨Nat.le_of_ble_eq_true rfl, Nat.le_of_ble_eq_true rfl⟩) hS (fun y _ h => hFq5 y h) hFq5 (fun u5 t H1 locs ht hvm _ hB hz1 hk1 hS => ?_)
  obtain ⟨hP1, -, hD1⟩ := hB
  rw [ht] at hP1
  obtain ⟨hP, hD⟩ := nw_j hP hD hAq5 hk1 hP1 hD1
  generalize H1 = H at hP hS ⊢
  have hP : va_P D kinds ((h0, .inr (0, [.ref q1, .int (Int32.ofInt (0)), .int (Int32.ofInt (-1)), .ref q2, .null, .null, .null, .null])) :: ((([] ++ nwA cI q1 4) ++ finEl cI cII q2 u2) ++ finCo cI cII q5 u5)) H := hP
  have hD : va_D A ((h0, .inr (0, [.ref q1, .int (Int32.ofInt (0)), .int (Int32.ofInt (-1)), .ref q2, .null, .null, .null, .null])) :: ((([] ++ nwA cI q1 4) ++ finEl cI cII q2 u2) ++ finCo cI cII q5 u5)) := hD
  refine W.widen (k := 27) (n := 6455) (by omega) (by omega) ?_
  refine va_putF (D := D) (ci := 0) (v := .ref q5) (ty := .object "ClassCharacters$Conjugates") (C := RCc) (T := TCc) (N := 8) hx hb hts (fun w hw => List.mem_cons_of_mem _ (wt_kCc w hw)) tCc tCc_ok nCc hown hK hP hD hS 0 rfl rfl 4 (by decide) (hts (.fieldLink RCc 30 "ClassCharacters" "conjugates" "LClassCharacters$Conjugates;") (List.mem_cons_of_mem _ (by decide +kernel))) (fun _ h9 => h9) rfl hin rfl (by decide +kernel) rfl rfl (Nat.le_of_ble_eq_true rfl) dCc_init_40 (fun H locs hP hD hS => ?_)
  have hP : va_P D kinds ((h0, .inr (0, [.ref q1, .int (Int32.ofInt (0)), .int (Int32.ofInt (-1)), .ref q2, .ref q5, .null, .null, .null])) :: ((([] ++ nwA cI q1 4) ++ finEl cI cII q2 u2) ++ finCo cI cII q5 u5)) H := hP
  have hD : va_D A ((h0, .inr (0, [.ref q1, .int (Int32.ofInt (0)), .int (Int32.ofInt (-1)), .ref q2, .ref q5, .null, .null, .null])) :: ((([] ++ nwA cI q1 4) ++ finEl cI cII q2 u2) ++ finCo cI cII q5 u5)) := hD
  refine lv_aload_n hx hb dCc_init_43 rfl (lv_at hl 0 rfl) ?_
  refine va_new (ci := 3) (fs := [.int 0, .int 0]) (C := RRe) (T := TRe) (N := 2) hx hb hts (fun w hw => List.mem_cons_of_mem _ (wt_kRe w hw)) tRe tRe_ok hown (hts (.classLink RCc 34 RRe) (List.mem_cons_of_mem _ (by decide +kernel))) (hts (.instantiable RRe 2) (List.mem_cons_of_mem _ (by decide +kernel))) (hts (.initialized RRe) (List.mem_cons_of_mem _ (by decide +kernel))) hK hP hD hS hA rfl dfRe (Nat.le_of_ble_eq_true rfl) (Nat.le_of_ble_eq_true rfl) dCc_init_44 (fun q12 H hP hD hS => ?_)
  have hP : va_P D kinds (((h0, .inr (0, [.ref q1, .int (Int32.ofInt (0)), .int (Int32.ofInt (-1)), .ref q2, .ref q5, .null, .null, .null])) :: ((([] ++ nwA cI q1 4) ++ finEl cI cII q2 u2) ++ finCo cI cII q5 u5)) ++ [(q12, .inr (3, [.int 0, .int 0]))]) H := hP
  have hD : va_D A (((h0, .inr (0, [.ref q1, .int (Int32.ofInt (0)), .int (Int32.ofInt (-1)), .ref q2, .ref q5, .null, .null, .null])) :: ((([] ++ nwA cI q1 4) ++ finEl cI cII q2 u2) ++ finCo cI cII q5 u5)) ++ [(q12, .inr (3, [.int 0, .int 0]))]) := hD
  refine W.widen (k := 28) (n := 6457) (by omega) (by omega) ?_
  refine lv_dup hx hb dCc_init_47 rfl ?_
  have hAq12 : ∀ y, H.size ≤ y → A y := fun y hy => hA y (Nat.le_trans hS.1 hy)
  have hFq12 : ∀ y, nwF q12 H.size y → A y := fun y hy => nw_f hD hAq12 hy
  refine va_callv (va_runIN (b := q12) (As := []) (rest := [.ref q12, .ref h0]) ⟨hx, hb, hml, hown, hts⟩ (c_Re_init l D cI cII q12 H.size (nwF q12 H.size) (fun y hy => Or.inr hy)) ⟨va_cnB 0 hts (wy_in mRe_init) rfl rfl rfl (hN (.methodLinkNest RCc 36 yRe_init hostC) (by decide +kernel)).2 (hts (.initialized RRe) (List.mem_cons_of_mem _ (by decide +kernel))) (by decide +kernel) ⟨Nat.le_of_ble_eq_true rfl, Nat.le_of_ble_eq_true rfl⟩, rfl, hts _ (List.mem_cons_of_mem _ miRe_init)⟩ ⟨fun a U g mk q => by obtain ⟨q0, q1, qP, qK, qD, qO⟩ := q; exact ⟨q0, q1, qP, va_K.moved (u := U) (U := U.calling g mk a) (Vm.Alike.refl U.vm) qK, qD, aoI_moved (u := U) (U := U.calling g mk a) (Vm.Alike.refl U.vm) qO⟩, fun U hU hW => ⟨rfl, by rw [hU], by rw [hU]; exact nw_p1 hP, va_K.moved hW.alike hK, nw_d1 (Or.inl rfl), aoI_moved hW.alike hao⟩⟩ rfl rfl hl.1 rfl (lv_room (Nat.le_of_ble_eq_true rfl)) dCc_init_48 ⟨Nat.le_of_ble_eq_true rfl, Nat.le_of_ble_eq_true rfl⟩) hS (fun y _ h => hFq12 y h) hFq12 (fun u12 t H1 locs ht hvm _ hB hz1 hk1 hS => ?_)
  obtain ⟨hP1, -, hD1⟩ := hB
  rw [ht] at hP1
  obtain ⟨hP, hD⟩ := nw_j hP hD hAq12 hk1 hP1 hD1
  generalize H1 = H at hP hS ⊢
  have hP : va_P D kinds ((h0, .inr (0, [.ref q1, .int (Int32.ofInt (0)), .int (Int32.ofInt (-1)), .ref q2, .ref q5, .null, .null, .null])) :: (((([] ++ nwA cI q1 4) ++ finEl cI cII q2 u2) ++ finCo cI cII q5 u5) ++ finRe cI cII q12 u12)) H := hP
  have hD : va_D A ((h0, .inr (0, [.ref q1, .int (Int32.ofInt (0)), .int (Int32.ofInt (-1)), .ref q2, .ref q5, .null, .null, .null])) :: (((([] ++ nwA cI q1 4) ++ finEl cI cII q2 u2) ++ finCo cI cII q5 u5) ++ finRe cI cII q12 u12)) := hD
  refine W.widen (k := 28) (n := 6457) (by omega) (by omega) ?_
  refine va_putF (D := D) (ci := 0) (v := .ref q12) (ty := .object "ClassCharacters$Residues") (C := RCc) (T := TCc) (N := 8) hx hb hts (fun w hw => List.mem_cons_of_mem _ (wt_kCc w hw)) tCc tCc_ok nCc hown hK hP hD hS 0 rfl rfl 5 (by decide) (hts (.fieldLink RCc 37 "ClassCharacters" "residues" "LClassCharacters$Residues;") (List.mem_cons_of_mem _ (by decide +kernel))) (fun _ h9 => h9) rfl hin rfl (by decide +kernel) rfl rfl (Nat.le_of_ble_eq_true rfl) dCc_init_51 (fun H locs hP hD hS => ?_)
  have hP : va_P D kinds ((h0, .inr (0, [.ref q1, .int (Int32.ofInt (0)), .int (Int32.ofInt (-1)), .ref q2, .ref q5, .ref q12, .null, .null])) :: (((([] ++ nwA cI q1 4) ++ finEl cI cII q2 u2) ++ finCo cI cII q5 u5) ++ finRe cI cII q12 u12)) H := hP
  have hD : va_D A ((h0, .inr (0, [.ref q1, .int (Int32.ofInt (0)), .int (Int32.ofInt (-1)), .ref q2, .ref q5, .ref q12, .null, .null])) :: (((([] ++ nwA cI q1 4) ++ finEl cI cII q2 u2) ++ finCo cI cII q5 u5) ++ finRe cI cII q12 u12)) := hD
  refine lv_aload_n hx hb dCc_init_54 rfl (lv_at hl 0 rfl) ?_
  refine va_new (ci := 4) (fs := [.int 0, .null, .null, .null, .null, .null, .null, .null, .null]) (C := RCm) (T := TCm) (N := 9) hx hb hts (fun w hw => List.mem_cons_of_mem _ (wt_kCm w hw)) tCm tCm_ok hown (hts (.classLink RCc 41 RCm) (List.mem_cons_of_mem _ (by decide +kernel))) (hts (.instantiable RCm 9) (List.mem_cons_of_mem _ (by decide +kernel))) (hts (.initialized RCm) (List.mem_cons_of_mem _ (by decide +kernel))) hK hP hD hS hA rfl dfCm (Nat.le_of_ble_eq_true rfl) (Nat.le_of_ble_eq_true rfl) dCc_init_55 (fun q13 H hP hD hS => ?_)
  have hP : va_P D kinds (((h0, .inr (0, [.ref q1, .int (Int32.ofInt (0)), .int (Int32.ofInt (-1)), .ref q2, .ref q5, .ref q12, .null, .null])) :: (((([] ++ nwA cI q1 4) ++ finEl cI cII q2 u2) ++ finCo cI cII q5 u5) ++ finRe cI cII q12 u12)) ++ [(q13, .inr (4, [.int 0, .null, .null, .null, .null, .null, .null, .null, .null]))]) H := hP
  have hD : va_D A (((h0, .inr (0, [.ref q1, .int (Int32.ofInt (0)), .int (Int32.ofInt (-1)), .ref q2, .ref q5, .ref q12, .null, .null])) :: (((([] ++ nwA cI q1 4) ++ finEl cI cII q2 u2) ++ finCo cI cII q5 u5) ++ finRe cI cII q12 u12)) ++ [(q13, .inr (4, [.int 0, .null, .null, .null, .null, .null, .null, .null, .null]))]) := hD
  refine W.widen (k := 29) (n := 6466) (by omega) (by omega) ?_
  refine lv_dup hx hb dCc_init_58 rfl ?_
  have hAq13 : ∀ y, H.size ≤ y → A y := fun y hy => hA y (Nat.le_trans hS.1 hy)
  have hFq13 : ∀ y, nwF q13 H.size y → A y := fun y hy => nw_f hD hAq13 hy
  refine va_callv (va_runIN (b := q13) (As := []) (rest := [.ref q13, .ref h0]) ⟨hx, hb, hml, hown, hts⟩ (c_Cm_init l D cI cII q13 H.size (nwF q13 H.size) (fun y hy => Or.inr hy)) ⟨va_cnB 0 hts (wy_in mCm_init) rfl rfl rfl (hN (.methodLinkNest RCc 43 yCm_init hostC) (by decide +kernel)).2 (hts (.initialized RCm) (List.mem_cons_of_mem _ (by decide +kernel))) (by decide +kernel) ⟨Nat.le_of_ble_eq_true rfl, Nat.le_of_ble_eq_true rfl⟩, rfl, hts _ (List.mem_cons_of_mem _ miCm_init)⟩ ⟨fun a U g mk q => by obtain ⟨q0, q1, qP, qK, qD, qO⟩ := q; exact ⟨q0, q1, qP, va_K.moved (u := U) (U := U.calling g mk a) (Vm.Alike.refl U.vm) qK, qD, aoI_moved (u := U) (U := U.calling g mk a) (Vm.Alike.refl U.vm) qO⟩, fun U hU hW => ⟨rfl, by rw [hU], by rw [hU]; exact nw_p1 hP, va_K.moved hW.alike hK, nw_d1 (Or.inl rfl), aoI_moved hW.alike hao⟩⟩ rfl rfl hl.1 rfl (lv_room (Nat.le_of_ble_eq_true rfl)) dCc_init_59 ⟨Nat.le_of_ble_eq_true rfl, Nat.le_of_ble_eq_true rfl⟩) hS (fun y _ h => hFq13 y h) hFq13 (fun u13 t H1 locs ht hvm _ hB hz1 hk1 hS => ?_)
  obtain ⟨hP1, -, hD1⟩ := hB
  rw [ht] at hP1
  obtain ⟨hP, hD⟩ := nw_j hP hD hAq13 hk1 hP1 hD1
  generalize H1 = H at hP hS ⊢
  have hP : va_P D kinds ((h0, .inr (0, [.ref q1, .int (Int32.ofInt (0)), .int (Int32.ofInt (-1)), .ref q2, .ref q5, .ref q12, .null, .null])) :: ((((([] ++ nwA cI q1 4) ++ finEl cI cII q2 u2) ++ finCo cI cII q5 u5) ++ finRe cI cII q12 u12) ++ finCm cI cII q13 u13)) H := hP
  have hD : va_D A ((h0, .inr (0, [.ref q1, .int (Int32.ofInt (0)), .int (Int32.ofInt (-1)), .ref q2, .ref q5, .ref q12, .null, .null])) :: ((((([] ++ nwA cI q1 4) ++ finEl cI cII q2 u2) ++ finCo cI cII q5 u5) ++ finRe cI cII q12 u12) ++ finCm cI cII q13 u13)) := hD
  refine W.widen (k := 101) (n := 7618) (by omega) (by omega) ?_
  refine va_putF (D := D) (ci := 0) (v := .ref q13) (ty := .object "ClassCharacters$CentralMaps") (C := RCc) (T := TCc) (N := 8) hx hb hts (fun w hw => List.mem_cons_of_mem _ (wt_kCc w hw)) tCc tCc_ok nCc hown hK hP hD hS 0 rfl rfl 6 (by decide) (hts (.fieldLink RCc 44 "ClassCharacters" "maps" "LClassCharacters$CentralMaps;") (List.mem_cons_of_mem _ (by decide +kernel))) (fun _ h9 => h9) rfl hin rfl (by decide +kernel) rfl rfl (Nat.le_of_ble_eq_true rfl) dCc_init_62 (fun H locs hP hD hS => ?_)
  have hP : va_P D kinds ((h0, .inr (0, [.ref q1, .int (Int32.ofInt (0)), .int (Int32.ofInt (-1)), .ref q2, .ref q5, .ref q12, .ref q13, .null])) :: ((((([] ++ nwA cI q1 4) ++ finEl cI cII q2 u2) ++ finCo cI cII q5 u5) ++ finRe cI cII q12 u12) ++ finCm cI cII q13 u13)) H := hP
  have hD : va_D A ((h0, .inr (0, [.ref q1, .int (Int32.ofInt (0)), .int (Int32.ofInt (-1)), .ref q2, .ref q5, .ref q12, .ref q13, .null])) :: ((((([] ++ nwA cI q1 4) ++ finEl cI cII q2 u2) ++ finCo cI cII q5 u5) ++ finRe cI cII q12 u12) ++ finCm cI cII q13 u13)) := hD
  refine lv_aload_n hx hb dCc_init_65 rfl (lv_at hl 0 rfl) ?_
  refine va_new (ci := 5) (fs := [.int 0, .null, .null, .null, .null, .null, .null, .int 0]) (C := RRo) (T := TRo) (N := 8) hx hb hts (fun w hw => List.mem_cons_of_mem _ (wt_kRo w hw)) tRo tRo_ok hown (hts (.classLink RCc 48 RRo) (List.mem_cons_of_mem _ (by decide +kernel))) (hts (.instantiable RRo 8) (List.mem_cons_of_mem _ (by decide +kernel))) (hts (.initialized RRo) (List.mem_cons_of_mem _ (by decide +kernel))) hK hP hD hS hA rfl dfRo (Nat.le_of_ble_eq_true rfl) (Nat.le_of_ble_eq_true rfl) dCc_init_66 (fun q22 H hP hD hS => ?_)
  have hP : va_P D kinds (((h0, .inr (0, [.ref q1, .int (Int32.ofInt (0)), .int (Int32.ofInt (-1)), .ref q2, .ref q5, .ref q12, .ref q13, .null])) :: ((((([] ++ nwA cI q1 4) ++ finEl cI cII q2 u2) ++ finCo cI cII q5 u5) ++ finRe cI cII q12 u12) ++ finCm cI cII q13 u13)) ++ [(q22, .inr (5, [.int 0, .null, .null, .null, .null, .null, .null, .int 0]))]) H := hP
  have hD : va_D A (((h0, .inr (0, [.ref q1, .int (Int32.ofInt (0)), .int (Int32.ofInt (-1)), .ref q2, .ref q5, .ref q12, .ref q13, .null])) :: ((((([] ++ nwA cI q1 4) ++ finEl cI cII q2 u2) ++ finCo cI cII q5 u5) ++ finRe cI cII q12 u12) ++ finCm cI cII q13 u13)) ++ [(q22, .inr (5, [.int 0, .null, .null, .null, .null, .null, .null, .int 0]))]) := hD
  refine W.widen (k := 102) (n := 7626) (by omega) (by omega) ?_
  refine lv_dup hx hb dCc_init_69 rfl ?_
  have hAq22 : ∀ y, H.size ≤ y → A y := fun y hy => hA y (Nat.le_trans hS.1 hy)
  have hFq22 : ∀ y, nwF q22 H.size y → A y := fun y hy => nw_f hD hAq22 hy
  refine va_callv (va_runIN (b := q22) (As := []) (rest := [.ref q22, .ref h0]) ⟨hx, hb, hml, hown, hts⟩ (c_Ro_init l D cI cII q22 H.size (nwF q22 H.size) (fun y hy => Or.inr hy)) ⟨va_cnB 0 hts (wy_in mRo_init) rfl rfl rfl (hN (.methodLinkNest RCc 50 yRo_init hostC) (by decide +kernel)).2 (hts (.initialized RRo) (List.mem_cons_of_mem _ (by decide +kernel))) (by decide +kernel) ⟨Nat.le_of_ble_eq_true rfl, Nat.le_of_ble_eq_true rfl⟩, rfl, hts _ (List.mem_cons_of_mem _ miRo_init)⟩ ⟨fun a U g mk q => by obtain ⟨q0, q1, qP, qK, qD, qO⟩ := q; exact ⟨q0, q1, qP, va_K.moved (u := U) (U := U.calling g mk a) (Vm.Alike.refl U.vm) qK, qD, aoI_moved (u := U) (U := U.calling g mk a) (Vm.Alike.refl U.vm) qO⟩, fun U hU hW => ⟨rfl, by rw [hU], by rw [hU]; exact nw_p1 hP, va_K.moved hW.alike hK, nw_d1 (Or.inl rfl), aoI_moved hW.alike hao⟩⟩ rfl rfl hl.1 rfl (lv_room (Nat.le_of_ble_eq_true rfl)) dCc_init_70 ⟨Nat.le_of_ble_eq_true rfl, Nat.le_of_ble_eq_true rfl⟩) hS (fun y _ h => hFq22 y h) hFq22 (fun u22 t H1 locs ht hvm _ hB hz1 hk1 hS => ?_)
  obtain ⟨hP1, -, hD1⟩ := hB
  rw [ht] at hP1
  obtain ⟨hP, hD⟩ := nw_j hP hD hAq22 hk1 hP1 hD1
  generalize H1 = H at hP hS ⊢
  have hP : va_P D kinds ((h0, .inr (0, [.ref q1, .int (Int32.ofInt (0)), .int (Int32.ofInt (-1)), .ref q2, .ref q5, .ref q12, .ref q13, .null])) :: (((((([] ++ nwA cI q1 4) ++ finEl cI cII q2 u2) ++ finCo cI cII q5 u5) ++ finRe cI cII q12 u12) ++ finCm cI cII q13 u13) ++ finRo cI cII q22 u22)) H := hP
  have hD : va_D A ((h0, .inr (0, [.ref q1, .int (Int32.ofInt (0)), .int (Int32.ofInt (-1)), .ref q2, .ref q5, .ref q12, .ref q13, .null])) :: (((((([] ++ nwA cI q1 4) ++ finEl cI cII q2 u2) ++ finCo cI cII q5 u5) ++ finRe cI cII q12 u12) ++ finCm cI cII q13 u13) ++ finRo cI cII q22 u22)) := hD
  refine W.widen (k := 124) (n := 8090) (by omega) (by omega) ?_
  refine va_putF (D := D) (ci := 0) (v := .ref q22) (ty := .object "ClassCharacters$Rows") (C := RCc) (T := TCc) (N := 8) hx hb hts (fun w hw => List.mem_cons_of_mem _ (wt_kCc w hw)) tCc tCc_ok nCc hown hK hP hD hS 0 rfl rfl 7 (by decide) (hts (.fieldLink RCc 51 "ClassCharacters" "rows" "LClassCharacters$Rows;") (List.mem_cons_of_mem _ (by decide +kernel))) (fun _ h9 => h9) rfl hin rfl (by decide +kernel) rfl rfl (Nat.le_of_ble_eq_true rfl) dCc_init_73 (fun H locs hP hD hS => ?_)
  have hP : va_P D kinds ((h0, .inr (0, [.ref q1, .int (Int32.ofInt (0)), .int (Int32.ofInt (-1)), .ref q2, .ref q5, .ref q12, .ref q13, .ref q22])) :: (((((([] ++ nwA cI q1 4) ++ finEl cI cII q2 u2) ++ finCo cI cII q5 u5) ++ finRe cI cII q12 u12) ++ finCm cI cII q13 u13) ++ finRo cI cII q22 u22)) H := hP
  have hD : va_D A ((h0, .inr (0, [.ref q1, .int (Int32.ofInt (0)), .int (Int32.ofInt (-1)), .ref q2, .ref q5, .ref q12, .ref q13, .ref q22])) :: (((((([] ++ nwA cI q1 4) ++ finEl cI cII q2 u2) ++ finCo cI cII q5 u5) ++ finRe cI cII q12 u12) ++ finCm cI cII q13 u13) ++ finRo cI cII q22 u22)) := hD
  refine W.widen (k := 124) (n := 8090) (by omega) (by omega) ?_
  exact W.vret hx hb hr (fun t ht hW => ⟨⟨(adX h0 q1 q2 q5 q12 q13 q22 u2.1 u5.1 u13.1 u22.1, rwX u5.2 u13.2 u22.2), rfl, rfl, by rw [ht]; exact hP, va_K.moved hW.alike hK, hD⟩, hS.F ht⟩) hS.2.2 dCc_init_76
