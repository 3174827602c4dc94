-- the law: its beginning
def inWs (ws : va_W) : Nat → Prop := fun q => ∃ (k : Nat) (x : va_E), ws[k]? = some (q, x)
theorem inWs_D {A : Nat → Prop} {ws : va_W} (h : va_D A ws) : va_D (inWs ws) ws := ⟨h.1, fun k q hq => ⟨k, q.2, hq⟩⟩
theorem sxN_of {args : Array Value} {s : State} (hts : ∀ w ∈ lw_tbl, w.before args s = true) : sx_N wn s := fun w hw => by
  obtain ⟨h1, h2⟩ := List.mem_filter.mp hw
  refine ⟨h2, ?_⟩
  have h3 := hts w h1
  cases w <;> first | exact va_Nw.of rfl h3 | exact absurd h2 Bool.false_ne_true
theorem kinds_K {args : Array Value} {s : State} (hts : ∀ w ∈ lw_tbl, w.before args s = true) : ∃ (D : va_G) (cI cII : ClassId), va_K D kinds (tyI cI cII) s := by
  have hw : ∀ w ∈ wt, w.before args s = true := fun w h => hts w (wt_sub h)
  obtain ⟨c0, i0, h0⟩ := u_known (C := RCc) (T := TCc) (N := 8) hw wt_kCc (hw (.instantiable RCc 8) (by decide +kernel))
  obtain ⟨c1, i1, h1⟩ := u_known (C := REl) (T := TEl) (N := 3) hw wt_kEl (hw (.instantiable REl 3) (by decide +kernel))
  obtain ⟨c2, i2, h2⟩ := u_known (C := RCo) (T := TCo) (N := 8) hw wt_kCo (hw (.instantiable RCo 8) (by decide +kernel))
  obtain ⟨c3, i3, h3⟩ := u_known (C := RRe) (T := TRe) (N := 2) hw wt_kRe (hw (.instantiable RRe 2) (by decide +kernel))
  obtain ⟨c4, i4, h4⟩ := u_known (C := RCm) (T := TCm) (N := 9) hw wt_kCm (hw (.instantiable RCm 9) (by decide +kernel))
  obtain ⟨c5, i5, h5⟩ := u_known (C := RRo) (T := TRo) (N := 8) hw wt_kRo (hw (.instantiable RRo 8) (by decide +kernel))
  obtain ⟨c6, i6, h6⟩ := u_known (C := RMo) (T := TMo) (N := 18) hw wt_kMo (hw (.instantiable RMo 18) (by decide +kernel))
  obtain ⟨cI, kI, compI, hI1, hI2, hI3⟩ := Cond.arrayClass_spec (hw (.arrayClass .int) (by decide +kernel))
  obtain ⟨comp, cII, kII, hJ1, hJ2, hJ3, hJ4⟩ := Cond.arrayOver_specA (hts (.arrayOver (.array .int)) (by decide +kernel))
  refine ⟨(fun c => match c with | 0 => c0 | 1 => c1 | 2 => c2 | 3 => c3 | 4 => c4 | 5 => c5 | _ => c6, fun c => match c with | 0 => i0 | 1 => i1 | 2 => i2 | 3 => i3 | 4 => i4 | 5 => i5 | _ => i6), cI, cII, fun c q hq => ?_, fun k q hq => ?_⟩
  · have hc : c < 7 := (List.getElem?_eq_some_iff.mp hq).1
    have hor : c = 0 ∨ c = 1 ∨ c = 2 ∨ c = 3 ∨ c = 4 ∨ c = 5 ∨ c = 6 := by omega
    rcases hor with rfl | rfl | rfl | rfl | rfl | rfl | rfl <;> cases hq <;> assumption
  · have hk : k < 2 := (List.getElem?_eq_some_iff.mp hq).1
    have hor : k = 0 ∨ k = 1 := by omega
    rcases hor with rfl | rfl <;> cases hq
    · exact ⟨fun n z => ⟨fun k h => (by cases h), kI, hI2, compI, hI3⟩, hI1⟩
    · exact ⟨fun n z => ⟨fun k h => (by cases h), kII, hJ2, comp, hJ3⟩, hJ4⟩
theorem va_P_l {D : va_G} {cl : List vw_C} {w1 w2 : va_W} {H : Heap} (h : va_P D cl (w1 ++ w2) H) : va_P D cl w1 H := fun k q hq => h k q (by rw [List.getElem?_append_left (List.getElem?_eq_some_iff.mp hq).1]; exact hq)
theorem va_P_r {D : va_G} {cl : List vw_C} {w1 w2 : va_W} {H : Heap} (h : va_P D cl (w1 ++ w2) H) : va_P D cl w2 H := fun k q hq => h (w1.length + k) q (by rw [List.getElem?_append_right (by omega), Nat.add_sub_cancel_left]; exact hq)
theorem va_D_l {A : Nat → Prop} {w1 w2 : va_W} (h : va_D A (w1 ++ w2)) : va_D A w1 := ⟨fun i j p q hi hj e => h.1 i j p q (by rw [List.getElem?_append_left (List.getElem?_eq_some_iff.mp hi).1]; exact hi) (by rw [List.getElem?_append_left (List.getElem?_eq_some_iff.mp hj).1]; exact hj) e, fun k q hq => h.2 k q (by rw [List.getElem?_append_left (List.getElem?_eq_some_iff.mp hq).1]; exact hq)⟩
theorem va_D_r {A : Nat → Prop} {w1 w2 : va_W} (h : va_D A (w1 ++ w2)) : va_D (fun q => A q ∧ ¬ inWs w1 q) w2 := by
  have hr : ∀ k q, w2[k]? = some q → (w1 ++ w2)[w1.length + k]? = some q := fun k q hq => by rw [List.getElem?_append_right (by omega), Nat.add_sub_cancel_left]; exact hq
  refine ⟨fun i j p q hi hj e => by have := h.1 _ _ p q (hr i p hi) (hr j q hj) e; omega, fun k q hq => ⟨h.2 _ _ (hr k q hq), fun ⟨k1, x1, h1⟩ => ?_⟩⟩
  have hl : k1 < w1.length := (List.getElem?_eq_some_iff.mp h1).1
  have := h.1 k1 _ (q.1, x1) q (by rw [List.getElem?_append_left hl]; exact h1) (hr k q hq) rfl
  omega

set_option maxHeartbeats 4000000 in
set_option maxRecDepth 100000 in
theorem law_begin {p : Program} {e : Env} {s : State} {m : MethodId} {below : List Frame} {meth : Method} {c : Code} (l : Launch) {b L : Nat} {xs : Nat → Int32} (C0 : lw_At p s m meth c b L xs)
    (kk : ∀ (D : va_G) (E1 E2 : sx_E) (A0 A1 A2 : Nat → Prop), LC p s m meth c b L xs D E1 E2 A0 A1 A2 136 13600 → LW p l e s m below meth c b D E1 E2 A0 A1 A2 136 13600 18 [] 0 (cW zA zG iX) (mW zA zA)) : W p l e room_1 s m #[Value.ref b] below meth c s.heap [] 0 0 (lw_Z below #[Value.ref b] s) (entryFrame m ([Value.ref b] : List Value).toArray 4) := by
  have C1 := C0
  obtain ⟨hx, hb, hr, hml, hown, hts, hX, hbl, hlocks, hgv⟩ := C0
  have hw : ∀ w ∈ wt, w.before #[Value.ref b] s = true := fun w h => hts w (wt_sub h)
  obtain ⟨D, cI, cII, hK⟩ := kinds_K hts
  have hN := sxN_of hts
  have hao : aoI s := hts (.arrayOver (.array .int)) (by decide +kernel)
  obtain ⟨A, hAd⟩ : ∃ A : Nat → Prop, A = fun q => s.heap.size ≤ q := ⟨_, rfl⟩
  have hA : ∀ q, s.heap.size ≤ q → A q := fun q h => by rw [hAd]; exact h
  have hA' : ∀ q, A q → s.heap.size ≤ q := fun q h => by rw [hAd] at h; exact h
  have hS : va_S A s.heap s.heap [] := va_S.rf
  have hl := lv_entry ([.ref b]) (n := 4) (Nat.le_of_ble_eq_true rfl)
  rw [lg_entry_eq]
  generalize (lg_sl ([.ref b]) ++ List.replicate (4 - (lg_sl ([.ref b])).length) Slot.unset).toArray = ls at hl ⊢
  have hl : lv_has ls 4 [(0, .ref b)] := hl
  have hP : va_P D kinds [] s.heap := fun k q hq => by cases hq
  have hD : va_D A [] := ⟨fun i j p q hi => (by cases hi), fun k q hq => (by cases hq)⟩
  refine va_new (ci := 0) (fs := [.null, .int 0, .int 0, .null, .null, .null, .null, .null]) (C := RCc) (T := TCc) (N := 8) hx hb hw wt_kCc tCc tCc_ok hown (hw (.classLink R_law 7 RCc) (by decide +kernel)) (hw (.instantiable RCc 8) (by decide +kernel)) (hw (.initialized RCc) (by decide +kernel)) hK hP hD hS hA rfl dfCc (by decide +kernel) (by decide +kernel) dL_0 (fun q1 H hP hD hS => ?_)
  have hP : va_P D kinds ([] ++ [(q1, .inr (0, [.null, .int 0, .int 0, .null, .null, .null, .null, .null]))]) H := hP
  have hD : va_D A ([] ++ [(q1, .inr (0, [.null, .int 0, .int 0, .null, .null, .null, .null, .null]))]) := hD
  refine W.widen (k := 1) (n := 8) (by omega) (by omega) ?_
  refine lv_dup hx hb dL_3 rfl ?_
  have hA1 : ∀ y, H.size ≤ y → A y := fun y hy => hA y (Nat.le_trans hS.1 hy)
  have hF1 : ∀ y, nwF q1 H.size y → A y := fun y hy => nw_f hD hA1 hy
  refine va_callv (va_runI (b := q1) (As := []) (rest := [.ref q1]) ⟨hx, hb, hml, hown, hts⟩ (c_Cc_init l D cI cII q1 H.size (nwF q1 H.size) (fun y hy => Or.inr hy)) (cwI 0 hts (lw_good mCc_init) rfl rfl rfl (hw (.initialized RCc) (by decide +kernel)) (hw (.methodLink R_law 9 yCc_init) (by decide +kernel)) (hw _ miCc_init) rfl (by decide +kernel) ⟨by decide +kernel, by decide +kernel⟩) ⟨fun a U g mk q => by obtain ⟨q0, q1, qP, qK, qD, qO, qN⟩ := q; exact ⟨q0, q1, qP, va_K.moved (u := U) (U := U.calling g mk a) (Vm.Alike.refl U.vm) qK, qD, aoI_moved (u := U) (U := U.calling g mk a) (Vm.Alike.refl U.vm) qO, sx_N_same (s := U) (U := U.calling g mk a) rfl qN⟩, fun U hU hW => ⟨rfl, by rw [hU], by rw [hU]; exact nw_p1 hP, va_K.moved hW.alike hK, nw_d1 (Or.inl rfl), aoI_moved hW.alike hao, sx_N_warm hW hN⟩⟩ rfl rfl hl.1 rfl (lv_room (Nat.le_of_ble_eq_true rfl)) dL_4 ⟨by decide +kernel, by decide +kernel⟩) hS (fun y _ h => hF1 y h) hF1 (fun u t H1 locs ht hvm hu0 hB hz1 hk1 hS => ?_)
  obtain ⟨hP1, -, hD1⟩ := hB
  rw [ht] at hP1
  obtain ⟨hP, hD⟩ := nw_j hP hD hA1 hk1 hP1 hD1
  generalize H1 = H at hP hS ⊢
  have hP : va_P D kinds (sx_w (u.1, u.2, cI, cII) 29 (cW zA zG iX)) H := hP
  have hD : va_D A (sx_w (u.1, u.2, cI, cII) 29 (cW zA zG iX)) := hD
  refine W.widen (k := 125) (n := 8098) (by omega) (by omega) ?_
  refine lv_astore_n hx hb dL_7 rfl hl (by decide) rfl (fun ls hl => ?_)
  have hl : lv_has ls 4 [(1, .ref q1), (0, .ref b)] := hl
  refine va_new (ci := 6) (fs := [.int 0, .null, .int 0, .int 0, .null, .null, .int 0, .null, .null, .null, .int 0, .int 0, .int 0, .null, .int 0, .null, .null, .null]) (C := RMo) (T := TMo) (N := 18) hx hb hw wt_kMo tMo tMo_ok hown (hw (.classLink R_law 10 RMo) (by decide +kernel)) (hw (.instantiable RMo 18) (by decide +kernel)) (hw (.initialized RMo) (by decide +kernel)) hK hP hD hS hA rfl dfMo (by decide +kernel) (by decide +kernel) dL_8 (fun q2 H hP hD hS => ?_)
  refine W.widen (k := 126) (n := 8116) (by omega) (by omega) ?_
  refine lv_dup hx hb dL_11 rfl ?_
  have hA1 : ∀ y, H.size ≤ y → A y := fun y hy => hA y (Nat.le_trans hS.1 hy)
  have hF1 : ∀ y, nwF q2 H.size y → A y := fun y hy => nw_f hD hA1 hy
  refine va_callv (va_runI (b := q2) (As := []) (rest := [.ref q2]) ⟨hx, hb, hml, hown, hts⟩ (c_Mo_init l D cI cII q2 H.size (nwF q2 H.size) (fun y hy => Or.inr hy)) (cwI 0 hts (lw_good mMo_init) rfl rfl rfl (hw (.initialized RMo) (by decide +kernel)) (hw (.methodLink R_law 12 yMo_init) (by decide +kernel)) (hw _ miMo_init) rfl (by decide +kernel) ⟨by decide +kernel, by decide +kernel⟩) ⟨fun a U g mk q => by obtain ⟨q0, q1, qP, qK, qD, qO⟩ := q; exact ⟨q0, q1, qP, va_K.moved (u := U) (U := U.calling g mk a) (Vm.Alike.refl U.vm) qK, qD, aoI_moved (u := U) (U := U.calling g mk a) (Vm.Alike.refl U.vm) qO⟩, fun U hU hW => ⟨rfl, by rw [hU], by rw [hU]; exact nw_p1 hP, va_K.moved hW.alike hK, nw_d1 (Or.inl rfl), aoI_moved hW.alike hao⟩⟩ rfl rfl hl.1 rfl (lv_room (Nat.le_of_ble_eq_true rfl)) dL_12 ⟨by decide +kernel, by decide +kernel⟩) hS (fun y _ h => hF1 y h) hF1 (fun u2 t2 H1 locs ht2 hvm2 _ hB hz1 hk1 hS => ?_)
  obtain ⟨hP1, -, hD1⟩ := hB
  rw [ht2] at hP1
  obtain ⟨hP, hD⟩ := nw_j hP hD hA1 hk1 hP1 hD1
  generalize H1 = H at hP hS ⊢
  refine W.widen (k := 136) (n := 13600) (by omega) (by omega) ?_
  refine lv_astore_n hx hb dL_15 rfl hl (by decide) rfl (fun ls hl => ?_)
  have hl : lv_has ls 4 [(2, .ref q2), (1, .ref q1), (0, .ref b)] := hl
  refine lv_iconst hx hb dL_16 (show Int32.ofInt 0 = nI 0 by decide) ?_
  refine lv_istore_n hx hb dL_17 rfl hl (by decide) rfl (fun ls hl => ?_)
  have hl : lv_has ls 4 [(3, .int (nI 0)), (2, .ref q2), (1, .ref q1), (0, .ref b)] := hl
  obtain ⟨E2, hE2⟩ : ∃ E2 : sx_E, E2 = ((fun n => if n = 0 then q2 else u2.1 n), u2.2, cI, cII) := ⟨_, rfl⟩
  have hw2 : finMo cI cII q2 u2 = sx_w E2 11 (mW zA zA) := by rw [hE2]; rfl
  rw [hw2] at hP hD
  have hu0 : u.1 0 = q1 := hu0
  have h20 : E2.1 0 = q2 := by rw [hE2]; rfl
  refine kk D (u.1, u.2, cI, cII) E2 A (inWs (sx_w (u.1, u.2, cI, cII) 29 (cW zA zG iX))) (fun q => A q ∧ ¬ inWs (sx_w (u.1, u.2, cI, cII) 29 (cW zA zG iX)) q) ⟨C1, hK, by rw [hE2]; exact hK, hN, hA', fun q hq => ?_, fun q hq => hq.1, fun q h1 h2 => h2.2 h1, by decide, by decide⟩ H locs ls (by rw [h20]; show lv_has ls 4 [(3, .int (nI 0)), (2, .ref q2), (1, .ref (u.1 0)), (0, .ref b)]; rw [hu0]; exact hl) (va_P_l hP) (va_P_r hP) (inWs_D (va_D_l hD)) (va_D_r hD) hS
  obtain ⟨k9, x9, h9⟩ := hq
  exact (va_D_l hD).2 k9 _ h9

