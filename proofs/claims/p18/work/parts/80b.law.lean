-- the law's walk: its state
def LW (p : Program) (l : Launch) (e : Env) (s : State) (m : MethodId) (below : List Frame) (meth : Method) (c : Code) (b : Nat) (D : va_G) (E1 E2 : sx_E) (A0 A1 A2 : Nat → Prop) (N0 M0 : Nat) (pc : Nat) (st : List Value) (i : Nat) (w1 w2 : sx_M) : Prop := ∀ (H : Heap) (locs : List Loc) (ls : Array Slot), lv_has ls 4 [(3, .int (nI i)), (2, .ref (E2.1 0)), (1, .ref (E1.1 0)), (0, .ref b)] → va_P D kinds (sx_w E1 29 w1) H → va_P D kinds (sx_w E2 11 w2) H → va_D A1 (sx_w E1 29 w1) → va_D A2 (sx_w E2 11 w2) → va_S A0 s.heap H locs → W p l e room_1 s m #[Value.ref b] below meth c H locs N0 M0 (lw_Z below #[Value.ref b] s) (F0 m pc ls st)
-- what is fixed
def LC (p : Program) (s : State) (m : MethodId) (meth : Method) (c : Code) (b L : Nat) (xs : Nat → Int32) (D : va_G) (E1 E2 : sx_E) (A0 A1 A2 : Nat → Prop) (N0 M0 : Nat) : Prop := lw_At p s m meth c b L xs ∧ va_K D kinds (sx_ty E1) s ∧ va_K D kinds (sx_ty E2) s ∧ sx_N wn s ∧ (∀ q, A0 q → s.heap.size ≤ q) ∧ (∀ q, A1 q → A0 q) ∧ (∀ q, A2 q → A0 q) ∧ (∀ q, A1 q → ¬ A2 q) ∧ N0 ≤ 600000 ∧ M0 ≤ 7302250
section LWS
variable {p : Program} {l : Launch} {e : Env} {s : State} {m : MethodId} {below : List Frame} {meth : Method} {c : Code} {b L : Nat} {xs : Nat → Int32} {D : va_G} {E1 E2 : sx_E} {A0 A1 A2 : Nat → Prop} {N0 M0 : Nat}
variable {pc i : Nat} {st rest : List Value} {w1 w2 : sx_M}
theorem lw_a1 (hC : LC p s m meth c b L xs D E1 E2 A0 A1 A2 N0 M0) (hdg : decode code pc = .ok (.aload_n 1, 1)) (k : LW p l e s m below meth c b D E1 E2 A0 A1 A2 N0 M0 (pc + 1) (.ref (E1.1 0) :: st) i w1 w2) : LW p l e s m below meth c b D E1 E2 A0 A1 A2 N0 M0 pc st i w1 w2 := fun H locs ls hl h1 h2 h3 h4 h5 => lv_aload_n hC.1.1 hC.1.2.1 hdg rfl (lv_at hl 2 rfl) (k H locs ls hl h1 h2 h3 h4 h5)
theorem lw_a2 (hC : LC p s m meth c b L xs D E1 E2 A0 A1 A2 N0 M0) (hdg : decode code pc = .ok (.aload_n 2, 1)) (k : LW p l e s m below meth c b D E1 E2 A0 A1 A2 N0 M0 (pc + 1) (.ref (E2.1 0) :: st) i w1 w2) : LW p l e s m below meth c b D E1 E2 A0 A1 A2 N0 M0 pc st i w1 w2 := fun H locs ls hl h1 h2 h3 h4 h5 => lv_aload_n hC.1.1 hC.1.2.1 hdg rfl (lv_at hl 1 rfl) (k H locs ls hl h1 h2 h3 h4 h5)
theorem lw_xs (hC : LC p s m meth c b L xs D E1 E2 A0 A1 A2 N0 M0) (hL : L ≤ 2048) {q : Nat} {v : Int} (hv : Int32.ofInt v = nI q) (hq : i + q < L) (d0 : decode code pc = .ok (.aload_n 0, 1)) (d1 : decode code (pc + 1) = .ok (.iload_n 3, 1)) (d2 : decode code (pc + 1 + 1) = .ok (.iconst v, 1)) (d3 : decode code (pc + 1 + 1 + 1) = .ok (.iadd, 1)) (d4 : decode code (pc + 1 + 1 + 1 + 1) = .ok (.iaload, 1)) (k : LW p l e s m below meth c b D E1 E2 A0 A1 A2 N0 M0 (pc + 5) (.int (xs (i + q)) :: st) i w1 w2) : LW p l e s m below meth c b D E1 E2 A0 A1 A2 N0 M0 pc st i w1 w2 := fun H locs ls hl h1 h2 h3 h4 h5 => by
  have hx := hC.1.1
  have hb := hC.1.2.1
  refine lv_aload_n hx hb d0 rfl (lv_at hl 3 rfl) ?_
  refine lv_iload_n hx hb d1 rfl (lv_at hl 0 rfl) ?_
  refine lv_iconst hx hb d2 hv ?_
  refine lv_iadd hx hb d3 ?_
  rw [nI_add]
  refine va_sld (A := A0) hx hb hC.1.2.2.2.2.2.2.1 hC.1.2.2.2.2.2.2.2.1 (fun h9 => by
    have := hC.2.2.2.2.1 b h9
    have h8 := hC.1.2.2.2.2.2.2.2.1
    omega) h5 (vp_in_nI hq (by omega)) d4 ?_
  rw [nI_clamp (by omega)]
  exact k H locs ls hl h1 h2 h3 h4 h5
theorem lw_eq (hC : LC p s m meth c b L xs D E1 E2 A0 A1 A2 N0 M0) {x y : Int32} {off : Int} {tgt : Nat} (hxy : x = y) (hdg : decode code pc = .ok (.if_icmp .eq off, 3)) (ht : (pc : Int) + off = (tgt : Int)) (k : LW p l e s m below meth c b D E1 E2 A0 A1 A2 N0 M0 tgt st i w1 w2) : LW p l e s m below meth c b D E1 E2 A0 A1 A2 N0 M0 pc (.int y :: .int x :: st) i w1 w2 := fun H locs ls hl h1 h2 h3 h4 h5 => lv_icmp_eq hC.1.1 hC.1.2.1 hdg ht (fun _ => k H locs ls hl h1 h2 h3 h4 h5) (fun h9 => absurd hxy h9)
theorem lw_go (hC : LC p s m meth c b L xs D E1 E2 A0 A1 A2 N0 M0) {off : Int} {tgt : Nat} (hdg : decode code pc = .ok (.goto off, 3)) (ht : (pc : Int) + off = (tgt : Int)) (k : LW p l e s m below meth c b D E1 E2 A0 A1 A2 N0 M0 tgt st i w1 w2) : LW p l e s m below meth c b D E1 E2 A0 A1 A2 N0 M0 pc st i w1 w2 := fun H locs ls hl h1 h2 h3 h4 h5 => lv_goto hC.1.1 hC.1.2.1 hdg ht (k H locs ls hl h1 h2 h3 h4 h5)
theorem lw_pop (hC : LC p s m meth c b L xs D E1 E2 A0 A1 A2 N0 M0) {x : Int32} (hdg : decode code pc = .ok (.pop, 1)) (k : LW p l e s m below meth c b D E1 E2 A0 A1 A2 N0 M0 (pc + 1) st i w1 w2) : LW p l e s m below meth c b D E1 E2 A0 A1 A2 N0 M0 pc (.int x :: st) i w1 w2 := fun H locs ls hl h1 h2 h3 h4 h5 => lv_pop hC.1.1 hC.1.2.1 hdg rfl (k H locs ls hl h1 h2 h3 h4 h5)
theorem lw_good {y : MethodName} {cc : ByteArray} {nL : Nat} {ret : Option FieldType} (h : Cond.code y cc nL ret ∈ wt) : GoodIn lw_tbl (wy y cc nL ret) := fun w hw => by
  have hm : w ∈ wt := by
    rcases List.mem_cons.mp hw with h9 | h9
    · rw [h9]; exact h
    · exact h9
  exact ⟨wt_sub hm, good_of_word (wt_good hm)⟩

theorem lw_c1 (hC : LC p s m meth c b L xs D E1 E2 A0 A1 A2 N0 M0) {y : MethodName} {cc : ByteArray} {nL ix n fr lo ci : Nat} {ret : Option FieldType} {As : List sx_V} {fs : List sx_V} {r : vw_C} {post : Option sx_V → sx_M → Prop} (hM : sM l D E1 29 A1 y cc nL ret fr lo (.inr (0, 0) :: As) w1 post) (hw : w1 0 = .inr (.inr (ci, fs))) (hci : kinds[ci]? = some r) (hrn : r.1 = y.cls) (hcode : Cond.code y cc nL ret ∈ wt) (hini : Cond.initialized y.cls ∈ wt) (him : Cond.instanceMethod y ∈ wt ∧ Cond.selects y.cls y y ∈ wt) (hlk : Cond.methodLink R_law ix y ∈ wt) (hd : y.cls ≠ "java/lang/invoke/MethodHandle" ∧ y.cls ≠ "java/lang/invoke/VarHandle" ∧ (parseMethodDescriptor y.desc).map (fun d => d.parameters.length) = some n) (hR : fr + 1 ≤ room_1.frames ∧ 8 + (nL + 11) + lo ≤ room_1.locals) (hn : As.length = n) {st0 : List Value} (hst : st0 = (As.map (sx_v E1)).reverse ++ .ref (E1.1 0) :: rest) (hrest : (rest.map fun v => v.category).sum ≤ 8) (hdg : decode code pc = .ok (.invokevirtual ix, 3))
    (kk : ∀ (r : Option sx_V) (w' : sx_M), post r w' → LW p l e s m below meth c b D E1 E2 A0 A1 A2 N0 M0 (pc + 3) (r.toList.map (sx_v E1) ++ rest) i w' w2) : LW p l e s m below meth c b D E1 E2 A0 A1 A2 N0 M0 pc st0 i w1 w2 := fun H locs ls hl h1 h2 h3 h4 h5 => by
  subst hst
  obtain ⟨hx, hb, hr, hml, hown, hts, hX, hbl, hlk9, hgv⟩ := hC.1
  obtain ⟨-, hK1, hK2, hN, hA0, hA1, hA2, hA12, hN0, hM0⟩ := hC
  obtain ⟨o, ho, -⟩ := sx_off E1 w1 0 29 (by decide)
  have ho := ho 0 (E1.1 0, .inr (ci, fs.map (sx_v E1))) (by rw [hw]; rfl)
  have hrv := va_recv hK1 h1 hci ho
  rw [hrn] at hrv
  have hrun := va_runV (b := E1.1 0) (As := As.map (sx_v E1)) (rest := rest) (locs := locs) (cells := N0) (slots := M0) (R := room_1) (e := e) (below := below) (meth := meth) (g := F0 m pc ls ((As.map (sx_v E1)).reverse ++ .ref (E1.1 0) :: rest)) ⟨hx, hb, hml, hown, hts⟩ hM ⟨callB_of n hts (lw_good hcode) rfl rfl rfl (hts _ (wt_sub hini)) (hts _ (wt_sub hlk)) hd hR, hts _ (wt_sub him.1), hts _ (wt_sub him.2)⟩ ⟨sx_blind, hrv, fun U hU hW => ⟨rfl, by rw [hU]; exact h1, va_K.moved hW.alike hK1, h3, sx_N_warm hW hN⟩⟩ rfl (by rw [List.length_map]; exact hn) hl.1 rfl (lv_room hrest) hdg ⟨hN0, hM0⟩
  intro T hT X
  obtain ⟨v, st₀, t, T', L9, h0, X', hL9, e1, e2, ⟨⟨r9, w', hv, hp, hP, hK', hD⟩, hz, hk⟩, stp⟩ := hrun T hT X
  have hv' : v = r9.map (sx_v E1) := by injection hv
  subst hv'
  rw [h0] at hz hk
  have hother : va_P D kinds (sx_w E2 11 w2) T'.heap := by
    rw [e1]
    exact h2.kept (fun k9 q9 h9 => hk q9.1 ((h2 k9 q9 h9).lt) (fun hq => hA12 _ hq (h4.2 k9 q9 h9)))
  obtain ⟨t2, a1, b1⟩ := kk r9 w' hp T'.heap (locs ++ L9) ls hl (by rw [e1]; exact hP) hother hD h4 ⟨Nat.le_trans h5.1 (by rw [e1]; exact hz), fun q hq1 hq2 => by rw [e1, hk q (Nat.lt_of_lt_of_le hq1 h5.1) (fun h9 => hq2 (hA1 q h9))]; exact h5.2.1 q hq1 hq2, fun q hq => by
    rcases List.mem_append.mp hq with h9 | h9
    · exact h5.2.2 q h9
    · exact hA1 _ (hL9 q h9)⟩ T' rfl X'
  refine ⟨t2, stp t2 ?_, b1⟩
  have h9 : (r9.map (sx_v E1)).toList = r9.toList.map (sx_v E1) := by cases r9 <;> rfl
  show Steps _ _ _ (T'.setTop { F0 m pc ls ((As.map (sx_v E1)).reverse ++ .ref (E1.1 0) :: rest) with pc := pc + 3, stack := (r9.map (sx_v E1)).toList ++ rest }) t2
  rw [h9]
  exact a1

theorem lw_c2 (hC : LC p s m meth c b L xs D E1 E2 A0 A1 A2 N0 M0) {y : MethodName} {cc : ByteArray} {nL ix n fr lo ci : Nat} {ret : Option FieldType} {As : List sx_V} {fs : List sx_V} {r : vw_C} {post : Option sx_V → sx_M → Prop} (hM : sM l D E2 11 A2 y cc nL ret fr lo (.inr (0, 0) :: As) w2 post) (hw : w2 0 = .inr (.inr (ci, fs))) (hci : kinds[ci]? = some r) (hrn : r.1 = y.cls) (hcode : Cond.code y cc nL ret ∈ wt) (hini : Cond.initialized y.cls ∈ wt) (him : Cond.instanceMethod y ∈ wt ∧ Cond.selects y.cls y y ∈ wt) (hlk : Cond.methodLink R_law ix y ∈ wt) (hd : y.cls ≠ "java/lang/invoke/MethodHandle" ∧ y.cls ≠ "java/lang/invoke/VarHandle" ∧ (parseMethodDescriptor y.desc).map (fun d => d.parameters.length) = some n) (hR : fr + 1 ≤ room_1.frames ∧ 8 + (nL + 11) + lo ≤ room_1.locals) (hn : As.length = n) {st0 : List Value} (hst : st0 = (As.map (sx_v E2)).reverse ++ .ref (E2.1 0) :: rest) (hrest : (rest.map fun v => v.category).sum ≤ 8) (hdg : decode code pc = .ok (.invokevirtual ix, 3))
    (kk : ∀ (r : Option sx_V) (w' : sx_M), post r w' → LW p l e s m below meth c b D E1 E2 A0 A1 A2 N0 M0 (pc + 3) (r.toList.map (sx_v E2) ++ rest) i w1 w') : LW p l e s m below meth c b D E1 E2 A0 A1 A2 N0 M0 pc st0 i w1 w2 := fun H locs ls hl h1 h2 h3 h4 h5 => by
  subst hst
  obtain ⟨hx, hb, hr, hml, hown, hts, hX, hbl, hlk9, hgv⟩ := hC.1
  obtain ⟨-, hK1, hK2, hN, hA0, hA1, hA2, hA12, hN0, hM0⟩ := hC
  obtain ⟨o, ho, -⟩ := sx_off E2 w2 0 11 (by decide)
  have ho := ho 0 (E2.1 0, .inr (ci, fs.map (sx_v E2))) (by rw [hw]; rfl)
  have hrv := va_recv hK2 h2 hci ho
  rw [hrn] at hrv
  have hrun := va_runV (b := E2.1 0) (As := As.map (sx_v E2)) (rest := rest) (locs := locs) (cells := N0) (slots := M0) (R := room_1) (e := e) (below := below) (meth := meth) (g := F0 m pc ls ((As.map (sx_v E2)).reverse ++ .ref (E2.1 0) :: rest)) ⟨hx, hb, hml, hown, hts⟩ hM ⟨callB_of n hts (lw_good hcode) rfl rfl rfl (hts _ (wt_sub hini)) (hts _ (wt_sub hlk)) hd hR, hts _ (wt_sub him.1), hts _ (wt_sub him.2)⟩ ⟨sx_blind, hrv, fun U hU hW => ⟨rfl, by rw [hU]; exact h2, va_K.moved hW.alike hK2, h4, sx_N_warm hW hN⟩⟩ rfl (by rw [List.length_map]; exact hn) hl.1 rfl (lv_room hrest) hdg ⟨hN0, hM0⟩
  intro T hT X
  obtain ⟨v, st₀, t, T', L9, h0, X', hL9, e1, e2, ⟨⟨r9, w', hv, hp, hP, hK', hD⟩, hz, hk⟩, stp⟩ := hrun T hT X
  have hv' : v = r9.map (sx_v E2) := by injection hv
  subst hv'
  rw [h0] at hz hk
  have hother : va_P D kinds (sx_w E1 29 w1) T'.heap := by
    rw [e1]
    exact h1.kept (fun k9 q9 h9 => hk q9.1 ((h1 k9 q9 h9).lt) (fun hq => hA12 _ (h3.2 k9 q9 h9) hq))
  obtain ⟨t2, a1, b1⟩ := kk r9 w' hp T'.heap (locs ++ L9) ls hl hother (by rw [e1]; exact hP) h3 hD ⟨Nat.le_trans h5.1 (by rw [e1]; exact hz), fun q hq1 hq2 => by rw [e1, hk q (Nat.lt_of_lt_of_le hq1 h5.1) (fun h9 => hq2 (hA2 q h9))]; exact h5.2.1 q hq1 hq2, fun q hq => by
    rcases List.mem_append.mp hq with h9 | h9
    · exact h5.2.2 q h9
    · exact hA2 _ (hL9 q h9)⟩ T' rfl X'
  refine ⟨t2, stp t2 ?_, b1⟩
  have h9 : (r9.map (sx_v E2)).toList = r9.toList.map (sx_v E2) := by cases r9 <;> rfl
  show Steps _ _ _ (T'.setTop { F0 m pc ls ((As.map (sx_v E2)).reverse ++ .ref (E2.1 0) :: rest) with pc := pc + 3, stack := (r9.map (sx_v E2)).toList ++ rest }) t2
  rw [h9]
  exact a1

end LWS
