-- calls, and the contract of a method out of its conditions
theorem sx_cats (E : sx_E) : ∀ r : List sx_V, ((r.map (sx_v E)).map fun v => v.category).sum = r.length
  | [] => rfl
  | v :: r => by
    rw [List.map_cons, List.map_cons, List.sum_cons, sx_v_cat, sx_cats E r, List.length_cons, Nat.add_comm]
theorem sx_blind {wn : List Cond} {E : sx_E} {B : Nat} {D : va_G} {cl : List vw_C} {A : Nat → Prop} {As : List sx_V} {w : sx_M} : FrameBlind (sx_Pc wn E B D cl A As w) := fun a U g mk q => by
  obtain ⟨q0, qP, qK, qD, qN⟩ := q
  exact ⟨q0, qP, va_K.moved (u := U) (U := U.calling g mk a) (Vm.Alike.refl U.vm) qK, qD, sx_N_same (s := U) (U := U.calling g mk a) rfl qN⟩
section SX3
variable {p : Program} {l : Launch} {e : Env} {R : Room} {s : State} {m : MethodId} {args : Array Value} {below : List Frame} {meth : Method} {c : Code} {Q : State → Prop} {H : Heap} {locs : List Loc} {ls : Array Slot}
variable {cc : ByteArray} {D : va_G} {cl : List vw_C} {A : Nat → Prop} {H0 : Heap} {E : sx_E} {B nL pc : Nat} {Ts wn : List Cond} {own host : String} {w : sx_M} {Rt : Option sx_V → sx_M → Prop}
theorem sx_back {st0 rest : List Value} {a : Array Value} (hr : va_Run p l e R s m args below meth c H locs 0 0 0 0 (F0 m pc ls st0) rest (sx_Qc E B D cl A Rt a) A) (hS : va_S A H0 H locs)
    (kk : ∀ (r : Option sx_V) (w' : sx_M) (H1 : Heap) (locs1 : List Loc), Rt r w' → va_P D cl (sx_w E B w') H1 → va_D A (sx_w E B w') → va_S A H0 H1 locs1 → W p l e R s m args below meth c H1 locs1 0 0 Q (F0 m (pc + 3) ls (r.toList.map (sx_v E) ++ rest))) : W p l e R s m args below meth c H locs 0 0 Q (F0 m pc ls st0) := by
  intro T hT X
  obtain ⟨v, st₀, t, T', L, h0, X', hL, e1, e2, ⟨⟨r, w', hv, hp, hP, hK, hD⟩, hz, hk⟩, st⟩ := hr T hT X
  have hv' : v = r.map (sx_v E) := by injection hv
  subst hv'
  rw [h0] at hz hk
  obtain ⟨t2, a1, b1⟩ := kk r w' T'.heap (locs ++ L) hp (by rw [e1]; exact hP) hD ⟨Nat.le_trans hS.1 (by rw [e1]; exact hz), fun q h1 h2 => by rw [e1, hk q (Nat.lt_of_lt_of_le h1 hS.1) h2]; exact hS.2.1 q h1 h2, fun q hq => by
    rcases List.mem_append.mp hq with h | h
    · exact hS.2.2 q h
    · exact hL q h⟩ T' rfl X'
  refine ⟨t2, st t2 ?_, b1⟩
  have h9 : (r.map (sx_v E)).toList = r.toList.map (sx_v E) := by cases r <;> rfl
  rw [h9]
  exact a1
theorem sx_stk (E : sx_E) (st : List sx_V) (n : Nat) : st.map (sx_v E) = (((st.take n).reverse).map (sx_v E)).reverse ++ (st.drop n).map (sx_v E) := by
  rw [← List.map_reverse, List.reverse_reverse, ← List.map_append, List.take_append_drop]
-- a static method
theorem sx_CalS {y : MethodName} {bytes : ByteArray} {maxL ix n : Nat} {ret : Option FieldType} {ws ws' : List Cond} {rm : Room} {S : sx_S}
    (hM : ∀ (As : List sx_V) (w : sx_M) (Q : Option sx_V → sx_M → Prop), S.2 As w Q → Met l y ws rm (sx_Pc wn E B D cl A As w) (sx_Qc E B D cl A Q) 0 0 A)
    (hG : GoodIn Ts ws) (hw : ws = Cond.code y bytes maxL ret :: ws') (hrc : rm.cells = 0) (hrs : rm.slots = 0) (hin : Cond.initialized y.cls ∈ Ts) (hlk : Cond.methodLink own ix y ∈ Ts) (hst : Cond.static y ∈ Ts)
    (hd : y.cls ≠ "java/lang/invoke/MethodHandle" ∧ y.cls ≠ "java/lang/invoke/VarHandle" ∧ (parseMethodDescriptor y.desc).map (fun d => d.parameters.length) = some n) (hR : rm.frames + 1 ≤ R.frames ∧ 8 + (maxL + 11) + rm.locals ≤ R.locals) (hn : S.1 = n) : sx_Cal l own Ts wn R D cl A E B nL cc (.invokestatic ix) S := by
  intro p e s m args below meth c Q H0 CF hK hN K hk pc L st w hdg hc H locs ls hL hl hP hD hS
  obtain ⟨hn1, hroom, Qs, hpre, hpost⟩ := hc
  have hts := CF.2.2.2.2
  refine sx_back (va_runS (As := ((st.take S.1).reverse).map (sx_v E)) (rest := (st.drop S.1).map (sx_v E)) CF (hM _ w Qs hpre) ⟨callB_of n hts hG hw hrc hrs (hts _ hin) (hts _ hlk) hd hR, hts _ hst⟩ ⟨sx_blind, fun U hU hW => ⟨rfl, by rw [hU]; exact hP, va_K.moved hW.alike hK, hD, sx_N_warm hW hN⟩⟩ rfl (by simp; omega) hl.1 (sx_stk E st S.1) (lv_room (by rw [sx_cats]; exact hroom)) hdg ⟨Nat.zero_le _, Nat.zero_le _⟩) hS (fun r w' H1 locs1 hr hP1 hD1 hS1 => ?_)
  have h9 := hk _ _ _ _ (hpost r w' hr) H1 locs1 ls hL hl hP1 hD1 hS1
  rw [List.map_append] at h9
  exact h9
theorem sx_CalSN {y : MethodName} {bytes : ByteArray} {maxL ix n : Nat} {ret : Option FieldType} {ws ws' : List Cond} {rm : Room} {S : sx_S}
    (hM : ∀ (As : List sx_V) (w : sx_M) (Q : Option sx_V → sx_M → Prop), S.2 As w Q → Met l y ws rm (sx_Pc wn E B D cl A As w) (sx_Qc E B D cl A Q) 0 0 A)
    (hG : GoodIn Ts ws) (hw : ws = Cond.code y bytes maxL ret :: ws') (hrc : rm.cells = 0) (hrs : rm.slots = 0) (hin : Cond.initialized y.cls ∈ Ts) (hlk : Cond.methodLinkNest own ix y host ∈ wn) (hst : Cond.static y ∈ Ts)
    (hd : y.cls ≠ "java/lang/invoke/MethodHandle" ∧ y.cls ≠ "java/lang/invoke/VarHandle" ∧ (parseMethodDescriptor y.desc).map (fun d => d.parameters.length) = some n) (hR : rm.frames + 1 ≤ R.frames ∧ 8 + (maxL + 11) + rm.locals ≤ R.locals) (hn : S.1 = n) : sx_Cal l own Ts wn R D cl A E B nL cc (.invokestatic ix) S := by
  intro p e s m args below meth c Q H0 CF hK hN K hk pc L st w hdg hc H locs ls hL hl hP hD hS
  obtain ⟨hn1, hroom, Qs, hpre, hpost⟩ := hc
  have hts := CF.2.2.2.2
  refine sx_back (va_runSN (As := ((st.take S.1).reverse).map (sx_v E)) (rest := (st.drop S.1).map (sx_v E)) CF (hM _ w Qs hpre) ⟨va_cnB n hts hG hw hrc hrs (hN _ hlk).2 (hts _ hin) hd hR, hts _ hst, trivial⟩ ⟨sx_blind, fun U hU hW => ⟨rfl, by rw [hU]; exact hP, va_K.moved hW.alike hK, hD, sx_N_warm hW hN⟩⟩ rfl (by simp; omega) hl.1 (sx_stk E st S.1) (lv_room (by rw [sx_cats]; exact hroom)) hdg ⟨Nat.zero_le _, Nat.zero_le _⟩) hS (fun r w' H1 locs1 hr hP1 hD1 hS1 => ?_)
  have h9 := hk _ _ _ _ (hpost r w' hr) H1 locs1 ls hL hl hP1 hD1 hS1
  rw [List.map_append] at h9
  exact h9
-- an object's method: the receiver is a cell of the kind ci
theorem sx_CalV {y : MethodName} {bytes : ByteArray} {maxL ix n ci : Nat} {ret : Option FieldType} {ws ws' : List Cond} {rm : Room} {S : sx_S} {r : vw_C}
    (hM : ∀ (As : List sx_V) (w : sx_M) (Q : Option sx_V → sx_M → Prop), S.2 As w Q → Met l y ws rm (sx_Pc wn E B D cl A As w) (sx_Qc E B D cl A Q) 0 0 A)
    (hrec : ∀ (As : List sx_V) (w : sx_M) (Q : Option sx_V → sx_M → Prop), S.2 As w Q → ∃ (n0 : Nat) (tl : List sx_V) (fs : List sx_V), As = .inr (n0, 0) :: tl ∧ n0 < B ∧ w n0 = .inr (.inr (ci, fs))) (hci : cl[ci]? = some r) (hrn : r.1 = y.cls)
    (hG : GoodIn Ts ws) (hw : ws = Cond.code y bytes maxL ret :: ws') (hrc : rm.cells = 0) (hrs : rm.slots = 0) (hin : Cond.initialized y.cls ∈ Ts) (hlk : Cond.methodLink own ix y ∈ Ts) (him : Cond.instanceMethod y ∈ Ts) (hse : Cond.selects y.cls y y ∈ Ts)
    (hd : y.cls ≠ "java/lang/invoke/MethodHandle" ∧ y.cls ≠ "java/lang/invoke/VarHandle" ∧ (parseMethodDescriptor y.desc).map (fun d => d.parameters.length) = some n) (hR : rm.frames + 1 ≤ R.frames ∧ 8 + (maxL + 11) + rm.locals ≤ R.locals) (hn : S.1 = n + 1) : sx_Cal l own Ts wn R D cl A E B nL cc (.invokevirtual ix) S := by
  intro p e s m args below meth c Q H0 CF hK hN K hk pc L st w hdg hc H locs ls hL hl hP hD hS
  obtain ⟨hn1, hroom, Qs, hpre, hpost⟩ := hc
  have hts := CF.2.2.2.2
  obtain ⟨n0, tl, fs, hAs, hn0, hw0⟩ := hrec _ _ _ hpre
  have hMt := hM _ w Qs hpre
  have hstk := sx_stk E st S.1
  have hlen : ((st.take S.1).reverse).length = n + 1 := by simp; omega
  rw [hAs] at hMt hstk hlen
  obtain ⟨o, ho, -⟩ := sx_off E w n0 B hn0
  have ho := ho 0 (E.1 n0, .inr (ci, fs.map (sx_v E))) (by rw [hw0]; rfl)
  have hrv := va_recv hK hP hci ho
  rw [hrn] at hrv
  refine sx_back (va_runV (b := E.1 n0) (As := tl.map (sx_v E)) (rest := (st.drop S.1).map (sx_v E)) CF hMt ⟨callB_of n hts hG hw hrc hrs (hts _ hin) (hts _ hlk) hd hR, hts _ him, hts _ hse⟩ ⟨sx_blind, hrv, fun U hU hW => ⟨rfl, by rw [hU]; exact hP, va_K.moved hW.alike hK, hD, sx_N_warm hW hN⟩⟩ rfl (by simpa using hlen) hl.1 (by rw [hstk]; simp [sx_v]) (lv_room (by rw [sx_cats]; exact hroom)) hdg ⟨Nat.zero_le _, Nat.zero_le _⟩) hS (fun r w' H1 locs1 hr hP1 hD1 hS1 => ?_)
  have h9 := hk _ _ _ _ (hpost r w' hr) H1 locs1 ls hL hl hP1 hD1 hS1
  rw [List.map_append] at h9
  exact h9
theorem sx_CalVN {y : MethodName} {bytes : ByteArray} {maxL ix n ci : Nat} {ret : Option FieldType} {ws ws' : List Cond} {rm : Room} {S : sx_S} {r : vw_C}
    (hM : ∀ (As : List sx_V) (w : sx_M) (Q : Option sx_V → sx_M → Prop), S.2 As w Q → Met l y ws rm (sx_Pc wn E B D cl A As w) (sx_Qc E B D cl A Q) 0 0 A)
    (hrec : ∀ (As : List sx_V) (w : sx_M) (Q : Option sx_V → sx_M → Prop), S.2 As w Q → ∃ (n0 : Nat) (tl : List sx_V) (fs : List sx_V), As = .inr (n0, 0) :: tl ∧ n0 < B ∧ w n0 = .inr (.inr (ci, fs))) (hci : cl[ci]? = some r) (hrn : r.1 = y.cls)
    (hG : GoodIn Ts ws) (hw : ws = Cond.code y bytes maxL ret :: ws') (hrc : rm.cells = 0) (hrs : rm.slots = 0) (hin : Cond.initialized y.cls ∈ Ts) (hlk : Cond.methodLinkNest own ix y host ∈ wn) (him : Cond.instanceMethod y ∈ Ts) (hse : Cond.selects y.cls y y ∈ Ts)
    (hd : y.cls ≠ "java/lang/invoke/MethodHandle" ∧ y.cls ≠ "java/lang/invoke/VarHandle" ∧ (parseMethodDescriptor y.desc).map (fun d => d.parameters.length) = some n) (hR : rm.frames + 1 ≤ R.frames ∧ 8 + (maxL + 11) + rm.locals ≤ R.locals) (hn : S.1 = n + 1) : sx_Cal l own Ts wn R D cl A E B nL cc (.invokevirtual ix) S := by
  intro p e s m args below meth c Q H0 CF hK hN K hk pc L st w hdg hc H locs ls hL hl hP hD hS
  obtain ⟨hn1, hroom, Qs, hpre, hpost⟩ := hc
  have hts := CF.2.2.2.2
  obtain ⟨n0, tl, fs, hAs, hn0, hw0⟩ := hrec _ _ _ hpre
  have hMt := hM _ w Qs hpre
  have hstk := sx_stk E st S.1
  have hlen : ((st.take S.1).reverse).length = n + 1 := by simp; omega
  rw [hAs] at hMt hstk hlen
  obtain ⟨o, ho, -⟩ := sx_off E w n0 B hn0
  have ho := ho 0 (E.1 n0, .inr (ci, fs.map (sx_v E))) (by rw [hw0]; rfl)
  have hrv := va_recv hK hP hci ho
  rw [hrn] at hrv
  refine sx_back (va_runVN (b := E.1 n0) (As := tl.map (sx_v E)) (rest := (st.drop S.1).map (sx_v E)) CF hMt ⟨va_cnB n hts hG hw hrc hrs (hN _ hlk).2 (hts _ hin) hd hR, hts _ him, hts _ hse⟩ ⟨sx_blind, hrv, fun U hU hW => ⟨rfl, by rw [hU]; exact hP, va_K.moved hW.alike hK, hD, sx_N_warm hW hN⟩⟩ rfl (by simpa using hlen) hl.1 (by rw [hstk]; simp [sx_v]) (lv_room (by rw [sx_cats]; exact hroom)) hdg ⟨Nat.zero_le _, Nat.zero_le _⟩) hS (fun r w' H1 locs1 hr hP1 hD1 hS1 => ?_)
  have h9 := hk _ _ _ _ (hpost r w' hr) H1 locs1 ls hL hl hP1 hD1 hS1
  rw [List.map_append] at h9
  exact h9
def sx_rt (ret : Option FieldType) (Rt : Option sx_V → sx_M → Prop) : Prop := match ret with
  | none => ∀ (x : sx_V) (w : sx_M), ¬ Rt (some x) w
  | some .int => ∀ w : sx_M, ¬ Rt none w
  | some .boolean => (∀ w : sx_M, ¬ Rt none w) ∧ ∀ (x : Int32) (w : sx_M), Rt (some (.inl x)) w → x = 0 ∨ x = 1
  | _ => False
theorem sx_slots (E : sx_E) : ∀ As : List sx_V, (lg_sl (As.map (sx_v E))).length = As.length
  | [] => rfl
  | v :: As => by
    have h := sx_slots E As
    have hc := sx_v_cat E v
    simp only [lg_sl, List.map_cons, List.flatMap_cons, hc] at h ⊢
    rw [List.length_append, h]
    simp
    omega
theorem sx_args (E : sx_E) : ∀ (As : List sx_V) (b k : Nat) (x : sx_V), As[k]? = some x → (b + k, sx_v E x) ∈ lv_args b (As.map (sx_v E))
  | [], b, k, x, h => by simp at h
  | v :: As, b, k, x, h => by
    have hc := sx_v_cat E v
    rw [List.map_cons]
    simp only [lv_args, hc]
    cases k with
    | zero =>
      simp at h
      subst h
      simp
    | succ k =>
      simp at h
      have := sx_args E As (b + 1) k x h
      rw [show b + (k + 1) = b + 1 + k by omega]
      simp [this]
set_option maxHeartbeats 4000000 in
set_option maxRecDepth 100000 in
theorem sx_method {y : MethodName} {ws ws' : List Cond} {rm : Room} {maxL : Nat} {ret : Option FieldType} {F : sx_F} {cs : Nat → sx_S} {As : List sx_V} {w : sx_M} (host : String)
    (hy : plainFor y = true) (hw : ws = Cond.code y cc maxL ret :: ws') (hcl : sx_Tb cl) (hTw : sx_Tw cl ws)
    (hF : ∀ (pc : Nat) (i : Instr × Nat × Nat), F pc = some i → decode cc pc = .ok (i.1, sx_len i.1) ∧ sx_ok y.cls host cl ws wn maxL pc i.1 i.2 = true)
    (hC : ∀ (pc : Nat) (i : Instr × Nat × Nat), F pc = some i → sx_isC i.1 = true → sx_Cal l y.cls ws wn rm D cl A E B maxL cc i.1 (cs i.2.1))
    (hlen : As.length ≤ maxL) (hret : sx_rt ret Rt)
    (body : ∀ Z : sx_K, sx_Cl B cs Rt F Z → Z 0 (As.map some ++ List.replicate (maxL - As.length) none) [] w) :
    Met l y ws rm (sx_Pc wn E B D cl A As w) (sx_Qc E B D cl A Rt) 0 0 A := by
  refine va_MetF (cc := cc) (maxL := maxL) (ret := ret) hy hw ?_
  intro p e s m args below meth c s₁ Bd hml hv
  obtain ⟨rfl, hP, hK, hD, hN⟩ := hv
  have hx := Bd.exec
  have hb := Bd.bytes
  have hr := Bd.returns
  have hts := atoms_spec (ws := ws) Bd.pre
  have hown : s.vm.findClass y.cls = some m.cls := findClass_of_methodNamed Bd.named
  have hlocks := Bd.notSynchronized
  have hS : va_S A s.heap s.heap [] := va_S.rf
  have hl := lv_entry (As.map (sx_v E)) (n := maxL) (by rw [sx_slots]; exact hlen)
  rw [lg_entry_eq]
  generalize (lg_sl (As.map (sx_v E)) ++ List.replicate (maxL - (lg_sl (As.map (sx_v E))).length) Slot.unset).toArray = ls at hl ⊢
  have hl2 : lv_has ls maxL (sx_l E 0 (As.map some ++ List.replicate (maxL - As.length) none)) := by
    refine sx_lv_mono hl fun q hq => ?_
    obtain ⟨k, x, h1, rfl⟩ := (sx_l_mem E _ 0 q).mp hq
    by_cases hk : k < As.length
    · rw [List.getElem?_append_left (by simpa using hk), List.getElem?_map] at h1
      cases h9 : As[k]? with
      | none => rw [h9] at h1; simp at h1
      | some z =>
        rw [h9] at h1
        simp at h1
        subst h1
        exact sx_args E As 0 k z h9
    · rw [List.getElem?_append_right (by simpa using hk), List.getElem?_replicate] at h1
      split at h1 <;> simp at h1
  have hRt : sx_Ret p l e rm s m (As.map (sx_v E)).toArray below meth c (MQ below (sx_Qc E B D cl A Rt) (As.map (sx_v E)).toArray s 0 0 A) D cl A s.heap E B cc Rt := by
    refine ⟨fun pc x w H locs ls hdg hq hP hD hS => ?_, fun pc w H locs ls hdg hq hP hD hS => ?_⟩
    · cases ret with
      | none => exact absurd hq (hret _ _)
      | some t =>
        cases t with
        | int => exact W.iret hx hb hr (fun t ht hW => ⟨⟨some (.inl x), w, rfl, hq, by rw [ht]; exact hP, va_K.moved hW.alike hK, hD⟩, hS.F ht⟩) hS.2.2 hdg
        | boolean =>
          have hn : narrow .boolean (.int x) = .int x := by rcases hret.2 x w hq with rfl | rfl <;> decide
          exact W.zret hx hb hr hn (fun t ht hW => ⟨⟨some (.inl x), w, rfl, hq, by rw [ht]; exact hP, va_K.moved hW.alike hK, hD⟩, hS.F ht⟩) hS.2.2 hdg
        | _ => exact False.elim hret
    · cases ret with
      | none => exact W.vret hx hb hr (fun t ht hW => ⟨⟨none, w, rfl, hq, by rw [ht]; exact hP, va_K.moved hW.alike hK, hD⟩, hS.F ht⟩) hS.2.2 hdg
      | some t =>
        cases t with
        | int => exact absurd hq (hret _)
        | boolean => exact absurd hq (hret.1 _)
        | _ => exact False.elim hret
  have hZ := body (sx_Z p l e rm s m (As.map (sx_v E)).toArray below meth c (MQ below (sx_Qc E B D cl A Rt) (As.map (sx_v E)).toArray s 0 0 A) D cl A s.heap E B maxL) (fun K hk pc i L st w hFi hv => by
    obtain ⟨h1, h2⟩ := hF pc i hFi
    exact sx_sound (host := host) (own := y.cls) hx hb hts hN hTw hown hK hcl hRt hk h1 h2 (fun hic hcall => hC pc i hFi hic p e s m _ below meth c _ _ ⟨hx, hb, hml, hown, hts⟩ hK hN K hk pc L st w (by
      have h3 : sx_len i.1 = 3 := by
        cases hi : i.1 <;> rw [hi] at hic <;> first | rfl | cases hic
      rw [← h3]; exact h1) hcall) hv)
  exact hZ s.heap [] ls (by simp; omega) hl2 hP hD hS
end SX3
