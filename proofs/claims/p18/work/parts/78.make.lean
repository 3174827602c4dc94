-- rows for making cells
def aoI (U : State) : Prop := (Cond.arrayOver (.array .int)).before #[] U = true
theorem aoI_moved {u U : State} (hvm : u.vm.Alike U.vm) (h : aoI u) : aoI U := by
  have h1 := Cond.arrayOver_setVmC (args := #[]) (s := u) (vm' := U.vm) hvm (.array .int)
  have h2 : (Cond.arrayOver (.array .int)).before #[] (u.setVm U.vm) = (Cond.arrayOver (.array .int)).before #[] U := rfl
  unfold aoI
  rw [← h2, h1]
  exact h
theorem aoI_use {A : Array Value} {U : State} (h : aoI U) : (Cond.arrayOver (.array .int)).before A U = true := h
-- an int array, a grid, as new
abbrev nwA (cI : ClassId) (q N : Nat) : va_W := [(q, .inl (cI, N, .inl (fun _ => 0)))]
abbrev nwG (cI cII : ClassId) (q : Nat) (r : Nat → Nat) (N K : Nat) : va_W := (q, .inl (cII, N, .inr (.inr (.inr (.inr (fun i => if i < N then some (r i) else none)))))) :: (List.range N).map (fun i => (r i, .inl (cI, K, .inl (fun _ => 0))))
abbrev tyI (cI cII : ClassId) : List (ClassId × FieldType) := [(cI, .int), (cII, .array .int)]
theorem ou_ref (c : ClassId) (N h0 : Nat) : ∀ i : Nat, Jvm.Free.Multi.outerC c N h0 i = arrV c N (fun j => va_rf (if j < i then some (h0 + 1 + j) else none))
  | 0 => by
    show ({ cls := c, slots := Array.replicate N .null, vm := .none } : Cell) = _
    rw [arrV_new]
    refine congrArg (arrV c N) (funext fun j => ?_)
    simp [va_rf]
  | i + 1 => by
    show (Jvm.Free.Multi.outerC c N h0 i).setSlot i (.ref (h0 + 1 + i)) = _
    rw [ou_ref c N h0 i, arrV_store]
    refine congrArg (arrV c N) (funext fun j => ?_)
    by_cases e : j = i
    · subst e
      simp [updV, va_rf]
    · by_cases h : j < i
      · simp [updV, e, h, Nat.lt_succ_of_lt h]
      · simp [updV, e, h, show ¬ j < i + 1 by omega]
section NW
variable {p : Program} {l : Launch} {e : Env} {R : Room} {s : State} {m : MethodId} {args : Array Value} {below : List Frame} {meth : Method} {c : Code} {H : Heap} {locs : List Loc} {cells slots : Nat} {Q : State → Prop}
variable {cc : ByteArray} {pc : Nat} {ls : Array Slot} {rest : List Value} {D : va_G} {cl : List vw_C} {A : Nat → Prop} {ws : va_W} {H0 : Heap} {cI cII : ClassId}
theorem nw_a (hexec : p.tables.exec = Jvm.exec) (hb : c.code = cc) (harr : (Cond.arrayClass .int).before args s = true) (hK : va_K D cl (tyI cI cII) s) (hP : va_P D cl ws H) (hD : va_D A ws) (hS : va_S A H0 H locs) (hA : ∀ q, H0.size ≤ q → A q) {n : Int32} {N' : Nat} (hn : ¬ n < 0) (hN : n.toNatClampNeg = N') (hbytes : N' * 4 ≤ 536870912) (hcells : cells + 1 ≤ R.cells) (hslots : slots + N' ≤ R.slots) (hdg : decode cc pc = .ok (.newarray .int, 2))
    (kk : ∀ (q : Nat) (H1 : Heap), va_P D cl (ws ++ nwA cI q N') H1 → va_D A (ws ++ nwA cI q N') → va_S A H0 H1 locs → W p l e R s m args below meth c H1 locs (cells + 1) (slots + N') Q (F0 m (pc + 2) ls (.ref q :: rest))) : W p l e R s m args below meth c H locs cells slots Q (F0 m pc ls (.int n :: rest)) := by
  refine va_newa (a0 := (N', .inl (fun _ => 0))) (atype := .int) (ty := .int) hexec hb harr rfl hK hP hD hS hA (fun cA => ?_) hn hN hbytes hcells hslots hdg (fun q cA H1 hK1 hP1 hD1 hS1 => ?_)
  · rw [vp_cell_i]; rfl
  · have h1 : s.vm.findClass ("[" ++ FieldType.int.toString) = some cI := (hK.2 0 (cI, .int) rfl).2
    have h2 : s.vm.findClass ("[" ++ FieldType.int.toString) = some cA := (hK1.2 2 (cA, .int) rfl).2
    have e9 : cA = cI := Option.some.inj (h2.symm.trans h1)
    subst e9
    exact kk q H1 hP1 hD1 hS1
theorem nw_g (hexec : p.tables.exec = Jvm.exec) (hb : c.code = cc) {own : String} {index : Nat} (hown : s.vm.findClass own = some m.cls) (hclink : (Cond.classLink own index "[[I").before args s = true) (hover : aoI s) (harr : (Cond.arrayClass .int).before args s = true) (hK : va_K D cl (tyI cI cII) s) (hP : va_P D cl ws H) (hD : va_D A ws) (hS : va_S A H0 H locs) (hA : ∀ q, H0.size ≤ q → A q) {n k : Int32} {N' K' : Nat} (hn : ¬ n < 0) (hk : ¬ k < 0) (hN : n.toNatClampNeg = N') (hM : k.toNatClampNeg = K') (hb1 : N' * 4 ≤ 536870912) (hb2 : K' * 4 ≤ 536870912) (hcells : cells + (1 + N') ≤ R.cells) (hslots : slots + (N' + N' * K') ≤ R.slots) (hdg : decode cc pc = .ok (.multianewarray index 2, 4))
    (kk : ∀ (q : Nat) (r : Nat → Nat) (H1 : Heap), va_P D cl (ws ++ nwG cI cII q r N' K') H1 → va_D A (ws ++ nwG cI cII q r N' K') → va_S A H0 H1 locs → W p l e R s m args below meth c H1 locs (cells + 1 + N') (slots + N' + N' * K') Q (F0 m (pc + 4) ls (.ref q :: rest))) : W p l e R s m args below meth c H locs cells slots Q (F0 m pc ls (.int k :: .int n :: rest)) := by
  subst hN
  subst hM
  intro T hT Xs
  obtain ⟨vm₁, cA, comp, -, fA, fC, -, -, X', step⟩ := Xs.multianewarray2F hexec (ty := .int) hown hclink (aoI_use hover) harr (g := F0 m pc ls (.int k :: .int n :: rest)) rfl (by rw [hb]; exact hdg) rfl hn hk hb1 hb2 (by omega) rfl rfl hcells hslots
  have h1 : s.vm.findClass ("[" ++ FieldType.int.toString) = some cI := (hK.2 0 (cI, .int) rfl).2
  have h2 : s.vm.findClass ("[" ++ (FieldType.array .int).toString) = some cII := (hK.2 1 (cII, .array .int) rfl).2
  have e1 : cA = cII := Option.some.inj (fA.symm.trans h2)
  have e2 : comp = cI := Option.some.inj (fC.symm.trans h1)
  subst e1
  subst e2
  generalize hF : Jvm.Free.Multi.fill (T.setVm vm₁) cA comp n.toNatClampNeg k.toNatClampNeg (defaultValue .int) n.toNatClampNeg = F at X' step
  have hTh : (T.setVm vm₁).heap = H := hT
  obtain ⟨f1, f2, -, -⟩ := Jvm.Free.Multi.fill_facts (T.setVm vm₁) cA comp n.toNatClampNeg k.toNatClampNeg (defaultValue .int) n.toNatClampNeg
  rw [hF, hTh] at f1 f2
  have hold : ∀ x : Nat, x < H.size → F.heap[x]? = H[x]? := fun x hx => by
    have := Jvm.Free.Multi.fill_old (T.setVm vm₁) cA comp n.toNatClampNeg k.toNatClampNeg (defaultValue .int) (a := x) (by rw [hTh]; exact hx) n.toNatClampNeg
    rw [hF, hTh] at this
    exact this
  have hrow : ∀ j : Nat, j < n.toNatClampNeg → F.heap[H.size + 1 + j]? = some (vp_cell comp (k.toNatClampNeg, .inl (fun _ => 0))) := fun j hj => by
    have := Jvm.Free.Multi.fill_inner (T.setVm vm₁) cA comp n.toNatClampNeg k.toNatClampNeg (defaultValue .int) n.toNatClampNeg j hj
    rw [hF, hTh] at this
    rw [this, vp_cell_i]
    congr 1
    show ({ cls := comp, slots := Array.replicate k.toNatClampNeg (.int 0), vm := .none } : Cell) = _
    rw [arrV_new]
  have hout : Jvm.Free.Multi.outerC cA n.toNatClampNeg H.size n.toNatClampNeg = vp_cell cA (n.toNatClampNeg, .inr (.inr (.inr (.inr (fun i => if i < n.toNatClampNeg then some (H.size + 1 + i) else none))))) := by
    rw [vp_cell_q]
    exact ou_ref cA n.toNatClampNeg H.size n.toNatClampNeg
  rw [hout] at f2
  have hr : ∀ (k9 : Nat) (x : Nat × va_E), (nwG comp cA H.size (fun i => H.size + 1 + i) n.toNatClampNeg k.toNatClampNeg)[k9]? = some x → x.1 = H.size + k9 ∧ va_at D cl x F.heap := fun k9 x hx => by
    cases k9 with
    | zero =>
      cases hx
      exact ⟨rfl, f2⟩
    | succ k9 =>
      rw [List.getElem?_cons_succ, List.getElem?_map] at hx
      by_cases h9 : k9 < n.toNatClampNeg
      · rw [List.getElem?_range h9] at hx
        cases hx
        exact ⟨by show H.size + 1 + k9 = H.size + (k9 + 1); omega, hrow k9 h9⟩
      · rw [List.getElem?_eq_none (by rw [List.length_range]; omega)] at hx
        cases hx
  have hP0 : va_P D cl ws F.heap := hP.kept (fun k9 x hx => hold x.1 ((hP k9 x hx).lt))
  have hP1 : va_P D cl (ws ++ nwG comp cA H.size (fun i => H.size + 1 + i) n.toNatClampNeg k.toNatClampNeg) F.heap := hP0.app (fun k9 x hx => (hr k9 x hx).2)
  have hD1 : va_D A (ws ++ nwG comp cA H.size (fun i => H.size + 1 + i) n.toNatClampNeg k.toNatClampNeg) := by
    refine ⟨fun i j x y hi hj hxy => ?_, fun k9 x hx => ?_⟩
    · by_cases a1 : i < ws.length <;> by_cases a2 : j < ws.length
      · rw [List.getElem?_append_left a1] at hi
        rw [List.getElem?_append_left a2] at hj
        exact hD.1 i j x y hi hj hxy
      · rw [List.getElem?_append_left a1] at hi
        rw [List.getElem?_append_right (by omega)] at hj
        have b1 := (hP _ _ hi).lt
        have b2 := (hr _ _ hj).1
        omega
      · rw [List.getElem?_append_right (by omega)] at hi
        rw [List.getElem?_append_left a2] at hj
        have b1 := (hP _ _ hj).lt
        have b2 := (hr _ _ hi).1
        omega
      · rw [List.getElem?_append_right (by omega)] at hi hj
        have b1 := (hr _ _ hi).1
        have b2 := (hr _ _ hj).1
        omega
    · by_cases a1 : k9 < ws.length
      · rw [List.getElem?_append_left a1] at hx
        exact hD.2 k9 x hx
      · rw [List.getElem?_append_right (by omega)] at hx
        have b1 := (hr _ _ hx).1
        exact hA _ (by have := hS.1; omega)
  obtain ⟨t, a1, b1⟩ := kk H.size (fun i => H.size + 1 + i) F.heap hP1 hD1 ⟨by rw [f1]; have := hS.1; omega, fun x h1 h2 => (hold x (Nat.lt_of_lt_of_le h1 hS.1)).trans (hS.2.1 x h1 h2), hS.2.2⟩ F rfl X'
  refine ⟨t, step t ?_, b1⟩
  have e9 : T.heap.size = H.size := by rw [hT]
  rw [e9]
  exact a1
end NW
-- behind a constructor: the object and what it made, beside the rest
abbrev nwF (q sz : Nat) : Nat → Prop := fun x => x = q ∨ sz ≤ x
theorem nw_j {D : va_G} {cl : List vw_C} {A0 : Nat → Prop} {ws w1 : va_W} {q : Nat} {x : va_E} {H H1 : Heap} (hP : va_P D cl (ws ++ [(q, x)]) H) (hD : va_D A0 (ws ++ [(q, x)])) (hA : ∀ y, H.size ≤ y → A0 y) (hk : ∀ y : Nat, y < H.size → ¬ nwF q H.size y → H1[y]? = H[y]?) (hP1 : va_P D cl w1 H1) (hD1 : va_D (nwF q H.size) w1) : va_P D cl (ws ++ w1) H1 ∧ va_D A0 (ws ++ w1) := by
  have hq : (ws ++ [(q, x)])[ws.length]? = some (q, x) := by rw [List.getElem?_append_right (Nat.le_refl _), Nat.sub_self]; rfl
  have hold : ∀ (k : Nat) (y : Nat × va_E), ws[k]? = some y → y.1 < H.size ∧ y.1 ≠ q := fun k y hy => by
    have hl : k < ws.length := (List.getElem?_eq_some_iff.mp hy).1
    have h9 : (ws ++ [(q, x)])[k]? = some y := by rw [List.getElem?_append_left hl]; exact hy
    refine ⟨(hP k y h9).lt, fun e => ?_⟩
    have := hD.1 k ws.length y (q, x) h9 hq e
    omega
  have hP0 : va_P D cl ws H1 := fun k y hy => by
    have hl : k < ws.length := (List.getElem?_eq_some_iff.mp hy).1
    have h9 : va_P D cl ws H := fun k9 y9 h8 => hP k9 y9 (by rw [List.getElem?_append_left (List.getElem?_eq_some_iff.mp h8).1]; exact h8)
    exact h9.kept (fun k9 y9 h8 => hk y9.1 (hold k9 y9 h8).1 (fun h7 => by
      rcases h7 with h7 | h7
      · exact (hold k9 y9 h8).2 h7
      · have := (hold k9 y9 h8).1; omega)) k y hy
  refine ⟨hP0.app (fun k y hy => hP1 k y hy), fun i j y z hi hj he => ?_, fun k y hy => ?_⟩
  · by_cases a1 : i < ws.length <;> by_cases a2 : j < ws.length
    · rw [List.getElem?_append_left a1] at hi
      rw [List.getElem?_append_left a2] at hj
      exact hD.1 i j y z (by rw [List.getElem?_append_left a1]; exact hi) (by rw [List.getElem?_append_left a2]; exact hj) he
    · rw [List.getElem?_append_left a1] at hi
      rw [List.getElem?_append_right (by omega)] at hj
      have b1 := hold _ _ hi
      have b2 := hD1.2 _ _ hj
      rcases b2 with b2 | b2 <;> omega
    · rw [List.getElem?_append_right (by omega)] at hi
      rw [List.getElem?_append_left a2] at hj
      have b1 := hold _ _ hj
      have b2 := hD1.2 _ _ hi
      rcases b2 with b2 | b2 <;> omega
    · rw [List.getElem?_append_right (by omega)] at hi hj
      have := hD1.1 _ _ y z hi hj he
      omega
  · by_cases a1 : k < ws.length
    · rw [List.getElem?_append_left a1] at hy
      exact hD.2 k y (by rw [List.getElem?_append_left a1]; exact hy)
    · rw [List.getElem?_append_right (by omega)] at hy
      rcases hD1.2 _ _ hy with b2 | b2
      · rw [b2]; exact hD.2 _ _ hq
      · exact hA _ b2

