-- the row of an instruction: its condition gives W
section SX2
variable {p : Program} {l : Launch} {e : Env} {R : Room} {s : State} {m : MethodId} {args : Array Value} {below : List Frame} {meth : Method} {c : Code} {Q : State → Prop}
variable {cc : ByteArray} {D : va_G} {cl : List vw_C} {A : Nat → Prop} {H0 : Heap} {E : sx_E} {B nL : Nat} {Ts wn : List Cond} {own host : String} {cs : Nat → sx_S} {Rt : Option sx_V → sx_M → Prop}
-- what a return owes
def sx_Ret (p : Program) (l : Launch) (e : Env) (R : Room) (s : State) (m : MethodId) (args : Array Value) (below : List Frame) (meth : Method) (c : Code) (Q : State → Prop) (D : va_G) (cl : List vw_C) (A : Nat → Prop) (H0 : Heap) (E : sx_E) (B : Nat) (cc : ByteArray) (Rt : Option sx_V → sx_M → Prop) : Prop :=
  (∀ (pc : Nat) (x : Int32) (w : sx_M) (H : Heap) (locs : List Loc) (ls : Array Slot), decode cc pc = .ok (.ireturn, 1) → Rt (some (.inl x)) w → va_P D cl (sx_w E B w) H → va_D A (sx_w E B w) → va_S A H0 H locs → W p l e R s m args below meth c H locs 0 0 Q (F0 m pc ls [.int x])) ∧
  (∀ (pc : Nat) (w : sx_M) (H : Heap) (locs : List Loc) (ls : Array Slot), decode cc pc = .ok (.return_, 1) → Rt none w → va_P D cl (sx_w E B w) H → va_D A (sx_w E B w) → va_S A H0 H locs → W p l e R s m args below meth c H locs 0 0 Q (F0 m pc ls []))
set_option maxHeartbeats 4000000 in
set_option maxRecDepth 100000 in
theorem sx_sound (hx : p.tables.exec = Jvm.exec) (hb : c.code = cc) (hts : ∀ w ∈ Ts, w.before args s = true) (hN : sx_N wn s) (hTw : sx_Tw cl Ts) (hown : s.vm.findClass own = some m.cls) (hK : va_K D cl (sx_ty E) s) (hcl : sx_Tb cl)
    (hRt : sx_Ret p l e R s m args below meth c Q D cl A H0 E B cc Rt) {K : sx_K} (hk : ∀ pc L st w, K pc L st w → sx_Z p l e R s m args below meth c Q D cl A H0 E B nL pc L st w)
    {i : Instr} {h : Nat × Nat} {pc : Nat} {L : List (Option sx_V)} {st : List sx_V} {w : sx_M} (hd : decode cc pc = .ok (i, sx_len i)) (hok : sx_ok own host cl Ts wn nL pc i h = true)
    (hcall : sx_isC i = true → sx_call (cs h.1) pc L st w K → sx_Z p l e R s m args below meth c Q D cl A H0 E B nL pc L st w)
    (hv : sx_1 B cs Rt i h pc L st w K) : sx_Z p l e R s m args below meth c Q D cl A H0 E B nL pc L st w := by
  cases i with
  | iconst v => exact fun H locs ls hL hl hP hD hS => lv_iconst hx hb hd rfl (hk _ _ _ _ hv H locs ls hL hl hP hD hS)
  | bipush v => exact fun H locs ls hL hl hP hD hS => lv_bipush hx hb hd rfl (hk _ _ _ _ hv H locs ls hL hl hP hD hS)
  | sipush v => exact fun H locs ls hL hl hP hD hS => lv_sipush hx hb hd rfl (hk _ _ _ _ hv H locs ls hL hl hP hD hS)
  | ldc ix => exact fun H locs ls hL hl hP hD hS => lv_ldc hx hb hown (hts _ (of_decide_eq_true hok)) hd (hk _ _ _ _ hv H locs ls hL hl hP hD hS)
  | iload_n k =>
    simp only [sx_1, sx_ldi] at hv
    split at hv
    · next heq => exact fun H locs ls hL hl hP hD hS => lv_iload_n hx hb hd rfl (sx_lv_at hl heq) (hk _ _ _ _ hv H locs ls hL hl hP hD hS)
    · exact False.elim hv
  | iload k =>
    simp only [sx_1, sx_ldi] at hv
    split at hv
    · next heq => exact fun H locs ls hL hl hP hD hS => lv_iload hx hb hd (sx_lv_at hl heq) (hk _ _ _ _ hv H locs ls hL hl hP hD hS)
    · exact False.elim hv
  | aload_n k =>
    simp only [sx_1, sx_lda] at hv
    split at hv
    · next a heq =>
      obtain ⟨x, hx9⟩ := sx_v_ref E a
      refine fun H locs ls hL hl hP hD hS => lv_aload_n hx hb hd rfl (by rw [← hx9]; exact sx_lv_at hl heq) ?_
      have h9 := hk _ _ _ _ hv H locs ls hL hl hP hD hS
      rw [List.map_cons, hx9] at h9
      exact h9
    · exact False.elim hv
  | aload k =>
    simp only [sx_1, sx_lda] at hv
    split at hv
    · next a heq =>
      obtain ⟨x, hx9⟩ := sx_v_ref E a
      refine fun H locs ls hL hl hP hD hS => lv_aload hx hb hd (by rw [← hx9]; exact sx_lv_at hl heq) ?_
      have h9 := hk _ _ _ _ hv H locs ls hL hl hP hD hS
      rw [List.map_cons, hx9] at h9
      exact h9
    · exact False.elim hv
  | istore_n k =>
    simp only [sx_1, sx_t1] at hv
    split at hv
    · next x r =>
      have hkn : k.val < nL := of_decide_eq_true hok
      exact fun H locs ls hL hl hP hD hS => lv_istore_n hx hb hd rfl hl hkn rfl (fun ls' hl' => hk _ _ _ _ hv H locs ls' (by rw [List.length_set]; exact hL) (sx_lv_put (by rw [hL]; exact hkn) hl') hP hD hS)
    · exact False.elim hv
  | istore k =>
    simp only [sx_1, sx_t1] at hv
    split at hv
    · next x r =>
      have hkn : k < nL := of_decide_eq_true hok
      exact fun H locs ls hL hl hP hD hS => lv_istore hx hb hd hl hkn rfl (fun ls' hl' => hk _ _ _ _ hv H locs ls' (by rw [List.length_set]; exact hL) (sx_lv_put (by rw [hL]; exact hkn) hl') hP hD hS)
    · exact False.elim hv
  | astore_n k =>
    simp only [sx_1, sx_ta] at hv
    split at hv
    · next a r =>
      have hkn : k.val < nL := of_decide_eq_true hok
      obtain ⟨x, hx9⟩ := sx_v_ref E a
      intro H locs ls hL hl hP hD hS
      rw [List.map_cons, hx9]
      exact lv_astore_n hx hb hd rfl hl hkn rfl (fun ls' hl' => hk _ _ _ _ hv H locs ls' (by rw [List.length_set]; exact hL) (sx_lv_put (by rw [hL]; exact hkn) (by rw [hx9]; exact hl')) hP hD hS)
    · exact False.elim hv
  | astore k =>
    simp only [sx_1, sx_ta] at hv
    split at hv
    · next a r =>
      have hkn : k < nL := of_decide_eq_true hok
      obtain ⟨x, hx9⟩ := sx_v_ref E a
      intro H locs ls hL hl hP hD hS
      rw [List.map_cons, hx9]
      exact lv_astore hx hb hd hl hkn rfl (fun ls' hl' => hk _ _ _ _ hv H locs ls' (by rw [List.length_set]; exact hL) (sx_lv_put (by rw [hL]; exact hkn) (by rw [hx9]; exact hl')) hP hD hS)
    · exact False.elim hv
  | iinc k n =>
    simp only [sx_1, sx_ldi] at hv
    split at hv
    · next x heq =>
      have hkn : k < nL := of_decide_eq_true hok
      intro H locs ls hL hl hP hD hS
      obtain ⟨j, hj⟩ := List.mem_iff_getElem?.mp ((sx_l_mem E L 0 (0 + k, sx_v E (.inl x))).mpr ⟨k, _, heq, rfl⟩)
      rw [Nat.zero_add] at hj
      exact lv_iinc hx hb hd hl hj rfl hkn rfl (fun ls' hl' => hk _ _ _ _ hv H locs ls' (by rw [List.length_set]; exact hL) (sx_lv_put (by rw [hL]; exact hkn) hl') hP hD hS)
    · exact False.elim hv
  | iadd =>
    simp only [sx_1, sx_t2] at hv
    split at hv
    · exact fun H locs ls hL hl hP hD hS => lv_iadd hx hb hd (hk _ _ _ _ hv H locs ls hL hl hP hD hS)
    · exact False.elim hv
  | isub =>
    simp only [sx_1, sx_t2] at hv
    split at hv
    · exact fun H locs ls hL hl hP hD hS => lv_isub hx hb hd (hk _ _ _ _ hv H locs ls hL hl hP hD hS)
    · exact False.elim hv
  | imul =>
    simp only [sx_1, sx_t2] at hv
    split at hv
    · exact fun H locs ls hL hl hP hD hS => lv_imul hx hb hd (hk _ _ _ _ hv H locs ls hL hl hP hD hS)
    · exact False.elim hv
  | idiv =>
    simp only [sx_1, sx_t2] at hv
    split at hv
    · exact fun H locs ls hL hl hP hD hS => lv_idiv hx hb hd hv.1 (hk _ _ _ _ hv.2 H locs ls hL hl hP hD hS)
    · exact False.elim hv
  | irem =>
    simp only [sx_1, sx_t2] at hv
    split at hv
    · exact fun H locs ls hL hl hP hD hS => lv_irem hx hb hd hv.1 (hk _ _ _ _ hv.2 H locs ls hL hl hP hD hS)
    · exact False.elim hv
  | iand =>
    simp only [sx_1, sx_t2] at hv
    split at hv
    · exact fun H locs ls hL hl hP hD hS => lv_iand hx hb hd (hk _ _ _ _ hv H locs ls hL hl hP hD hS)
    · exact False.elim hv
  | ior =>
    simp only [sx_1, sx_t2] at hv
    split at hv
    · exact fun H locs ls hL hl hP hD hS => lv_ior hx hb hd (hk _ _ _ _ hv H locs ls hL hl hP hD hS)
    · exact False.elim hv
  | ixor =>
    simp only [sx_1, sx_t2] at hv
    split at hv
    · exact fun H locs ls hL hl hP hD hS => lv_ixor hx hb hd (hk _ _ _ _ hv H locs ls hL hl hP hD hS)
    · exact False.elim hv
  | ishl =>
    simp only [sx_1, sx_t2] at hv
    split at hv
    · exact fun H locs ls hL hl hP hD hS => lv_ishl hx hb hd (hk _ _ _ _ hv H locs ls hL hl hP hD hS)
    · exact False.elim hv
  | ishr =>
    simp only [sx_1, sx_t2] at hv
    split at hv
    · exact fun H locs ls hL hl hP hD hS => lv_ishr hx hb hd (hk _ _ _ _ hv H locs ls hL hl hP hD hS)
    · exact False.elim hv
  | iushr =>
    simp only [sx_1, sx_t2] at hv
    split at hv
    · exact fun H locs ls hL hl hP hD hS => lv_iushr hx hb hd rfl (hk _ _ _ _ hv H locs ls hL hl hP hD hS)
    · exact False.elim hv
  | ineg =>
    simp only [sx_1, sx_t1] at hv
    split at hv
    · exact fun H locs ls hL hl hP hD hS => lv_ineg hx hb hd (hk _ _ _ _ hv H locs ls hL hl hP hD hS)
    · exact False.elim hv
  | dup =>
    simp only [sx_1] at hv
    split at hv
    · exact fun H locs ls hL hl hP hD hS => lv_dup hx hb hd (sx_v_cat E _) (hk _ _ _ _ hv H locs ls hL hl hP hD hS)
    · exact False.elim hv
  | dup_x1 =>
    simp only [sx_1] at hv
    split at hv
    · exact fun H locs ls hL hl hP hD hS => lv_dup_x1 hx hb hd (sx_v_cat E _) (sx_v_cat E _) (hk _ _ _ _ hv H locs ls hL hl hP hD hS)
    · exact False.elim hv
  | dup_x2 =>
    simp only [sx_1] at hv
    split at hv
    · exact fun H locs ls hL hl hP hD hS => lv_dup_x2 hx hb hd (sx_v_cat E _) (sx_v_cat E _) (sx_v_cat E _) (hk _ _ _ _ hv H locs ls hL hl hP hD hS)
    · exact False.elim hv
  | dup2 =>
    simp only [sx_1] at hv
    split at hv
    · exact fun H locs ls hL hl hP hD hS => lv_dup2_11 hx hb hd (sx_v_cat E _) (sx_v_cat E _) (hk _ _ _ _ hv H locs ls hL hl hP hD hS)
    · exact False.elim hv
  | pop =>
    simp only [sx_1] at hv
    split at hv
    · exact fun H locs ls hL hl hP hD hS => lv_pop hx hb hd (sx_v_cat E _) (hk _ _ _ _ hv H locs ls hL hl hP hD hS)
    · exact False.elim hv
  | ifCond cd off =>
    have ht := of_decide_eq_true hok
    simp only [sx_1, sx_t1] at hv
    split at hv
    · cases cd with
      | eq => exact fun H locs ls hL hl hP hD hS => lv_if_eq hx hb hd ht (fun q => hk _ _ _ _ (hv.1 q) H locs ls hL hl hP hD hS) (fun q => hk _ _ _ _ (hv.2 q) H locs ls hL hl hP hD hS)
      | ne => exact fun H locs ls hL hl hP hD hS => lv_if_ne hx hb hd ht (fun q => hk _ _ _ _ (hv.1 q) H locs ls hL hl hP hD hS) (fun q => hk _ _ _ _ (hv.2 q) H locs ls hL hl hP hD hS)
      | lt => exact fun H locs ls hL hl hP hD hS => lv_if_lt hx hb hd ht (fun q => hk _ _ _ _ (hv.1 q) H locs ls hL hl hP hD hS) (fun q => hk _ _ _ _ (hv.2 q) H locs ls hL hl hP hD hS)
      | ge => exact fun H locs ls hL hl hP hD hS => lv_if_ge hx hb hd ht (fun q => hk _ _ _ _ (hv.1 q) H locs ls hL hl hP hD hS) (fun q => hk _ _ _ _ (hv.2 q) H locs ls hL hl hP hD hS)
      | gt => exact fun H locs ls hL hl hP hD hS => lv_if_gt hx hb hd ht (fun q => hk _ _ _ _ (hv.1 q) H locs ls hL hl hP hD hS) (fun q => hk _ _ _ _ (hv.2 q) H locs ls hL hl hP hD hS)
      | le => exact fun H locs ls hL hl hP hD hS => lv_if_le hx hb hd ht (fun q => hk _ _ _ _ (hv.1 q) H locs ls hL hl hP hD hS) (fun q => hk _ _ _ _ (hv.2 q) H locs ls hL hl hP hD hS)
    · exact False.elim hv
  | if_icmp cd off =>
    have ht := of_decide_eq_true hok
    simp only [sx_1, sx_t2] at hv
    split at hv
    · cases cd with
      | eq => exact fun H locs ls hL hl hP hD hS => lv_icmp_eq hx hb hd ht (fun q => hk _ _ _ _ (hv.1 q) H locs ls hL hl hP hD hS) (fun q => hk _ _ _ _ (hv.2 q) H locs ls hL hl hP hD hS)
      | ne => exact fun H locs ls hL hl hP hD hS => lv_icmp_ne hx hb hd ht (fun q => hk _ _ _ _ (hv.1 q) H locs ls hL hl hP hD hS) (fun q => hk _ _ _ _ (hv.2 q) H locs ls hL hl hP hD hS)
      | lt => exact fun H locs ls hL hl hP hD hS => lv_icmp_lt hx hb hd ht (fun q => hk _ _ _ _ (hv.1 q) H locs ls hL hl hP hD hS) (fun q => hk _ _ _ _ (hv.2 q) H locs ls hL hl hP hD hS)
      | ge => exact fun H locs ls hL hl hP hD hS => lv_icmp_ge hx hb hd ht (fun q => hk _ _ _ _ (hv.1 q) H locs ls hL hl hP hD hS) (fun q => hk _ _ _ _ (hv.2 q) H locs ls hL hl hP hD hS)
      | gt => exact fun H locs ls hL hl hP hD hS => lv_icmp_gt hx hb hd ht (fun q => hk _ _ _ _ (hv.1 q) H locs ls hL hl hP hD hS) (fun q => hk _ _ _ _ (hv.2 q) H locs ls hL hl hP hD hS)
      | le => exact fun H locs ls hL hl hP hD hS => lv_icmp_le hx hb hd ht (fun q => hk _ _ _ _ (hv.1 q) H locs ls hL hl hP hD hS) (fun q => hk _ _ _ _ (hv.2 q) H locs ls hL hl hP hD hS)
    · exact False.elim hv
  | goto off =>
    have ht := of_decide_eq_true hok
    exact fun H locs ls hL hl hP hD hS => lv_goto hx hb hd ht (hk _ _ _ _ hv H locs ls hL hl hP hD hS)
  | getfield ix =>
    simp only [sx_ok] at hok
    split at hok
    · next r hr =>
      simp only [sx_1, sx_ta] at hv
      split at hv
      · exact fun H locs ls hL hl hP hD hS => sx_w_gf (host := host) hx hb hts hN hTw hown hK hP hr hok hd hv (fun v h9 => hk _ _ _ _ h9 H locs ls hL hl hP hD hS)
      · exact False.elim hv
    · cases hok
  | putfield ix =>
    simp only [sx_ok] at hok
    split at hok
    · next r hr =>
      rw [Bool.and_eq_true, Bool.and_eq_true] at hok
      simp only [sx_1, sx_t1] at hv
      split at hv
      · simp only [sx_ta] at hv
        split at hv
        · exact fun H locs ls hL hl hP hD hS => sx_w_pf (host := host) hx hb hts hN hTw hown hK hcl hP hD hS hr hok.1.1 (of_decide_eq_true hok.1.2) (of_decide_eq_true hok.2) hd hv (fun w' H1 locs1 h9 hP1 hD1 hS1 => hk _ _ _ _ h9 H1 locs1 ls hL hl hP1 hD1 hS1)
        · exact False.elim hv
      · exact False.elim hv
    · cases hok
  | iaload =>
    simp only [sx_1, sx_t1] at hv
    split at hv
    · simp only [sx_ta] at hv
      split at hv
      · exact fun H locs ls hL hl hP hD hS => sx_w_ga hx hb hK hP hd hv (fun v h9 => hk _ _ _ _ h9 H locs ls hL hl hP hD hS)
      · exact False.elim hv
    · exact False.elim hv
  | iastore =>
    simp only [sx_1, sx_t2] at hv
    split at hv
    · simp only [sx_ta] at hv
      split at hv
      · exact fun H locs ls hL hl hP hD hS => sx_w_pa hx hb hK hP hD hS hd hv (fun w' H1 locs1 h9 hP1 hD1 hS1 => hk _ _ _ _ h9 H1 locs1 ls hL hl hP1 hD1 hS1)
      · exact False.elim hv
    · exact False.elim hv
  | aaload =>
    simp only [sx_1, sx_t1] at hv
    split at hv
    · simp only [sx_ta] at hv
      split at hv
      · exact fun H locs ls hL hl hP hD hS => sx_w_gr hx hb hK hP hd hv (fun v h9 => hk _ _ _ _ h9 H locs ls hL hl hP hD hS)
      · exact False.elim hv
    · exact False.elim hv
  | arraylength =>
    simp only [sx_1, sx_ta] at hv
    split at hv
    · exact fun H locs ls hL hl hP hD hS => sx_w_al hx hb hK hP hd hv (fun v h9 => hk _ _ _ _ h9 H locs ls hL hl hP hD hS)
    · exact False.elim hv
  | invokestatic ix => exact hcall rfl hv
  | invokevirtual ix => exact hcall rfl hv
  | invokespecial ix => exact hcall rfl hv
  | ireturn =>
    simp only [sx_1] at hv
    split at hv
    · exact fun H locs ls hL hl hP hD hS => hRt.1 pc _ w H locs ls hd hv hP hD hS
    · exact False.elim hv
  | return_ =>
    simp only [sx_1] at hv
    split at hv
    · exact fun H locs ls hL hl hP hD hS => hRt.2 pc w H locs ls hd hv hP hD hS
    · exact False.elim hv
  | _ => exact False.elim hv
end SX2
