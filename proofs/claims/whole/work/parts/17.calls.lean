-- by mk.py: callees, links, and that each call of a method goes to what its contract says
def spS (b n : Nat) (y : MethodName) (cc : ByteArray) (nL : Nat) (ret : Option FieldType) (fr lo : Nat) : sx_S := (n, fun As w Q => ∀ (l : Launch) (D : va_G) (E : sx_E) (B : Nat) (A : Nat → Prop), b ≤ B → sM l D E B A y cc nL ret fr lo As w Q)
def spV (b ci n : Nat) (y : MethodName) (cc : ByteArray) (nL : Nat) (ret : Option FieldType) (fr lo : Nat) : sx_S := (n, fun As w Q => (∃ (n0 : Nat) (tl fs : List sx_V), As = .inr (n0, 0) :: tl ∧ n0 < b ∧ w n0 = .inr (.inr (ci, fs))) ∧ ∀ (l : Launch) (D : va_G) (E : sx_E) (B : Nat) (A : Nat → Prop), b ≤ B → sM l D E B A y cc nL ret fr lo As w Q)
-- System.arraycopy from a row to a row
def spCopy : sx_S := (5, fun As w Q => ∃ (n0 j0 n1 j1 N0 K0 N1 K1 sp dp n : Nat) (M0 M1 : Nat → Nat → Int32), As = [.inr (n0, j0 + 1), .inl (nI sp), .inr (n1, j1 + 1), .inl (nI dp), .inl (nI n)] ∧ n0 < 29 ∧ n1 < 29 ∧ w n0 = .inr (.inl (N0, K0, M0)) ∧ w n1 = .inr (.inl (N1, K1, M1)) ∧ j0 < N0 ∧ j1 < N1 ∧ sp + n ≤ K0 ∧ dp + n ≤ K1 ∧ K0 < 2 ^ 31 ∧ K1 < 2 ^ 31 ∧ Q = fun r w' => r = none ∧ w' = va_up w n1 (.inr (.inl (N1, K1, va_up M1 j1 (va_cpy (M0 j0) (M1 j1) sp dp n)))))
theorem sx_CalCopy {l : Launch} {own : String} {Ts wn : List Cond} {R : Room} {D : va_G} {cl : List vw_C} {A : Nat → Prop} {E : sx_E} {B nL ix : Nat} {cc : ByteArray} (hB : 29 ≤ B) (hlk : Cond.methodLink own ix arraycopyName ∈ Ts) (hnat : Cond.native arraycopyName ∈ Ts) (hst : Cond.static arraycopyName ∈ Ts) (hin : Cond.initialized "java/lang/System" ∈ Ts) (hfr : 1 ≤ R.frames) (hlo : 8 + (nativeFrameWords "java/lang/System" "arraycopy" 5 + 11) ≤ R.locals) : sx_Cal l own Ts wn R D cl A E B nL cc (.invokestatic ix) spCopy := by
  intro p e s m args below meth c Q H0 CF hK hN K hk pc L st w hdg hc H locs ls hL hl hP hD hS
  obtain ⟨hn1, hroom, Qs, ⟨n0, j0, n1, j1, N0, K0, N1, K1, sp, dp, n, M0, M1, hAs, h0, h1, hw0, hw1, hj0, hj1, hk0, hk1, hs0, hs1, rfl⟩, hpost⟩ := hc
  have hts := CF.2.2.2.2
  have hstk := sx_stk E st 5
  have hAs' : (List.take 5 st).reverse = [.inr (n0, j0 + 1), .inl (nI sp), .inr (n1, j1 + 1), .inl (nI dp), .inl (nI n)] := hAs
  rw [hAs'] at hstk
  obtain ⟨o0, ho0, -⟩ := sx_off E w n0 B (by omega)
  have ho0 := ho0 (j0 + 1) (E.2.1 n0 j0, .inl (E.2.2.1, K0, .inl (M0 j0))) (by rw [hw0]; simp [sx_c, List.getElem?_range hj0])
  obtain ⟨o1, ho1, hset⟩ := sx_off E w n1 B (by omega)
  have ho1 := ho1 (j1 + 1) (E.2.1 n1 j1, .inl (E.2.2.1, K1, .inl (M1 j1))) (by rw [hw1]; simp [sx_c, List.getElem?_range hj1])
  have hset := hset (j1 + 1) (E.2.1 n1 j1, .inl (E.2.2.1, K1, .inl (va_cpy (M0 j0) (M1 j1) sp dp n))) (.inr (.inl (N1, K1, va_up M1 j1 (va_cpy (M0 j0) (M1 j1) sp dp n)))) (by rw [hw1]; simp [sx_c]; omega) (by
    rw [hw1]
    simp only [sx_c, List.set_cons_succ]
    rw [sx_rset]
    refine congrArg _ (List.map_congr_left fun b _ => ?_)
    by_cases hb9 : b = j1
    · subst hb9; simp [va_up]
    · simp [va_up, hb9])
  rw [hstk]
  have c1 := nI_clamp (n := sp) (by omega)
  have c2 := nI_clamp (n := dp) (by omega)
  have c3 := nI_clamp (n := n) (by omega)
  refine va_copyi (rest := (st.drop 5).map (sx_v E)) CF.1 CF.2.1 (CF.2.2.1.trans hl.1.symm) CF.2.2.2.1 (hts _ hlk) (hts _ hnat) (hts _ hst) (hts _ hin) hK hP hD hS (o0 + (j0 + 1)) (o1 + (j1 + 1)) 0 0 ho0 ho1 rfl rfl rfl (nI_pos (by omega)) (nI_pos (by omega)) (nI_pos (by omega)) (by rw [c1, c3]; exact hk0) (by rw [c2, c3]; exact hk1) (fun _ _ => rfl) hfr (by
    rw [sx_cats]
    have h9 : (List.drop 5 st).length ≤ 8 := hroom
    omega) hdg (fun H1 locs1 hP1 hD1 hS1 => ?_)
  rw [c1, c2, c3, hset] at hP1 hD1
  exact hk _ _ _ _ (hpost none _ ⟨rfl, rfl⟩) H1 locs1 ls hL hl hP1 hD1 hS1
def csL : List sx_S := [
  spV 29 0 2 yCc_add prog_1_method_2_code 2 (some .boolean) 1 22,
  spV 29 0 1 yCc_clear prog_1_method_3_code 1 none 0 0,
  spV 29 0 1 yCc_build prog_1_method_4_code 1 (some .int) 6 153,
  spV 29 0 1 yCc_order prog_1_method_5_code 1 (some .int) 1 20,
  spV 29 0 2 yCc_element prog_1_method_6_code 2 (some .int) 1 20,
  spV 29 0 2 yCc_classOf prog_1_method_7_code 2 (some .int) 3 68,
  spV 29 0 1 yCc_classes prog_1_method_8_code 1 (some .int) 1 20,
  spV 29 0 2 yCc_size prog_1_method_9_code 2 (some .int) 2 41,
  spV 29 0 2 yCc_least prog_1_method_10_code 2 (some .int) 2 41,
  spV 29 0 3 yCc_power prog_1_method_11_code 3 (some .int) 2 41,
  spV 29 0 4 yCc_constant prog_1_method_12_code 4 (some .int) 2 45,
  spV 29 0 1 yCc_exponent prog_1_method_13_code 1 (some .int) 1 20,
  spV 29 0 1 yCc_prime prog_1_method_14_code 1 (some .int) 1 20,
  spV 29 0 1 yCc_root prog_1_method_15_code 1 (some .int) 1 20,
  spV 29 0 2 yCc_degree prog_1_method_16_code 2 (some .int) 2 41,
  spV 29 0 3 yCc_value prog_1_method_17_code 3 (some .int) 2 41,
  spV 29 0 4 yCc_multiplicity prog_1_method_18_code 4 (some .int) 3 81,
  spV 29 0 2 yCc_indicator prog_1_method_19_code 2 (some .int) 2 41,
  spV 29 0 2 yCc_kernel prog_1_method_20_code 2 (some .int) 2 41,
  spV 29 0 1 yCc_normals prog_1_method_21_code 1 (some .int) 1 20,
  spV 29 0 1 yCc_isBuilt prog_1_method_22_code 1 (some .boolean) 0 0,
  spV 29 0 2 yCc_isClass prog_1_method_23_code 2 (some .boolean) 1 20,
  spV 29 0 1 yCc_workOut prog_1_method_24_code 1 (some .int) 5 133,
  spS 11 2 yMo_image prog_9_method_2_code 2 (some .int) 0 0,
  spS 11 2 yMo_product prog_9_method_3_code 5 (some .int) 1 21,
  spS 11 1 yMo_inverted prog_9_method_4_code 4 (some .int) 1 21,
  spS 11 1 yMo_isPermutation prog_9_method_5_code 3 (some .boolean) 1 21,
  spV 11 6 2 yMo_add prog_9_method_6_code 2 (some .boolean) 2 43,
  spV 11 6 1 yMo_clear prog_9_method_7_code 1 none 0 0,
  spV 11 6 2 yMo_find prog_9_method_8_code 3 (some .int) 0 0,
  spV 11 6 1 yMo_close prog_9_method_9_code 4 (some .boolean) 2 45,
  spV 11 6 1 yMo_classify prog_9_method_10_code 6 (some .boolean) 2 45,
  spV 11 6 1 yMo_count prog_9_method_11_code 5 none 2 45,
  spV 11 6 3 yMo_powerOf prog_9_method_12_code 5 (some .int) 2 45,
  spV 11 6 2 yMo_allAtOnce prog_9_method_13_code 4 (some .boolean) 3 69,
  spS 11 1 yMo_isPrime prog_9_method_14_code 3 (some .boolean) 0 0,
  spV 11 6 1 yMo_numbers prog_9_method_15_code 1 none 4 92,
  spV 11 6 2 yMo_isRoot prog_9_method_16_code 5 (some .boolean) 0 0,
  spV 11 6 2 yMo_mod prog_9_method_17_code 3 (some .int) 0 0,
  spV 11 6 3 yMo_raised prog_9_method_18_code 5 (some .int) 0 0,
  spV 11 6 3 yMo_over prog_9_method_19_code 3 (some .int) 1 24,
  spV 11 6 4 yMo_multiply prog_9_method_20_code 9 none 0 0,
  spV 11 6 3 yMo_copy prog_9_method_21_code 4 none 0 0,
  spV 11 6 1 yMo_fermat prog_9_method_22_code 3 none 1 28,
  spV 11 6 3 yMo_ratio prog_9_method_23_code 7 (some .int) 2 46,
  spV 11 6 3 yMo_split prog_9_method_24_code 7 none 3 72,
  spV 11 6 1 yMo_takeApart prog_9_method_25_code 4 none 4 98,
  spV 11 6 2 yMo_inverseOf prog_9_method_26_code 3 (some .int) 2 44,
  spV 11 6 2 yMo_makeRow prog_9_method_27_code 6 none 3 72,
  spV 11 6 3 yMo_comesBefore prog_9_method_28_code 4 (some .boolean) 0 0,
  spV 11 6 3 yMo_exchange prog_9_method_29_code 6 none 0 0,
  spV 11 6 1 yMo_build prog_9_method_30_code 3 (some .int) 5 121,
  spV 11 6 2 yMo_isClass prog_9_method_31_code 2 (some .boolean) 0 0,
  spV 11 6 1 yMo_order prog_9_method_32_code 1 (some .int) 0 0,
  spV 11 6 2 yMo_element prog_9_method_33_code 2 (some .int) 0 0,
  spV 11 6 2 yMo_classOf prog_9_method_34_code 3 (some .int) 1 22,
  spV 11 6 1 yMo_classes prog_9_method_35_code 1 (some .int) 0 0,
  spV 11 6 2 yMo_size prog_9_method_36_code 2 (some .int) 1 21,
  spV 11 6 2 yMo_least prog_9_method_37_code 2 (some .int) 1 21,
  spV 11 6 3 yMo_power prog_9_method_38_code 4 (some .int) 3 69,
  spV 11 6 4 yMo_constant prog_9_method_39_code 4 (some .int) 1 21,
  spV 11 6 1 yMo_exponent prog_9_method_40_code 1 (some .int) 0 0,
  spV 11 6 1 yMo_prime prog_9_method_41_code 1 (some .int) 0 0,
  spV 11 6 1 yMo_root prog_9_method_42_code 1 (some .int) 0 0,
  spV 11 6 2 yMo_degree prog_9_method_43_code 2 (some .int) 1 21,
  spV 11 6 3 yMo_value prog_9_method_44_code 3 (some .int) 1 21,
  spV 11 6 4 yMo_multiplicity prog_9_method_45_code 9 (some .int) 2 46,
  spV 11 6 2 yMo_indicator prog_9_method_46_code 4 (some .int) 4 92,
  spV 11 6 2 yMo_kernel prog_9_method_47_code 4 (some .int) 1 21,
  spV 11 6 3 yMo_insert prog_9_method_48_code 4 (some .int) 0 0,
  spV 11 6 1 yMo_normals prog_9_method_49_code 4 (some .int) 2 44,
  spV 29 4 3 yCm_find prog_2_method_2_code 5 none 4 109,
  spV 29 4 1 yCm_startWhole prog_2_method_3_code 2 none 1 23,
  spV 29 4 5 yCm_setAction prog_2_method_4_code 11 none 2 45,
  spV 29 4 4 yCm_split prog_2_method_5_code 8 none 3 82,
  spV 29 4 4 yCm_setSystem prog_2_method_6_code 5 none 2 43,
  spV 29 4 3 yCm_solve prog_2_method_7_code 6 none 2 57,
  spV 29 4 4 yCm_swapRows prog_2_method_8_code 6 none 0 0,
  spV 29 4 5 yCm_clearColumn prog_2_method_9_code 9 none 1 29,
  spV 29 4 6 yCm_takeSolution prog_2_method_10_code 10 none 1 40,
  spV 29 4 2 yCm_scale prog_2_method_11_code 5 none 1 29,
  spS 29 1 yCd_isPermutation prog_3_method_2_code 3 (some .boolean) 0 0,
  spS 29 2 yCd_product prog_3_method_3_code 6 (some .int) 0 0,
  spS 29 1 yCd_inverse prog_3_method_4_code 4 (some .int) 0 0,
  spV 29 2 2 yCo_divide prog_4_method_2_code 3 (some .boolean) 3 71,
  spV 29 2 3 yCo_gather prog_4_method_3_code 7 none 2 45,
  spV 29 2 3 yCo_classHolding prog_4_method_4_code 4 (some .int) 2 45,
  spV 29 2 2 yCo_listPowers prog_4_method_5_code 5 none 3 68,
  spV 29 2 3 yCo_classRaised prog_4_method_6_code 3 (some .int) 0 0,
  spV 29 2 2 yCo_inverseOf prog_4_method_7_code 2 (some .int) 0 0,
  spV 29 2 2 yCo_countPairs prog_4_method_8_code 6 none 3 68,
  spV 29 2 4 yCo_pairs prog_4_method_9_code 4 (some .int) 1 22,
  spS 29 3 yCo_pairPlace prog_4_method_10_code 3 (some .int) 0 0,
  spV 29 1 3 yEl_generate prog_5_method_2_code 6 (some .boolean) 2 46,
  spV 29 1 2 yEl_indexOf prog_5_method_3_code 3 (some .int) 1 23,
  spV 29 1 2 yEl_include prog_5_method_4_code 4 (some .boolean) 1 23,
  spV 29 1 2 yEl_firstNotBelow prog_5_method_5_code 4 (some .int) 0 0,
  spV 29 3 3 yRe_choose prog_6_method_2_code 5 none 2 45,
  spS 29 1 yRe_isPrime prog_6_method_3_code 2 (some .boolean) 0 0,
  spV 29 3 2 yRe_orderOf prog_6_method_4_code 4 (some .int) 1 22,
  spV 29 3 2 yRe_reduce prog_6_method_5_code 2 (some .int) 1 22,
  spV 29 3 3 yRe_times prog_6_method_6_code 3 (some .int) 0 0,
  spV 29 3 4 yRe_plusTimes prog_6_method_7_code 4 (some .int) 0 0,
  spV 29 3 4 yRe_minusTimes prog_6_method_8_code 4 (some .int) 0 0,
  spV 29 3 3 yRe_over prog_6_method_9_code 3 (some .int) 1 29,
  spV 29 3 2 yRe_reciprocal prog_6_method_10_code 10 (some .int) 0 0,
  spV 29 3 3 yRe_raised prog_6_method_11_code 5 (some .int) 1 22,
  spV 29 5 5 yRo_make prog_7_method_2_code 6 none 4 96,
  spV 29 5 6 yRo_setValues prog_7_method_3_code 9 none 3 68,
  spS 29 3 yRo_degreeFor prog_7_method_4_code 6 (some .int) 2 43,
  spV 29 5 5 yRo_setIndicator prog_7_method_5_code 8 none 2 51,
  spV 29 5 2 yRo_setKernel prog_7_method_6_code 4 none 0 0,
  spV 29 5 2 yRo_insertPlace prog_7_method_7_code 3 none 1 23,
  spV 29 5 3 yRo_comesBefore prog_7_method_8_code 4 (some .boolean) 0 0,
  spV 29 5 1 yRo_listNormals prog_7_method_9_code 4 none 1 22,
  spV 29 5 2 yRo_includeNormal prog_7_method_10_code 3 none 0 0,
  spV 29 5 6 yRo_timesOfRoot prog_7_method_11_code 11 (some .int) 2 51,
  spS 29 2 yMa_floorMod prog_10_method_50_code 3 (some .int) 0 0,
  spS 29 2 yMa_max prog_10_method_65_code 2 (some .int) 0 0,
  spS 29 2 yAr_fill prog_12_method_103_code 4 none 0 0]
def csAll : Nat → sx_S := fun t => if t = 900 then spCopy else csL.getD t (0, fun _ _ _ => False)
theorem mCc_add : Cond.code yCc_add prog_1_method_2_code 2 (some .boolean) ∈ wt := List.mem_filter.mpr ⟨List.mem_append_right _ (List.mem_of_getElem? (i := 202) (by decide +kernel)), by decide +kernel⟩
theorem miCc_add : Cond.instanceMethod yCc_add ∈ wt ∧ Cond.selects yCc_add.cls yCc_add yCc_add ∈ wt := ⟨List.mem_filter.mpr ⟨List.mem_append_right _ (List.mem_of_getElem? (i := 200) (by decide +kernel)), by decide +kernel⟩, List.mem_filter.mpr ⟨List.mem_append_right _ (List.mem_of_getElem? (i := 201) (by decide +kernel)), by decide +kernel⟩⟩
theorem mnCc_add : Cond.initialized yCc_add.cls ∈ wt := List.mem_filter.mpr ⟨List.mem_append_right _ (List.mem_of_getElem? (i := 1) (by decide +kernel)), by decide +kernel⟩
theorem mCc_clear : Cond.code yCc_clear prog_1_method_3_code 1 none ∈ wt := List.mem_filter.mpr ⟨List.mem_append_right _ (List.mem_of_getElem? (i := 210) (by decide +kernel)), by decide +kernel⟩
theorem miCc_clear : Cond.instanceMethod yCc_clear ∈ wt ∧ Cond.selects yCc_clear.cls yCc_clear yCc_clear ∈ wt := ⟨List.mem_filter.mpr ⟨List.mem_append_right _ (List.mem_of_getElem? (i := 208) (by decide +kernel)), by decide +kernel⟩, List.mem_filter.mpr ⟨List.mem_append_right _ (List.mem_of_getElem? (i := 209) (by decide +kernel)), by decide +kernel⟩⟩
theorem mnCc_clear : Cond.initialized yCc_clear.cls ∈ wt := List.mem_filter.mpr ⟨List.mem_append_right _ (List.mem_of_getElem? (i := 1) (by decide +kernel)), by decide +kernel⟩
theorem mCc_build : Cond.code yCc_build prog_1_method_4_code 1 (some .int) ∈ wt := List.mem_filter.mpr ⟨List.mem_append_right _ (List.mem_of_getElem? (i := 214) (by decide +kernel)), by decide +kernel⟩
theorem miCc_build : Cond.instanceMethod yCc_build ∈ wt ∧ Cond.selects yCc_build.cls yCc_build yCc_build ∈ wt := ⟨List.mem_filter.mpr ⟨List.mem_append_right _ (List.mem_of_getElem? (i := 212) (by decide +kernel)), by decide +kernel⟩, List.mem_filter.mpr ⟨List.mem_append_right _ (List.mem_of_getElem? (i := 213) (by decide +kernel)), by decide +kernel⟩⟩
theorem mnCc_build : Cond.initialized yCc_build.cls ∈ wt := List.mem_filter.mpr ⟨List.mem_append_right _ (List.mem_of_getElem? (i := 1) (by decide +kernel)), by decide +kernel⟩
theorem mCc_order : Cond.code yCc_order prog_1_method_5_code 1 (some .int) ∈ wt := List.mem_filter.mpr ⟨List.mem_append_right _ (List.mem_of_getElem? (i := 411) (by decide +kernel)), by decide +kernel⟩
theorem miCc_order : Cond.instanceMethod yCc_order ∈ wt ∧ Cond.selects yCc_order.cls yCc_order yCc_order ∈ wt := ⟨List.mem_filter.mpr ⟨List.mem_append_right _ (List.mem_of_getElem? (i := 409) (by decide +kernel)), by decide +kernel⟩, List.mem_filter.mpr ⟨List.mem_append_right _ (List.mem_of_getElem? (i := 410) (by decide +kernel)), by decide +kernel⟩⟩
theorem mnCc_order : Cond.initialized yCc_order.cls ∈ wt := List.mem_filter.mpr ⟨List.mem_append_right _ (List.mem_of_getElem? (i := 1) (by decide +kernel)), by decide +kernel⟩
theorem mCc_element : Cond.code yCc_element prog_1_method_6_code 2 (some .int) ∈ wt := List.mem_filter.mpr ⟨List.mem_append_right _ (List.mem_of_getElem? (i := 419) (by decide +kernel)), by decide +kernel⟩
theorem miCc_element : Cond.instanceMethod yCc_element ∈ wt ∧ Cond.selects yCc_element.cls yCc_element yCc_element ∈ wt := ⟨List.mem_filter.mpr ⟨List.mem_append_right _ (List.mem_of_getElem? (i := 417) (by decide +kernel)), by decide +kernel⟩, List.mem_filter.mpr ⟨List.mem_append_right _ (List.mem_of_getElem? (i := 418) (by decide +kernel)), by decide +kernel⟩⟩
theorem mnCc_element : Cond.initialized yCc_element.cls ∈ wt := List.mem_filter.mpr ⟨List.mem_append_right _ (List.mem_of_getElem? (i := 1) (by decide +kernel)), by decide +kernel⟩
theorem mCc_classOf : Cond.code yCc_classOf prog_1_method_7_code 2 (some .int) ∈ wt := List.mem_filter.mpr ⟨List.mem_append_right _ (List.mem_of_getElem? (i := 423) (by decide +kernel)), by decide +kernel⟩
theorem miCc_classOf : Cond.instanceMethod yCc_classOf ∈ wt ∧ Cond.selects yCc_classOf.cls yCc_classOf yCc_classOf ∈ wt := ⟨List.mem_filter.mpr ⟨List.mem_append_right _ (List.mem_of_getElem? (i := 421) (by decide +kernel)), by decide +kernel⟩, List.mem_filter.mpr ⟨List.mem_append_right _ (List.mem_of_getElem? (i := 422) (by decide +kernel)), by decide +kernel⟩⟩
theorem mnCc_classOf : Cond.initialized yCc_classOf.cls ∈ wt := List.mem_filter.mpr ⟨List.mem_append_right _ (List.mem_of_getElem? (i := 1) (by decide +kernel)), by decide +kernel⟩
theorem mCc_classes : Cond.code yCc_classes prog_1_method_8_code 1 (some .int) ∈ wt := List.mem_filter.mpr ⟨List.mem_append_right _ (List.mem_of_getElem? (i := 428) (by decide +kernel)), by decide +kernel⟩
theorem miCc_classes : Cond.instanceMethod yCc_classes ∈ wt ∧ Cond.selects yCc_classes.cls yCc_classes yCc_classes ∈ wt := ⟨List.mem_filter.mpr ⟨List.mem_append_right _ (List.mem_of_getElem? (i := 426) (by decide +kernel)), by decide +kernel⟩, List.mem_filter.mpr ⟨List.mem_append_right _ (List.mem_of_getElem? (i := 427) (by decide +kernel)), by decide +kernel⟩⟩
theorem mnCc_classes : Cond.initialized yCc_classes.cls ∈ wt := List.mem_filter.mpr ⟨List.mem_append_right _ (List.mem_of_getElem? (i := 1) (by decide +kernel)), by decide +kernel⟩
theorem mCc_size : Cond.code yCc_size prog_1_method_9_code 2 (some .int) ∈ wt := List.mem_filter.mpr ⟨List.mem_append_right _ (List.mem_of_getElem? (i := 432) (by decide +kernel)), by decide +kernel⟩
theorem miCc_size : Cond.instanceMethod yCc_size ∈ wt ∧ Cond.selects yCc_size.cls yCc_size yCc_size ∈ wt := ⟨List.mem_filter.mpr ⟨List.mem_append_right _ (List.mem_of_getElem? (i := 430) (by decide +kernel)), by decide +kernel⟩, List.mem_filter.mpr ⟨List.mem_append_right _ (List.mem_of_getElem? (i := 431) (by decide +kernel)), by decide +kernel⟩⟩
theorem mnCc_size : Cond.initialized yCc_size.cls ∈ wt := List.mem_filter.mpr ⟨List.mem_append_right _ (List.mem_of_getElem? (i := 1) (by decide +kernel)), by decide +kernel⟩
theorem mCc_least : Cond.code yCc_least prog_1_method_10_code 2 (some .int) ∈ wt := List.mem_filter.mpr ⟨List.mem_append_right _ (List.mem_of_getElem? (i := 440) (by decide +kernel)), by decide +kernel⟩
theorem miCc_least : Cond.instanceMethod yCc_least ∈ wt ∧ Cond.selects yCc_least.cls yCc_least yCc_least ∈ wt := ⟨List.mem_filter.mpr ⟨List.mem_append_right _ (List.mem_of_getElem? (i := 438) (by decide +kernel)), by decide +kernel⟩, List.mem_filter.mpr ⟨List.mem_append_right _ (List.mem_of_getElem? (i := 439) (by decide +kernel)), by decide +kernel⟩⟩
theorem mnCc_least : Cond.initialized yCc_least.cls ∈ wt := List.mem_filter.mpr ⟨List.mem_append_right _ (List.mem_of_getElem? (i := 1) (by decide +kernel)), by decide +kernel⟩
theorem mCc_power : Cond.code yCc_power prog_1_method_11_code 3 (some .int) ∈ wt := List.mem_filter.mpr ⟨List.mem_append_right _ (List.mem_of_getElem? (i := 444) (by decide +kernel)), by decide +kernel⟩
theorem miCc_power : Cond.instanceMethod yCc_power ∈ wt ∧ Cond.selects yCc_power.cls yCc_power yCc_power ∈ wt := ⟨List.mem_filter.mpr ⟨List.mem_append_right _ (List.mem_of_getElem? (i := 442) (by decide +kernel)), by decide +kernel⟩, List.mem_filter.mpr ⟨List.mem_append_right _ (List.mem_of_getElem? (i := 443) (by decide +kernel)), by decide +kernel⟩⟩
theorem mnCc_power : Cond.initialized yCc_power.cls ∈ wt := List.mem_filter.mpr ⟨List.mem_append_right _ (List.mem_of_getElem? (i := 1) (by decide +kernel)), by decide +kernel⟩
theorem mCc_constant : Cond.code yCc_constant prog_1_method_12_code 4 (some .int) ∈ wt := List.mem_filter.mpr ⟨List.mem_append_right _ (List.mem_of_getElem? (i := 449) (by decide +kernel)), by decide +kernel⟩
theorem miCc_constant : Cond.instanceMethod yCc_constant ∈ wt ∧ Cond.selects yCc_constant.cls yCc_constant yCc_constant ∈ wt := ⟨List.mem_filter.mpr ⟨List.mem_append_right _ (List.mem_of_getElem? (i := 447) (by decide +kernel)), by decide +kernel⟩, List.mem_filter.mpr ⟨List.mem_append_right _ (List.mem_of_getElem? (i := 448) (by decide +kernel)), by decide +kernel⟩⟩
theorem mnCc_constant : Cond.initialized yCc_constant.cls ∈ wt := List.mem_filter.mpr ⟨List.mem_append_right _ (List.mem_of_getElem? (i := 1) (by decide +kernel)), by decide +kernel⟩
theorem mCc_exponent : Cond.code yCc_exponent prog_1_method_13_code 1 (some .int) ∈ wt := List.mem_filter.mpr ⟨List.mem_append_right _ (List.mem_of_getElem? (i := 454) (by decide +kernel)), by decide +kernel⟩
theorem miCc_exponent : Cond.instanceMethod yCc_exponent ∈ wt ∧ Cond.selects yCc_exponent.cls yCc_exponent yCc_exponent ∈ wt := ⟨List.mem_filter.mpr ⟨List.mem_append_right _ (List.mem_of_getElem? (i := 452) (by decide +kernel)), by decide +kernel⟩, List.mem_filter.mpr ⟨List.mem_append_right _ (List.mem_of_getElem? (i := 453) (by decide +kernel)), by decide +kernel⟩⟩
theorem mnCc_exponent : Cond.initialized yCc_exponent.cls ∈ wt := List.mem_filter.mpr ⟨List.mem_append_right _ (List.mem_of_getElem? (i := 1) (by decide +kernel)), by decide +kernel⟩
theorem mCc_prime : Cond.code yCc_prime prog_1_method_14_code 1 (some .int) ∈ wt := List.mem_filter.mpr ⟨List.mem_append_right _ (List.mem_of_getElem? (i := 458) (by decide +kernel)), by decide +kernel⟩
theorem miCc_prime : Cond.instanceMethod yCc_prime ∈ wt ∧ Cond.selects yCc_prime.cls yCc_prime yCc_prime ∈ wt := ⟨List.mem_filter.mpr ⟨List.mem_append_right _ (List.mem_of_getElem? (i := 456) (by decide +kernel)), by decide +kernel⟩, List.mem_filter.mpr ⟨List.mem_append_right _ (List.mem_of_getElem? (i := 457) (by decide +kernel)), by decide +kernel⟩⟩
theorem mnCc_prime : Cond.initialized yCc_prime.cls ∈ wt := List.mem_filter.mpr ⟨List.mem_append_right _ (List.mem_of_getElem? (i := 1) (by decide +kernel)), by decide +kernel⟩
theorem mCc_root : Cond.code yCc_root prog_1_method_15_code 1 (some .int) ∈ wt := List.mem_filter.mpr ⟨List.mem_append_right _ (List.mem_of_getElem? (i := 462) (by decide +kernel)), by decide +kernel⟩
theorem miCc_root : Cond.instanceMethod yCc_root ∈ wt ∧ Cond.selects yCc_root.cls yCc_root yCc_root ∈ wt := ⟨List.mem_filter.mpr ⟨List.mem_append_right _ (List.mem_of_getElem? (i := 460) (by decide +kernel)), by decide +kernel⟩, List.mem_filter.mpr ⟨List.mem_append_right _ (List.mem_of_getElem? (i := 461) (by decide +kernel)), by decide +kernel⟩⟩
theorem mnCc_root : Cond.initialized yCc_root.cls ∈ wt := List.mem_filter.mpr ⟨List.mem_append_right _ (List.mem_of_getElem? (i := 1) (by decide +kernel)), by decide +kernel⟩
theorem mCc_degree : Cond.code yCc_degree prog_1_method_16_code 2 (some .int) ∈ wt := List.mem_filter.mpr ⟨List.mem_append_right _ (List.mem_of_getElem? (i := 466) (by decide +kernel)), by decide +kernel⟩
theorem miCc_degree : Cond.instanceMethod yCc_degree ∈ wt ∧ Cond.selects yCc_degree.cls yCc_degree yCc_degree ∈ wt := ⟨List.mem_filter.mpr ⟨List.mem_append_right _ (List.mem_of_getElem? (i := 464) (by decide +kernel)), by decide +kernel⟩, List.mem_filter.mpr ⟨List.mem_append_right _ (List.mem_of_getElem? (i := 465) (by decide +kernel)), by decide +kernel⟩⟩
theorem mnCc_degree : Cond.initialized yCc_degree.cls ∈ wt := List.mem_filter.mpr ⟨List.mem_append_right _ (List.mem_of_getElem? (i := 1) (by decide +kernel)), by decide +kernel⟩
theorem mCc_value : Cond.code yCc_value prog_1_method_17_code 3 (some .int) ∈ wt := List.mem_filter.mpr ⟨List.mem_append_right _ (List.mem_of_getElem? (i := 470) (by decide +kernel)), by decide +kernel⟩
theorem miCc_value : Cond.instanceMethod yCc_value ∈ wt ∧ Cond.selects yCc_value.cls yCc_value yCc_value ∈ wt := ⟨List.mem_filter.mpr ⟨List.mem_append_right _ (List.mem_of_getElem? (i := 468) (by decide +kernel)), by decide +kernel⟩, List.mem_filter.mpr ⟨List.mem_append_right _ (List.mem_of_getElem? (i := 469) (by decide +kernel)), by decide +kernel⟩⟩
theorem mnCc_value : Cond.initialized yCc_value.cls ∈ wt := List.mem_filter.mpr ⟨List.mem_append_right _ (List.mem_of_getElem? (i := 1) (by decide +kernel)), by decide +kernel⟩
theorem mCc_multiplicity : Cond.code yCc_multiplicity prog_1_method_18_code 4 (some .int) ∈ wt := List.mem_filter.mpr ⟨List.mem_append_right _ (List.mem_of_getElem? (i := 474) (by decide +kernel)), by decide +kernel⟩
theorem miCc_multiplicity : Cond.instanceMethod yCc_multiplicity ∈ wt ∧ Cond.selects yCc_multiplicity.cls yCc_multiplicity yCc_multiplicity ∈ wt := ⟨List.mem_filter.mpr ⟨List.mem_append_right _ (List.mem_of_getElem? (i := 472) (by decide +kernel)), by decide +kernel⟩, List.mem_filter.mpr ⟨List.mem_append_right _ (List.mem_of_getElem? (i := 473) (by decide +kernel)), by decide +kernel⟩⟩
theorem mnCc_multiplicity : Cond.initialized yCc_multiplicity.cls ∈ wt := List.mem_filter.mpr ⟨List.mem_append_right _ (List.mem_of_getElem? (i := 1) (by decide +kernel)), by decide +kernel⟩
theorem mCc_indicator : Cond.code yCc_indicator prog_1_method_19_code 2 (some .int) ∈ wt := List.mem_filter.mpr ⟨List.mem_append_right _ (List.mem_of_getElem? (i := 486) (by decide +kernel)), by decide +kernel⟩
theorem miCc_indicator : Cond.instanceMethod yCc_indicator ∈ wt ∧ Cond.selects yCc_indicator.cls yCc_indicator yCc_indicator ∈ wt := ⟨List.mem_filter.mpr ⟨List.mem_append_right _ (List.mem_of_getElem? (i := 484) (by decide +kernel)), by decide +kernel⟩, List.mem_filter.mpr ⟨List.mem_append_right _ (List.mem_of_getElem? (i := 485) (by decide +kernel)), by decide +kernel⟩⟩
theorem mnCc_indicator : Cond.initialized yCc_indicator.cls ∈ wt := List.mem_filter.mpr ⟨List.mem_append_right _ (List.mem_of_getElem? (i := 1) (by decide +kernel)), by decide +kernel⟩
theorem mCc_kernel : Cond.code yCc_kernel prog_1_method_20_code 2 (some .int) ∈ wt := List.mem_filter.mpr ⟨List.mem_append_right _ (List.mem_of_getElem? (i := 490) (by decide +kernel)), by decide +kernel⟩
theorem miCc_kernel : Cond.instanceMethod yCc_kernel ∈ wt ∧ Cond.selects yCc_kernel.cls yCc_kernel yCc_kernel ∈ wt := ⟨List.mem_filter.mpr ⟨List.mem_append_right _ (List.mem_of_getElem? (i := 488) (by decide +kernel)), by decide +kernel⟩, List.mem_filter.mpr ⟨List.mem_append_right _ (List.mem_of_getElem? (i := 489) (by decide +kernel)), by decide +kernel⟩⟩
theorem mnCc_kernel : Cond.initialized yCc_kernel.cls ∈ wt := List.mem_filter.mpr ⟨List.mem_append_right _ (List.mem_of_getElem? (i := 1) (by decide +kernel)), by decide +kernel⟩
theorem mCc_normals : Cond.code yCc_normals prog_1_method_21_code 1 (some .int) ∈ wt := List.mem_filter.mpr ⟨List.mem_append_right _ (List.mem_of_getElem? (i := 494) (by decide +kernel)), by decide +kernel⟩
theorem miCc_normals : Cond.instanceMethod yCc_normals ∈ wt ∧ Cond.selects yCc_normals.cls yCc_normals yCc_normals ∈ wt := ⟨List.mem_filter.mpr ⟨List.mem_append_right _ (List.mem_of_getElem? (i := 492) (by decide +kernel)), by decide +kernel⟩, List.mem_filter.mpr ⟨List.mem_append_right _ (List.mem_of_getElem? (i := 493) (by decide +kernel)), by decide +kernel⟩⟩
theorem mnCc_normals : Cond.initialized yCc_normals.cls ∈ wt := List.mem_filter.mpr ⟨List.mem_append_right _ (List.mem_of_getElem? (i := 1) (by decide +kernel)), by decide +kernel⟩
theorem mCc_isBuilt : Cond.code yCc_isBuilt prog_1_method_22_code 1 (some .boolean) ∈ wt := List.mem_filter.mpr ⟨List.mem_append_right _ (List.mem_of_getElem? (i := 415) (by decide +kernel)), by decide +kernel⟩
theorem miCc_isBuilt : Cond.instanceMethod yCc_isBuilt ∈ wt ∧ Cond.selects yCc_isBuilt.cls yCc_isBuilt yCc_isBuilt ∈ wt := ⟨List.mem_filter.mpr ⟨List.mem_append_right _ (List.mem_of_getElem? (i := 414) (by decide +kernel)), by decide +kernel⟩, List.mem_filter.mpr ⟨List.mem_append_left _ (List.mem_of_getElem? (i := 21) (by decide +kernel)), by decide +kernel⟩⟩
theorem mnCc_isBuilt : Cond.initialized yCc_isBuilt.cls ∈ wt := List.mem_filter.mpr ⟨List.mem_append_right _ (List.mem_of_getElem? (i := 1) (by decide +kernel)), by decide +kernel⟩
theorem mCc_isClass : Cond.code yCc_isClass prog_1_method_23_code 2 (some .boolean) ∈ wt := List.mem_filter.mpr ⟨List.mem_append_right _ (List.mem_of_getElem? (i := 436) (by decide +kernel)), by decide +kernel⟩
theorem miCc_isClass : Cond.instanceMethod yCc_isClass ∈ wt ∧ Cond.selects yCc_isClass.cls yCc_isClass yCc_isClass ∈ wt := ⟨List.mem_filter.mpr ⟨List.mem_append_right _ (List.mem_of_getElem? (i := 435) (by decide +kernel)), by decide +kernel⟩, List.mem_filter.mpr ⟨List.mem_append_left _ (List.mem_of_getElem? (i := 22) (by decide +kernel)), by decide +kernel⟩⟩
theorem mnCc_isClass : Cond.initialized yCc_isClass.cls ∈ wt := List.mem_filter.mpr ⟨List.mem_append_right _ (List.mem_of_getElem? (i := 1) (by decide +kernel)), by decide +kernel⟩
theorem mCc_workOut : Cond.code yCc_workOut prog_1_method_24_code 1 (some .int) ∈ wt := List.mem_filter.mpr ⟨List.mem_append_right _ (List.mem_of_getElem? (i := 218) (by decide +kernel)), by decide +kernel⟩
theorem miCc_workOut : Cond.instanceMethod yCc_workOut ∈ wt ∧ Cond.selects yCc_workOut.cls yCc_workOut yCc_workOut ∈ wt := ⟨List.mem_filter.mpr ⟨List.mem_append_right _ (List.mem_of_getElem? (i := 217) (by decide +kernel)), by decide +kernel⟩, List.mem_filter.mpr ⟨List.mem_append_left _ (List.mem_of_getElem? (i := 0) (by decide +kernel)), by decide +kernel⟩⟩
theorem mnCc_workOut : Cond.initialized yCc_workOut.cls ∈ wt := List.mem_filter.mpr ⟨List.mem_append_right _ (List.mem_of_getElem? (i := 1) (by decide +kernel)), by decide +kernel⟩
theorem mMo_image : Cond.code yMo_image prog_9_method_2_code 2 (some .int) ∈ wt := List.mem_filter.mpr ⟨List.mem_append_right _ (List.mem_of_getElem? (i := 565) (by decide +kernel)), by decide +kernel⟩
theorem msMo_image : Cond.static yMo_image ∈ wt := List.mem_filter.mpr ⟨List.mem_append_right _ (List.mem_of_getElem? (i := 564) (by decide +kernel)), by decide +kernel⟩
theorem mnMo_image : Cond.initialized yMo_image.cls ∈ wt := List.mem_filter.mpr ⟨List.mem_append_right _ (List.mem_of_getElem? (i := 7) (by decide +kernel)), by decide +kernel⟩
theorem mMo_product : Cond.code yMo_product prog_9_method_3_code 5 (some .int) ∈ wt := List.mem_filter.mpr ⟨List.mem_append_right _ (List.mem_of_getElem? (i := 582) (by decide +kernel)), by decide +kernel⟩
theorem msMo_product : Cond.static yMo_product ∈ wt := List.mem_filter.mpr ⟨List.mem_append_right _ (List.mem_of_getElem? (i := 581) (by decide +kernel)), by decide +kernel⟩
theorem mnMo_product : Cond.initialized yMo_product.cls ∈ wt := List.mem_filter.mpr ⟨List.mem_append_right _ (List.mem_of_getElem? (i := 7) (by decide +kernel)), by decide +kernel⟩
theorem mMo_inverted : Cond.code yMo_inverted prog_9_method_4_code 4 (some .int) ∈ wt := List.mem_filter.mpr ⟨List.mem_append_right _ (List.mem_of_getElem? (i := 593) (by decide +kernel)), by decide +kernel⟩
theorem msMo_inverted : Cond.static yMo_inverted ∈ wt := List.mem_filter.mpr ⟨List.mem_append_right _ (List.mem_of_getElem? (i := 592) (by decide +kernel)), by decide +kernel⟩
theorem mnMo_inverted : Cond.initialized yMo_inverted.cls ∈ wt := List.mem_filter.mpr ⟨List.mem_append_right _ (List.mem_of_getElem? (i := 7) (by decide +kernel)), by decide +kernel⟩
theorem mMo_isPermutation : Cond.code yMo_isPermutation prog_9_method_5_code 3 (some .boolean) ∈ wt := List.mem_filter.mpr ⟨List.mem_append_right _ (List.mem_of_getElem? (i := 562) (by decide +kernel)), by decide +kernel⟩
theorem msMo_isPermutation : Cond.static yMo_isPermutation ∈ wt := List.mem_filter.mpr ⟨List.mem_append_right _ (List.mem_of_getElem? (i := 561) (by decide +kernel)), by decide +kernel⟩
theorem mnMo_isPermutation : Cond.initialized yMo_isPermutation.cls ∈ wt := List.mem_filter.mpr ⟨List.mem_append_right _ (List.mem_of_getElem? (i := 7) (by decide +kernel)), by decide +kernel⟩
theorem mMo_add : Cond.code yMo_add prog_9_method_6_code 2 (some .boolean) ∈ wt := List.mem_filter.mpr ⟨List.mem_append_right _ (List.mem_of_getElem? (i := 559) (by decide +kernel)), by decide +kernel⟩
theorem miMo_add : Cond.instanceMethod yMo_add ∈ wt ∧ Cond.selects yMo_add.cls yMo_add yMo_add ∈ wt := ⟨List.mem_filter.mpr ⟨List.mem_append_right _ (List.mem_of_getElem? (i := 557) (by decide +kernel)), by decide +kernel⟩, List.mem_filter.mpr ⟨List.mem_append_right _ (List.mem_of_getElem? (i := 558) (by decide +kernel)), by decide +kernel⟩⟩
theorem mnMo_add : Cond.initialized yMo_add.cls ∈ wt := List.mem_filter.mpr ⟨List.mem_append_right _ (List.mem_of_getElem? (i := 7) (by decide +kernel)), by decide +kernel⟩
theorem mMo_clear : Cond.code yMo_clear prog_9_method_7_code 1 none ∈ wt := List.mem_filter.mpr ⟨List.mem_append_right _ (List.mem_of_getElem? (i := 570) (by decide +kernel)), by decide +kernel⟩
theorem miMo_clear : Cond.instanceMethod yMo_clear ∈ wt ∧ Cond.selects yMo_clear.cls yMo_clear yMo_clear ∈ wt := ⟨List.mem_filter.mpr ⟨List.mem_append_right _ (List.mem_of_getElem? (i := 568) (by decide +kernel)), by decide +kernel⟩, List.mem_filter.mpr ⟨List.mem_append_right _ (List.mem_of_getElem? (i := 569) (by decide +kernel)), by decide +kernel⟩⟩
theorem mnMo_clear : Cond.initialized yMo_clear.cls ∈ wt := List.mem_filter.mpr ⟨List.mem_append_right _ (List.mem_of_getElem? (i := 7) (by decide +kernel)), by decide +kernel⟩
theorem mMo_find : Cond.code yMo_find prog_9_method_8_code 3 (some .int) ∈ wt := List.mem_filter.mpr ⟨List.mem_append_right _ (List.mem_of_getElem? (i := 586) (by decide +kernel)), by decide +kernel⟩
theorem miMo_find : Cond.instanceMethod yMo_find ∈ wt ∧ Cond.selects yMo_find.cls yMo_find yMo_find ∈ wt := ⟨List.mem_filter.mpr ⟨List.mem_append_right _ (List.mem_of_getElem? (i := 585) (by decide +kernel)), by decide +kernel⟩, List.mem_filter.mpr ⟨List.mem_append_left _ (List.mem_of_getElem? (i := 24) (by decide +kernel)), by decide +kernel⟩⟩
theorem mnMo_find : Cond.initialized yMo_find.cls ∈ wt := List.mem_filter.mpr ⟨List.mem_append_right _ (List.mem_of_getElem? (i := 7) (by decide +kernel)), by decide +kernel⟩
theorem mMo_close : Cond.code yMo_close prog_9_method_9_code 4 (some .boolean) ∈ wt := List.mem_filter.mpr ⟨List.mem_append_right _ (List.mem_of_getElem? (i := 578) (by decide +kernel)), by decide +kernel⟩
theorem miMo_close : Cond.instanceMethod yMo_close ∈ wt ∧ Cond.selects yMo_close.cls yMo_close yMo_close ∈ wt := ⟨List.mem_filter.mpr ⟨List.mem_append_right _ (List.mem_of_getElem? (i := 577) (by decide +kernel)), by decide +kernel⟩, List.mem_filter.mpr ⟨List.mem_append_left _ (List.mem_of_getElem? (i := 23) (by decide +kernel)), by decide +kernel⟩⟩
theorem mnMo_close : Cond.initialized yMo_close.cls ∈ wt := List.mem_filter.mpr ⟨List.mem_append_right _ (List.mem_of_getElem? (i := 7) (by decide +kernel)), by decide +kernel⟩
theorem mMo_classify : Cond.code yMo_classify prog_9_method_10_code 6 (some .boolean) ∈ wt := List.mem_filter.mpr ⟨List.mem_append_right _ (List.mem_of_getElem? (i := 590) (by decide +kernel)), by decide +kernel⟩
theorem miMo_classify : Cond.instanceMethod yMo_classify ∈ wt ∧ Cond.selects yMo_classify.cls yMo_classify yMo_classify ∈ wt := ⟨List.mem_filter.mpr ⟨List.mem_append_right _ (List.mem_of_getElem? (i := 589) (by decide +kernel)), by decide +kernel⟩, List.mem_filter.mpr ⟨List.mem_append_left _ (List.mem_of_getElem? (i := 25) (by decide +kernel)), by decide +kernel⟩⟩
theorem mnMo_classify : Cond.initialized yMo_classify.cls ∈ wt := List.mem_filter.mpr ⟨List.mem_append_right _ (List.mem_of_getElem? (i := 7) (by decide +kernel)), by decide +kernel⟩
theorem mMo_count : Cond.code yMo_count prog_9_method_11_code 5 none ∈ wt := List.mem_filter.mpr ⟨List.mem_append_right _ (List.mem_of_getElem? (i := 597) (by decide +kernel)), by decide +kernel⟩
theorem miMo_count : Cond.instanceMethod yMo_count ∈ wt ∧ Cond.selects yMo_count.cls yMo_count yMo_count ∈ wt := ⟨List.mem_filter.mpr ⟨List.mem_append_right _ (List.mem_of_getElem? (i := 596) (by decide +kernel)), by decide +kernel⟩, List.mem_filter.mpr ⟨List.mem_append_left _ (List.mem_of_getElem? (i := 26) (by decide +kernel)), by decide +kernel⟩⟩
theorem mnMo_count : Cond.initialized yMo_count.cls ∈ wt := List.mem_filter.mpr ⟨List.mem_append_right _ (List.mem_of_getElem? (i := 7) (by decide +kernel)), by decide +kernel⟩
theorem mMo_powerOf : Cond.code yMo_powerOf prog_9_method_12_code 5 (some .int) ∈ wt := List.mem_filter.mpr ⟨List.mem_append_right _ (List.mem_of_getElem? (i := 609) (by decide +kernel)), by decide +kernel⟩
theorem miMo_powerOf : Cond.instanceMethod yMo_powerOf ∈ wt ∧ Cond.selects yMo_powerOf.cls yMo_powerOf yMo_powerOf ∈ wt := ⟨List.mem_filter.mpr ⟨List.mem_append_right _ (List.mem_of_getElem? (i := 608) (by decide +kernel)), by decide +kernel⟩, List.mem_filter.mpr ⟨List.mem_append_left _ (List.mem_of_getElem? (i := 29) (by decide +kernel)), by decide +kernel⟩⟩
theorem mnMo_powerOf : Cond.initialized yMo_powerOf.cls ∈ wt := List.mem_filter.mpr ⟨List.mem_append_right _ (List.mem_of_getElem? (i := 7) (by decide +kernel)), by decide +kernel⟩
theorem mMo_allAtOnce : Cond.code yMo_allAtOnce prog_9_method_13_code 4 (some .boolean) ∈ wt := List.mem_filter.mpr ⟨List.mem_append_right _ (List.mem_of_getElem? (i := 605) (by decide +kernel)), by decide +kernel⟩
theorem miMo_allAtOnce : Cond.instanceMethod yMo_allAtOnce ∈ wt ∧ Cond.selects yMo_allAtOnce.cls yMo_allAtOnce yMo_allAtOnce ∈ wt := ⟨List.mem_filter.mpr ⟨List.mem_append_right _ (List.mem_of_getElem? (i := 604) (by decide +kernel)), by decide +kernel⟩, List.mem_filter.mpr ⟨List.mem_append_left _ (List.mem_of_getElem? (i := 28) (by decide +kernel)), by decide +kernel⟩⟩
theorem mnMo_allAtOnce : Cond.initialized yMo_allAtOnce.cls ∈ wt := List.mem_filter.mpr ⟨List.mem_append_right _ (List.mem_of_getElem? (i := 7) (by decide +kernel)), by decide +kernel⟩
theorem mMo_isPrime : Cond.code yMo_isPrime prog_9_method_14_code 3 (some .boolean) ∈ wt := List.mem_filter.mpr ⟨List.mem_append_right _ (List.mem_of_getElem? (i := 612) (by decide +kernel)), by decide +kernel⟩
theorem msMo_isPrime : Cond.static yMo_isPrime ∈ wt := List.mem_filter.mpr ⟨List.mem_append_right _ (List.mem_of_getElem? (i := 611) (by decide +kernel)), by decide +kernel⟩
theorem mnMo_isPrime : Cond.initialized yMo_isPrime.cls ∈ wt := List.mem_filter.mpr ⟨List.mem_append_right _ (List.mem_of_getElem? (i := 7) (by decide +kernel)), by decide +kernel⟩
theorem mMo_numbers : Cond.code yMo_numbers prog_9_method_15_code 1 none ∈ wt := List.mem_filter.mpr ⟨List.mem_append_right _ (List.mem_of_getElem? (i := 601) (by decide +kernel)), by decide +kernel⟩
theorem miMo_numbers : Cond.instanceMethod yMo_numbers ∈ wt ∧ Cond.selects yMo_numbers.cls yMo_numbers yMo_numbers ∈ wt := ⟨List.mem_filter.mpr ⟨List.mem_append_right _ (List.mem_of_getElem? (i := 600) (by decide +kernel)), by decide +kernel⟩, List.mem_filter.mpr ⟨List.mem_append_left _ (List.mem_of_getElem? (i := 27) (by decide +kernel)), by decide +kernel⟩⟩
theorem mnMo_numbers : Cond.initialized yMo_numbers.cls ∈ wt := List.mem_filter.mpr ⟨List.mem_append_right _ (List.mem_of_getElem? (i := 7) (by decide +kernel)), by decide +kernel⟩
theorem mMo_isRoot : Cond.code yMo_isRoot prog_9_method_16_code 5 (some .boolean) ∈ wt := List.mem_filter.mpr ⟨List.mem_append_right _ (List.mem_of_getElem? (i := 616) (by decide +kernel)), by decide +kernel⟩
theorem miMo_isRoot : Cond.instanceMethod yMo_isRoot ∈ wt ∧ Cond.selects yMo_isRoot.cls yMo_isRoot yMo_isRoot ∈ wt := ⟨List.mem_filter.mpr ⟨List.mem_append_right _ (List.mem_of_getElem? (i := 615) (by decide +kernel)), by decide +kernel⟩, List.mem_filter.mpr ⟨List.mem_append_left _ (List.mem_of_getElem? (i := 30) (by decide +kernel)), by decide +kernel⟩⟩
theorem mnMo_isRoot : Cond.initialized yMo_isRoot.cls ∈ wt := List.mem_filter.mpr ⟨List.mem_append_right _ (List.mem_of_getElem? (i := 7) (by decide +kernel)), by decide +kernel⟩
theorem mMo_mod : Cond.code yMo_mod prog_9_method_17_code 3 (some .int) ∈ wt := List.mem_filter.mpr ⟨List.mem_append_right _ (List.mem_of_getElem? (i := 640) (by decide +kernel)), by decide +kernel⟩
theorem miMo_mod : Cond.instanceMethod yMo_mod ∈ wt ∧ Cond.selects yMo_mod.cls yMo_mod yMo_mod ∈ wt := ⟨List.mem_filter.mpr ⟨List.mem_append_right _ (List.mem_of_getElem? (i := 639) (by decide +kernel)), by decide +kernel⟩, List.mem_filter.mpr ⟨List.mem_append_left _ (List.mem_of_getElem? (i := 36) (by decide +kernel)), by decide +kernel⟩⟩
theorem mnMo_mod : Cond.initialized yMo_mod.cls ∈ wt := List.mem_filter.mpr ⟨List.mem_append_right _ (List.mem_of_getElem? (i := 7) (by decide +kernel)), by decide +kernel⟩
theorem mMo_raised : Cond.code yMo_raised prog_9_method_18_code 5 (some .int) ∈ wt := List.mem_filter.mpr ⟨List.mem_append_right _ (List.mem_of_getElem? (i := 644) (by decide +kernel)), by decide +kernel⟩
theorem miMo_raised : Cond.instanceMethod yMo_raised ∈ wt ∧ Cond.selects yMo_raised.cls yMo_raised yMo_raised ∈ wt := ⟨List.mem_filter.mpr ⟨List.mem_append_right _ (List.mem_of_getElem? (i := 643) (by decide +kernel)), by decide +kernel⟩, List.mem_filter.mpr ⟨List.mem_append_left _ (List.mem_of_getElem? (i := 37) (by decide +kernel)), by decide +kernel⟩⟩
theorem mnMo_raised : Cond.initialized yMo_raised.cls ∈ wt := List.mem_filter.mpr ⟨List.mem_append_right _ (List.mem_of_getElem? (i := 7) (by decide +kernel)), by decide +kernel⟩
theorem mMo_over : Cond.code yMo_over prog_9_method_19_code 3 (some .int) ∈ wt := List.mem_filter.mpr ⟨List.mem_append_right _ (List.mem_of_getElem? (i := 636) (by decide +kernel)), by decide +kernel⟩
theorem miMo_over : Cond.instanceMethod yMo_over ∈ wt ∧ Cond.selects yMo_over.cls yMo_over yMo_over ∈ wt := ⟨List.mem_filter.mpr ⟨List.mem_append_right _ (List.mem_of_getElem? (i := 635) (by decide +kernel)), by decide +kernel⟩, List.mem_filter.mpr ⟨List.mem_append_left _ (List.mem_of_getElem? (i := 35) (by decide +kernel)), by decide +kernel⟩⟩
theorem mnMo_over : Cond.initialized yMo_over.cls ∈ wt := List.mem_filter.mpr ⟨List.mem_append_right _ (List.mem_of_getElem? (i := 7) (by decide +kernel)), by decide +kernel⟩
theorem mMo_multiply : Cond.code yMo_multiply prog_9_method_20_code 9 none ∈ wt := List.mem_filter.mpr ⟨List.mem_append_right _ (List.mem_of_getElem? (i := 632) (by decide +kernel)), by decide +kernel⟩
theorem miMo_multiply : Cond.instanceMethod yMo_multiply ∈ wt ∧ Cond.selects yMo_multiply.cls yMo_multiply yMo_multiply ∈ wt := ⟨List.mem_filter.mpr ⟨List.mem_append_right _ (List.mem_of_getElem? (i := 631) (by decide +kernel)), by decide +kernel⟩, List.mem_filter.mpr ⟨List.mem_append_left _ (List.mem_of_getElem? (i := 34) (by decide +kernel)), by decide +kernel⟩⟩
theorem mnMo_multiply : Cond.initialized yMo_multiply.cls ∈ wt := List.mem_filter.mpr ⟨List.mem_append_right _ (List.mem_of_getElem? (i := 7) (by decide +kernel)), by decide +kernel⟩
theorem mMo_copy : Cond.code yMo_copy prog_9_method_21_code 4 none ∈ wt := List.mem_filter.mpr ⟨List.mem_append_right _ (List.mem_of_getElem? (i := 652) (by decide +kernel)), by decide +kernel⟩
theorem miMo_copy : Cond.instanceMethod yMo_copy ∈ wt ∧ Cond.selects yMo_copy.cls yMo_copy yMo_copy ∈ wt := ⟨List.mem_filter.mpr ⟨List.mem_append_right _ (List.mem_of_getElem? (i := 651) (by decide +kernel)), by decide +kernel⟩, List.mem_filter.mpr ⟨List.mem_append_left _ (List.mem_of_getElem? (i := 39) (by decide +kernel)), by decide +kernel⟩⟩
theorem mnMo_copy : Cond.initialized yMo_copy.cls ∈ wt := List.mem_filter.mpr ⟨List.mem_append_right _ (List.mem_of_getElem? (i := 7) (by decide +kernel)), by decide +kernel⟩
theorem mMo_fermat : Cond.code yMo_fermat prog_9_method_22_code 3 none ∈ wt := List.mem_filter.mpr ⟨List.mem_append_right _ (List.mem_of_getElem? (i := 648) (by decide +kernel)), by decide +kernel⟩
theorem miMo_fermat : Cond.instanceMethod yMo_fermat ∈ wt ∧ Cond.selects yMo_fermat.cls yMo_fermat yMo_fermat ∈ wt := ⟨List.mem_filter.mpr ⟨List.mem_append_right _ (List.mem_of_getElem? (i := 647) (by decide +kernel)), by decide +kernel⟩, List.mem_filter.mpr ⟨List.mem_append_left _ (List.mem_of_getElem? (i := 38) (by decide +kernel)), by decide +kernel⟩⟩
theorem mnMo_fermat : Cond.initialized yMo_fermat.cls ∈ wt := List.mem_filter.mpr ⟨List.mem_append_right _ (List.mem_of_getElem? (i := 7) (by decide +kernel)), by decide +kernel⟩
theorem mMo_ratio : Cond.code yMo_ratio prog_9_method_23_code 7 (some .int) ∈ wt := List.mem_filter.mpr ⟨List.mem_append_right _ (List.mem_of_getElem? (i := 628) (by decide +kernel)), by decide +kernel⟩
theorem miMo_ratio : Cond.instanceMethod yMo_ratio ∈ wt ∧ Cond.selects yMo_ratio.cls yMo_ratio yMo_ratio ∈ wt := ⟨List.mem_filter.mpr ⟨List.mem_append_right _ (List.mem_of_getElem? (i := 627) (by decide +kernel)), by decide +kernel⟩, List.mem_filter.mpr ⟨List.mem_append_left _ (List.mem_of_getElem? (i := 33) (by decide +kernel)), by decide +kernel⟩⟩
theorem mnMo_ratio : Cond.initialized yMo_ratio.cls ∈ wt := List.mem_filter.mpr ⟨List.mem_append_right _ (List.mem_of_getElem? (i := 7) (by decide +kernel)), by decide +kernel⟩
theorem mMo_split : Cond.code yMo_split prog_9_method_24_code 7 none ∈ wt := List.mem_filter.mpr ⟨List.mem_append_right _ (List.mem_of_getElem? (i := 624) (by decide +kernel)), by decide +kernel⟩
theorem miMo_split : Cond.instanceMethod yMo_split ∈ wt ∧ Cond.selects yMo_split.cls yMo_split yMo_split ∈ wt := ⟨List.mem_filter.mpr ⟨List.mem_append_right _ (List.mem_of_getElem? (i := 623) (by decide +kernel)), by decide +kernel⟩, List.mem_filter.mpr ⟨List.mem_append_left _ (List.mem_of_getElem? (i := 32) (by decide +kernel)), by decide +kernel⟩⟩
theorem mnMo_split : Cond.initialized yMo_split.cls ∈ wt := List.mem_filter.mpr ⟨List.mem_append_right _ (List.mem_of_getElem? (i := 7) (by decide +kernel)), by decide +kernel⟩
theorem mMo_takeApart : Cond.code yMo_takeApart prog_9_method_25_code 4 none ∈ wt := List.mem_filter.mpr ⟨List.mem_append_right _ (List.mem_of_getElem? (i := 620) (by decide +kernel)), by decide +kernel⟩
theorem miMo_takeApart : Cond.instanceMethod yMo_takeApart ∈ wt ∧ Cond.selects yMo_takeApart.cls yMo_takeApart yMo_takeApart ∈ wt := ⟨List.mem_filter.mpr ⟨List.mem_append_right _ (List.mem_of_getElem? (i := 619) (by decide +kernel)), by decide +kernel⟩, List.mem_filter.mpr ⟨List.mem_append_left _ (List.mem_of_getElem? (i := 31) (by decide +kernel)), by decide +kernel⟩⟩
theorem mnMo_takeApart : Cond.initialized yMo_takeApart.cls ∈ wt := List.mem_filter.mpr ⟨List.mem_append_right _ (List.mem_of_getElem? (i := 7) (by decide +kernel)), by decide +kernel⟩
theorem mMo_inverseOf : Cond.code yMo_inverseOf prog_9_method_26_code 3 (some .int) ∈ wt := List.mem_filter.mpr ⟨List.mem_append_right _ (List.mem_of_getElem? (i := 660) (by decide +kernel)), by decide +kernel⟩
theorem miMo_inverseOf : Cond.instanceMethod yMo_inverseOf ∈ wt ∧ Cond.selects yMo_inverseOf.cls yMo_inverseOf yMo_inverseOf ∈ wt := ⟨List.mem_filter.mpr ⟨List.mem_append_right _ (List.mem_of_getElem? (i := 659) (by decide +kernel)), by decide +kernel⟩, List.mem_filter.mpr ⟨List.mem_append_left _ (List.mem_of_getElem? (i := 41) (by decide +kernel)), by decide +kernel⟩⟩
theorem mnMo_inverseOf : Cond.initialized yMo_inverseOf.cls ∈ wt := List.mem_filter.mpr ⟨List.mem_append_right _ (List.mem_of_getElem? (i := 7) (by decide +kernel)), by decide +kernel⟩
theorem mMo_makeRow : Cond.code yMo_makeRow prog_9_method_27_code 6 none ∈ wt := List.mem_filter.mpr ⟨List.mem_append_right _ (List.mem_of_getElem? (i := 656) (by decide +kernel)), by decide +kernel⟩
theorem miMo_makeRow : Cond.instanceMethod yMo_makeRow ∈ wt ∧ Cond.selects yMo_makeRow.cls yMo_makeRow yMo_makeRow ∈ wt := ⟨List.mem_filter.mpr ⟨List.mem_append_right _ (List.mem_of_getElem? (i := 655) (by decide +kernel)), by decide +kernel⟩, List.mem_filter.mpr ⟨List.mem_append_left _ (List.mem_of_getElem? (i := 40) (by decide +kernel)), by decide +kernel⟩⟩
theorem mnMo_makeRow : Cond.initialized yMo_makeRow.cls ∈ wt := List.mem_filter.mpr ⟨List.mem_append_right _ (List.mem_of_getElem? (i := 7) (by decide +kernel)), by decide +kernel⟩
theorem mMo_comesBefore : Cond.code yMo_comesBefore prog_9_method_28_code 4 (some .boolean) ∈ wt := List.mem_filter.mpr ⟨List.mem_append_right _ (List.mem_of_getElem? (i := 664) (by decide +kernel)), by decide +kernel⟩
theorem miMo_comesBefore : Cond.instanceMethod yMo_comesBefore ∈ wt ∧ Cond.selects yMo_comesBefore.cls yMo_comesBefore yMo_comesBefore ∈ wt := ⟨List.mem_filter.mpr ⟨List.mem_append_right _ (List.mem_of_getElem? (i := 663) (by decide +kernel)), by decide +kernel⟩, List.mem_filter.mpr ⟨List.mem_append_left _ (List.mem_of_getElem? (i := 42) (by decide +kernel)), by decide +kernel⟩⟩
theorem mnMo_comesBefore : Cond.initialized yMo_comesBefore.cls ∈ wt := List.mem_filter.mpr ⟨List.mem_append_right _ (List.mem_of_getElem? (i := 7) (by decide +kernel)), by decide +kernel⟩
theorem mMo_exchange : Cond.code yMo_exchange prog_9_method_29_code 6 none ∈ wt := List.mem_filter.mpr ⟨List.mem_append_right _ (List.mem_of_getElem? (i := 668) (by decide +kernel)), by decide +kernel⟩
theorem miMo_exchange : Cond.instanceMethod yMo_exchange ∈ wt ∧ Cond.selects yMo_exchange.cls yMo_exchange yMo_exchange ∈ wt := ⟨List.mem_filter.mpr ⟨List.mem_append_right _ (List.mem_of_getElem? (i := 667) (by decide +kernel)), by decide +kernel⟩, List.mem_filter.mpr ⟨List.mem_append_left _ (List.mem_of_getElem? (i := 43) (by decide +kernel)), by decide +kernel⟩⟩
theorem mnMo_exchange : Cond.initialized yMo_exchange.cls ∈ wt := List.mem_filter.mpr ⟨List.mem_append_right _ (List.mem_of_getElem? (i := 7) (by decide +kernel)), by decide +kernel⟩
theorem mMo_build : Cond.code yMo_build prog_9_method_30_code 3 (some .int) ∈ wt := List.mem_filter.mpr ⟨List.mem_append_right _ (List.mem_of_getElem? (i := 574) (by decide +kernel)), by decide +kernel⟩
theorem miMo_build : Cond.instanceMethod yMo_build ∈ wt ∧ Cond.selects yMo_build.cls yMo_build yMo_build ∈ wt := ⟨List.mem_filter.mpr ⟨List.mem_append_right _ (List.mem_of_getElem? (i := 572) (by decide +kernel)), by decide +kernel⟩, List.mem_filter.mpr ⟨List.mem_append_right _ (List.mem_of_getElem? (i := 573) (by decide +kernel)), by decide +kernel⟩⟩
theorem mnMo_build : Cond.initialized yMo_build.cls ∈ wt := List.mem_filter.mpr ⟨List.mem_append_right _ (List.mem_of_getElem? (i := 7) (by decide +kernel)), by decide +kernel⟩
theorem mMo_isClass : Cond.code yMo_isClass prog_9_method_31_code 2 (some .boolean) ∈ wt := List.mem_filter.mpr ⟨List.mem_append_right _ (List.mem_of_getElem? (i := 692) (by decide +kernel)), by decide +kernel⟩
theorem miMo_isClass : Cond.instanceMethod yMo_isClass ∈ wt ∧ Cond.selects yMo_isClass.cls yMo_isClass yMo_isClass ∈ wt := ⟨List.mem_filter.mpr ⟨List.mem_append_right _ (List.mem_of_getElem? (i := 691) (by decide +kernel)), by decide +kernel⟩, List.mem_filter.mpr ⟨List.mem_append_left _ (List.mem_of_getElem? (i := 44) (by decide +kernel)), by decide +kernel⟩⟩
theorem mnMo_isClass : Cond.initialized yMo_isClass.cls ∈ wt := List.mem_filter.mpr ⟨List.mem_append_right _ (List.mem_of_getElem? (i := 7) (by decide +kernel)), by decide +kernel⟩
theorem mMo_order : Cond.code yMo_order prog_9_method_32_code 1 (some .int) ∈ wt := List.mem_filter.mpr ⟨List.mem_append_right _ (List.mem_of_getElem? (i := 672) (by decide +kernel)), by decide +kernel⟩
theorem miMo_order : Cond.instanceMethod yMo_order ∈ wt ∧ Cond.selects yMo_order.cls yMo_order yMo_order ∈ wt := ⟨List.mem_filter.mpr ⟨List.mem_append_right _ (List.mem_of_getElem? (i := 670) (by decide +kernel)), by decide +kernel⟩, List.mem_filter.mpr ⟨List.mem_append_right _ (List.mem_of_getElem? (i := 671) (by decide +kernel)), by decide +kernel⟩⟩
theorem mnMo_order : Cond.initialized yMo_order.cls ∈ wt := List.mem_filter.mpr ⟨List.mem_append_right _ (List.mem_of_getElem? (i := 7) (by decide +kernel)), by decide +kernel⟩
theorem mMo_element : Cond.code yMo_element prog_9_method_33_code 2 (some .int) ∈ wt := List.mem_filter.mpr ⟨List.mem_append_right _ (List.mem_of_getElem? (i := 676) (by decide +kernel)), by decide +kernel⟩
theorem miMo_element : Cond.instanceMethod yMo_element ∈ wt ∧ Cond.selects yMo_element.cls yMo_element yMo_element ∈ wt := ⟨List.mem_filter.mpr ⟨List.mem_append_right _ (List.mem_of_getElem? (i := 674) (by decide +kernel)), by decide +kernel⟩, List.mem_filter.mpr ⟨List.mem_append_right _ (List.mem_of_getElem? (i := 675) (by decide +kernel)), by decide +kernel⟩⟩
theorem mnMo_element : Cond.initialized yMo_element.cls ∈ wt := List.mem_filter.mpr ⟨List.mem_append_right _ (List.mem_of_getElem? (i := 7) (by decide +kernel)), by decide +kernel⟩
theorem mMo_classOf : Cond.code yMo_classOf prog_9_method_34_code 3 (some .int) ∈ wt := List.mem_filter.mpr ⟨List.mem_append_right _ (List.mem_of_getElem? (i := 680) (by decide +kernel)), by decide +kernel⟩
theorem miMo_classOf : Cond.instanceMethod yMo_classOf ∈ wt ∧ Cond.selects yMo_classOf.cls yMo_classOf yMo_classOf ∈ wt := ⟨List.mem_filter.mpr ⟨List.mem_append_right _ (List.mem_of_getElem? (i := 678) (by decide +kernel)), by decide +kernel⟩, List.mem_filter.mpr ⟨List.mem_append_right _ (List.mem_of_getElem? (i := 679) (by decide +kernel)), by decide +kernel⟩⟩
theorem mnMo_classOf : Cond.initialized yMo_classOf.cls ∈ wt := List.mem_filter.mpr ⟨List.mem_append_right _ (List.mem_of_getElem? (i := 7) (by decide +kernel)), by decide +kernel⟩
theorem mMo_classes : Cond.code yMo_classes prog_9_method_35_code 1 (some .int) ∈ wt := List.mem_filter.mpr ⟨List.mem_append_right _ (List.mem_of_getElem? (i := 684) (by decide +kernel)), by decide +kernel⟩
theorem miMo_classes : Cond.instanceMethod yMo_classes ∈ wt ∧ Cond.selects yMo_classes.cls yMo_classes yMo_classes ∈ wt := ⟨List.mem_filter.mpr ⟨List.mem_append_right _ (List.mem_of_getElem? (i := 682) (by decide +kernel)), by decide +kernel⟩, List.mem_filter.mpr ⟨List.mem_append_right _ (List.mem_of_getElem? (i := 683) (by decide +kernel)), by decide +kernel⟩⟩
theorem mnMo_classes : Cond.initialized yMo_classes.cls ∈ wt := List.mem_filter.mpr ⟨List.mem_append_right _ (List.mem_of_getElem? (i := 7) (by decide +kernel)), by decide +kernel⟩
theorem mMo_size : Cond.code yMo_size prog_9_method_36_code 2 (some .int) ∈ wt := List.mem_filter.mpr ⟨List.mem_append_right _ (List.mem_of_getElem? (i := 688) (by decide +kernel)), by decide +kernel⟩
theorem miMo_size : Cond.instanceMethod yMo_size ∈ wt ∧ Cond.selects yMo_size.cls yMo_size yMo_size ∈ wt := ⟨List.mem_filter.mpr ⟨List.mem_append_right _ (List.mem_of_getElem? (i := 686) (by decide +kernel)), by decide +kernel⟩, List.mem_filter.mpr ⟨List.mem_append_right _ (List.mem_of_getElem? (i := 687) (by decide +kernel)), by decide +kernel⟩⟩
theorem mnMo_size : Cond.initialized yMo_size.cls ∈ wt := List.mem_filter.mpr ⟨List.mem_append_right _ (List.mem_of_getElem? (i := 7) (by decide +kernel)), by decide +kernel⟩
theorem mMo_least : Cond.code yMo_least prog_9_method_37_code 2 (some .int) ∈ wt := List.mem_filter.mpr ⟨List.mem_append_right _ (List.mem_of_getElem? (i := 696) (by decide +kernel)), by decide +kernel⟩
theorem miMo_least : Cond.instanceMethod yMo_least ∈ wt ∧ Cond.selects yMo_least.cls yMo_least yMo_least ∈ wt := ⟨List.mem_filter.mpr ⟨List.mem_append_right _ (List.mem_of_getElem? (i := 694) (by decide +kernel)), by decide +kernel⟩, List.mem_filter.mpr ⟨List.mem_append_right _ (List.mem_of_getElem? (i := 695) (by decide +kernel)), by decide +kernel⟩⟩
theorem mnMo_least : Cond.initialized yMo_least.cls ∈ wt := List.mem_filter.mpr ⟨List.mem_append_right _ (List.mem_of_getElem? (i := 7) (by decide +kernel)), by decide +kernel⟩
theorem mMo_power : Cond.code yMo_power prog_9_method_38_code 4 (some .int) ∈ wt := List.mem_filter.mpr ⟨List.mem_append_right _ (List.mem_of_getElem? (i := 700) (by decide +kernel)), by decide +kernel⟩
theorem miMo_power : Cond.instanceMethod yMo_power ∈ wt ∧ Cond.selects yMo_power.cls yMo_power yMo_power ∈ wt := ⟨List.mem_filter.mpr ⟨List.mem_append_right _ (List.mem_of_getElem? (i := 698) (by decide +kernel)), by decide +kernel⟩, List.mem_filter.mpr ⟨List.mem_append_right _ (List.mem_of_getElem? (i := 699) (by decide +kernel)), by decide +kernel⟩⟩
theorem mnMo_power : Cond.initialized yMo_power.cls ∈ wt := List.mem_filter.mpr ⟨List.mem_append_right _ (List.mem_of_getElem? (i := 7) (by decide +kernel)), by decide +kernel⟩
theorem mMo_constant : Cond.code yMo_constant prog_9_method_39_code 4 (some .int) ∈ wt := List.mem_filter.mpr ⟨List.mem_append_right _ (List.mem_of_getElem? (i := 704) (by decide +kernel)), by decide +kernel⟩
theorem miMo_constant : Cond.instanceMethod yMo_constant ∈ wt ∧ Cond.selects yMo_constant.cls yMo_constant yMo_constant ∈ wt := ⟨List.mem_filter.mpr ⟨List.mem_append_right _ (List.mem_of_getElem? (i := 702) (by decide +kernel)), by decide +kernel⟩, List.mem_filter.mpr ⟨List.mem_append_right _ (List.mem_of_getElem? (i := 703) (by decide +kernel)), by decide +kernel⟩⟩
theorem mnMo_constant : Cond.initialized yMo_constant.cls ∈ wt := List.mem_filter.mpr ⟨List.mem_append_right _ (List.mem_of_getElem? (i := 7) (by decide +kernel)), by decide +kernel⟩
theorem mMo_exponent : Cond.code yMo_exponent prog_9_method_40_code 1 (some .int) ∈ wt := List.mem_filter.mpr ⟨List.mem_append_right _ (List.mem_of_getElem? (i := 708) (by decide +kernel)), by decide +kernel⟩
theorem miMo_exponent : Cond.instanceMethod yMo_exponent ∈ wt ∧ Cond.selects yMo_exponent.cls yMo_exponent yMo_exponent ∈ wt := ⟨List.mem_filter.mpr ⟨List.mem_append_right _ (List.mem_of_getElem? (i := 706) (by decide +kernel)), by decide +kernel⟩, List.mem_filter.mpr ⟨List.mem_append_right _ (List.mem_of_getElem? (i := 707) (by decide +kernel)), by decide +kernel⟩⟩
theorem mnMo_exponent : Cond.initialized yMo_exponent.cls ∈ wt := List.mem_filter.mpr ⟨List.mem_append_right _ (List.mem_of_getElem? (i := 7) (by decide +kernel)), by decide +kernel⟩
theorem mMo_prime : Cond.code yMo_prime prog_9_method_41_code 1 (some .int) ∈ wt := List.mem_filter.mpr ⟨List.mem_append_right _ (List.mem_of_getElem? (i := 712) (by decide +kernel)), by decide +kernel⟩
theorem miMo_prime : Cond.instanceMethod yMo_prime ∈ wt ∧ Cond.selects yMo_prime.cls yMo_prime yMo_prime ∈ wt := ⟨List.mem_filter.mpr ⟨List.mem_append_right _ (List.mem_of_getElem? (i := 710) (by decide +kernel)), by decide +kernel⟩, List.mem_filter.mpr ⟨List.mem_append_right _ (List.mem_of_getElem? (i := 711) (by decide +kernel)), by decide +kernel⟩⟩
theorem mnMo_prime : Cond.initialized yMo_prime.cls ∈ wt := List.mem_filter.mpr ⟨List.mem_append_right _ (List.mem_of_getElem? (i := 7) (by decide +kernel)), by decide +kernel⟩
theorem mMo_root : Cond.code yMo_root prog_9_method_42_code 1 (some .int) ∈ wt := List.mem_filter.mpr ⟨List.mem_append_right _ (List.mem_of_getElem? (i := 716) (by decide +kernel)), by decide +kernel⟩
theorem miMo_root : Cond.instanceMethod yMo_root ∈ wt ∧ Cond.selects yMo_root.cls yMo_root yMo_root ∈ wt := ⟨List.mem_filter.mpr ⟨List.mem_append_right _ (List.mem_of_getElem? (i := 714) (by decide +kernel)), by decide +kernel⟩, List.mem_filter.mpr ⟨List.mem_append_right _ (List.mem_of_getElem? (i := 715) (by decide +kernel)), by decide +kernel⟩⟩
theorem mnMo_root : Cond.initialized yMo_root.cls ∈ wt := List.mem_filter.mpr ⟨List.mem_append_right _ (List.mem_of_getElem? (i := 7) (by decide +kernel)), by decide +kernel⟩
theorem mMo_degree : Cond.code yMo_degree prog_9_method_43_code 2 (some .int) ∈ wt := List.mem_filter.mpr ⟨List.mem_append_right _ (List.mem_of_getElem? (i := 720) (by decide +kernel)), by decide +kernel⟩
theorem miMo_degree : Cond.instanceMethod yMo_degree ∈ wt ∧ Cond.selects yMo_degree.cls yMo_degree yMo_degree ∈ wt := ⟨List.mem_filter.mpr ⟨List.mem_append_right _ (List.mem_of_getElem? (i := 718) (by decide +kernel)), by decide +kernel⟩, List.mem_filter.mpr ⟨List.mem_append_right _ (List.mem_of_getElem? (i := 719) (by decide +kernel)), by decide +kernel⟩⟩
theorem mnMo_degree : Cond.initialized yMo_degree.cls ∈ wt := List.mem_filter.mpr ⟨List.mem_append_right _ (List.mem_of_getElem? (i := 7) (by decide +kernel)), by decide +kernel⟩
theorem mMo_value : Cond.code yMo_value prog_9_method_44_code 3 (some .int) ∈ wt := List.mem_filter.mpr ⟨List.mem_append_right _ (List.mem_of_getElem? (i := 724) (by decide +kernel)), by decide +kernel⟩
theorem miMo_value : Cond.instanceMethod yMo_value ∈ wt ∧ Cond.selects yMo_value.cls yMo_value yMo_value ∈ wt := ⟨List.mem_filter.mpr ⟨List.mem_append_right _ (List.mem_of_getElem? (i := 722) (by decide +kernel)), by decide +kernel⟩, List.mem_filter.mpr ⟨List.mem_append_right _ (List.mem_of_getElem? (i := 723) (by decide +kernel)), by decide +kernel⟩⟩
theorem mnMo_value : Cond.initialized yMo_value.cls ∈ wt := List.mem_filter.mpr ⟨List.mem_append_right _ (List.mem_of_getElem? (i := 7) (by decide +kernel)), by decide +kernel⟩
theorem mMo_multiplicity : Cond.code yMo_multiplicity prog_9_method_45_code 9 (some .int) ∈ wt := List.mem_filter.mpr ⟨List.mem_append_right _ (List.mem_of_getElem? (i := 728) (by decide +kernel)), by decide +kernel⟩
theorem miMo_multiplicity : Cond.instanceMethod yMo_multiplicity ∈ wt ∧ Cond.selects yMo_multiplicity.cls yMo_multiplicity yMo_multiplicity ∈ wt := ⟨List.mem_filter.mpr ⟨List.mem_append_right _ (List.mem_of_getElem? (i := 726) (by decide +kernel)), by decide +kernel⟩, List.mem_filter.mpr ⟨List.mem_append_right _ (List.mem_of_getElem? (i := 727) (by decide +kernel)), by decide +kernel⟩⟩
theorem mnMo_multiplicity : Cond.initialized yMo_multiplicity.cls ∈ wt := List.mem_filter.mpr ⟨List.mem_append_right _ (List.mem_of_getElem? (i := 7) (by decide +kernel)), by decide +kernel⟩
theorem mMo_indicator : Cond.code yMo_indicator prog_9_method_46_code 4 (some .int) ∈ wt := List.mem_filter.mpr ⟨List.mem_append_right _ (List.mem_of_getElem? (i := 732) (by decide +kernel)), by decide +kernel⟩
theorem miMo_indicator : Cond.instanceMethod yMo_indicator ∈ wt ∧ Cond.selects yMo_indicator.cls yMo_indicator yMo_indicator ∈ wt := ⟨List.mem_filter.mpr ⟨List.mem_append_right _ (List.mem_of_getElem? (i := 730) (by decide +kernel)), by decide +kernel⟩, List.mem_filter.mpr ⟨List.mem_append_right _ (List.mem_of_getElem? (i := 731) (by decide +kernel)), by decide +kernel⟩⟩
theorem mnMo_indicator : Cond.initialized yMo_indicator.cls ∈ wt := List.mem_filter.mpr ⟨List.mem_append_right _ (List.mem_of_getElem? (i := 7) (by decide +kernel)), by decide +kernel⟩
theorem mMo_kernel : Cond.code yMo_kernel prog_9_method_47_code 4 (some .int) ∈ wt := List.mem_filter.mpr ⟨List.mem_append_right _ (List.mem_of_getElem? (i := 737) (by decide +kernel)), by decide +kernel⟩
theorem miMo_kernel : Cond.instanceMethod yMo_kernel ∈ wt ∧ Cond.selects yMo_kernel.cls yMo_kernel yMo_kernel ∈ wt := ⟨List.mem_filter.mpr ⟨List.mem_append_right _ (List.mem_of_getElem? (i := 735) (by decide +kernel)), by decide +kernel⟩, List.mem_filter.mpr ⟨List.mem_append_right _ (List.mem_of_getElem? (i := 736) (by decide +kernel)), by decide +kernel⟩⟩
theorem mnMo_kernel : Cond.initialized yMo_kernel.cls ∈ wt := List.mem_filter.mpr ⟨List.mem_append_right _ (List.mem_of_getElem? (i := 7) (by decide +kernel)), by decide +kernel⟩
theorem mMo_insert : Cond.code yMo_insert prog_9_method_48_code 4 (some .int) ∈ wt := List.mem_filter.mpr ⟨List.mem_append_right _ (List.mem_of_getElem? (i := 746) (by decide +kernel)), by decide +kernel⟩
theorem miMo_insert : Cond.instanceMethod yMo_insert ∈ wt ∧ Cond.selects yMo_insert.cls yMo_insert yMo_insert ∈ wt := ⟨List.mem_filter.mpr ⟨List.mem_append_right _ (List.mem_of_getElem? (i := 745) (by decide +kernel)), by decide +kernel⟩, List.mem_filter.mpr ⟨List.mem_append_left _ (List.mem_of_getElem? (i := 45) (by decide +kernel)), by decide +kernel⟩⟩
theorem mnMo_insert : Cond.initialized yMo_insert.cls ∈ wt := List.mem_filter.mpr ⟨List.mem_append_right _ (List.mem_of_getElem? (i := 7) (by decide +kernel)), by decide +kernel⟩
theorem mMo_normals : Cond.code yMo_normals prog_9_method_49_code 4 (some .int) ∈ wt := List.mem_filter.mpr ⟨List.mem_append_right _ (List.mem_of_getElem? (i := 741) (by decide +kernel)), by decide +kernel⟩
theorem miMo_normals : Cond.instanceMethod yMo_normals ∈ wt ∧ Cond.selects yMo_normals.cls yMo_normals yMo_normals ∈ wt := ⟨List.mem_filter.mpr ⟨List.mem_append_right _ (List.mem_of_getElem? (i := 739) (by decide +kernel)), by decide +kernel⟩, List.mem_filter.mpr ⟨List.mem_append_right _ (List.mem_of_getElem? (i := 740) (by decide +kernel)), by decide +kernel⟩⟩
theorem mnMo_normals : Cond.initialized yMo_normals.cls ∈ wt := List.mem_filter.mpr ⟨List.mem_append_right _ (List.mem_of_getElem? (i := 7) (by decide +kernel)), by decide +kernel⟩
theorem mCm_find : Cond.code yCm_find prog_2_method_2_code 5 none ∈ wt := List.mem_filter.mpr ⟨List.mem_append_right _ (List.mem_of_getElem? (i := 291) (by decide +kernel)), by decide +kernel⟩
theorem miCm_find : Cond.instanceMethod yCm_find ∈ wt ∧ Cond.selects yCm_find.cls yCm_find yCm_find ∈ wt := ⟨List.mem_filter.mpr ⟨List.mem_append_right _ (List.mem_of_getElem? (i := 289) (by decide +kernel)), by decide +kernel⟩, List.mem_filter.mpr ⟨List.mem_append_right _ (List.mem_of_getElem? (i := 290) (by decide +kernel)), by decide +kernel⟩⟩
theorem mnCm_find : Cond.initialized yCm_find.cls ∈ wt := List.mem_filter.mpr ⟨List.mem_append_right _ (List.mem_of_getElem? (i := 5) (by decide +kernel)), by decide +kernel⟩
theorem mCm_startWhole : Cond.code yCm_startWhole prog_2_method_3_code 2 none ∈ wt := List.mem_filter.mpr ⟨List.mem_append_right _ (List.mem_of_getElem? (i := 295) (by decide +kernel)), by decide +kernel⟩
theorem miCm_startWhole : Cond.instanceMethod yCm_startWhole ∈ wt ∧ Cond.selects yCm_startWhole.cls yCm_startWhole yCm_startWhole ∈ wt := ⟨List.mem_filter.mpr ⟨List.mem_append_right _ (List.mem_of_getElem? (i := 294) (by decide +kernel)), by decide +kernel⟩, List.mem_filter.mpr ⟨List.mem_append_left _ (List.mem_of_getElem? (i := 5) (by decide +kernel)), by decide +kernel⟩⟩
theorem mnCm_startWhole : Cond.initialized yCm_startWhole.cls ∈ wt := List.mem_filter.mpr ⟨List.mem_append_right _ (List.mem_of_getElem? (i := 5) (by decide +kernel)), by decide +kernel⟩
theorem mCm_setAction : Cond.code yCm_setAction prog_2_method_4_code 11 none ∈ wt := List.mem_filter.mpr ⟨List.mem_append_right _ (List.mem_of_getElem? (i := 300) (by decide +kernel)), by decide +kernel⟩
theorem miCm_setAction : Cond.instanceMethod yCm_setAction ∈ wt ∧ Cond.selects yCm_setAction.cls yCm_setAction yCm_setAction ∈ wt := ⟨List.mem_filter.mpr ⟨List.mem_append_right _ (List.mem_of_getElem? (i := 299) (by decide +kernel)), by decide +kernel⟩, List.mem_filter.mpr ⟨List.mem_append_left _ (List.mem_of_getElem? (i := 6) (by decide +kernel)), by decide +kernel⟩⟩
theorem mnCm_setAction : Cond.initialized yCm_setAction.cls ∈ wt := List.mem_filter.mpr ⟨List.mem_append_right _ (List.mem_of_getElem? (i := 5) (by decide +kernel)), by decide +kernel⟩
theorem mCm_split : Cond.code yCm_split prog_2_method_5_code 8 none ∈ wt := List.mem_filter.mpr ⟨List.mem_append_right _ (List.mem_of_getElem? (i := 312) (by decide +kernel)), by decide +kernel⟩
theorem miCm_split : Cond.instanceMethod yCm_split ∈ wt ∧ Cond.selects yCm_split.cls yCm_split yCm_split ∈ wt := ⟨List.mem_filter.mpr ⟨List.mem_append_right _ (List.mem_of_getElem? (i := 311) (by decide +kernel)), by decide +kernel⟩, List.mem_filter.mpr ⟨List.mem_append_left _ (List.mem_of_getElem? (i := 7) (by decide +kernel)), by decide +kernel⟩⟩
theorem mnCm_split : Cond.initialized yCm_split.cls ∈ wt := List.mem_filter.mpr ⟨List.mem_append_right _ (List.mem_of_getElem? (i := 5) (by decide +kernel)), by decide +kernel⟩
theorem mCm_setSystem : Cond.code yCm_setSystem prog_2_method_6_code 5 none ∈ wt := List.mem_filter.mpr ⟨List.mem_append_right _ (List.mem_of_getElem? (i := 316) (by decide +kernel)), by decide +kernel⟩
theorem miCm_setSystem : Cond.instanceMethod yCm_setSystem ∈ wt ∧ Cond.selects yCm_setSystem.cls yCm_setSystem yCm_setSystem ∈ wt := ⟨List.mem_filter.mpr ⟨List.mem_append_right _ (List.mem_of_getElem? (i := 315) (by decide +kernel)), by decide +kernel⟩, List.mem_filter.mpr ⟨List.mem_append_left _ (List.mem_of_getElem? (i := 8) (by decide +kernel)), by decide +kernel⟩⟩
theorem mnCm_setSystem : Cond.initialized yCm_setSystem.cls ∈ wt := List.mem_filter.mpr ⟨List.mem_append_right _ (List.mem_of_getElem? (i := 5) (by decide +kernel)), by decide +kernel⟩
theorem mCm_solve : Cond.code yCm_solve prog_2_method_7_code 6 none ∈ wt := List.mem_filter.mpr ⟨List.mem_append_right _ (List.mem_of_getElem? (i := 330) (by decide +kernel)), by decide +kernel⟩
theorem miCm_solve : Cond.instanceMethod yCm_solve ∈ wt ∧ Cond.selects yCm_solve.cls yCm_solve yCm_solve ∈ wt := ⟨List.mem_filter.mpr ⟨List.mem_append_right _ (List.mem_of_getElem? (i := 329) (by decide +kernel)), by decide +kernel⟩, List.mem_filter.mpr ⟨List.mem_append_left _ (List.mem_of_getElem? (i := 9) (by decide +kernel)), by decide +kernel⟩⟩
theorem mnCm_solve : Cond.initialized yCm_solve.cls ∈ wt := List.mem_filter.mpr ⟨List.mem_append_right _ (List.mem_of_getElem? (i := 5) (by decide +kernel)), by decide +kernel⟩
theorem mCm_swapRows : Cond.code yCm_swapRows prog_2_method_8_code 6 none ∈ wt := List.mem_filter.mpr ⟨List.mem_append_right _ (List.mem_of_getElem? (i := 334) (by decide +kernel)), by decide +kernel⟩
theorem miCm_swapRows : Cond.instanceMethod yCm_swapRows ∈ wt ∧ Cond.selects yCm_swapRows.cls yCm_swapRows yCm_swapRows ∈ wt := ⟨List.mem_filter.mpr ⟨List.mem_append_right _ (List.mem_of_getElem? (i := 333) (by decide +kernel)), by decide +kernel⟩, List.mem_filter.mpr ⟨List.mem_append_left _ (List.mem_of_getElem? (i := 10) (by decide +kernel)), by decide +kernel⟩⟩
theorem mnCm_swapRows : Cond.initialized yCm_swapRows.cls ∈ wt := List.mem_filter.mpr ⟨List.mem_append_right _ (List.mem_of_getElem? (i := 5) (by decide +kernel)), by decide +kernel⟩
theorem mCm_clearColumn : Cond.code yCm_clearColumn prog_2_method_9_code 9 none ∈ wt := List.mem_filter.mpr ⟨List.mem_append_right _ (List.mem_of_getElem? (i := 338) (by decide +kernel)), by decide +kernel⟩
theorem miCm_clearColumn : Cond.instanceMethod yCm_clearColumn ∈ wt ∧ Cond.selects yCm_clearColumn.cls yCm_clearColumn yCm_clearColumn ∈ wt := ⟨List.mem_filter.mpr ⟨List.mem_append_right _ (List.mem_of_getElem? (i := 337) (by decide +kernel)), by decide +kernel⟩, List.mem_filter.mpr ⟨List.mem_append_left _ (List.mem_of_getElem? (i := 11) (by decide +kernel)), by decide +kernel⟩⟩
theorem mnCm_clearColumn : Cond.initialized yCm_clearColumn.cls ∈ wt := List.mem_filter.mpr ⟨List.mem_append_right _ (List.mem_of_getElem? (i := 5) (by decide +kernel)), by decide +kernel⟩
theorem mCm_takeSolution : Cond.code yCm_takeSolution prog_2_method_10_code 10 none ∈ wt := List.mem_filter.mpr ⟨List.mem_append_right _ (List.mem_of_getElem? (i := 351) (by decide +kernel)), by decide +kernel⟩
theorem miCm_takeSolution : Cond.instanceMethod yCm_takeSolution ∈ wt ∧ Cond.selects yCm_takeSolution.cls yCm_takeSolution yCm_takeSolution ∈ wt := ⟨List.mem_filter.mpr ⟨List.mem_append_right _ (List.mem_of_getElem? (i := 350) (by decide +kernel)), by decide +kernel⟩, List.mem_filter.mpr ⟨List.mem_append_left _ (List.mem_of_getElem? (i := 12) (by decide +kernel)), by decide +kernel⟩⟩
theorem mnCm_takeSolution : Cond.initialized yCm_takeSolution.cls ∈ wt := List.mem_filter.mpr ⟨List.mem_append_right _ (List.mem_of_getElem? (i := 5) (by decide +kernel)), by decide +kernel⟩
theorem mCm_scale : Cond.code yCm_scale prog_2_method_11_code 5 none ∈ wt := List.mem_filter.mpr ⟨List.mem_append_right _ (List.mem_of_getElem? (i := 356) (by decide +kernel)), by decide +kernel⟩
theorem miCm_scale : Cond.instanceMethod yCm_scale ∈ wt ∧ Cond.selects yCm_scale.cls yCm_scale yCm_scale ∈ wt := ⟨List.mem_filter.mpr ⟨List.mem_append_right _ (List.mem_of_getElem? (i := 355) (by decide +kernel)), by decide +kernel⟩, List.mem_filter.mpr ⟨List.mem_append_left _ (List.mem_of_getElem? (i := 13) (by decide +kernel)), by decide +kernel⟩⟩
theorem mnCm_scale : Cond.initialized yCm_scale.cls ∈ wt := List.mem_filter.mpr ⟨List.mem_append_right _ (List.mem_of_getElem? (i := 5) (by decide +kernel)), by decide +kernel⟩
theorem mCd_isPermutation : Cond.code yCd_isPermutation prog_3_method_2_code 3 (some .boolean) ∈ wt := List.mem_filter.mpr ⟨List.mem_append_right _ (List.mem_of_getElem? (i := 205) (by decide +kernel)), by decide +kernel⟩
theorem msCd_isPermutation : Cond.static yCd_isPermutation ∈ wt := List.mem_filter.mpr ⟨List.mem_append_right _ (List.mem_of_getElem? (i := 204) (by decide +kernel)), by decide +kernel⟩
theorem mnCd_isPermutation : Cond.initialized yCd_isPermutation.cls ∈ wt := List.mem_filter.mpr ⟨List.mem_append_right _ (List.mem_of_getElem? (i := 8) (by decide +kernel)), by decide +kernel⟩
theorem mCd_product : Cond.code yCd_product prog_3_method_3_code 6 (some .int) ∈ wt := List.mem_filter.mpr ⟨List.mem_append_right _ (List.mem_of_getElem? (i := 234) (by decide +kernel)), by decide +kernel⟩
theorem msCd_product : Cond.static yCd_product ∈ wt := List.mem_filter.mpr ⟨List.mem_append_right _ (List.mem_of_getElem? (i := 233) (by decide +kernel)), by decide +kernel⟩
theorem mnCd_product : Cond.initialized yCd_product.cls ∈ wt := List.mem_filter.mpr ⟨List.mem_append_right _ (List.mem_of_getElem? (i := 8) (by decide +kernel)), by decide +kernel⟩
theorem mCd_inverse : Cond.code yCd_inverse prog_3_method_4_code 4 (some .int) ∈ wt := List.mem_filter.mpr ⟨List.mem_append_right _ (List.mem_of_getElem? (i := 248) (by decide +kernel)), by decide +kernel⟩
theorem msCd_inverse : Cond.static yCd_inverse ∈ wt := List.mem_filter.mpr ⟨List.mem_append_right _ (List.mem_of_getElem? (i := 247) (by decide +kernel)), by decide +kernel⟩
theorem mnCd_inverse : Cond.initialized yCd_inverse.cls ∈ wt := List.mem_filter.mpr ⟨List.mem_append_right _ (List.mem_of_getElem? (i := 8) (by decide +kernel)), by decide +kernel⟩
theorem mCo_divide : Cond.code yCo_divide prog_4_method_2_code 3 (some .boolean) ∈ wt := List.mem_filter.mpr ⟨List.mem_append_right _ (List.mem_of_getElem? (i := 238) (by decide +kernel)), by decide +kernel⟩
theorem miCo_divide : Cond.instanceMethod yCo_divide ∈ wt ∧ Cond.selects yCo_divide.cls yCo_divide yCo_divide ∈ wt := ⟨List.mem_filter.mpr ⟨List.mem_append_right _ (List.mem_of_getElem? (i := 236) (by decide +kernel)), by decide +kernel⟩, List.mem_filter.mpr ⟨List.mem_append_right _ (List.mem_of_getElem? (i := 237) (by decide +kernel)), by decide +kernel⟩⟩
theorem mnCo_divide : Cond.initialized yCo_divide.cls ∈ wt := List.mem_filter.mpr ⟨List.mem_append_right _ (List.mem_of_getElem? (i := 3) (by decide +kernel)), by decide +kernel⟩
theorem mCo_gather : Cond.code yCo_gather prog_4_method_3_code 7 none ∈ wt := List.mem_filter.mpr ⟨List.mem_append_right _ (List.mem_of_getElem? (i := 245) (by decide +kernel)), by decide +kernel⟩
theorem miCo_gather : Cond.instanceMethod yCo_gather ∈ wt ∧ Cond.selects yCo_gather.cls yCo_gather yCo_gather ∈ wt := ⟨List.mem_filter.mpr ⟨List.mem_append_right _ (List.mem_of_getElem? (i := 244) (by decide +kernel)), by decide +kernel⟩, List.mem_filter.mpr ⟨List.mem_append_left _ (List.mem_of_getElem? (i := 3) (by decide +kernel)), by decide +kernel⟩⟩
theorem mnCo_gather : Cond.initialized yCo_gather.cls ∈ wt := List.mem_filter.mpr ⟨List.mem_append_right _ (List.mem_of_getElem? (i := 3) (by decide +kernel)), by decide +kernel⟩
theorem mCo_classHolding : Cond.code yCo_classHolding prog_4_method_4_code 4 (some .int) ∈ wt := List.mem_filter.mpr ⟨List.mem_append_right _ (List.mem_of_getElem? (i := 262) (by decide +kernel)), by decide +kernel⟩
theorem miCo_classHolding : Cond.instanceMethod yCo_classHolding ∈ wt ∧ Cond.selects yCo_classHolding.cls yCo_classHolding yCo_classHolding ∈ wt := ⟨List.mem_filter.mpr ⟨List.mem_append_right _ (List.mem_of_getElem? (i := 260) (by decide +kernel)), by decide +kernel⟩, List.mem_filter.mpr ⟨List.mem_append_right _ (List.mem_of_getElem? (i := 261) (by decide +kernel)), by decide +kernel⟩⟩
theorem mnCo_classHolding : Cond.initialized yCo_classHolding.cls ∈ wt := List.mem_filter.mpr ⟨List.mem_append_right _ (List.mem_of_getElem? (i := 3) (by decide +kernel)), by decide +kernel⟩
theorem mCo_listPowers : Cond.code yCo_listPowers prog_4_method_5_code 5 none ∈ wt := List.mem_filter.mpr ⟨List.mem_append_right _ (List.mem_of_getElem? (i := 257) (by decide +kernel)), by decide +kernel⟩
theorem miCo_listPowers : Cond.instanceMethod yCo_listPowers ∈ wt ∧ Cond.selects yCo_listPowers.cls yCo_listPowers yCo_listPowers ∈ wt := ⟨List.mem_filter.mpr ⟨List.mem_append_right _ (List.mem_of_getElem? (i := 255) (by decide +kernel)), by decide +kernel⟩, List.mem_filter.mpr ⟨List.mem_append_right _ (List.mem_of_getElem? (i := 256) (by decide +kernel)), by decide +kernel⟩⟩
theorem mnCo_listPowers : Cond.initialized yCo_listPowers.cls ∈ wt := List.mem_filter.mpr ⟨List.mem_append_right _ (List.mem_of_getElem? (i := 3) (by decide +kernel)), by decide +kernel⟩
theorem mCo_classRaised : Cond.code yCo_classRaised prog_4_method_6_code 3 (some .int) ∈ wt := List.mem_filter.mpr ⟨List.mem_append_right _ (List.mem_of_getElem? (i := 387) (by decide +kernel)), by decide +kernel⟩
theorem miCo_classRaised : Cond.instanceMethod yCo_classRaised ∈ wt ∧ Cond.selects yCo_classRaised.cls yCo_classRaised yCo_classRaised ∈ wt := ⟨List.mem_filter.mpr ⟨List.mem_append_right _ (List.mem_of_getElem? (i := 385) (by decide +kernel)), by decide +kernel⟩, List.mem_filter.mpr ⟨List.mem_append_right _ (List.mem_of_getElem? (i := 386) (by decide +kernel)), by decide +kernel⟩⟩
theorem mnCo_classRaised : Cond.initialized yCo_classRaised.cls ∈ wt := List.mem_filter.mpr ⟨List.mem_append_right _ (List.mem_of_getElem? (i := 3) (by decide +kernel)), by decide +kernel⟩
theorem mCo_inverseOf : Cond.code yCo_inverseOf prog_4_method_7_code 2 (some .int) ∈ wt := List.mem_filter.mpr ⟨List.mem_append_right _ (List.mem_of_getElem? (i := 373) (by decide +kernel)), by decide +kernel⟩
theorem miCo_inverseOf : Cond.instanceMethod yCo_inverseOf ∈ wt ∧ Cond.selects yCo_inverseOf.cls yCo_inverseOf yCo_inverseOf ∈ wt := ⟨List.mem_filter.mpr ⟨List.mem_append_right _ (List.mem_of_getElem? (i := 371) (by decide +kernel)), by decide +kernel⟩, List.mem_filter.mpr ⟨List.mem_append_right _ (List.mem_of_getElem? (i := 372) (by decide +kernel)), by decide +kernel⟩⟩
theorem mnCo_inverseOf : Cond.initialized yCo_inverseOf.cls ∈ wt := List.mem_filter.mpr ⟨List.mem_append_right _ (List.mem_of_getElem? (i := 3) (by decide +kernel)), by decide +kernel⟩
theorem mCo_countPairs : Cond.code yCo_countPairs prog_4_method_8_code 6 none ∈ wt := List.mem_filter.mpr ⟨List.mem_append_right _ (List.mem_of_getElem? (i := 266) (by decide +kernel)), by decide +kernel⟩
theorem miCo_countPairs : Cond.instanceMethod yCo_countPairs ∈ wt ∧ Cond.selects yCo_countPairs.cls yCo_countPairs yCo_countPairs ∈ wt := ⟨List.mem_filter.mpr ⟨List.mem_append_right _ (List.mem_of_getElem? (i := 264) (by decide +kernel)), by decide +kernel⟩, List.mem_filter.mpr ⟨List.mem_append_right _ (List.mem_of_getElem? (i := 265) (by decide +kernel)), by decide +kernel⟩⟩
theorem mnCo_countPairs : Cond.initialized yCo_countPairs.cls ∈ wt := List.mem_filter.mpr ⟨List.mem_append_right _ (List.mem_of_getElem? (i := 3) (by decide +kernel)), by decide +kernel⟩
theorem mCo_pairs : Cond.code yCo_pairs prog_4_method_9_code 4 (some .int) ∈ wt := List.mem_filter.mpr ⟨List.mem_append_right _ (List.mem_of_getElem? (i := 304) (by decide +kernel)), by decide +kernel⟩
theorem miCo_pairs : Cond.instanceMethod yCo_pairs ∈ wt ∧ Cond.selects yCo_pairs.cls yCo_pairs yCo_pairs ∈ wt := ⟨List.mem_filter.mpr ⟨List.mem_append_right _ (List.mem_of_getElem? (i := 302) (by decide +kernel)), by decide +kernel⟩, List.mem_filter.mpr ⟨List.mem_append_right _ (List.mem_of_getElem? (i := 303) (by decide +kernel)), by decide +kernel⟩⟩
theorem mnCo_pairs : Cond.initialized yCo_pairs.cls ∈ wt := List.mem_filter.mpr ⟨List.mem_append_right _ (List.mem_of_getElem? (i := 3) (by decide +kernel)), by decide +kernel⟩
theorem mCo_pairPlace : Cond.code yCo_pairPlace prog_4_method_10_code 3 (some .int) ∈ wt := List.mem_filter.mpr ⟨List.mem_append_right _ (List.mem_of_getElem? (i := 269) (by decide +kernel)), by decide +kernel⟩
theorem msCo_pairPlace : Cond.static yCo_pairPlace ∈ wt := List.mem_filter.mpr ⟨List.mem_append_right _ (List.mem_of_getElem? (i := 268) (by decide +kernel)), by decide +kernel⟩
theorem mnCo_pairPlace : Cond.initialized yCo_pairPlace.cls ∈ wt := List.mem_filter.mpr ⟨List.mem_append_right _ (List.mem_of_getElem? (i := 3) (by decide +kernel)), by decide +kernel⟩
theorem mEl_generate : Cond.code yEl_generate prog_5_method_2_code 6 (some .boolean) ∈ wt := List.mem_filter.mpr ⟨List.mem_append_right _ (List.mem_of_getElem? (i := 222) (by decide +kernel)), by decide +kernel⟩
theorem miEl_generate : Cond.instanceMethod yEl_generate ∈ wt ∧ Cond.selects yEl_generate.cls yEl_generate yEl_generate ∈ wt := ⟨List.mem_filter.mpr ⟨List.mem_append_right _ (List.mem_of_getElem? (i := 220) (by decide +kernel)), by decide +kernel⟩, List.mem_filter.mpr ⟨List.mem_append_right _ (List.mem_of_getElem? (i := 221) (by decide +kernel)), by decide +kernel⟩⟩
theorem mnEl_generate : Cond.initialized yEl_generate.cls ∈ wt := List.mem_filter.mpr ⟨List.mem_append_right _ (List.mem_of_getElem? (i := 2) (by decide +kernel)), by decide +kernel⟩
theorem mEl_indexOf : Cond.code yEl_indexOf prog_5_method_3_code 3 (some .int) ∈ wt := List.mem_filter.mpr ⟨List.mem_append_right _ (List.mem_of_getElem? (i := 253) (by decide +kernel)), by decide +kernel⟩
theorem miEl_indexOf : Cond.instanceMethod yEl_indexOf ∈ wt ∧ Cond.selects yEl_indexOf.cls yEl_indexOf yEl_indexOf ∈ wt := ⟨List.mem_filter.mpr ⟨List.mem_append_right _ (List.mem_of_getElem? (i := 251) (by decide +kernel)), by decide +kernel⟩, List.mem_filter.mpr ⟨List.mem_append_right _ (List.mem_of_getElem? (i := 252) (by decide +kernel)), by decide +kernel⟩⟩
theorem mnEl_indexOf : Cond.initialized yEl_indexOf.cls ∈ wt := List.mem_filter.mpr ⟨List.mem_append_right _ (List.mem_of_getElem? (i := 2) (by decide +kernel)), by decide +kernel⟩
theorem mEl_include : Cond.code yEl_include prog_5_method_4_code 4 (some .boolean) ∈ wt := List.mem_filter.mpr ⟨List.mem_append_right _ (List.mem_of_getElem? (i := 227) (by decide +kernel)), by decide +kernel⟩
theorem miEl_include : Cond.instanceMethod yEl_include ∈ wt ∧ Cond.selects yEl_include.cls yEl_include yEl_include ∈ wt := ⟨List.mem_filter.mpr ⟨List.mem_append_right _ (List.mem_of_getElem? (i := 226) (by decide +kernel)), by decide +kernel⟩, List.mem_filter.mpr ⟨List.mem_append_left _ (List.mem_of_getElem? (i := 1) (by decide +kernel)), by decide +kernel⟩⟩
theorem mnEl_include : Cond.initialized yEl_include.cls ∈ wt := List.mem_filter.mpr ⟨List.mem_append_right _ (List.mem_of_getElem? (i := 2) (by decide +kernel)), by decide +kernel⟩
theorem mEl_firstNotBelow : Cond.code yEl_firstNotBelow prog_5_method_5_code 4 (some .int) ∈ wt := List.mem_filter.mpr ⟨List.mem_append_right _ (List.mem_of_getElem? (i := 231) (by decide +kernel)), by decide +kernel⟩
theorem miEl_firstNotBelow : Cond.instanceMethod yEl_firstNotBelow ∈ wt ∧ Cond.selects yEl_firstNotBelow.cls yEl_firstNotBelow yEl_firstNotBelow ∈ wt := ⟨List.mem_filter.mpr ⟨List.mem_append_right _ (List.mem_of_getElem? (i := 230) (by decide +kernel)), by decide +kernel⟩, List.mem_filter.mpr ⟨List.mem_append_left _ (List.mem_of_getElem? (i := 2) (by decide +kernel)), by decide +kernel⟩⟩
theorem mnEl_firstNotBelow : Cond.initialized yEl_firstNotBelow.cls ∈ wt := List.mem_filter.mpr ⟨List.mem_append_right _ (List.mem_of_getElem? (i := 2) (by decide +kernel)), by decide +kernel⟩
theorem mRe_choose : Cond.code yRe_choose prog_6_method_2_code 5 none ∈ wt := List.mem_filter.mpr ⟨List.mem_append_right _ (List.mem_of_getElem? (i := 273) (by decide +kernel)), by decide +kernel⟩
theorem miRe_choose : Cond.instanceMethod yRe_choose ∈ wt ∧ Cond.selects yRe_choose.cls yRe_choose yRe_choose ∈ wt := ⟨List.mem_filter.mpr ⟨List.mem_append_right _ (List.mem_of_getElem? (i := 271) (by decide +kernel)), by decide +kernel⟩, List.mem_filter.mpr ⟨List.mem_append_right _ (List.mem_of_getElem? (i := 272) (by decide +kernel)), by decide +kernel⟩⟩
theorem mnRe_choose : Cond.initialized yRe_choose.cls ∈ wt := List.mem_filter.mpr ⟨List.mem_append_right _ (List.mem_of_getElem? (i := 4) (by decide +kernel)), by decide +kernel⟩
theorem mRe_isPrime : Cond.code yRe_isPrime prog_6_method_3_code 2 (some .boolean) ∈ wt := List.mem_filter.mpr ⟨List.mem_append_right _ (List.mem_of_getElem? (i := 276) (by decide +kernel)), by decide +kernel⟩
theorem msRe_isPrime : Cond.static yRe_isPrime ∈ wt := List.mem_filter.mpr ⟨List.mem_append_right _ (List.mem_of_getElem? (i := 275) (by decide +kernel)), by decide +kernel⟩
theorem mnRe_isPrime : Cond.initialized yRe_isPrime.cls ∈ wt := List.mem_filter.mpr ⟨List.mem_append_right _ (List.mem_of_getElem? (i := 4) (by decide +kernel)), by decide +kernel⟩
theorem mRe_orderOf : Cond.code yRe_orderOf prog_6_method_4_code 4 (some .int) ∈ wt := List.mem_filter.mpr ⟨List.mem_append_right _ (List.mem_of_getElem? (i := 283) (by decide +kernel)), by decide +kernel⟩
theorem miRe_orderOf : Cond.instanceMethod yRe_orderOf ∈ wt ∧ Cond.selects yRe_orderOf.cls yRe_orderOf yRe_orderOf ∈ wt := ⟨List.mem_filter.mpr ⟨List.mem_append_right _ (List.mem_of_getElem? (i := 282) (by decide +kernel)), by decide +kernel⟩, List.mem_filter.mpr ⟨List.mem_append_left _ (List.mem_of_getElem? (i := 4) (by decide +kernel)), by decide +kernel⟩⟩
theorem mnRe_orderOf : Cond.initialized yRe_orderOf.cls ∈ wt := List.mem_filter.mpr ⟨List.mem_append_right _ (List.mem_of_getElem? (i := 4) (by decide +kernel)), by decide +kernel⟩
theorem mRe_reduce : Cond.code yRe_reduce prog_6_method_5_code 2 (some .int) ∈ wt := List.mem_filter.mpr ⟨List.mem_append_right _ (List.mem_of_getElem? (i := 323) (by decide +kernel)), by decide +kernel⟩
theorem miRe_reduce : Cond.instanceMethod yRe_reduce ∈ wt ∧ Cond.selects yRe_reduce.cls yRe_reduce yRe_reduce ∈ wt := ⟨List.mem_filter.mpr ⟨List.mem_append_right _ (List.mem_of_getElem? (i := 321) (by decide +kernel)), by decide +kernel⟩, List.mem_filter.mpr ⟨List.mem_append_right _ (List.mem_of_getElem? (i := 322) (by decide +kernel)), by decide +kernel⟩⟩
theorem mnRe_reduce : Cond.initialized yRe_reduce.cls ∈ wt := List.mem_filter.mpr ⟨List.mem_append_right _ (List.mem_of_getElem? (i := 4) (by decide +kernel)), by decide +kernel⟩
theorem mRe_times : Cond.code yRe_times prog_6_method_6_code 3 (some .int) ∈ wt := List.mem_filter.mpr ⟨List.mem_append_right _ (List.mem_of_getElem? (i := 287) (by decide +kernel)), by decide +kernel⟩
theorem miRe_times : Cond.instanceMethod yRe_times ∈ wt ∧ Cond.selects yRe_times.cls yRe_times yRe_times ∈ wt := ⟨List.mem_filter.mpr ⟨List.mem_append_right _ (List.mem_of_getElem? (i := 285) (by decide +kernel)), by decide +kernel⟩, List.mem_filter.mpr ⟨List.mem_append_right _ (List.mem_of_getElem? (i := 286) (by decide +kernel)), by decide +kernel⟩⟩
theorem mnRe_times : Cond.initialized yRe_times.cls ∈ wt := List.mem_filter.mpr ⟨List.mem_append_right _ (List.mem_of_getElem? (i := 4) (by decide +kernel)), by decide +kernel⟩
theorem mRe_plusTimes : Cond.code yRe_plusTimes prog_6_method_7_code 4 (some .int) ∈ wt := List.mem_filter.mpr ⟨List.mem_append_right _ (List.mem_of_getElem? (i := 308) (by decide +kernel)), by decide +kernel⟩
theorem miRe_plusTimes : Cond.instanceMethod yRe_plusTimes ∈ wt ∧ Cond.selects yRe_plusTimes.cls yRe_plusTimes yRe_plusTimes ∈ wt := ⟨List.mem_filter.mpr ⟨List.mem_append_right _ (List.mem_of_getElem? (i := 306) (by decide +kernel)), by decide +kernel⟩, List.mem_filter.mpr ⟨List.mem_append_right _ (List.mem_of_getElem? (i := 307) (by decide +kernel)), by decide +kernel⟩⟩
theorem mnRe_plusTimes : Cond.initialized yRe_plusTimes.cls ∈ wt := List.mem_filter.mpr ⟨List.mem_append_right _ (List.mem_of_getElem? (i := 4) (by decide +kernel)), by decide +kernel⟩
theorem mRe_minusTimes : Cond.code yRe_minusTimes prog_6_method_8_code 4 (some .int) ∈ wt := List.mem_filter.mpr ⟨List.mem_append_right _ (List.mem_of_getElem? (i := 347) (by decide +kernel)), by decide +kernel⟩
theorem miRe_minusTimes : Cond.instanceMethod yRe_minusTimes ∈ wt ∧ Cond.selects yRe_minusTimes.cls yRe_minusTimes yRe_minusTimes ∈ wt := ⟨List.mem_filter.mpr ⟨List.mem_append_right _ (List.mem_of_getElem? (i := 345) (by decide +kernel)), by decide +kernel⟩, List.mem_filter.mpr ⟨List.mem_append_right _ (List.mem_of_getElem? (i := 346) (by decide +kernel)), by decide +kernel⟩⟩
theorem mnRe_minusTimes : Cond.initialized yRe_minusTimes.cls ∈ wt := List.mem_filter.mpr ⟨List.mem_append_right _ (List.mem_of_getElem? (i := 4) (by decide +kernel)), by decide +kernel⟩
theorem mRe_over : Cond.code yRe_over prog_6_method_9_code 3 (some .int) ∈ wt := List.mem_filter.mpr ⟨List.mem_append_right _ (List.mem_of_getElem? (i := 368) (by decide +kernel)), by decide +kernel⟩
theorem miRe_over : Cond.instanceMethod yRe_over ∈ wt ∧ Cond.selects yRe_over.cls yRe_over yRe_over ∈ wt := ⟨List.mem_filter.mpr ⟨List.mem_append_right _ (List.mem_of_getElem? (i := 366) (by decide +kernel)), by decide +kernel⟩, List.mem_filter.mpr ⟨List.mem_append_right _ (List.mem_of_getElem? (i := 367) (by decide +kernel)), by decide +kernel⟩⟩
theorem mnRe_over : Cond.initialized yRe_over.cls ∈ wt := List.mem_filter.mpr ⟨List.mem_append_right _ (List.mem_of_getElem? (i := 4) (by decide +kernel)), by decide +kernel⟩
theorem mRe_reciprocal : Cond.code yRe_reciprocal prog_6_method_10_code 10 (some .int) ∈ wt := List.mem_filter.mpr ⟨List.mem_append_right _ (List.mem_of_getElem? (i := 342) (by decide +kernel)), by decide +kernel⟩
theorem miRe_reciprocal : Cond.instanceMethod yRe_reciprocal ∈ wt ∧ Cond.selects yRe_reciprocal.cls yRe_reciprocal yRe_reciprocal ∈ wt := ⟨List.mem_filter.mpr ⟨List.mem_append_right _ (List.mem_of_getElem? (i := 340) (by decide +kernel)), by decide +kernel⟩, List.mem_filter.mpr ⟨List.mem_append_right _ (List.mem_of_getElem? (i := 341) (by decide +kernel)), by decide +kernel⟩⟩
theorem mnRe_reciprocal : Cond.initialized yRe_reciprocal.cls ∈ wt := List.mem_filter.mpr ⟨List.mem_append_right _ (List.mem_of_getElem? (i := 4) (by decide +kernel)), by decide +kernel⟩
theorem mRe_raised : Cond.code yRe_raised prog_6_method_11_code 5 (some .int) ∈ wt := List.mem_filter.mpr ⟨List.mem_append_right _ (List.mem_of_getElem? (i := 482) (by decide +kernel)), by decide +kernel⟩
theorem miRe_raised : Cond.instanceMethod yRe_raised ∈ wt ∧ Cond.selects yRe_raised.cls yRe_raised yRe_raised ∈ wt := ⟨List.mem_filter.mpr ⟨List.mem_append_right _ (List.mem_of_getElem? (i := 480) (by decide +kernel)), by decide +kernel⟩, List.mem_filter.mpr ⟨List.mem_append_right _ (List.mem_of_getElem? (i := 481) (by decide +kernel)), by decide +kernel⟩⟩
theorem mnRe_raised : Cond.initialized yRe_raised.cls ∈ wt := List.mem_filter.mpr ⟨List.mem_append_right _ (List.mem_of_getElem? (i := 4) (by decide +kernel)), by decide +kernel⟩
theorem mRo_make : Cond.code yRo_make prog_7_method_2_code 6 none ∈ wt := List.mem_filter.mpr ⟨List.mem_append_right _ (List.mem_of_getElem? (i := 360) (by decide +kernel)), by decide +kernel⟩
theorem miRo_make : Cond.instanceMethod yRo_make ∈ wt ∧ Cond.selects yRo_make.cls yRo_make yRo_make ∈ wt := ⟨List.mem_filter.mpr ⟨List.mem_append_right _ (List.mem_of_getElem? (i := 358) (by decide +kernel)), by decide +kernel⟩, List.mem_filter.mpr ⟨List.mem_append_right _ (List.mem_of_getElem? (i := 359) (by decide +kernel)), by decide +kernel⟩⟩
theorem mnRo_make : Cond.initialized yRo_make.cls ∈ wt := List.mem_filter.mpr ⟨List.mem_append_right _ (List.mem_of_getElem? (i := 6) (by decide +kernel)), by decide +kernel⟩
theorem mRo_setValues : Cond.code yRo_setValues prog_7_method_3_code 9 none ∈ wt := List.mem_filter.mpr ⟨List.mem_append_right _ (List.mem_of_getElem? (i := 364) (by decide +kernel)), by decide +kernel⟩
theorem miRo_setValues : Cond.instanceMethod yRo_setValues ∈ wt ∧ Cond.selects yRo_setValues.cls yRo_setValues yRo_setValues ∈ wt := ⟨List.mem_filter.mpr ⟨List.mem_append_right _ (List.mem_of_getElem? (i := 363) (by decide +kernel)), by decide +kernel⟩, List.mem_filter.mpr ⟨List.mem_append_left _ (List.mem_of_getElem? (i := 14) (by decide +kernel)), by decide +kernel⟩⟩
theorem mnRo_setValues : Cond.initialized yRo_setValues.cls ∈ wt := List.mem_filter.mpr ⟨List.mem_append_right _ (List.mem_of_getElem? (i := 6) (by decide +kernel)), by decide +kernel⟩
theorem mRo_degreeFor : Cond.code yRo_degreeFor prog_7_method_4_code 6 (some .int) ∈ wt := List.mem_filter.mpr ⟨List.mem_append_right _ (List.mem_of_getElem? (i := 377) (by decide +kernel)), by decide +kernel⟩
theorem msRo_degreeFor : Cond.static yRo_degreeFor ∈ wt := List.mem_filter.mpr ⟨List.mem_append_right _ (List.mem_of_getElem? (i := 376) (by decide +kernel)), by decide +kernel⟩
theorem mnRo_degreeFor : Cond.initialized yRo_degreeFor.cls ∈ wt := List.mem_filter.mpr ⟨List.mem_append_right _ (List.mem_of_getElem? (i := 6) (by decide +kernel)), by decide +kernel⟩
theorem mRo_setIndicator : Cond.code yRo_setIndicator prog_7_method_5_code 8 none ∈ wt := List.mem_filter.mpr ⟨List.mem_append_right _ (List.mem_of_getElem? (i := 383) (by decide +kernel)), by decide +kernel⟩
theorem miRo_setIndicator : Cond.instanceMethod yRo_setIndicator ∈ wt ∧ Cond.selects yRo_setIndicator.cls yRo_setIndicator yRo_setIndicator ∈ wt := ⟨List.mem_filter.mpr ⟨List.mem_append_right _ (List.mem_of_getElem? (i := 382) (by decide +kernel)), by decide +kernel⟩, List.mem_filter.mpr ⟨List.mem_append_left _ (List.mem_of_getElem? (i := 15) (by decide +kernel)), by decide +kernel⟩⟩
theorem mnRo_setIndicator : Cond.initialized yRo_setIndicator.cls ∈ wt := List.mem_filter.mpr ⟨List.mem_append_right _ (List.mem_of_getElem? (i := 6) (by decide +kernel)), by decide +kernel⟩
theorem mRo_setKernel : Cond.code yRo_setKernel prog_7_method_6_code 4 none ∈ wt := List.mem_filter.mpr ⟨List.mem_append_right _ (List.mem_of_getElem? (i := 391) (by decide +kernel)), by decide +kernel⟩
theorem miRo_setKernel : Cond.instanceMethod yRo_setKernel ∈ wt ∧ Cond.selects yRo_setKernel.cls yRo_setKernel yRo_setKernel ∈ wt := ⟨List.mem_filter.mpr ⟨List.mem_append_right _ (List.mem_of_getElem? (i := 390) (by decide +kernel)), by decide +kernel⟩, List.mem_filter.mpr ⟨List.mem_append_left _ (List.mem_of_getElem? (i := 16) (by decide +kernel)), by decide +kernel⟩⟩
theorem mnRo_setKernel : Cond.initialized yRo_setKernel.cls ∈ wt := List.mem_filter.mpr ⟨List.mem_append_right _ (List.mem_of_getElem? (i := 6) (by decide +kernel)), by decide +kernel⟩
theorem mRo_insertPlace : Cond.code yRo_insertPlace prog_7_method_7_code 3 none ∈ wt := List.mem_filter.mpr ⟨List.mem_append_right _ (List.mem_of_getElem? (i := 395) (by decide +kernel)), by decide +kernel⟩
theorem miRo_insertPlace : Cond.instanceMethod yRo_insertPlace ∈ wt ∧ Cond.selects yRo_insertPlace.cls yRo_insertPlace yRo_insertPlace ∈ wt := ⟨List.mem_filter.mpr ⟨List.mem_append_right _ (List.mem_of_getElem? (i := 394) (by decide +kernel)), by decide +kernel⟩, List.mem_filter.mpr ⟨List.mem_append_left _ (List.mem_of_getElem? (i := 17) (by decide +kernel)), by decide +kernel⟩⟩
theorem mnRo_insertPlace : Cond.initialized yRo_insertPlace.cls ∈ wt := List.mem_filter.mpr ⟨List.mem_append_right _ (List.mem_of_getElem? (i := 6) (by decide +kernel)), by decide +kernel⟩
theorem mRo_comesBefore : Cond.code yRo_comesBefore prog_7_method_8_code 4 (some .boolean) ∈ wt := List.mem_filter.mpr ⟨List.mem_append_right _ (List.mem_of_getElem? (i := 399) (by decide +kernel)), by decide +kernel⟩
theorem miRo_comesBefore : Cond.instanceMethod yRo_comesBefore ∈ wt ∧ Cond.selects yRo_comesBefore.cls yRo_comesBefore yRo_comesBefore ∈ wt := ⟨List.mem_filter.mpr ⟨List.mem_append_right _ (List.mem_of_getElem? (i := 398) (by decide +kernel)), by decide +kernel⟩, List.mem_filter.mpr ⟨List.mem_append_left _ (List.mem_of_getElem? (i := 18) (by decide +kernel)), by decide +kernel⟩⟩
theorem mnRo_comesBefore : Cond.initialized yRo_comesBefore.cls ∈ wt := List.mem_filter.mpr ⟨List.mem_append_right _ (List.mem_of_getElem? (i := 6) (by decide +kernel)), by decide +kernel⟩
theorem mRo_listNormals : Cond.code yRo_listNormals prog_7_method_9_code 4 none ∈ wt := List.mem_filter.mpr ⟨List.mem_append_right _ (List.mem_of_getElem? (i := 403) (by decide +kernel)), by decide +kernel⟩
theorem miRo_listNormals : Cond.instanceMethod yRo_listNormals ∈ wt ∧ Cond.selects yRo_listNormals.cls yRo_listNormals yRo_listNormals ∈ wt := ⟨List.mem_filter.mpr ⟨List.mem_append_right _ (List.mem_of_getElem? (i := 402) (by decide +kernel)), by decide +kernel⟩, List.mem_filter.mpr ⟨List.mem_append_left _ (List.mem_of_getElem? (i := 19) (by decide +kernel)), by decide +kernel⟩⟩
theorem mnRo_listNormals : Cond.initialized yRo_listNormals.cls ∈ wt := List.mem_filter.mpr ⟨List.mem_append_right _ (List.mem_of_getElem? (i := 6) (by decide +kernel)), by decide +kernel⟩
theorem mRo_includeNormal : Cond.code yRo_includeNormal prog_7_method_10_code 3 none ∈ wt := List.mem_filter.mpr ⟨List.mem_append_right _ (List.mem_of_getElem? (i := 407) (by decide +kernel)), by decide +kernel⟩
theorem miRo_includeNormal : Cond.instanceMethod yRo_includeNormal ∈ wt ∧ Cond.selects yRo_includeNormal.cls yRo_includeNormal yRo_includeNormal ∈ wt := ⟨List.mem_filter.mpr ⟨List.mem_append_right _ (List.mem_of_getElem? (i := 406) (by decide +kernel)), by decide +kernel⟩, List.mem_filter.mpr ⟨List.mem_append_left _ (List.mem_of_getElem? (i := 20) (by decide +kernel)), by decide +kernel⟩⟩
theorem mnRo_includeNormal : Cond.initialized yRo_includeNormal.cls ∈ wt := List.mem_filter.mpr ⟨List.mem_append_right _ (List.mem_of_getElem? (i := 6) (by decide +kernel)), by decide +kernel⟩
theorem mRo_timesOfRoot : Cond.code yRo_timesOfRoot prog_7_method_11_code 11 (some .int) ∈ wt := List.mem_filter.mpr ⟨List.mem_append_right _ (List.mem_of_getElem? (i := 478) (by decide +kernel)), by decide +kernel⟩
theorem miRo_timesOfRoot : Cond.instanceMethod yRo_timesOfRoot ∈ wt ∧ Cond.selects yRo_timesOfRoot.cls yRo_timesOfRoot yRo_timesOfRoot ∈ wt := ⟨List.mem_filter.mpr ⟨List.mem_append_right _ (List.mem_of_getElem? (i := 476) (by decide +kernel)), by decide +kernel⟩, List.mem_filter.mpr ⟨List.mem_append_right _ (List.mem_of_getElem? (i := 477) (by decide +kernel)), by decide +kernel⟩⟩
theorem mnRo_timesOfRoot : Cond.initialized yRo_timesOfRoot.cls ∈ wt := List.mem_filter.mpr ⟨List.mem_append_right _ (List.mem_of_getElem? (i := 6) (by decide +kernel)), by decide +kernel⟩
theorem mMa_floorMod : Cond.code yMa_floorMod prog_10_method_50_code 3 (some .int) ∈ wt := List.mem_filter.mpr ⟨List.mem_append_right _ (List.mem_of_getElem? (i := 326) (by decide +kernel)), by decide +kernel⟩
theorem msMa_floorMod : Cond.static yMa_floorMod ∈ wt := List.mem_filter.mpr ⟨List.mem_append_right _ (List.mem_of_getElem? (i := 325) (by decide +kernel)), by decide +kernel⟩
theorem mnMa_floorMod : Cond.initialized yMa_floorMod.cls ∈ wt := List.mem_filter.mpr ⟨List.mem_append_right _ (List.mem_of_getElem? (i := 10) (by decide +kernel)), by decide +kernel⟩
theorem mMa_max : Cond.code yMa_max prog_10_method_65_code 2 (some .int) ∈ wt := List.mem_filter.mpr ⟨List.mem_append_right _ (List.mem_of_getElem? (i := 279) (by decide +kernel)), by decide +kernel⟩
theorem msMa_max : Cond.static yMa_max ∈ wt := List.mem_filter.mpr ⟨List.mem_append_right _ (List.mem_of_getElem? (i := 278) (by decide +kernel)), by decide +kernel⟩
theorem mnMa_max : Cond.initialized yMa_max.cls ∈ wt := List.mem_filter.mpr ⟨List.mem_append_right _ (List.mem_of_getElem? (i := 10) (by decide +kernel)), by decide +kernel⟩
theorem mAr_fill : Cond.code yAr_fill prog_12_method_103_code 4 none ∈ wt := List.mem_filter.mpr ⟨List.mem_append_right _ (List.mem_of_getElem? (i := 241) (by decide +kernel)), by decide +kernel⟩
theorem msAr_fill : Cond.static yAr_fill ∈ wt := List.mem_filter.mpr ⟨List.mem_append_right _ (List.mem_of_getElem? (i := 240) (by decide +kernel)), by decide +kernel⟩
theorem mnAr_fill : Cond.initialized yAr_fill.cls ∈ wt := List.mem_filter.mpr ⟨List.mem_append_right _ (List.mem_of_getElem? (i := 9) (by decide +kernel)), by decide +kernel⟩
theorem mcopy : Cond.native arraycopyName ∈ wt ∧ Cond.static arraycopyName ∈ wt ∧ Cond.initialized "java/lang/System" ∈ wt := ⟨by decide +kernel, by decide +kernel, List.mem_filter.mpr ⟨List.mem_append_right _ (List.mem_of_getElem? (i := 11) (by decide +kernel)), by decide +kernel⟩⟩
