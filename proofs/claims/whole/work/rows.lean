section
-- ===== PART A: goes FIRST, ahead of the names: the tables' words, and 'selects' of the private methods out of them =====
/-- a private method of a class that the tables say can be made, by its rows of tables_1 -/
def lw_okq (q : MethodName × Nat) : Prop := (q.1.cls ≠ "java/lang/invoke/MethodHandle" ∧ q.1.cls ≠ "java/lang/invoke/VarHandle") ∧ Cond.instantiable q.1.cls q.2 ∈ tables_1 ∧ Cond.privateMethod q.1 ∈ tables_1 ∧ Cond.instanceMethod q.1 ∈ tables_1
theorem lw_p0 : lw_okq (⟨"ClassCharacters", "workOut", "()I"⟩, 8) := ⟨⟨by decide +kernel, by decide +kernel⟩, List.mem_of_getElem? (i := 13) (by decide +kernel), List.mem_of_getElem? (i := 216) (by decide +kernel), List.mem_of_getElem? (i := 217) (by decide +kernel)⟩
theorem lw_p1 : lw_okq (⟨"ClassCharacters$Elements", "include", "(I)Z"⟩, 3) := ⟨⟨by decide +kernel, by decide +kernel⟩, List.mem_of_getElem? (i := 21) (by decide +kernel), List.mem_of_getElem? (i := 225) (by decide +kernel), List.mem_of_getElem? (i := 226) (by decide +kernel)⟩
theorem lw_p2 : lw_okq (⟨"ClassCharacters$Elements", "firstNotBelow", "(I)I"⟩, 3) := ⟨⟨by decide +kernel, by decide +kernel⟩, List.mem_of_getElem? (i := 21) (by decide +kernel), List.mem_of_getElem? (i := 229) (by decide +kernel), List.mem_of_getElem? (i := 230) (by decide +kernel)⟩
theorem lw_p3 : lw_okq (⟨"ClassCharacters$Conjugates", "gather", "(ILClassCharacters$Elements;)V"⟩, 8) := ⟨⟨by decide +kernel, by decide +kernel⟩, List.mem_of_getElem? (i := 42) (by decide +kernel), List.mem_of_getElem? (i := 243) (by decide +kernel), List.mem_of_getElem? (i := 244) (by decide +kernel)⟩
theorem lw_p4 : lw_okq (⟨"ClassCharacters$Residues", "orderOf", "(I)I"⟩, 2) := ⟨⟨by decide +kernel, by decide +kernel⟩, List.mem_of_getElem? (i := 83) (by decide +kernel), List.mem_of_getElem? (i := 281) (by decide +kernel), List.mem_of_getElem? (i := 282) (by decide +kernel)⟩
theorem lw_p5 : lw_okq (⟨"ClassCharacters$CentralMaps", "startWhole", "()V"⟩, 9) := ⟨⟨by decide +kernel, by decide +kernel⟩, List.mem_of_getElem? (i := 101) (by decide +kernel), List.mem_of_getElem? (i := 293) (by decide +kernel), List.mem_of_getElem? (i := 294) (by decide +kernel)⟩
theorem lw_p6 : lw_okq (⟨"ClassCharacters$CentralMaps", "setAction", "(IILClassCharacters$Conjugates;LClassCharacters$Residues;)V"⟩, 9) := ⟨⟨by decide +kernel, by decide +kernel⟩, List.mem_of_getElem? (i := 101) (by decide +kernel), List.mem_of_getElem? (i := 298) (by decide +kernel), List.mem_of_getElem? (i := 299) (by decide +kernel)⟩
theorem lw_p7 : lw_okq (⟨"ClassCharacters$CentralMaps", "split", "(IILClassCharacters$Residues;)V"⟩, 9) := ⟨⟨by decide +kernel, by decide +kernel⟩, List.mem_of_getElem? (i := 101) (by decide +kernel), List.mem_of_getElem? (i := 310) (by decide +kernel), List.mem_of_getElem? (i := 311) (by decide +kernel)⟩
theorem lw_p8 : lw_okq (⟨"ClassCharacters$CentralMaps", "setSystem", "(IILClassCharacters$Residues;)V"⟩, 9) := ⟨⟨by decide +kernel, by decide +kernel⟩, List.mem_of_getElem? (i := 101) (by decide +kernel), List.mem_of_getElem? (i := 314) (by decide +kernel), List.mem_of_getElem? (i := 315) (by decide +kernel)⟩
theorem lw_p9 : lw_okq (⟨"ClassCharacters$CentralMaps", "solve", "(ILClassCharacters$Residues;)V"⟩, 9) := ⟨⟨by decide +kernel, by decide +kernel⟩, List.mem_of_getElem? (i := 101) (by decide +kernel), List.mem_of_getElem? (i := 328) (by decide +kernel), List.mem_of_getElem? (i := 329) (by decide +kernel)⟩
theorem lw_p10 : lw_okq (⟨"ClassCharacters$CentralMaps", "swapRows", "(III)V"⟩, 9) := ⟨⟨by decide +kernel, by decide +kernel⟩, List.mem_of_getElem? (i := 101) (by decide +kernel), List.mem_of_getElem? (i := 332) (by decide +kernel), List.mem_of_getElem? (i := 333) (by decide +kernel)⟩
theorem lw_p11 : lw_okq (⟨"ClassCharacters$CentralMaps", "clearColumn", "(IIILClassCharacters$Residues;)V"⟩, 9) := ⟨⟨by decide +kernel, by decide +kernel⟩, List.mem_of_getElem? (i := 101) (by decide +kernel), List.mem_of_getElem? (i := 336) (by decide +kernel), List.mem_of_getElem? (i := 337) (by decide +kernel)⟩
theorem lw_p12 : lw_okq (⟨"ClassCharacters$CentralMaps", "takeSolution", "(IIIILClassCharacters$Residues;)V"⟩, 9) := ⟨⟨by decide +kernel, by decide +kernel⟩, List.mem_of_getElem? (i := 101) (by decide +kernel), List.mem_of_getElem? (i := 349) (by decide +kernel), List.mem_of_getElem? (i := 350) (by decide +kernel)⟩
theorem lw_p13 : lw_okq (⟨"ClassCharacters$CentralMaps", "scale", "(LClassCharacters$Residues;)V"⟩, 9) := ⟨⟨by decide +kernel, by decide +kernel⟩, List.mem_of_getElem? (i := 101) (by decide +kernel), List.mem_of_getElem? (i := 354) (by decide +kernel), List.mem_of_getElem? (i := 355) (by decide +kernel)⟩
theorem lw_p14 : lw_okq (⟨"ClassCharacters$Rows", "setValues", "(II[ILClassCharacters$Conjugates;LClassCharacters$Residues;)V"⟩, 8) := ⟨⟨by decide +kernel, by decide +kernel⟩, List.mem_of_getElem? (i := 137) (by decide +kernel), List.mem_of_getElem? (i := 362) (by decide +kernel), List.mem_of_getElem? (i := 363) (by decide +kernel)⟩
theorem lw_p15 : lw_okq (⟨"ClassCharacters$Rows", "setIndicator", "(IILClassCharacters$Conjugates;LClassCharacters$Residues;)V"⟩, 8) := ⟨⟨by decide +kernel, by decide +kernel⟩, List.mem_of_getElem? (i := 137) (by decide +kernel), List.mem_of_getElem? (i := 381) (by decide +kernel), List.mem_of_getElem? (i := 382) (by decide +kernel)⟩
def lw_privs_1 : List (MethodName × Nat) := [(⟨"ClassCharacters", "workOut", "()I"⟩, 8), (⟨"ClassCharacters$Elements", "include", "(I)Z"⟩, 3), (⟨"ClassCharacters$Elements", "firstNotBelow", "(I)I"⟩, 3), (⟨"ClassCharacters$Conjugates", "gather", "(ILClassCharacters$Elements;)V"⟩, 8), (⟨"ClassCharacters$Residues", "orderOf", "(I)I"⟩, 2), (⟨"ClassCharacters$CentralMaps", "startWhole", "()V"⟩, 9), (⟨"ClassCharacters$CentralMaps", "setAction", "(IILClassCharacters$Conjugates;LClassCharacters$Residues;)V"⟩, 9), (⟨"ClassCharacters$CentralMaps", "split", "(IILClassCharacters$Residues;)V"⟩, 9), (⟨"ClassCharacters$CentralMaps", "setSystem", "(IILClassCharacters$Residues;)V"⟩, 9), (⟨"ClassCharacters$CentralMaps", "solve", "(ILClassCharacters$Residues;)V"⟩, 9), (⟨"ClassCharacters$CentralMaps", "swapRows", "(III)V"⟩, 9), (⟨"ClassCharacters$CentralMaps", "clearColumn", "(IIILClassCharacters$Residues;)V"⟩, 9), (⟨"ClassCharacters$CentralMaps", "takeSolution", "(IIIILClassCharacters$Residues;)V"⟩, 9), (⟨"ClassCharacters$CentralMaps", "scale", "(LClassCharacters$Residues;)V"⟩, 9), (⟨"ClassCharacters$Rows", "setValues", "(II[ILClassCharacters$Conjugates;LClassCharacters$Residues;)V"⟩, 8), (⟨"ClassCharacters$Rows", "setIndicator", "(IILClassCharacters$Conjugates;LClassCharacters$Residues;)V"⟩, 8)]
theorem lw_r1 : ∀ q ∈ lw_privs_1, lw_okq q := List.forall_mem_cons.mpr ⟨lw_p0, List.forall_mem_cons.mpr ⟨lw_p1, List.forall_mem_cons.mpr ⟨lw_p2, List.forall_mem_cons.mpr ⟨lw_p3, List.forall_mem_cons.mpr ⟨lw_p4, List.forall_mem_cons.mpr ⟨lw_p5, List.forall_mem_cons.mpr ⟨lw_p6, List.forall_mem_cons.mpr ⟨lw_p7, List.forall_mem_cons.mpr ⟨lw_p8, List.forall_mem_cons.mpr ⟨lw_p9, List.forall_mem_cons.mpr ⟨lw_p10, List.forall_mem_cons.mpr ⟨lw_p11, List.forall_mem_cons.mpr ⟨lw_p12, List.forall_mem_cons.mpr ⟨lw_p13, List.forall_mem_cons.mpr ⟨lw_p14, List.forall_mem_cons.mpr ⟨lw_p15, fun _ h => absurd h List.not_mem_nil⟩⟩⟩⟩⟩⟩⟩⟩⟩⟩⟩⟩⟩⟩⟩⟩
theorem lw_p16 : lw_okq (⟨"ClassCharacters$Rows", "setKernel", "(I)V"⟩, 8) := ⟨⟨by decide +kernel, by decide +kernel⟩, List.mem_of_getElem? (i := 137) (by decide +kernel), List.mem_of_getElem? (i := 389) (by decide +kernel), List.mem_of_getElem? (i := 390) (by decide +kernel)⟩
theorem lw_p17 : lw_okq (⟨"ClassCharacters$Rows", "insertPlace", "(I)V"⟩, 8) := ⟨⟨by decide +kernel, by decide +kernel⟩, List.mem_of_getElem? (i := 137) (by decide +kernel), List.mem_of_getElem? (i := 393) (by decide +kernel), List.mem_of_getElem? (i := 394) (by decide +kernel)⟩
theorem lw_p18 : lw_okq (⟨"ClassCharacters$Rows", "comesBefore", "(II)Z"⟩, 8) := ⟨⟨by decide +kernel, by decide +kernel⟩, List.mem_of_getElem? (i := 137) (by decide +kernel), List.mem_of_getElem? (i := 397) (by decide +kernel), List.mem_of_getElem? (i := 398) (by decide +kernel)⟩
theorem lw_p19 : lw_okq (⟨"ClassCharacters$Rows", "listNormals", "()V"⟩, 8) := ⟨⟨by decide +kernel, by decide +kernel⟩, List.mem_of_getElem? (i := 137) (by decide +kernel), List.mem_of_getElem? (i := 401) (by decide +kernel), List.mem_of_getElem? (i := 402) (by decide +kernel)⟩
theorem lw_p20 : lw_okq (⟨"ClassCharacters$Rows", "includeNormal", "(I)V"⟩, 8) := ⟨⟨by decide +kernel, by decide +kernel⟩, List.mem_of_getElem? (i := 137) (by decide +kernel), List.mem_of_getElem? (i := 405) (by decide +kernel), List.mem_of_getElem? (i := 406) (by decide +kernel)⟩
theorem lw_p21 : lw_okq (⟨"ClassCharacters", "isBuilt", "()Z"⟩, 8) := ⟨⟨by decide +kernel, by decide +kernel⟩, List.mem_of_getElem? (i := 13) (by decide +kernel), List.mem_of_getElem? (i := 413) (by decide +kernel), List.mem_of_getElem? (i := 414) (by decide +kernel)⟩
theorem lw_p22 : lw_okq (⟨"ClassCharacters", "isClass", "(I)Z"⟩, 8) := ⟨⟨by decide +kernel, by decide +kernel⟩, List.mem_of_getElem? (i := 13) (by decide +kernel), List.mem_of_getElem? (i := 434) (by decide +kernel), List.mem_of_getElem? (i := 435) (by decide +kernel)⟩
theorem lw_p23 : lw_okq (⟨"ClassCharactersModel", "close", "()Z"⟩, 18) := ⟨⟨by decide +kernel, by decide +kernel⟩, List.mem_of_getElem? (i := 496) (by decide +kernel), List.mem_of_getElem? (i := 576) (by decide +kernel), List.mem_of_getElem? (i := 577) (by decide +kernel)⟩
theorem lw_p24 : lw_okq (⟨"ClassCharactersModel", "find", "(I)I"⟩, 18) := ⟨⟨by decide +kernel, by decide +kernel⟩, List.mem_of_getElem? (i := 496) (by decide +kernel), List.mem_of_getElem? (i := 584) (by decide +kernel), List.mem_of_getElem? (i := 585) (by decide +kernel)⟩
theorem lw_p25 : lw_okq (⟨"ClassCharactersModel", "classify", "()Z"⟩, 18) := ⟨⟨by decide +kernel, by decide +kernel⟩, List.mem_of_getElem? (i := 496) (by decide +kernel), List.mem_of_getElem? (i := 588) (by decide +kernel), List.mem_of_getElem? (i := 589) (by decide +kernel)⟩
theorem lw_p26 : lw_okq (⟨"ClassCharactersModel", "count", "()V"⟩, 18) := ⟨⟨by decide +kernel, by decide +kernel⟩, List.mem_of_getElem? (i := 496) (by decide +kernel), List.mem_of_getElem? (i := 595) (by decide +kernel), List.mem_of_getElem? (i := 596) (by decide +kernel)⟩
theorem lw_p27 : lw_okq (⟨"ClassCharactersModel", "numbers", "()V"⟩, 18) := ⟨⟨by decide +kernel, by decide +kernel⟩, List.mem_of_getElem? (i := 496) (by decide +kernel), List.mem_of_getElem? (i := 599) (by decide +kernel), List.mem_of_getElem? (i := 600) (by decide +kernel)⟩
theorem lw_p28 : lw_okq (⟨"ClassCharactersModel", "allAtOnce", "(I)Z"⟩, 18) := ⟨⟨by decide +kernel, by decide +kernel⟩, List.mem_of_getElem? (i := 496) (by decide +kernel), List.mem_of_getElem? (i := 603) (by decide +kernel), List.mem_of_getElem? (i := 604) (by decide +kernel)⟩
theorem lw_p29 : lw_okq (⟨"ClassCharactersModel", "powerOf", "(II)I"⟩, 18) := ⟨⟨by decide +kernel, by decide +kernel⟩, List.mem_of_getElem? (i := 496) (by decide +kernel), List.mem_of_getElem? (i := 607) (by decide +kernel), List.mem_of_getElem? (i := 608) (by decide +kernel)⟩
theorem lw_p30 : lw_okq (⟨"ClassCharactersModel", "isRoot", "(I)Z"⟩, 18) := ⟨⟨by decide +kernel, by decide +kernel⟩, List.mem_of_getElem? (i := 496) (by decide +kernel), List.mem_of_getElem? (i := 614) (by decide +kernel), List.mem_of_getElem? (i := 615) (by decide +kernel)⟩
theorem lw_p31 : lw_okq (⟨"ClassCharactersModel", "takeApart", "()V"⟩, 18) := ⟨⟨by decide +kernel, by decide +kernel⟩, List.mem_of_getElem? (i := 496) (by decide +kernel), List.mem_of_getElem? (i := 618) (by decide +kernel), List.mem_of_getElem? (i := 619) (by decide +kernel)⟩
def lw_privs_2 : List (MethodName × Nat) := [(⟨"ClassCharacters$Rows", "setKernel", "(I)V"⟩, 8), (⟨"ClassCharacters$Rows", "insertPlace", "(I)V"⟩, 8), (⟨"ClassCharacters$Rows", "comesBefore", "(II)Z"⟩, 8), (⟨"ClassCharacters$Rows", "listNormals", "()V"⟩, 8), (⟨"ClassCharacters$Rows", "includeNormal", "(I)V"⟩, 8), (⟨"ClassCharacters", "isBuilt", "()Z"⟩, 8), (⟨"ClassCharacters", "isClass", "(I)Z"⟩, 8), (⟨"ClassCharactersModel", "close", "()Z"⟩, 18), (⟨"ClassCharactersModel", "find", "(I)I"⟩, 18), (⟨"ClassCharactersModel", "classify", "()Z"⟩, 18), (⟨"ClassCharactersModel", "count", "()V"⟩, 18), (⟨"ClassCharactersModel", "numbers", "()V"⟩, 18), (⟨"ClassCharactersModel", "allAtOnce", "(I)Z"⟩, 18), (⟨"ClassCharactersModel", "powerOf", "(II)I"⟩, 18), (⟨"ClassCharactersModel", "isRoot", "(I)Z"⟩, 18), (⟨"ClassCharactersModel", "takeApart", "()V"⟩, 18)]
theorem lw_r2 : ∀ q ∈ lw_privs_2, lw_okq q := List.forall_mem_cons.mpr ⟨lw_p16, List.forall_mem_cons.mpr ⟨lw_p17, List.forall_mem_cons.mpr ⟨lw_p18, List.forall_mem_cons.mpr ⟨lw_p19, List.forall_mem_cons.mpr ⟨lw_p20, List.forall_mem_cons.mpr ⟨lw_p21, List.forall_mem_cons.mpr ⟨lw_p22, List.forall_mem_cons.mpr ⟨lw_p23, List.forall_mem_cons.mpr ⟨lw_p24, List.forall_mem_cons.mpr ⟨lw_p25, List.forall_mem_cons.mpr ⟨lw_p26, List.forall_mem_cons.mpr ⟨lw_p27, List.forall_mem_cons.mpr ⟨lw_p28, List.forall_mem_cons.mpr ⟨lw_p29, List.forall_mem_cons.mpr ⟨lw_p30, List.forall_mem_cons.mpr ⟨lw_p31, fun _ h => absurd h List.not_mem_nil⟩⟩⟩⟩⟩⟩⟩⟩⟩⟩⟩⟩⟩⟩⟩⟩
theorem lw_p32 : lw_okq (⟨"ClassCharactersModel", "split", "(II)V"⟩, 18) := ⟨⟨by decide +kernel, by decide +kernel⟩, List.mem_of_getElem? (i := 496) (by decide +kernel), List.mem_of_getElem? (i := 622) (by decide +kernel), List.mem_of_getElem? (i := 623) (by decide +kernel)⟩
theorem lw_p33 : lw_okq (⟨"ClassCharactersModel", "ratio", "(II)I"⟩, 18) := ⟨⟨by decide +kernel, by decide +kernel⟩, List.mem_of_getElem? (i := 496) (by decide +kernel), List.mem_of_getElem? (i := 626) (by decide +kernel), List.mem_of_getElem? (i := 627) (by decide +kernel)⟩
theorem lw_p34 : lw_okq (⟨"ClassCharactersModel", "multiply", "(III)V"⟩, 18) := ⟨⟨by decide +kernel, by decide +kernel⟩, List.mem_of_getElem? (i := 496) (by decide +kernel), List.mem_of_getElem? (i := 630) (by decide +kernel), List.mem_of_getElem? (i := 631) (by decide +kernel)⟩
theorem lw_p35 : lw_okq (⟨"ClassCharactersModel", "over", "(II)I"⟩, 18) := ⟨⟨by decide +kernel, by decide +kernel⟩, List.mem_of_getElem? (i := 496) (by decide +kernel), List.mem_of_getElem? (i := 634) (by decide +kernel), List.mem_of_getElem? (i := 635) (by decide +kernel)⟩
theorem lw_p36 : lw_okq (⟨"ClassCharactersModel", "mod", "(I)I"⟩, 18) := ⟨⟨by decide +kernel, by decide +kernel⟩, List.mem_of_getElem? (i := 496) (by decide +kernel), List.mem_of_getElem? (i := 638) (by decide +kernel), List.mem_of_getElem? (i := 639) (by decide +kernel)⟩
theorem lw_p37 : lw_okq (⟨"ClassCharactersModel", "raised", "(II)I"⟩, 18) := ⟨⟨by decide +kernel, by decide +kernel⟩, List.mem_of_getElem? (i := 496) (by decide +kernel), List.mem_of_getElem? (i := 642) (by decide +kernel), List.mem_of_getElem? (i := 643) (by decide +kernel)⟩
theorem lw_p38 : lw_okq (⟨"ClassCharactersModel", "fermat", "()V"⟩, 18) := ⟨⟨by decide +kernel, by decide +kernel⟩, List.mem_of_getElem? (i := 496) (by decide +kernel), List.mem_of_getElem? (i := 646) (by decide +kernel), List.mem_of_getElem? (i := 647) (by decide +kernel)⟩
theorem lw_p39 : lw_okq (⟨"ClassCharactersModel", "copy", "(II)V"⟩, 18) := ⟨⟨by decide +kernel, by decide +kernel⟩, List.mem_of_getElem? (i := 496) (by decide +kernel), List.mem_of_getElem? (i := 650) (by decide +kernel), List.mem_of_getElem? (i := 651) (by decide +kernel)⟩
theorem lw_p40 : lw_okq (⟨"ClassCharactersModel", "makeRow", "(I)V"⟩, 18) := ⟨⟨by decide +kernel, by decide +kernel⟩, List.mem_of_getElem? (i := 496) (by decide +kernel), List.mem_of_getElem? (i := 654) (by decide +kernel), List.mem_of_getElem? (i := 655) (by decide +kernel)⟩
theorem lw_p41 : lw_okq (⟨"ClassCharactersModel", "inverseOf", "(I)I"⟩, 18) := ⟨⟨by decide +kernel, by decide +kernel⟩, List.mem_of_getElem? (i := 496) (by decide +kernel), List.mem_of_getElem? (i := 658) (by decide +kernel), List.mem_of_getElem? (i := 659) (by decide +kernel)⟩
theorem lw_p42 : lw_okq (⟨"ClassCharactersModel", "comesBefore", "(II)Z"⟩, 18) := ⟨⟨by decide +kernel, by decide +kernel⟩, List.mem_of_getElem? (i := 496) (by decide +kernel), List.mem_of_getElem? (i := 662) (by decide +kernel), List.mem_of_getElem? (i := 663) (by decide +kernel)⟩
theorem lw_p43 : lw_okq (⟨"ClassCharactersModel", "exchange", "(II)V"⟩, 18) := ⟨⟨by decide +kernel, by decide +kernel⟩, List.mem_of_getElem? (i := 496) (by decide +kernel), List.mem_of_getElem? (i := 666) (by decide +kernel), List.mem_of_getElem? (i := 667) (by decide +kernel)⟩
theorem lw_p44 : lw_okq (⟨"ClassCharactersModel", "isClass", "(I)Z"⟩, 18) := ⟨⟨by decide +kernel, by decide +kernel⟩, List.mem_of_getElem? (i := 496) (by decide +kernel), List.mem_of_getElem? (i := 690) (by decide +kernel), List.mem_of_getElem? (i := 691) (by decide +kernel)⟩
theorem lw_p45 : lw_okq (⟨"ClassCharactersModel", "insert", "(II)I"⟩, 18) := ⟨⟨by decide +kernel, by decide +kernel⟩, List.mem_of_getElem? (i := 496) (by decide +kernel), List.mem_of_getElem? (i := 744) (by decide +kernel), List.mem_of_getElem? (i := 745) (by decide +kernel)⟩
def lw_privs_3 : List (MethodName × Nat) := [(⟨"ClassCharactersModel", "split", "(II)V"⟩, 18), (⟨"ClassCharactersModel", "ratio", "(II)I"⟩, 18), (⟨"ClassCharactersModel", "multiply", "(III)V"⟩, 18), (⟨"ClassCharactersModel", "over", "(II)I"⟩, 18), (⟨"ClassCharactersModel", "mod", "(I)I"⟩, 18), (⟨"ClassCharactersModel", "raised", "(II)I"⟩, 18), (⟨"ClassCharactersModel", "fermat", "()V"⟩, 18), (⟨"ClassCharactersModel", "copy", "(II)V"⟩, 18), (⟨"ClassCharactersModel", "makeRow", "(I)V"⟩, 18), (⟨"ClassCharactersModel", "inverseOf", "(I)I"⟩, 18), (⟨"ClassCharactersModel", "comesBefore", "(II)Z"⟩, 18), (⟨"ClassCharactersModel", "exchange", "(II)V"⟩, 18), (⟨"ClassCharactersModel", "isClass", "(I)Z"⟩, 18), (⟨"ClassCharactersModel", "insert", "(II)I"⟩, 18)]
theorem lw_r3 : ∀ q ∈ lw_privs_3, lw_okq q := List.forall_mem_cons.mpr ⟨lw_p32, List.forall_mem_cons.mpr ⟨lw_p33, List.forall_mem_cons.mpr ⟨lw_p34, List.forall_mem_cons.mpr ⟨lw_p35, List.forall_mem_cons.mpr ⟨lw_p36, List.forall_mem_cons.mpr ⟨lw_p37, List.forall_mem_cons.mpr ⟨lw_p38, List.forall_mem_cons.mpr ⟨lw_p39, List.forall_mem_cons.mpr ⟨lw_p40, List.forall_mem_cons.mpr ⟨lw_p41, List.forall_mem_cons.mpr ⟨lw_p42, List.forall_mem_cons.mpr ⟨lw_p43, List.forall_mem_cons.mpr ⟨lw_p44, List.forall_mem_cons.mpr ⟨lw_p45, fun _ h => absurd h List.not_mem_nil⟩⟩⟩⟩⟩⟩⟩⟩⟩⟩⟩⟩⟩⟩
def lw_privs : List (MethodName × Nat) := lw_privs_1 ++ (lw_privs_2 ++ (lw_privs_3))
def lw_tbl : List Cond := k2_sels lw_privs ++ tables_1
theorem lw_privs_ok : ∀ q ∈ lw_privs, lw_okq q := by
  show ∀ q ∈ lw_privs_1 ++ (lw_privs_2 ++ (lw_privs_3)), lw_okq q
  exact List.forall_mem_append.mpr ⟨lw_r1, List.forall_mem_append.mpr ⟨lw_r2, lw_r3⟩⟩
end
section
-- the walker: a method's code as a list, its verification condition by computation (sx_go), and the row that turns it into W
-- a value: an int, or a reference: cell n itself (n, 0), or row j of the grid n: (n, j + 1)
abbrev sx_V : Type := Int32 ⊕ (Nat × Nat)
-- a cell: an int array (length, contents); a grid (rows, columns, contents); an object (number of its kind, fields)
abbrev sx_C : Type := (Nat × (Nat → Int32)) ⊕ ((Nat × Nat × (Nat → Nat → Int32)) ⊕ (Nat × List sx_V))
abbrev sx_M : Type := Nat → sx_C
-- addresses of cells, of rows; the kinds int[] and int[][]
abbrev sx_E : Type := (Nat → Nat) × (Nat → Nat → Nat) × ClassId × ClassId
def sx_v (E : sx_E) : sx_V → Value
  | .inl x => .int x
  | .inr (n, 0) => .ref (E.1 n)
  | .inr (n, j + 1) => .ref (E.2.1 n j)
def sx_c (E : sx_E) (n : Nat) : sx_C → va_W
  | .inl (k, f) => [(E.1 n, .inl (E.2.2.1, k, .inl f))]
  | .inr (.inl (N, k, M)) => (E.1 n, .inl (E.2.2.2, N, .inr (.inr (.inr (.inr (fun i => if i < N then some (E.2.1 n i) else none)))))) :: (List.range N).map (fun i => (E.2.1 n i, .inl (E.2.2.1, k, .inl (M i))))
  | .inr (.inr (ci, fs)) => [(E.1 n, .inr (ci, fs.map (sx_v E)))]
def sx_w (E : sx_E) (B : Nat) (w : sx_M) : va_W := (List.range B).flatMap (fun n => sx_c E n (w n))
theorem sx_w_succ (E : sx_E) (B : Nat) (w : sx_M) : sx_w E (B + 1) w = sx_w E B w ++ sx_c E B (w B) := by
  simp [sx_w, List.range_succ, List.flatMap_append]
theorem sx_w_congr (E : sx_E) {w w' : sx_M} : ∀ B : Nat, (∀ n, n < B → w n = w' n) → sx_w E B w = sx_w E B w'
  | 0, _ => rfl
  | B + 1, h => by
    rw [sx_w_succ, sx_w_succ, sx_w_congr E B (fun n hn => h n (Nat.lt_succ_of_lt hn)), h B (Nat.lt_succ_self B)]
theorem sx_off (E : sx_E) (w : sx_M) (n : Nat) : ∀ B : Nat, n < B → ∃ o : Nat, (∀ (j : Nat) (q : Nat × va_E), (sx_c E n (w n))[j]? = some q → (sx_w E B w)[o + j]? = some q) ∧ ∀ (j : Nat) (q : Nat × va_E) (c' : sx_C), j < (sx_c E n (w n)).length → (sx_c E n (w n)).set j q = sx_c E n c' → (sx_w E B w).set (o + j) q = sx_w E B (va_up w n c')
  | 0, h => absurd h (Nat.not_lt_zero n)
  | B + 1, h => by
    by_cases e : n = B
    · subst e
      refine ⟨(sx_w E n w).length, fun j q hq => ?_, fun j q c' hj hs => ?_⟩
      · rw [sx_w_succ, List.getElem?_append_right (Nat.le_add_right _ _), Nat.add_sub_cancel_left]; exact hq
      · rw [sx_w_succ, sx_w_succ, List.set_append_right _ _ (Nat.le_add_right _ _), Nat.add_sub_cancel_left, hs, va_up_self,
          sx_w_congr E (w := va_up w n c') (w' := w) n (fun k hk => va_up_ne w c' (Nat.ne_of_lt hk))]
    · obtain ⟨o, h1, h2⟩ := sx_off E w n B (by omega)
      have hlt : ∀ j, j < (sx_c E n (w n)).length → o + j < (sx_w E B w).length := fun j hj => by
        have := h1 j _ (List.getElem?_eq_getElem hj)
        exact (List.getElem?_eq_some_iff.mp this).1
      refine ⟨o, fun j q hq => ?_, fun j q c' hj hs => ?_⟩
      · rw [sx_w_succ, List.getElem?_append_left (hlt j (List.getElem?_eq_some_iff.mp hq).1)]; exact h1 j q hq
      · rw [sx_w_succ, sx_w_succ, List.set_append_left _ _ (hlt j hj), h2 j q c' hj hs, va_up_ne w c' (fun z => e z.symm)]
-- locals
def sx_l (E : sx_E) : Nat → List (Option sx_V) → List (Nat × Value)
  | _, [] => []
  | i, none :: L => sx_l E (i + 1) L
  | i, some v :: L => (i, sx_v E v) :: sx_l E (i + 1) L
theorem sx_l_mem (E : sx_E) : ∀ (L : List (Option sx_V)) (b : Nat) (q : Nat × Value), q ∈ sx_l E b L ↔ ∃ (k : Nat) (x : sx_V), L[k]? = some (some x) ∧ q = (b + k, sx_v E x)
  | [], b, q => by simp [sx_l]
  | none :: L, b, q => by
    rw [sx_l, sx_l_mem E L (b + 1) q]
    constructor
    · rintro ⟨k, x, h1, h2⟩
      exact ⟨k + 1, x, by simpa using h1, by rw [h2, Nat.add_assoc, Nat.add_comm 1 k]⟩
    · rintro ⟨k, x, h1, h2⟩
      cases k with
      | zero => simp at h1
      | succ k => exact ⟨k, x, by simpa using h1, by rw [h2, Nat.add_assoc, Nat.add_comm 1 k]⟩
  | some v :: L, b, q => by
    rw [sx_l, List.mem_cons, sx_l_mem E L (b + 1) q]
    constructor
    · rintro (h | ⟨k, x, h1, h2⟩)
      · exact ⟨0, v, by simp, by rw [h, Nat.add_zero]⟩
      · exact ⟨k + 1, x, by simpa using h1, by rw [h2, Nat.add_assoc, Nat.add_comm 1 k]⟩
    · rintro ⟨k, x, h1, h2⟩
      cases k with
      | zero =>
        left
        simp at h1
        rw [h2, ← h1, Nat.add_zero]
      | succ k => right; exact ⟨k, x, by simpa using h1, by rw [h2, Nat.add_assoc, Nat.add_comm 1 k]⟩
theorem sx_lv_mono {ls : Array Slot} {nL : Nat} {l l' : List (Nat × Value)} (h : lv_has ls nL l) (hs : ∀ q, q ∈ l' → q ∈ l) : lv_has ls nL l' := ⟨h.1, h.2.1, fun q hq => h.2.2 q (hs q hq)⟩
theorem sx_lv_at {E : sx_E} {ls : Array Slot} {nL : Nat} {L : List (Option sx_V)} (h : lv_has ls nL (sx_l E 0 L)) {k : Nat} {x : sx_V} (hk : L[k]? = some (some x)) : ls[k]? = some (.val (sx_v E x)) := by
  have := h.2.2 (0 + k, sx_v E x) ((sx_l_mem E L 0 _).mpr ⟨k, x, hk, rfl⟩)
  simpa using this
theorem sx_v_cat (E : sx_E) : ∀ v : sx_V, (sx_v E v).category = 1
  | .inl _ => rfl
  | .inr (_, 0) => rfl
  | .inr (_, _ + 1) => rfl
theorem sx_lv_put {E : sx_E} {ls : Array Slot} {nL : Nat} {L : List (Option sx_V)} {i : Nat} {x : sx_V} (hi : i < L.length) (h : lv_has ls nL ((i, sx_v E x) :: (sx_l E 0 L).filter (fun q => !(q.1 == i) && !(q.1 + 1 == i && q.2.category == 2)))) : lv_has ls nL (sx_l E 0 (L.set i (some x))) := by
  refine sx_lv_mono h fun q hq => ?_
  obtain ⟨k, y, h1, h2⟩ := (sx_l_mem E _ 0 q).mp hq
  rw [Nat.zero_add] at h2
  rw [List.getElem?_set] at h1
  by_cases e : i = k
  · subst e
    rw [if_pos rfl, if_pos hi] at h1
    obtain rfl := Option.some.inj (Option.some.inj h1)
    rw [h2]; exact List.mem_cons_self
  · rw [if_neg e] at h1
    refine List.mem_cons_of_mem _ (List.mem_filter.mpr ⟨(sx_l_mem E L 0 q).mpr ⟨k, y, h1, by rw [Nat.zero_add]; exact h2⟩, ?_⟩)
    subst h2
    have h3 := sx_v_cat E y
    simp [h3, Ne.symm e]
-- one instruction: its condition, and where it goes on
abbrev sx_K : Type := Nat → List (Option sx_V) → List sx_V → sx_M → Prop
-- a callee: how many values it takes; from which values and cells it is known to end so
abbrev sx_S : Type := Nat × (List sx_V → sx_M → (Option sx_V → sx_M → Prop) → Prop)
def sx_ldi (L : List (Option sx_V)) (i : Nat) (k : Int32 → Prop) : Prop := match L[i]? with
  | some (some (.inl x)) => k x
  | _ => False
def sx_lda (L : List (Option sx_V)) (i : Nat) (k : Nat × Nat → Prop) : Prop := match L[i]? with
  | some (some (.inr x)) => k x
  | _ => False
def sx_t1 (st : List sx_V) (k : Int32 → List sx_V → Prop) : Prop := match st with
  | .inl x :: r => k x r
  | _ => False
def sx_t2 (st : List sx_V) (k : Int32 → Int32 → List sx_V → Prop) : Prop := match st with
  | .inl y :: .inl x :: r => k x y r
  | _ => False
def sx_ta (st : List sx_V) (k : Nat × Nat → List sx_V → Prop) : Prop := match st with
  | .inr a :: r => k a r
  | _ => False
def sx_if (c : ClassFile.Cond) (x y : Int32) (a b : Prop) : Prop := match c with
  | .eq => (x = y → a) ∧ (¬ x = y → b)
  | .ne => (¬ x = y → a) ∧ (x = y → b)
  | .lt => (x < y → a) ∧ (¬ x < y → b)
  | .ge => (y ≤ x → a) ∧ (¬ y ≤ x → b)
  | .gt => (y < x → a) ∧ (¬ y < x → b)
  | .le => (x ≤ y → a) ∧ (¬ x ≤ y → b)
-- fields, arrays
def sx_gf (B : Nat) (h : Nat × Nat) (w : sx_M) (a : Nat × Nat) (k : sx_V → Prop) : Prop := match a.2, w a.1 with
  | 0, .inr (.inr (ci, fs)) => a.1 < B ∧ ci = h.1 ∧ (match fs[h.2]? with
    | some v => k v
    | none => False)
  | _, _ => False
def sx_pf (B : Nat) (h : Nat × Nat) (w : sx_M) (a : Nat × Nat) (x : Int32) (k : sx_M → Prop) : Prop := match a.2, w a.1 with
  | 0, .inr (.inr (ci, fs)) => a.1 < B ∧ ci = h.1 % 100 ∧ (h.1 < 100 ∨ x = 0 ∨ x = 1) ∧ h.2 < fs.length ∧ k (va_up w a.1 (.inr (.inr (ci, fs.set h.2 (.inl x)))))
  | _, _ => False
def sx_ga (B : Nat) (w : sx_M) (a : Nat × Nat) (i : Int32) (k : Int32 → Prop) : Prop := match a.2, w a.1 with
  | 0, .inl (n, f) => a.1 < B ∧ vp_in i n ∧ k (f i.toNatClampNeg)
  | j + 1, .inr (.inl (N, n, M)) => a.1 < B ∧ j < N ∧ vp_in i n ∧ k (M j i.toNatClampNeg)
  | _, _ => False
def sx_pa (B : Nat) (w : sx_M) (a : Nat × Nat) (i x : Int32) (k : sx_M → Prop) : Prop := match a.2, w a.1 with
  | 0, .inl (n, f) => a.1 < B ∧ vp_in i n ∧ k (va_up w a.1 (.inl (n, upd f i.toNatClampNeg x)))
  | j + 1, .inr (.inl (N, n, M)) => a.1 < B ∧ j < N ∧ vp_in i n ∧ k (va_up w a.1 (.inr (.inl (N, n, va_up M j (upd (M j) i.toNatClampNeg x)))))
  | _, _ => False
def sx_gr (B : Nat) (w : sx_M) (a : Nat × Nat) (i : Int32) (k : sx_V → Prop) : Prop := match a.2, w a.1 with
  | 0, .inr (.inl (N, _, _)) => a.1 < B ∧ vp_in i N ∧ k (.inr (a.1, i.toNatClampNeg + 1))
  | _, _ => False
def sx_al (B : Nat) (w : sx_M) (a : Nat × Nat) (k : Int32 → Prop) : Prop := match a.2, w a.1 with
  | 0, .inl (n, _) => a.1 < B ∧ k (nI n)
  | 0, .inr (.inl (N, _, _)) => a.1 < B ∧ k (nI N)
  | j + 1, .inr (.inl (N, n, _)) => a.1 < B ∧ j < N ∧ k (nI n)
  | _, _ => False
def sx_call (S : sx_S) (pc : Nat) (L : List (Option sx_V)) (st : List sx_V) (w : sx_M) (K : sx_K) : Prop :=
  S.1 ≤ st.length ∧ (st.drop S.1).length ≤ 8 ∧ ∃ Q : Option sx_V → sx_M → Prop, S.2 (st.take S.1).reverse w Q ∧ ∀ (r : Option sx_V) (w' : sx_M), Q r w' → K (pc + 3) L (r.toList ++ st.drop S.1) w'
def sx_1 (B : Nat) (cs : Nat → sx_S) (Rt : Option sx_V → sx_M → Prop) (i : Instr) (h : Nat × Nat) (pc : Nat) (L : List (Option sx_V)) (st : List sx_V) (w : sx_M) (K : sx_K) : Prop := match i with
  | .iconst v => K (pc + 1) L (.inl (Int32.ofInt v) :: st) w
  | .bipush v => K (pc + 2) L (.inl (Int8.ofInt v).toInt32 :: st) w
  | .sipush v => K (pc + 3) L (.inl (Int16.ofInt v).toInt32 :: st) w
  | .ldc _ => K (pc + 2) L (.inl (nI h.1) :: st) w
  | .iload_n k => sx_ldi L k.val fun x => K (pc + 1) L (.inl x :: st) w
  | .iload k => sx_ldi L k fun x => K (pc + 2) L (.inl x :: st) w
  | .aload_n k => sx_lda L k.val fun a => K (pc + 1) L (.inr a :: st) w
  | .aload k => sx_lda L k fun a => K (pc + 2) L (.inr a :: st) w
  | .istore_n k => sx_t1 st fun x r => K (pc + 1) (L.set k.val (some (.inl x))) r w
  | .istore k => sx_t1 st fun x r => K (pc + 2) (L.set k (some (.inl x))) r w
  | .astore_n k => sx_ta st fun a r => K (pc + 1) (L.set k.val (some (.inr a))) r w
  | .astore k => sx_ta st fun a r => K (pc + 2) (L.set k (some (.inr a))) r w
  | .iinc k n => sx_ldi L k fun x => K (pc + 3) (L.set k (some (.inl (x + Int32.ofInt n)))) st w
  | .iadd => sx_t2 st fun x y r => K (pc + 1) L (.inl (x + y) :: r) w
  | .isub => sx_t2 st fun x y r => K (pc + 1) L (.inl (x - y) :: r) w
  | .imul => sx_t2 st fun x y r => K (pc + 1) L (.inl (x * y) :: r) w
  | .idiv => sx_t2 st fun x y r => ¬ y = 0 ∧ K (pc + 1) L (.inl (x / y) :: r) w
  | .irem => sx_t2 st fun x y r => ¬ y = 0 ∧ K (pc + 1) L (.inl (x - x / y * y) :: r) w
  | .iand => sx_t2 st fun x y r => K (pc + 1) L (.inl (x &&& y) :: r) w
  | .ior => sx_t2 st fun x y r => K (pc + 1) L (.inl (x ||| y) :: r) w
  | .ixor => sx_t2 st fun x y r => K (pc + 1) L (.inl (x ^^^ y) :: r) w
  | .ishl => sx_t2 st fun x y r => K (pc + 1) L (.inl (x <<< (y &&& 31)) :: r) w
  | .ishr => sx_t2 st fun x y r => K (pc + 1) L (.inl (x >>> (y &&& 31)) :: r) w
  | .iushr => sx_t2 st fun x y r => K (pc + 1) L (.inl (x.toUInt32 >>> (y.toUInt32 &&& Int32.toUInt32 31)).toInt32 :: r) w
  | .ineg => sx_t1 st fun x r => K (pc + 1) L (.inl (-x) :: r) w
  | .dup => match st with
    | a :: r => K (pc + 1) L (a :: a :: r) w
    | _ => False
  | .dup_x1 => match st with
    | a :: b :: r => K (pc + 1) L (a :: b :: a :: r) w
    | _ => False
  | .dup_x2 => match st with
    | a :: b :: d :: r => K (pc + 1) L (a :: b :: d :: a :: r) w
    | _ => False
  | .dup2 => match st with
    | a :: b :: r => K (pc + 1) L (a :: b :: a :: b :: r) w
    | _ => False
  | .pop => match st with
    | _ :: r => K (pc + 1) L r w
    | _ => False
  | .ifCond c _ => sx_t1 st fun x r => sx_if c x 0 (K h.1 L r w) (K (pc + 3) L r w)
  | .if_icmp c _ => sx_t2 st fun x y r => sx_if c x y (K h.1 L r w) (K (pc + 3) L r w)
  | .goto _ => K h.1 L st w
  | .getfield _ => sx_ta st fun a r => sx_gf B h w a fun v => K (pc + 3) L (v :: r) w
  | .putfield _ => sx_t1 st fun x r => sx_ta r fun a r => sx_pf B h w a x fun w' => K (pc + 3) L r w'
  | .iaload => sx_t1 st fun i r => sx_ta r fun a r => sx_ga B w a i fun v => K (pc + 1) L (.inl v :: r) w
  | .iastore => sx_t2 st fun i x r => sx_ta r fun a r => sx_pa B w a i x fun w' => K (pc + 1) L r w'
  | .aaload => sx_t1 st fun i r => sx_ta r fun a r => sx_gr B w a i fun v => K (pc + 1) L (v :: r) w
  | .arraylength => sx_ta st fun a r => sx_al B w a fun v => K (pc + 1) L (.inl v :: r) w
  | .invokestatic _ => sx_call (cs h.1) pc L st w K
  | .invokevirtual _ => sx_call (cs h.1) pc L st w K
  | .invokespecial _ => sx_call (cs h.1) pc L st w K
  | .ireturn => match st with
    | [.inl x] => Rt (some (.inl x)) w
    | _ => False
  | .return_ => match st with
    | [] => Rt none w
    | _ => False
  | _ => False
-- the run: up to a cut, or n instructions
abbrev sx_F : Type := Nat → Option (Instr × Nat × Nat)
def sx_go (B : Nat) (cs : Nat → sx_S) (Rt : Option sx_V → sx_M → Prop) (F : sx_F) (cut : Nat → Bool) (Z : sx_K) : Nat → sx_K
  | 0, pc, L, st, w => Z pc L st w
  | n + 1, pc, L, st, w => match F pc with
    | some i => sx_1 B cs Rt i.1 i.2 pc L st w (fun pc' L' st' w' => if cut pc' = true then Z pc' L' st' w' else sx_go B cs Rt F cut Z n pc' L' st' w')
    | none => False
-- Z is closed under the method's instructions
def sx_Cl (B : Nat) (cs : Nat → sx_S) (Rt : Option sx_V → sx_M → Prop) (F : sx_F) (Z : sx_K) : Prop :=
  ∀ K : sx_K, (∀ pc L st w, K pc L st w → Z pc L st w) → ∀ pc i L st w, F pc = some i → sx_1 B cs Rt i.1 i.2 pc L st w K → Z pc L st w
theorem sx_run {B : Nat} {cs : Nat → sx_S} {Rt : Option sx_V → sx_M → Prop} {F : sx_F} {Z : sx_K} (hZ : sx_Cl B cs Rt F Z) (cut : Nat → Bool) : ∀ (n pc : Nat) (L : List (Option sx_V)) (st : List sx_V) (w : sx_M), sx_go B cs Rt F cut Z n pc L st w → Z pc L st w
  | 0, _, _, _, _, h => h
  | n + 1, pc, L, st, w, h => by
    unfold sx_go at h
    cases hF : F pc with
    | none => rw [hF] at h; exact False.elim h
    | some i =>
      rw [hF] at h
      refine hZ _ (fun pc' L' st' w' h' => ?_) pc i L st w hF h
      by_cases hc : cut pc' = true
      · rw [if_pos hc] at h'; exact h'
      · rw [if_neg hc] at h'; exact sx_run hZ cut n pc' L' st' w' h'
def sx_len : Instr → Nat
  | .bipush _ => 2
  | .sipush _ => 3
  | .ldc _ => 2
  | .iload _ => 2
  | .aload _ => 2
  | .istore _ => 2
  | .astore _ => 2
  | .iinc _ _ => 3
  | .ifCond _ _ => 3
  | .if_icmp _ _ => 3
  | .goto _ => 3
  | .getfield _ => 3
  | .putfield _ => 3
  | .invokestatic _ => 3
  | .invokevirtual _ => 3
  | .invokespecial _ => 3
  | _ => 1
def sx_lk (own host : String) (Ts wn : List Cond) (ix : Nat) (r : vw_C) (k : Nat) : Bool :=
  decide (k < r.2.2) && decide ((r.2.1 k).1 = r.1) &&
  (if own = r.1 then decide (Cond.fieldLink own ix r.1 (r.2.1 k).2.1 (r.2.1 k).2.2.1 ∈ Ts) else decide (Cond.fieldLinkNest own ix r.1 (r.2.1 k).2.1 (r.2.1 k).2.2.1 host ∈ wn))
def sx_ok (own host : String) (cl : List vw_C) (Ts wn : List Cond) (nL pc : Nat) (i : Instr) (h : Nat × Nat) : Bool := match i with
  | .ldc ix => decide (Cond.constant own ix (nI h.1) ∈ Ts)
  | .istore_n k => decide (k.val < nL)
  | .istore k => decide (k < nL)
  | .astore_n k => decide (k.val < nL)
  | .astore k => decide (k < nL)
  | .iinc k _ => decide (k < nL)
  | .ifCond _ off => decide ((pc : Int) + off = (h.1 : Int))
  | .if_icmp _ off => decide ((pc : Int) + off = (h.1 : Int))
  | .goto off => decide ((pc : Int) + off = (h.1 : Int))
  | .getfield ix => match cl[h.1]? with
    | some r => sx_lk own host Ts wn ix r h.2
    | none => false
  | .putfield ix => match cl[h.1 % 100]? with
    | some r => sx_lk own host Ts wn ix r h.2 && decide ((r.2.1 h.2).2.2.2 = false) && decide ((r.2.1 h.2).2.2.1 = if h.1 < 100 then "I" else "Z")
    | none => false
  | _ => true
def sx_isC : Instr → Bool
  | .invokestatic _ => true
  | .invokevirtual _ => true
  | .invokespecial _ => true
  | _ => false
abbrev sx_ty (E : sx_E) : List (ClassId × FieldType) := [(E.2.2.1, .int), (E.2.2.2, .array .int)]
-- links to private members of nest mates: they go with the state, not with the words
def sx_isN : Cond → Bool
  | .fieldLinkNest _ _ _ _ _ _ => true
  | .methodLinkNest _ _ _ _ => true
  | _ => false
def sx_N (wn : List Cond) (U : State) : Prop := ∀ w, w ∈ wn → sx_isN w = true ∧ va_Nw w U
theorem sx_N_warm {wn : List Cond} {s U : State} (hW : s.WarmedH U.vm) (h : sx_N wn s) : sx_N wn U := fun w hw => by
  obtain ⟨h1, h2⟩ := h w hw
  refine ⟨h1, ?_⟩
  cases w with
  | fieldLinkNest a i b n d q => exact va_Nw.warmF hW h2
  | methodLinkNest a i x q => exact va_Nw.warmM hW h2
  | _ => cases h1
theorem sx_N_same {wn : List Cond} {s U : State} (hv : s.vm = U.vm) (h : sx_N wn s) : sx_N wn U := fun w hw => by
  obtain ⟨h1, h2⟩ := h w hw
  refine ⟨h1, ?_⟩
  cases w with
  | fieldLinkNest a i b n d q => exact va_tabs rfl hv h2
  | methodLinkNest a i x q => exact va_tabs rfl hv h2
  | _ => cases h1
theorem sx_N_f {wn : List Cond} {args : Array Value} {s : State} (h : sx_N wn s) {a : String} {i : Nat} {b n d q : String} (hw : Cond.fieldLinkNest a i b n d q ∈ wn) : (Cond.fieldLinkNest a i b n d q).before args s = true := va_Nw.use rfl (h _ hw).2
def sx_Pc (wn : List Cond) (E : sx_E) (B : Nat) (D : va_G) (cl : List vw_C) (A : Nat → Prop) (As : List sx_V) (w : sx_M) : Array Value → State → Prop :=
  va_Pc (As.map (sx_v E)) (fun U => va_P D cl (sx_w E B w) U.heap ∧ va_K D cl (sx_ty E) U ∧ va_D A (sx_w E B w) ∧ sx_N wn U)
def sx_Qc (E : sx_E) (B : Nat) (D : va_G) (cl : List vw_C) (A : Nat → Prop) (Rt : Option sx_V → sx_M → Prop) : Array Value → State → Outcome → State → Prop :=
  fun _ st oc t => (∃ (r : Option sx_V) (w' : sx_M), oc = .returned (r.map (sx_v E)) ∧ Rt r w' ∧ va_P D cl (sx_w E B w') t.heap ∧ va_K D cl (sx_ty E) t ∧ va_D A (sx_w E B w')) ∧ va_F A st t
def sx_Z (p : Program) (l : Launch) (e : Env) (R : Room) (s : State) (m : MethodId) (args : Array Value) (below : List Frame) (meth : Method) (c : Code) (Q : State → Prop) (D : va_G) (cl : List vw_C) (A : Nat → Prop) (H0 : Heap) (E : sx_E) (B nL : Nat) : sx_K :=
  fun pc L st w => ∀ (H : Heap) (locs : List Loc) (ls : Array Slot), L.length = nL → lv_has ls nL (sx_l E 0 L) → va_P D cl (sx_w E B w) H → va_D A (sx_w E B w) → va_S A H0 H locs → W p l e R s m args below meth c H locs 0 0 Q (F0 m pc ls (st.map (sx_v E)))
-- a call site's closure
def sx_Cal (l : Launch) (own : String) (Ts wn : List Cond) (R : Room) (D : va_G) (cl : List vw_C) (A : Nat → Prop) (E : sx_E) (B nL : Nat) (cc : ByteArray) (i : Instr) (S : sx_S) : Prop :=
  ∀ (p : Program) (e : Env) (s : State) (m : MethodId) (args : Array Value) (below : List Frame) (meth : Method) (c : Code) (Q : State → Prop) (H0 : Heap),
    CallFix p m c cc nL s args Ts own → va_K D cl (sx_ty E) s → sx_N wn s →
    ∀ K : sx_K, (∀ pc L st w, K pc L st w → sx_Z p l e R s m args below meth c Q D cl A H0 E B nL pc L st w) →
    ∀ (pc : Nat) (L : List (Option sx_V)) (st : List sx_V) (w : sx_M), decode cc pc = .ok (i, 3) → sx_call S pc L st w K → sx_Z p l e R s m args below meth c Q D cl A H0 E B nL pc L st w
theorem sx_v_ref (E : sx_E) : ∀ a : Nat × Nat, ∃ x : Nat, sx_v E (.inr a) = .ref x
  | (n, 0) => ⟨E.1 n, rfl⟩
  | (n, j + 1) => ⟨E.2.1 n j, rfl⟩
theorem sx_rset {α : Type} (f : Nat → α) (N j : Nat) (x : α) : ((List.range N).map f).set j x = (List.range N).map (va_up f j x) := by
  apply List.ext_getElem?
  intro k
  rw [List.getElem?_set, List.getElem?_map, List.getElem?_map]
  by_cases hk : k < N
  · rw [List.getElem?_range hk]
    by_cases e : j = k
    · subst e
      simp [va_up, hk]
    · simp [va_up, e, Ne.symm e]
  · have : (List.range N)[k]? = none := by simp; omega
    rw [this]
    by_cases e : j = k
    · subst e; simp [hk]
    · simp [e]
section SX
variable {p : Program} {l : Launch} {e : Env} {R : Room} {s : State} {m : MethodId} {args : Array Value} {below : List Frame} {meth : Method} {c : Code} {Q : State → Prop} {H : Heap} {locs : List Loc} {ls : Array Slot}
variable {cc : ByteArray} {D : va_G} {cl : List vw_C} {A : Nat → Prop} {H0 : Heap} {E : sx_E} {B nL pc : Nat} {Ts wn : List Cond} {own host : String} {rest : List Value} {w : sx_M}
theorem sx_w_ga (hx : p.tables.exec = Jvm.exec) (hb : c.code = cc) (hK : va_K D cl (sx_ty E) s) (hP : va_P D cl (sx_w E B w) H) {a : Nat × Nat} {i : Int32} {k : Int32 → Prop} (hdg : decode cc pc = .ok (.iaload, 1)) (hg : sx_ga B w a i k)
    (kk : ∀ v : Int32, k v → W p l e R s m args below meth c H locs 0 0 Q (F0 m (pc + 1) ls (.int v :: rest))) : W p l e R s m args below meth c H locs 0 0 Q (F0 m pc ls (.int i :: sx_v E (.inr a) :: rest)) := by
  obtain ⟨n, j⟩ := a
  cases j with
  | zero =>
    cases hw : w n with
    | inl q =>
      obtain ⟨N, f⟩ := q
      simp only [sx_ga, hw] at hg
      obtain ⟨hn, hi, hg⟩ := hg
      obtain ⟨o, h1, -⟩ := sx_off E w n B hn
      have h1 := h1 0 (E.1 n, .inl (E.2.2.1, N, .inl f)) (by rw [hw]; rfl)
      exact va_iald hx hb hK hP (o + 0) 0 h1 rfl hi hdg (kk _ hg)
    | inr q => simp only [sx_ga, hw] at hg
  | succ j =>
    cases hw : w n with
    | inl q => simp only [sx_ga, hw] at hg
    | inr q =>
      cases q with
      | inr q => simp only [sx_ga, hw] at hg
      | inl q =>
        obtain ⟨N, k', M⟩ := q
        simp only [sx_ga, hw] at hg
        obtain ⟨hn, hj, hi, hg⟩ := hg
        obtain ⟨o, h1, -⟩ := sx_off E w n B hn
        have h1 := h1 (j + 1) (E.2.1 n j, .inl (E.2.2.1, k', .inl (M j))) (by rw [hw]; simp [sx_c, List.getElem?_range hj])
        exact va_iald hx hb hK hP (o + (j + 1)) 0 h1 rfl hi hdg (kk _ hg)
theorem sx_w_pa (hx : p.tables.exec = Jvm.exec) (hb : c.code = cc) (hK : va_K D cl (sx_ty E) s) (hP : va_P D cl (sx_w E B w) H) (hD : va_D A (sx_w E B w)) (hS : va_S A H0 H locs) {a : Nat × Nat} {i x : Int32} {k : sx_M → Prop} (hdg : decode cc pc = .ok (.iastore, 1)) (hg : sx_pa B w a i x k)
    (kk : ∀ (w' : sx_M) (H1 : Heap) (locs1 : List Loc), k w' → va_P D cl (sx_w E B w') H1 → va_D A (sx_w E B w') → va_S A H0 H1 locs1 → W p l e R s m args below meth c H1 locs1 0 0 Q (F0 m (pc + 1) ls rest)) : W p l e R s m args below meth c H locs 0 0 Q (F0 m pc ls (.int x :: .int i :: sx_v E (.inr a) :: rest)) := by
  obtain ⟨n, j⟩ := a
  cases j with
  | zero =>
    cases hw : w n with
    | inl q =>
      obtain ⟨N, f⟩ := q
      simp only [sx_pa, hw] at hg
      obtain ⟨hn, hi, hg⟩ := hg
      obtain ⟨o, h1, h2⟩ := sx_off E w n B hn
      have h1 := h1 0 (E.1 n, .inl (E.2.2.1, N, .inl f)) (by rw [hw]; rfl)
      have h2 := h2 0 (E.1 n, .inl (E.2.2.1, N, .inl (upd f i.toNatClampNeg x))) (.inl (N, upd f i.toNatClampNeg x)) (by rw [hw]; simp [sx_c]) (by rw [hw]; rfl)
      refine va_iast hx hb hK hP hD hS (o + 0) 0 h1 rfl hi hdg (fun H1 locs1 hP1 hD1 hS1 => ?_)
      rw [h2] at hP1 hD1
      exact kk _ H1 locs1 hg hP1 hD1 hS1
    | inr q => simp only [sx_pa, hw] at hg
  | succ j =>
    cases hw : w n with
    | inl q => simp only [sx_pa, hw] at hg
    | inr q =>
      cases q with
      | inr q => simp only [sx_pa, hw] at hg
      | inl q =>
        obtain ⟨N, k', M⟩ := q
        simp only [sx_pa, hw] at hg
        obtain ⟨hn, hj, hi, hg⟩ := hg
        obtain ⟨o, h1, h2⟩ := sx_off E w n B hn
        have h1 := h1 (j + 1) (E.2.1 n j, .inl (E.2.2.1, k', .inl (M j))) (by rw [hw]; simp [sx_c, List.getElem?_range hj])
        have h2 := h2 (j + 1) (E.2.1 n j, .inl (E.2.2.1, k', .inl (upd (M j) i.toNatClampNeg x))) (.inr (.inl (N, k', va_up M j (upd (M j) i.toNatClampNeg x)))) (by rw [hw]; simp [sx_c]; omega) (by
          rw [hw]
          simp only [sx_c, List.set_cons_succ]
          rw [sx_rset]
          refine congrArg _ (List.map_congr_left fun b _ => ?_)
          by_cases hb9 : b = j
          · subst hb9; simp [va_up]
          · simp [va_up, hb9])
        refine va_iast hx hb hK hP hD hS (o + (j + 1)) 0 h1 rfl hi hdg (fun H1 locs1 hP1 hD1 hS1 => ?_)
        rw [h2] at hP1 hD1
        exact kk _ H1 locs1 hg hP1 hD1 hS1
theorem sx_ald {ws : va_W} {tys : List (ClassId × FieldType)} {a : Nat} (hexec : p.tables.exec = Jvm.exec) (hb : c.code = cc) (hK : va_K D cl tys s) (hP : va_P D cl ws H) (q0 t0 : Nat) {cA : ClassId} {t : FieldType} {n : Nat} {f : Nat → Option Nat} (ha : ws[q0]? = some (a, .inl (cA, n, .inr (.inr (.inr (.inr f)))))) (ht : tys[t0]? = some (cA, .array t)) {i : Int32} (hin : vp_in i n) (hdg : decode cc pc = .ok (.aaload, 1))
    (kk : W p l e R s m args below meth c H locs 0 0 Q (F0 m (pc + 1) ls (va_rf (f i.toNatClampNeg) :: rest))) : W p l e R s m args below meth c H locs 0 0 Q (F0 m pc ls (.int i :: .ref a :: rest)) := by
  have hlt : i.toNatClampNeg < n := Nat.not_le.mp fun q => hin (Or.inr q)
  exact W.aald (v := va_rf (f i.toNatClampNeg)) (ty := .array t) hexec hb (hP q0 _ ha) ((hK.2 t0 _ ht).1 n (fun j => va_rf (f j))) rfl (fun q => by cases q) (by show ¬ (i < 0 ∨ (arrV _ _ _).slots.size ≤ _); rw [arrV_size]; exact hin) (by show (arrV _ _ _).slots[_]? = _; rw [arrV_read _ _ hlt]) rfl rfl hdg kk
theorem sx_w_gr (hx : p.tables.exec = Jvm.exec) (hb : c.code = cc) (hK : va_K D cl (sx_ty E) s) (hP : va_P D cl (sx_w E B w) H) {a : Nat × Nat} {i : Int32} {k : sx_V → Prop} (hdg : decode cc pc = .ok (.aaload, 1)) (hg : sx_gr B w a i k)
    (kk : ∀ v : sx_V, k v → W p l e R s m args below meth c H locs 0 0 Q (F0 m (pc + 1) ls (sx_v E v :: rest))) : W p l e R s m args below meth c H locs 0 0 Q (F0 m pc ls (.int i :: sx_v E (.inr a) :: rest)) := by
  obtain ⟨n, j⟩ := a
  cases j with
  | succ j => cases hw : w n <;> simp only [sx_gr, hw] at hg
  | zero =>
    cases hw : w n with
    | inl q => simp only [sx_gr, hw] at hg
    | inr q =>
      cases q with
      | inr q => simp only [sx_gr, hw] at hg
      | inl q =>
        obtain ⟨N, k', M⟩ := q
        simp only [sx_gr, hw] at hg
        obtain ⟨hn, hi, hg⟩ := hg
        obtain ⟨o, h1, -⟩ := sx_off E w n B hn
        have h1 := h1 0 (E.1 n, .inl (E.2.2.2, N, .inr (.inr (.inr (.inr (fun i => if i < N then some (E.2.1 n i) else none)))))) (by rw [hw]; rfl)
        have h3 := kk _ hg
        have hlt : i.toNatClampNeg < N := Nat.not_le.mp fun q => hi (Or.inr q)
        exact sx_ald hx hb hK hP (o + 0) 1 h1 rfl hi hdg (by simp only [hlt, if_true, va_rf]; exact h3)
theorem sx_w_al (hx : p.tables.exec = Jvm.exec) (hb : c.code = cc) (hK : va_K D cl (sx_ty E) s) (hP : va_P D cl (sx_w E B w) H) {a : Nat × Nat} {k : Int32 → Prop} (hdg : decode cc pc = .ok (.arraylength, 1)) (hg : sx_al B w a k)
    (kk : ∀ v : Int32, k v → W p l e R s m args below meth c H locs 0 0 Q (F0 m (pc + 1) ls (.int v :: rest))) : W p l e R s m args below meth c H locs 0 0 Q (F0 m pc ls (sx_v E (.inr a) :: rest)) := by
  obtain ⟨n, j⟩ := a
  cases j with
  | zero =>
    cases hw : w n with
    | inl q =>
      obtain ⟨N, f⟩ := q
      simp only [sx_al, hw] at hg
      obtain ⟨hn, hg⟩ := hg
      obtain ⟨o, h1, -⟩ := sx_off E w n B hn
      have h1 := h1 0 (E.1 n, .inl (E.2.2.1, N, .inl f)) (by rw [hw]; rfl)
      exact va_alen hx hb hK hP (o + 0) 0 h1 rfl rfl hdg (kk _ hg)
    | inr q =>
      cases q with
      | inr q => simp only [sx_al, hw] at hg
      | inl q =>
        obtain ⟨N, k', M⟩ := q
        simp only [sx_al, hw] at hg
        obtain ⟨hn, hg⟩ := hg
        obtain ⟨o, h1, -⟩ := sx_off E w n B hn
        have h1 := h1 0 (E.1 n, .inl (E.2.2.2, N, .inr (.inr (.inr (.inr (fun i => if i < N then some (E.2.1 n i) else none)))))) (by rw [hw]; rfl)
        exact va_alen hx hb hK hP (o + 0) 1 h1 rfl rfl hdg (kk _ hg)
  | succ j =>
    cases hw : w n with
    | inl q => simp only [sx_al, hw] at hg
    | inr q =>
      cases q with
      | inr q => simp only [sx_al, hw] at hg
      | inl q =>
        obtain ⟨N, k', M⟩ := q
        simp only [sx_al, hw] at hg
        obtain ⟨hn, hj, hg⟩ := hg
        obtain ⟨o, h1, -⟩ := sx_off E w n B hn
        have h1 := h1 (j + 1) (E.2.1 n j, .inl (E.2.2.1, k', .inl (M j))) (by rw [hw]; simp [sx_c, List.getElem?_range hj])
        exact va_alen hx hb hK hP (o + (j + 1)) 0 h1 rfl rfl hdg (kk _ hg)
theorem sx_lk_of {ix : Nat} {r : vw_C} {k : Nat} (h : sx_lk own host Ts wn ix r k = true) : k < r.2.2 ∧ (r.2.1 k).1 = r.1 ∧ ((own = r.1 ∧ Cond.fieldLink own ix r.1 (r.2.1 k).2.1 (r.2.1 k).2.2.1 ∈ Ts) ∨ Cond.fieldLinkNest own ix r.1 (r.2.1 k).2.1 (r.2.1 k).2.2.1 host ∈ wn) := by
  unfold sx_lk at h
  rw [Bool.and_eq_true, Bool.and_eq_true] at h
  obtain ⟨⟨h1, h2⟩, h4⟩ := h
  refine ⟨of_decide_eq_true h1, of_decide_eq_true h2, ?_⟩
  by_cases e : own = r.1
  · rw [if_pos e] at h4; exact Or.inl ⟨e, of_decide_eq_true h4⟩
  · rw [if_neg e] at h4; exact Or.inr (of_decide_eq_true h4)
def sx_Tw (cl : List vw_C) (Ts : List Cond) : Prop := ∀ (ci : Nat) (r : vw_C), cl[ci]? = some r → ∀ w ∈ u_ws r.1 r.2.1 r.2.2, w ∈ Ts
theorem sx_w_gf (hx : p.tables.exec = Jvm.exec) (hb : c.code = cc) (hts : ∀ w ∈ Ts, w.before args s = true) (hN : sx_N wn s) (hTw : sx_Tw cl Ts) (hown : s.vm.findClass own = some m.cls) (hK : va_K D cl (sx_ty E) s) (hP : va_P D cl (sx_w E B w) H) {a : Nat × Nat} {h : Nat × Nat} {ix : Nat} {k : sx_V → Prop} {r : vw_C} (hr : cl[h.1]? = some r) (hlk : sx_lk own host Ts wn ix r h.2 = true) (hdg : decode cc pc = .ok (.getfield ix, 3)) (hg : sx_gf B h w a k)
    (kk : ∀ v : sx_V, k v → W p l e R s m args below meth c H locs 0 0 Q (F0 m (pc + 3) ls (sx_v E v :: rest))) : W p l e R s m args below meth c H locs 0 0 Q (F0 m pc ls (sx_v E (.inr a) :: rest)) := by
  obtain ⟨n, j⟩ := a
  cases j with
  | succ j => cases hw : w n <;> simp only [sx_gf, hw] at hg
  | zero =>
    cases hw : w n with
    | inl q => simp only [sx_gf, hw] at hg
    | inr q =>
      cases q with
      | inl q => simp only [sx_gf, hw] at hg
      | inr q =>
        obtain ⟨ci, fs⟩ := q
        simp only [sx_gf, hw] at hg
        obtain ⟨hn, rfl, hg⟩ := hg
        cases hf : fs[h.2]? with
        | none => rw [hf] at hg; exact False.elim hg
        | some v =>
          rw [hf] at hg
          obtain ⟨o, h1, -⟩ := sx_off E w n B hn
          have h1 := h1 0 (E.1 n, .inr (h.1, fs.map (sx_v E))) (by rw [hw]; rfl)
          obtain ⟨e1, e2, e4⟩ := sx_lk_of hlk
          have e3 := hTw _ _ hr
          have hv : (fs.map (sx_v E))[h.2]? = some (sx_v E v) := by rw [List.getElem?_map, hf]; rfl
          obtain ⟨C, T, N⟩ := r
          rcases e4 with ⟨-, e4⟩ | e4
          · exact va_get hx hb hts e3 hown hK hP (o + 0) h1 hr h.2 e1 (hts _ e4) (fun x9 h9 => by rw [e2] at h9; exact h9) hv hdg (kk v hg)
          · exact va_getN hx hb hts e3 hown hK hP (o + 0) h1 hr h.2 e1 (sx_N_f hN e4) (fun x9 h9 => by rw [e2] at h9; exact h9) hv hdg (kk v hg)
def sx_Tb (cl : List vw_C) : Prop := ∀ (ci : Nat) (r : vw_C), cl[ci]? = some r → (∃ ty0 : Nat → FieldType, ∀ k, k < r.2.2 → parseFieldDescriptor (r.2.1 k).2.2.1 = some (ty0 k)) ∧ (∀ a, a < r.2.2 → ∀ b, b < r.2.2 → a ≠ b → (r.2.1 a).2.1 ≠ (r.2.1 b).2.1)
theorem sx_dI : parseFieldDescriptor "I" = some .int := by decide +kernel
theorem sx_dZ : parseFieldDescriptor "Z" = some .boolean := by decide +kernel
theorem sx_w_pf (hx : p.tables.exec = Jvm.exec) (hb : c.code = cc) (hts : ∀ w ∈ Ts, w.before args s = true) (hN : sx_N wn s) (hTw : sx_Tw cl Ts) (hown : s.vm.findClass own = some m.cls) (hK : va_K D cl (sx_ty E) s) (hcl : sx_Tb cl) (hP : va_P D cl (sx_w E B w) H) (hD : va_D A (sx_w E B w)) (hS : va_S A H0 H locs) {a : Nat × Nat} {h : Nat × Nat} {ix : Nat} {x : Int32} {k : sx_M → Prop} {r : vw_C} (hr : cl[h.1 % 100]? = some r) (hlk : sx_lk own host Ts wn ix r h.2 = true) (hfin : (r.2.1 h.2).2.2.2 = false) (hI : (r.2.1 h.2).2.2.1 = if h.1 < 100 then "I" else "Z") (hdg : decode cc pc = .ok (.putfield ix, 3)) (hg : sx_pf B h w a x k)
    (kk : ∀ (w' : sx_M) (H1 : Heap) (locs1 : List Loc), k w' → va_P D cl (sx_w E B w') H1 → va_D A (sx_w E B w') → va_S A H0 H1 locs1 → W p l e R s m args below meth c H1 locs1 0 0 Q (F0 m (pc + 3) ls rest)) : W p l e R s m args below meth c H locs 0 0 Q (F0 m pc ls (.int x :: sx_v E (.inr a) :: rest)) := by
  obtain ⟨n, j⟩ := a
  cases j with
  | succ j => cases hw : w n <;> simp only [sx_pf, hw] at hg
  | zero =>
    cases hw : w n with
    | inl q => simp only [sx_pf, hw] at hg
    | inr q =>
      cases q with
      | inl q => simp only [sx_pf, hw] at hg
      | inr q =>
        obtain ⟨ci, fs⟩ := q
        simp only [sx_pf, hw] at hg
        obtain ⟨hn, rfl, hbo, hlen, hg⟩ := hg
        obtain ⟨o, h1, h2⟩ := sx_off E w n B hn
        have h1 := h1 0 (E.1 n, .inr (h.1 % 100, fs.map (sx_v E))) (by rw [hw]; rfl)
        have h2 := h2 0 (E.1 n, .inr (h.1 % 100, (fs.map (sx_v E)).set h.2 (.int x))) (.inr (.inr (h.1 % 100, fs.set h.2 (.inl x)))) (by rw [hw]; simp [sx_c]) (by rw [hw]; simp [sx_c, List.map_set, sx_v])
        obtain ⟨e1, e2, e4⟩ := sx_lk_of hlk
        have e3 := hTw _ _ hr
        obtain ⟨⟨ty0, hty⟩, hnm⟩ := hcl (h.1 % 100) r hr
        obtain ⟨C, T, N⟩ := r
        have hd9 : ∃ ty : FieldType, parseFieldDescriptor (T h.2).2.2.1 = some ty ∧ narrow ty (.int x) = .int x ∧ fits ty (.int x) = true := by
          have h9 : (T h.2).2.2.1 = if h.1 < 100 then "I" else "Z" := hI
          rcases hbo with h100 | hx01
          · rw [if_pos h100] at h9
            exact ⟨.int, by rw [h9]; exact sx_dI, rfl, rfl⟩
          · by_cases h100 : h.1 < 100
            · rw [if_pos h100] at h9
              exact ⟨.int, by rw [h9]; exact sx_dI, rfl, rfl⟩
            · rw [if_neg h100] at h9
              refine ⟨.boolean, by rw [h9]; exact sx_dZ, ?_, ?_⟩
              · rcases hx01 with rfl | rfl <;> decide
              · rcases hx01 with rfl | rfl <;> decide
        obtain ⟨ty, hd9, hnar, hfit⟩ := hd9
        rcases e4 with ⟨-, e4⟩ | e4
        · refine va_put hx hb hts e3 ty0 hty hnm hown hK hP hD hS (o + 0) h1 hr h.2 e1 (hts _ e4) (fun x9 h9 => by rw [e2] at h9; exact h9) hfin hd9 hnar hfit (by rw [List.length_map]; exact hlen) hdg (fun H1 locs1 hP1 hD1 hS1 => ?_)
          rw [h2] at hP1 hD1
          exact kk _ H1 locs1 hg hP1 hD1 hS1
        · refine va_putN hx hb hts e3 ty0 hty hnm hown hK hP hD hS (o + 0) h1 hr h.2 e1 (sx_N_f hN e4) (fun x9 h9 => by rw [e2] at h9; exact h9) hfin hd9 hnar hfit (by rw [List.length_map]; exact hlen) hdg (fun H1 locs1 hP1 hD1 hS1 => ?_)
          rw [h2] at hP1 hD1
          exact kk _ H1 locs1 hg hP1 hD1 hS1
end SX
end
section
-- the row of an instruction: its condition gives W
section SX2
variable {p : Program} {l : Launch} {e : Env} {R : Room} {s : State} {m : MethodId} {args : Array Value} {below : List Frame} {meth : Method} {c : Code} {Q : State → Prop}
variable {cc : ByteArray} {D : va_G} {cl : List vw_C} {A : Nat → Prop} {H0 : Heap} {E : sx_E} {B nL : Nat} {Ts wn : List Cond} {own host : String} {cs : Nat → sx_S} {Rt : Option sx_V → sx_M → Prop}
-- what a return owes
def sx_Ret (p : Program) (l : Launch) (e : Env) (R : Room) (s : State) (m : MethodId) (args : Array Value) (below : List Frame) (meth : Method) (c : Code) (Q : State → Prop) (D : va_G) (cl : List vw_C) (A : Nat → Prop) (H0 : Heap) (E : sx_E) (B : Nat) (cc : ByteArray) (Rt : Option sx_V → sx_M → Prop) : Prop :=
  (∀ (pc : Nat) (x : Int32) (w : sx_M) (H : Heap) (locs : List Loc) (ls : Array Slot), decode cc pc = .ok (.ireturn, 1) → Rt (some (.inl x)) w → va_P D cl (sx_w E B w) H → va_D A (sx_w E B w) → va_S A H0 H locs → W p l e R s m args below meth c H locs 0 0 Q (F0 m pc ls [.int x])) ∧
  (∀ (pc : Nat) (w : sx_M) (H : Heap) (locs : List Loc) (ls : Array Slot), decode cc pc = .ok (.return_, 1) → Rt none w → va_P D cl (sx_w E B w) H → va_D A (sx_w E B w) → va_S A H0 H locs → W p l e R s m args below meth c H locs 0 0 Q (F0 m pc ls []))
set_option maxHeartbeats 4000000 in
set_option maxRecDepth 100000 in
theorem sx_sound (hx : p.tables.exec = Jvm.exec) (hb : c.code = cc) (hts : ∀ w ∈ Ts, w.before args s = true) (hN : sx_N wn s) (hTw : sx_Tw cl Ts) (hown : s.vm.findClass own = some m.cls) (hK : va_K D cl (sx_ty E) s) (hcl : sx_Tb cl)
    (hRt : sx_Ret p l e R s m args below meth c Q D cl A H0 E B cc Rt) {K : sx_K} (hk : ∀ pc L st w, K pc L st w → sx_Z p l e R s m args below meth c Q D cl A H0 E B nL pc L st w)
    {i : Instr} {h : Nat × Nat} {pc : Nat} {L : List (Option sx_V)} {st : List sx_V} {w : sx_M} (hd : decode cc pc = .ok (i, sx_len i)) (hok : sx_ok own host cl Ts wn nL pc i h = true)
    (hcall : sx_isC i = true → sx_call (cs h.1) pc L st w K → sx_Z p l e R s m args below meth c Q D cl A H0 E B nL pc L st w)
    (hv : sx_1 B cs Rt i h pc L st w K) : sx_Z p l e R s m args below meth c Q D cl A H0 E B nL pc L st w := by
  cases i with
  | iconst v => exact fun H locs ls hL hl hP hD hS => lv_iconst hx hb hd rfl (hk _ _ _ _ hv H locs ls hL hl hP hD hS)
  | bipush v => exact fun H locs ls hL hl hP hD hS => lv_bipush hx hb hd rfl (hk _ _ _ _ hv H locs ls hL hl hP hD hS)
  | sipush v => exact fun H locs ls hL hl hP hD hS => lv_sipush hx hb hd rfl (hk _ _ _ _ hv H locs ls hL hl hP hD hS)
  | ldc ix => exact fun H locs ls hL hl hP hD hS => lv_ldc hx hb hown (hts _ (of_decide_eq_true hok)) hd (hk _ _ _ _ hv H locs ls hL hl hP hD hS)
  | iload_n k =>
    simp only [sx_1, sx_ldi] at hv
    split at hv
    · next heq => exact fun H locs ls hL hl hP hD hS => lv_iload_n hx hb hd rfl (sx_lv_at hl heq) (hk _ _ _ _ hv H locs ls hL hl hP hD hS)
    · exact False.elim hv
  | iload k =>
    simp only [sx_1, sx_ldi] at hv
    split at hv
    · next heq => exact fun H locs ls hL hl hP hD hS => lv_iload hx hb hd (sx_lv_at hl heq) (hk _ _ _ _ hv H locs ls hL hl hP hD hS)
    · exact False.elim hv
  | aload_n k =>
    simp only [sx_1, sx_lda] at hv
    split at hv
    · next a heq =>
      obtain ⟨x, hx9⟩ := sx_v_ref E a
      refine fun H locs ls hL hl hP hD hS => lv_aload_n hx hb hd rfl (by rw [← hx9]; exact sx_lv_at hl heq) ?_
      have h9 := hk _ _ _ _ hv H locs ls hL hl hP hD hS
      rw [List.map_cons, hx9] at h9
      exact h9
    · exact False.elim hv
  | aload k =>
    simp only [sx_1, sx_lda] at hv
    split at hv
    · next a heq =>
      obtain ⟨x, hx9⟩ := sx_v_ref E a
      refine fun H locs ls hL hl hP hD hS => lv_aload hx hb hd (by rw [← hx9]; exact sx_lv_at hl heq) ?_
      have h9 := hk _ _ _ _ hv H locs ls hL hl hP hD hS
      rw [List.map_cons, hx9] at h9
      exact h9
    · exact False.elim hv
  | istore_n k =>
    simp only [sx_1, sx_t1] at hv
    split at hv
    · next x r =>
      have hkn : k.val < nL := of_decide_eq_true hok
      exact fun H locs ls hL hl hP hD hS => lv_istore_n hx hb hd rfl hl hkn rfl (fun ls' hl' => hk _ _ _ _ hv H locs ls' (by rw [List.length_set]; exact hL) (sx_lv_put (by rw [hL]; exact hkn) hl') hP hD hS)
    · exact False.elim hv
  | istore k =>
    simp only [sx_1, sx_t1] at hv
    split at hv
    · next x r =>
      have hkn : k < nL := of_decide_eq_true hok
      exact fun H locs ls hL hl hP hD hS => lv_istore hx hb hd hl hkn rfl (fun ls' hl' => hk _ _ _ _ hv H locs ls' (by rw [List.length_set]; exact hL) (sx_lv_put (by rw [hL]; exact hkn) hl') hP hD hS)
    · exact False.elim hv
  | astore_n k =>
    simp only [sx_1, sx_ta] at hv
    split at hv
    · next a r =>
      have hkn : k.val < nL := of_decide_eq_true hok
      obtain ⟨x, hx9⟩ := sx_v_ref E a
      intro H locs ls hL hl hP hD hS
      rw [List.map_cons, hx9]
      exact lv_astore_n hx hb hd rfl hl hkn rfl (fun ls' hl' => hk _ _ _ _ hv H locs ls' (by rw [List.length_set]; exact hL) (sx_lv_put (by rw [hL]; exact hkn) (by rw [hx9]; exact hl')) hP hD hS)
    · exact False.elim hv
  | astore k =>
    simp only [sx_1, sx_ta] at hv
    split at hv
    · next a r =>
      have hkn : k < nL := of_decide_eq_true hok
      obtain ⟨x, hx9⟩ := sx_v_ref E a
      intro H locs ls hL hl hP hD hS
      rw [List.map_cons, hx9]
      exact lv_astore hx hb hd hl hkn rfl (fun ls' hl' => hk _ _ _ _ hv H locs ls' (by rw [List.length_set]; exact hL) (sx_lv_put (by rw [hL]; exact hkn) (by rw [hx9]; exact hl')) hP hD hS)
    · exact False.elim hv
  | iinc k n =>
    simp only [sx_1, sx_ldi] at hv
    split at hv
    · next x heq =>
      have hkn : k < nL := of_decide_eq_true hok
      intro H locs ls hL hl hP hD hS
      obtain ⟨j, hj⟩ := List.mem_iff_getElem?.mp ((sx_l_mem E L 0 (0 + k, sx_v E (.inl x))).mpr ⟨k, _, heq, rfl⟩)
      rw [Nat.zero_add] at hj
      exact lv_iinc hx hb hd hl hj rfl hkn rfl (fun ls' hl' => hk _ _ _ _ hv H locs ls' (by rw [List.length_set]; exact hL) (sx_lv_put (by rw [hL]; exact hkn) hl') hP hD hS)
    · exact False.elim hv
  | iadd =>
    simp only [sx_1, sx_t2] at hv
    split at hv
    · exact fun H locs ls hL hl hP hD hS => lv_iadd hx hb hd (hk _ _ _ _ hv H locs ls hL hl hP hD hS)
    · exact False.elim hv
  | isub =>
    simp only [sx_1, sx_t2] at hv
    split at hv
    · exact fun H locs ls hL hl hP hD hS => lv_isub hx hb hd (hk _ _ _ _ hv H locs ls hL hl hP hD hS)
    · exact False.elim hv
  | imul =>
    simp only [sx_1, sx_t2] at hv
    split at hv
    · exact fun H locs ls hL hl hP hD hS => lv_imul hx hb hd (hk _ _ _ _ hv H locs ls hL hl hP hD hS)
    · exact False.elim hv
  | idiv =>
    simp only [sx_1, sx_t2] at hv
    split at hv
    · exact fun H locs ls hL hl hP hD hS => lv_idiv hx hb hd hv.1 (hk _ _ _ _ hv.2 H locs ls hL hl hP hD hS)
    · exact False.elim hv
  | irem =>
    simp only [sx_1, sx_t2] at hv
    split at hv
    · exact fun H locs ls hL hl hP hD hS => lv_irem hx hb hd hv.1 (hk _ _ _ _ hv.2 H locs ls hL hl hP hD hS)
    · exact False.elim hv
  | iand =>
    simp only [sx_1, sx_t2] at hv
    split at hv
    · exact fun H locs ls hL hl hP hD hS => lv_iand hx hb hd (hk _ _ _ _ hv H locs ls hL hl hP hD hS)
    · exact False.elim hv
  | ior =>
    simp only [sx_1, sx_t2] at hv
    split at hv
    · exact fun H locs ls hL hl hP hD hS => lv_ior hx hb hd (hk _ _ _ _ hv H locs ls hL hl hP hD hS)
    · exact False.elim hv
  | ixor =>
    simp only [sx_1, sx_t2] at hv
    split at hv
    · exact fun H locs ls hL hl hP hD hS => lv_ixor hx hb hd (hk _ _ _ _ hv H locs ls hL hl hP hD hS)
    · exact False.elim hv
  | ishl =>
    simp only [sx_1, sx_t2] at hv
    split at hv
    · exact fun H locs ls hL hl hP hD hS => lv_ishl hx hb hd (hk _ _ _ _ hv H locs ls hL hl hP hD hS)
    · exact False.elim hv
  | ishr =>
    simp only [sx_1, sx_t2] at hv
    split at hv
    · exact fun H locs ls hL hl hP hD hS => lv_ishr hx hb hd (hk _ _ _ _ hv H locs ls hL hl hP hD hS)
    · exact False.elim hv
  | iushr =>
    simp only [sx_1, sx_t2] at hv
    split at hv
    · exact fun H locs ls hL hl hP hD hS => lv_iushr hx hb hd rfl (hk _ _ _ _ hv H locs ls hL hl hP hD hS)
    · exact False.elim hv
  | ineg =>
    simp only [sx_1, sx_t1] at hv
    split at hv
    · exact fun H locs ls hL hl hP hD hS => lv_ineg hx hb hd (hk _ _ _ _ hv H locs ls hL hl hP hD hS)
    · exact False.elim hv
  | dup =>
    simp only [sx_1] at hv
    split at hv
    · exact fun H locs ls hL hl hP hD hS => lv_dup hx hb hd (sx_v_cat E _) (hk _ _ _ _ hv H locs ls hL hl hP hD hS)
    · exact False.elim hv
  | dup_x1 =>
    simp only [sx_1] at hv
    split at hv
    · exact fun H locs ls hL hl hP hD hS => lv_dup_x1 hx hb hd (sx_v_cat E _) (sx_v_cat E _) (hk _ _ _ _ hv H locs ls hL hl hP hD hS)
    · exact False.elim hv
  | dup_x2 =>
    simp only [sx_1] at hv
    split at hv
    · exact fun H locs ls hL hl hP hD hS => lv_dup_x2 hx hb hd (sx_v_cat E _) (sx_v_cat E _) (sx_v_cat E _) (hk _ _ _ _ hv H locs ls hL hl hP hD hS)
    · exact False.elim hv
  | dup2 =>
    simp only [sx_1] at hv
    split at hv
    · exact fun H locs ls hL hl hP hD hS => lv_dup2_11 hx hb hd (sx_v_cat E _) (sx_v_cat E _) (hk _ _ _ _ hv H locs ls hL hl hP hD hS)
    · exact False.elim hv
  | pop =>
    simp only [sx_1] at hv
    split at hv
    · exact fun H locs ls hL hl hP hD hS => lv_pop hx hb hd (sx_v_cat E _) (hk _ _ _ _ hv H locs ls hL hl hP hD hS)
    · exact False.elim hv
  | ifCond cd off =>
    have ht := of_decide_eq_true hok
    simp only [sx_1, sx_t1] at hv
    split at hv
    · cases cd with
      | eq => exact fun H locs ls hL hl hP hD hS => lv_if_eq hx hb hd ht (fun q => hk _ _ _ _ (hv.1 q) H locs ls hL hl hP hD hS) (fun q => hk _ _ _ _ (hv.2 q) H locs ls hL hl hP hD hS)
      | ne => exact fun H locs ls hL hl hP hD hS => lv_if_ne hx hb hd ht (fun q => hk _ _ _ _ (hv.1 q) H locs ls hL hl hP hD hS) (fun q => hk _ _ _ _ (hv.2 q) H locs ls hL hl hP hD hS)
      | lt => exact fun H locs ls hL hl hP hD hS => lv_if_lt hx hb hd ht (fun q => hk _ _ _ _ (hv.1 q) H locs ls hL hl hP hD hS) (fun q => hk _ _ _ _ (hv.2 q) H locs ls hL hl hP hD hS)
      | ge => exact fun H locs ls hL hl hP hD hS => lv_if_ge hx hb hd ht (fun q => hk _ _ _ _ (hv.1 q) H locs ls hL hl hP hD hS) (fun q => hk _ _ _ _ (hv.2 q) H locs ls hL hl hP hD hS)
      | gt => exact fun H locs ls hL hl hP hD hS => lv_if_gt hx hb hd ht (fun q => hk _ _ _ _ (hv.1 q) H locs ls hL hl hP hD hS) (fun q => hk _ _ _ _ (hv.2 q) H locs ls hL hl hP hD hS)
      | le => exact fun H locs ls hL hl hP hD hS => lv_if_le hx hb hd ht (fun q => hk _ _ _ _ (hv.1 q) H locs ls hL hl hP hD hS) (fun q => hk _ _ _ _ (hv.2 q) H locs ls hL hl hP hD hS)
    · exact False.elim hv
  | if_icmp cd off =>
    have ht := of_decide_eq_true hok
    simp only [sx_1, sx_t2] at hv
    split at hv
    · cases cd with
      | eq => exact fun H locs ls hL hl hP hD hS => lv_icmp_eq hx hb hd ht (fun q => hk _ _ _ _ (hv.1 q) H locs ls hL hl hP hD hS) (fun q => hk _ _ _ _ (hv.2 q) H locs ls hL hl hP hD hS)
      | ne => exact fun H locs ls hL hl hP hD hS => lv_icmp_ne hx hb hd ht (fun q => hk _ _ _ _ (hv.1 q) H locs ls hL hl hP hD hS) (fun q => hk _ _ _ _ (hv.2 q) H locs ls hL hl hP hD hS)
      | lt => exact fun H locs ls hL hl hP hD hS => lv_icmp_lt hx hb hd ht (fun q => hk _ _ _ _ (hv.1 q) H locs ls hL hl hP hD hS) (fun q => hk _ _ _ _ (hv.2 q) H locs ls hL hl hP hD hS)
      | ge => exact fun H locs ls hL hl hP hD hS => lv_icmp_ge hx hb hd ht (fun q => hk _ _ _ _ (hv.1 q) H locs ls hL hl hP hD hS) (fun q => hk _ _ _ _ (hv.2 q) H locs ls hL hl hP hD hS)
      | gt => exact fun H locs ls hL hl hP hD hS => lv_icmp_gt hx hb hd ht (fun q => hk _ _ _ _ (hv.1 q) H locs ls hL hl hP hD hS) (fun q => hk _ _ _ _ (hv.2 q) H locs ls hL hl hP hD hS)
      | le => exact fun H locs ls hL hl hP hD hS => lv_icmp_le hx hb hd ht (fun q => hk _ _ _ _ (hv.1 q) H locs ls hL hl hP hD hS) (fun q => hk _ _ _ _ (hv.2 q) H locs ls hL hl hP hD hS)
    · exact False.elim hv
  | goto off =>
    have ht := of_decide_eq_true hok
    exact fun H locs ls hL hl hP hD hS => lv_goto hx hb hd ht (hk _ _ _ _ hv H locs ls hL hl hP hD hS)
  | getfield ix =>
    simp only [sx_ok] at hok
    split at hok
    · next r hr =>
      simp only [sx_1, sx_ta] at hv
      split at hv
      · exact fun H locs ls hL hl hP hD hS => sx_w_gf (host := host) hx hb hts hN hTw hown hK hP hr hok hd hv (fun v h9 => hk _ _ _ _ h9 H locs ls hL hl hP hD hS)
      · exact False.elim hv
    · cases hok
  | putfield ix =>
    simp only [sx_ok] at hok
    split at hok
    · next r hr =>
      rw [Bool.and_eq_true, Bool.and_eq_true] at hok
      simp only [sx_1, sx_t1] at hv
      split at hv
      · simp only [sx_ta] at hv
        split at hv
        · exact fun H locs ls hL hl hP hD hS => sx_w_pf (host := host) hx hb hts hN hTw hown hK hcl hP hD hS hr hok.1.1 (of_decide_eq_true hok.1.2) (of_decide_eq_true hok.2) hd hv (fun w' H1 locs1 h9 hP1 hD1 hS1 => hk _ _ _ _ h9 H1 locs1 ls hL hl hP1 hD1 hS1)
        · exact False.elim hv
      · exact False.elim hv
    · cases hok
  | iaload =>
    simp only [sx_1, sx_t1] at hv
    split at hv
    · simp only [sx_ta] at hv
      split at hv
      · exact fun H locs ls hL hl hP hD hS => sx_w_ga hx hb hK hP hd hv (fun v h9 => hk _ _ _ _ h9 H locs ls hL hl hP hD hS)
      · exact False.elim hv
    · exact False.elim hv
  | iastore =>
    simp only [sx_1, sx_t2] at hv
    split at hv
    · simp only [sx_ta] at hv
      split at hv
      · exact fun H locs ls hL hl hP hD hS => sx_w_pa hx hb hK hP hD hS hd hv (fun w' H1 locs1 h9 hP1 hD1 hS1 => hk _ _ _ _ h9 H1 locs1 ls hL hl hP1 hD1 hS1)
      · exact False.elim hv
    · exact False.elim hv
  | aaload =>
    simp only [sx_1, sx_t1] at hv
    split at hv
    · simp only [sx_ta] at hv
      split at hv
      · exact fun H locs ls hL hl hP hD hS => sx_w_gr hx hb hK hP hd hv (fun v h9 => hk _ _ _ _ h9 H locs ls hL hl hP hD hS)
      · exact False.elim hv
    · exact False.elim hv
  | arraylength =>
    simp only [sx_1, sx_ta] at hv
    split at hv
    · exact fun H locs ls hL hl hP hD hS => sx_w_al hx hb hK hP hd hv (fun v h9 => hk _ _ _ _ h9 H locs ls hL hl hP hD hS)
    · exact False.elim hv
  | invokestatic ix => exact hcall rfl hv
  | invokevirtual ix => exact hcall rfl hv
  | invokespecial ix => exact hcall rfl hv
  | ireturn =>
    simp only [sx_1] at hv
    split at hv
    · exact fun H locs ls hL hl hP hD hS => hRt.1 pc _ w H locs ls hd hv hP hD hS
    · exact False.elim hv
  | return_ =>
    simp only [sx_1] at hv
    split at hv
    · exact fun H locs ls hL hl hP hD hS => hRt.2 pc w H locs ls hd hv hP hD hS
    · exact False.elim hv
  | _ => exact False.elim hv
end SX2
end
section
-- calls, and the contract of a method out of its conditions
theorem sx_cats (E : sx_E) : ∀ r : List sx_V, ((r.map (sx_v E)).map fun v => v.category).sum = r.length
  | [] => rfl
  | v :: r => by
    rw [List.map_cons, List.map_cons, List.sum_cons, sx_v_cat, sx_cats E r, List.length_cons, Nat.add_comm]
theorem sx_blind {wn : List Cond} {E : sx_E} {B : Nat} {D : va_G} {cl : List vw_C} {A : Nat → Prop} {As : List sx_V} {w : sx_M} : FrameBlind (sx_Pc wn E B D cl A As w) := fun a U g mk q => by
  obtain ⟨q0, qP, qK, qD, qN⟩ := q
  exact ⟨q0, qP, va_K.moved (u := U) (U := U.calling g mk a) (Vm.Alike.refl U.vm) qK, qD, sx_N_same (s := U) (U := U.calling g mk a) rfl qN⟩
section SX3
variable {p : Program} {l : Launch} {e : Env} {R : Room} {s : State} {m : MethodId} {args : Array Value} {below : List Frame} {meth : Method} {c : Code} {Q : State → Prop} {H : Heap} {locs : List Loc} {ls : Array Slot}
variable {cc : ByteArray} {D : va_G} {cl : List vw_C} {A : Nat → Prop} {H0 : Heap} {E : sx_E} {B nL pc : Nat} {Ts wn : List Cond} {own host : String} {w : sx_M} {Rt : Option sx_V → sx_M → Prop}
theorem sx_back {st0 rest : List Value} {a : Array Value} (hr : va_Run p l e R s m args below meth c H locs 0 0 0 0 (F0 m pc ls st0) rest (sx_Qc E B D cl A Rt a) A) (hS : va_S A H0 H locs)
    (kk : ∀ (r : Option sx_V) (w' : sx_M) (H1 : Heap) (locs1 : List Loc), Rt r w' → va_P D cl (sx_w E B w') H1 → va_D A (sx_w E B w') → va_S A H0 H1 locs1 → W p l e R s m args below meth c H1 locs1 0 0 Q (F0 m (pc + 3) ls (r.toList.map (sx_v E) ++ rest))) : W p l e R s m args below meth c H locs 0 0 Q (F0 m pc ls st0) := by
  intro T hT X
  obtain ⟨v, st₀, t, T', L, h0, X', hL, e1, e2, ⟨⟨r, w', hv, hp, hP, hK, hD⟩, hz, hk⟩, st⟩ := hr T hT X
  have hv' : v = r.map (sx_v E) := by injection hv
  subst hv'
  rw [h0] at hz hk
  obtain ⟨t2, a1, b1⟩ := kk r w' T'.heap (locs ++ L) hp (by rw [e1]; exact hP) hD ⟨Nat.le_trans hS.1 (by rw [e1]; exact hz), fun q h1 h2 => by rw [e1, hk q (Nat.lt_of_lt_of_le h1 hS.1) h2]; exact hS.2.1 q h1 h2, fun q hq => by
    rcases List.mem_append.mp hq with h | h
    · exact hS.2.2 q h
    · exact hL q h⟩ T' rfl X'
  refine ⟨t2, st t2 ?_, b1⟩
  have h9 : (r.map (sx_v E)).toList = r.toList.map (sx_v E) := by cases r <;> rfl
  rw [h9]
  exact a1
theorem sx_stk (E : sx_E) (st : List sx_V) (n : Nat) : st.map (sx_v E) = (((st.take n).reverse).map (sx_v E)).reverse ++ (st.drop n).map (sx_v E) := by
  rw [← List.map_reverse, List.reverse_reverse, ← List.map_append, List.take_append_drop]
-- a static method
theorem sx_CalS {y : MethodName} {bytes : ByteArray} {maxL ix n : Nat} {ret : Option FieldType} {ws ws' : List Cond} {rm : Room} {S : sx_S}
    (hM : ∀ (As : List sx_V) (w : sx_M) (Q : Option sx_V → sx_M → Prop), S.2 As w Q → Met l y ws rm (sx_Pc wn E B D cl A As w) (sx_Qc E B D cl A Q) 0 0 A)
    (hG : GoodIn Ts ws) (hw : ws = Cond.code y bytes maxL ret :: ws') (hrc : rm.cells = 0) (hrs : rm.slots = 0) (hin : Cond.initialized y.cls ∈ Ts) (hlk : Cond.methodLink own ix y ∈ Ts) (hst : Cond.static y ∈ Ts)
    (hd : y.cls ≠ "java/lang/invoke/MethodHandle" ∧ y.cls ≠ "java/lang/invoke/VarHandle" ∧ (parseMethodDescriptor y.desc).map (fun d => d.parameters.length) = some n) (hR : rm.frames + 1 ≤ R.frames ∧ 8 + (maxL + 11) + rm.locals ≤ R.locals) (hn : S.1 = n) : sx_Cal l own Ts wn R D cl A E B nL cc (.invokestatic ix) S := by
  intro p e s m args below meth c Q H0 CF hK hN K hk pc L st w hdg hc H locs ls hL hl hP hD hS
  obtain ⟨hn1, hroom, Qs, hpre, hpost⟩ := hc
  have hts := CF.2.2.2.2
  refine sx_back (va_runS (As := ((st.take S.1).reverse).map (sx_v E)) (rest := (st.drop S.1).map (sx_v E)) CF (hM _ w Qs hpre) ⟨callB_of n hts hG hw hrc hrs (hts _ hin) (hts _ hlk) hd hR, hts _ hst⟩ ⟨sx_blind, fun U hU hW => ⟨rfl, by rw [hU]; exact hP, va_K.moved hW.alike hK, hD, sx_N_warm hW hN⟩⟩ rfl (by simp; omega) hl.1 (sx_stk E st S.1) (lv_room (by rw [sx_cats]; exact hroom)) hdg ⟨Nat.zero_le _, Nat.zero_le _⟩) hS (fun r w' H1 locs1 hr hP1 hD1 hS1 => ?_)
  have h9 := hk _ _ _ _ (hpost r w' hr) H1 locs1 ls hL hl hP1 hD1 hS1
  rw [List.map_append] at h9
  exact h9
theorem sx_CalSN {y : MethodName} {bytes : ByteArray} {maxL ix n : Nat} {ret : Option FieldType} {ws ws' : List Cond} {rm : Room} {S : sx_S}
    (hM : ∀ (As : List sx_V) (w : sx_M) (Q : Option sx_V → sx_M → Prop), S.2 As w Q → Met l y ws rm (sx_Pc wn E B D cl A As w) (sx_Qc E B D cl A Q) 0 0 A)
    (hG : GoodIn Ts ws) (hw : ws = Cond.code y bytes maxL ret :: ws') (hrc : rm.cells = 0) (hrs : rm.slots = 0) (hin : Cond.initialized y.cls ∈ Ts) (hlk : Cond.methodLinkNest own ix y host ∈ wn) (hst : Cond.static y ∈ Ts)
    (hd : y.cls ≠ "java/lang/invoke/MethodHandle" ∧ y.cls ≠ "java/lang/invoke/VarHandle" ∧ (parseMethodDescriptor y.desc).map (fun d => d.parameters.length) = some n) (hR : rm.frames + 1 ≤ R.frames ∧ 8 + (maxL + 11) + rm.locals ≤ R.locals) (hn : S.1 = n) : sx_Cal l own Ts wn R D cl A E B nL cc (.invokestatic ix) S := by
  intro p e s m args below meth c Q H0 CF hK hN K hk pc L st w hdg hc H locs ls hL hl hP hD hS
  obtain ⟨hn1, hroom, Qs, hpre, hpost⟩ := hc
  have hts := CF.2.2.2.2
  refine sx_back (va_runSN (As := ((st.take S.1).reverse).map (sx_v E)) (rest := (st.drop S.1).map (sx_v E)) CF (hM _ w Qs hpre) ⟨va_cnB n hts hG hw hrc hrs (hN _ hlk).2 (hts _ hin) hd hR, hts _ hst, trivial⟩ ⟨sx_blind, fun U hU hW => ⟨rfl, by rw [hU]; exact hP, va_K.moved hW.alike hK, hD, sx_N_warm hW hN⟩⟩ rfl (by simp; omega) hl.1 (sx_stk E st S.1) (lv_room (by rw [sx_cats]; exact hroom)) hdg ⟨Nat.zero_le _, Nat.zero_le _⟩) hS (fun r w' H1 locs1 hr hP1 hD1 hS1 => ?_)
  have h9 := hk _ _ _ _ (hpost r w' hr) H1 locs1 ls hL hl hP1 hD1 hS1
  rw [List.map_append] at h9
  exact h9
-- an object's method: the receiver is a cell of the kind ci
theorem sx_CalV {y : MethodName} {bytes : ByteArray} {maxL ix n ci : Nat} {ret : Option FieldType} {ws ws' : List Cond} {rm : Room} {S : sx_S} {r : vw_C}
    (hM : ∀ (As : List sx_V) (w : sx_M) (Q : Option sx_V → sx_M → Prop), S.2 As w Q → Met l y ws rm (sx_Pc wn E B D cl A As w) (sx_Qc E B D cl A Q) 0 0 A)
    (hrec : ∀ (As : List sx_V) (w : sx_M) (Q : Option sx_V → sx_M → Prop), S.2 As w Q → ∃ (n0 : Nat) (tl : List sx_V) (fs : List sx_V), As = .inr (n0, 0) :: tl ∧ n0 < B ∧ w n0 = .inr (.inr (ci, fs))) (hci : cl[ci]? = some r) (hrn : r.1 = y.cls)
    (hG : GoodIn Ts ws) (hw : ws = Cond.code y bytes maxL ret :: ws') (hrc : rm.cells = 0) (hrs : rm.slots = 0) (hin : Cond.initialized y.cls ∈ Ts) (hlk : Cond.methodLink own ix y ∈ Ts) (him : Cond.instanceMethod y ∈ Ts) (hse : Cond.selects y.cls y y ∈ Ts)
    (hd : y.cls ≠ "java/lang/invoke/MethodHandle" ∧ y.cls ≠ "java/lang/invoke/VarHandle" ∧ (parseMethodDescriptor y.desc).map (fun d => d.parameters.length) = some n) (hR : rm.frames + 1 ≤ R.frames ∧ 8 + (maxL + 11) + rm.locals ≤ R.locals) (hn : S.1 = n + 1) : sx_Cal l own Ts wn R D cl A E B nL cc (.invokevirtual ix) S := by
  intro p e s m args below meth c Q H0 CF hK hN K hk pc L st w hdg hc H locs ls hL hl hP hD hS
  obtain ⟨hn1, hroom, Qs, hpre, hpost⟩ := hc
  have hts := CF.2.2.2.2
  obtain ⟨n0, tl, fs, hAs, hn0, hw0⟩ := hrec _ _ _ hpre
  have hMt := hM _ w Qs hpre
  have hstk := sx_stk E st S.1
  have hlen : ((st.take S.1).reverse).length = n + 1 := by simp; omega
  rw [hAs] at hMt hstk hlen
  obtain ⟨o, ho, -⟩ := sx_off E w n0 B hn0
  have ho := ho 0 (E.1 n0, .inr (ci, fs.map (sx_v E))) (by rw [hw0]; rfl)
  have hrv := va_recv hK hP hci ho
  rw [hrn] at hrv
  refine sx_back (va_runV (b := E.1 n0) (As := tl.map (sx_v E)) (rest := (st.drop S.1).map (sx_v E)) CF hMt ⟨callB_of n hts hG hw hrc hrs (hts _ hin) (hts _ hlk) hd hR, hts _ him, hts _ hse⟩ ⟨sx_blind, hrv, fun U hU hW => ⟨rfl, by rw [hU]; exact hP, va_K.moved hW.alike hK, hD, sx_N_warm hW hN⟩⟩ rfl (by simpa using hlen) hl.1 (by rw [hstk]; simp [sx_v]) (lv_room (by rw [sx_cats]; exact hroom)) hdg ⟨Nat.zero_le _, Nat.zero_le _⟩) hS (fun r w' H1 locs1 hr hP1 hD1 hS1 => ?_)
  have h9 := hk _ _ _ _ (hpost r w' hr) H1 locs1 ls hL hl hP1 hD1 hS1
  rw [List.map_append] at h9
  exact h9
theorem sx_CalVN {y : MethodName} {bytes : ByteArray} {maxL ix n ci : Nat} {ret : Option FieldType} {ws ws' : List Cond} {rm : Room} {S : sx_S} {r : vw_C}
    (hM : ∀ (As : List sx_V) (w : sx_M) (Q : Option sx_V → sx_M → Prop), S.2 As w Q → Met l y ws rm (sx_Pc wn E B D cl A As w) (sx_Qc E B D cl A Q) 0 0 A)
    (hrec : ∀ (As : List sx_V) (w : sx_M) (Q : Option sx_V → sx_M → Prop), S.2 As w Q → ∃ (n0 : Nat) (tl : List sx_V) (fs : List sx_V), As = .inr (n0, 0) :: tl ∧ n0 < B ∧ w n0 = .inr (.inr (ci, fs))) (hci : cl[ci]? = some r) (hrn : r.1 = y.cls)
    (hG : GoodIn Ts ws) (hw : ws = Cond.code y bytes maxL ret :: ws') (hrc : rm.cells = 0) (hrs : rm.slots = 0) (hin : Cond.initialized y.cls ∈ Ts) (hlk : Cond.methodLinkNest own ix y host ∈ wn) (him : Cond.instanceMethod y ∈ Ts) (hse : Cond.selects y.cls y y ∈ Ts)
    (hd : y.cls ≠ "java/lang/invoke/MethodHandle" ∧ y.cls ≠ "java/lang/invoke/VarHandle" ∧ (parseMethodDescriptor y.desc).map (fun d => d.parameters.length) = some n) (hR : rm.frames + 1 ≤ R.frames ∧ 8 + (maxL + 11) + rm.locals ≤ R.locals) (hn : S.1 = n + 1) : sx_Cal l own Ts wn R D cl A E B nL cc (.invokevirtual ix) S := by
  intro p e s m args below meth c Q H0 CF hK hN K hk pc L st w hdg hc H locs ls hL hl hP hD hS
  obtain ⟨hn1, hroom, Qs, hpre, hpost⟩ := hc
  have hts := CF.2.2.2.2
  obtain ⟨n0, tl, fs, hAs, hn0, hw0⟩ := hrec _ _ _ hpre
  have hMt := hM _ w Qs hpre
  have hstk := sx_stk E st S.1
  have hlen : ((st.take S.1).reverse).length = n + 1 := by simp; omega
  rw [hAs] at hMt hstk hlen
  obtain ⟨o, ho, -⟩ := sx_off E w n0 B hn0
  have ho := ho 0 (E.1 n0, .inr (ci, fs.map (sx_v E))) (by rw [hw0]; rfl)
  have hrv := va_recv hK hP hci ho
  rw [hrn] at hrv
  refine sx_back (va_runVN (b := E.1 n0) (As := tl.map (sx_v E)) (rest := (st.drop S.1).map (sx_v E)) CF hMt ⟨va_cnB n hts hG hw hrc hrs (hN _ hlk).2 (hts _ hin) hd hR, hts _ him, hts _ hse⟩ ⟨sx_blind, hrv, fun U hU hW => ⟨rfl, by rw [hU]; exact hP, va_K.moved hW.alike hK, hD, sx_N_warm hW hN⟩⟩ rfl (by simpa using hlen) hl.1 (by rw [hstk]; simp [sx_v]) (lv_room (by rw [sx_cats]; exact hroom)) hdg ⟨Nat.zero_le _, Nat.zero_le _⟩) hS (fun r w' H1 locs1 hr hP1 hD1 hS1 => ?_)
  have h9 := hk _ _ _ _ (hpost r w' hr) H1 locs1 ls hL hl hP1 hD1 hS1
  rw [List.map_append] at h9
  exact h9
def sx_rt (ret : Option FieldType) (Rt : Option sx_V → sx_M → Prop) : Prop := match ret with
  | none => ∀ (x : sx_V) (w : sx_M), ¬ Rt (some x) w
  | some .int => ∀ w : sx_M, ¬ Rt none w
  | some .boolean => (∀ w : sx_M, ¬ Rt none w) ∧ ∀ (x : Int32) (w : sx_M), Rt (some (.inl x)) w → x = 0 ∨ x = 1
  | _ => False
theorem sx_slots (E : sx_E) : ∀ As : List sx_V, (lg_sl (As.map (sx_v E))).length = As.length
  | [] => rfl
  | v :: As => by
    have h := sx_slots E As
    have hc := sx_v_cat E v
    simp only [lg_sl, List.map_cons, List.flatMap_cons, hc] at h ⊢
    rw [List.length_append, h]
    simp
    omega
theorem sx_args (E : sx_E) : ∀ (As : List sx_V) (b k : Nat) (x : sx_V), As[k]? = some x → (b + k, sx_v E x) ∈ lv_args b (As.map (sx_v E))
  | [], b, k, x, h => by simp at h
  | v :: As, b, k, x, h => by
    have hc := sx_v_cat E v
    rw [List.map_cons]
    simp only [lv_args, hc]
    cases k with
    | zero =>
      simp at h
      subst h
      simp
    | succ k =>
      simp at h
      have := sx_args E As (b + 1) k x h
      rw [show b + (k + 1) = b + 1 + k by omega]
      simp [this]
set_option maxHeartbeats 4000000 in
set_option maxRecDepth 100000 in
theorem sx_method {y : MethodName} {ws ws' : List Cond} {rm : Room} {maxL : Nat} {ret : Option FieldType} {F : sx_F} {cs : Nat → sx_S} {As : List sx_V} {w : sx_M} (host : String)
    (hy : plainFor y = true) (hw : ws = Cond.code y cc maxL ret :: ws') (hcl : sx_Tb cl) (hTw : sx_Tw cl ws)
    (hF : ∀ (pc : Nat) (i : Instr × Nat × Nat), F pc = some i → decode cc pc = .ok (i.1, sx_len i.1) ∧ sx_ok y.cls host cl ws wn maxL pc i.1 i.2 = true)
    (hC : ∀ (pc : Nat) (i : Instr × Nat × Nat), F pc = some i → sx_isC i.1 = true → sx_Cal l y.cls ws wn rm D cl A E B maxL cc i.1 (cs i.2.1))
    (hlen : As.length ≤ maxL) (hret : sx_rt ret Rt)
    (body : ∀ Z : sx_K, sx_Cl B cs Rt F Z → Z 0 (As.map some ++ List.replicate (maxL - As.length) none) [] w) :
    Met l y ws rm (sx_Pc wn E B D cl A As w) (sx_Qc E B D cl A Rt) 0 0 A := by
  refine va_MetF (cc := cc) (maxL := maxL) (ret := ret) hy hw ?_
  intro p e s m args below meth c s₁ Bd hml hv
  obtain ⟨rfl, hP, hK, hD, hN⟩ := hv
  have hx := Bd.exec
  have hb := Bd.bytes
  have hr := Bd.returns
  have hts := atoms_spec (ws := ws) Bd.pre
  have hown : s.vm.findClass y.cls = some m.cls := findClass_of_methodNamed Bd.named
  have hlocks := Bd.notSynchronized
  have hS : va_S A s.heap s.heap [] := va_S.rf
  have hl := lv_entry (As.map (sx_v E)) (n := maxL) (by rw [sx_slots]; exact hlen)
  rw [lg_entry_eq]
  generalize (lg_sl (As.map (sx_v E)) ++ List.replicate (maxL - (lg_sl (As.map (sx_v E))).length) Slot.unset).toArray = ls at hl ⊢
  have hl2 : lv_has ls maxL (sx_l E 0 (As.map some ++ List.replicate (maxL - As.length) none)) := by
    refine sx_lv_mono hl fun q hq => ?_
    obtain ⟨k, x, h1, rfl⟩ := (sx_l_mem E _ 0 q).mp hq
    by_cases hk : k < As.length
    · rw [List.getElem?_append_left (by simpa using hk), List.getElem?_map] at h1
      cases h9 : As[k]? with
      | none => rw [h9] at h1; simp at h1
      | some z =>
        rw [h9] at h1
        simp at h1
        subst h1
        exact sx_args E As 0 k z h9
    · rw [List.getElem?_append_right (by simpa using hk), List.getElem?_replicate] at h1
      split at h1 <;> simp at h1
  have hRt : sx_Ret p l e rm s m (As.map (sx_v E)).toArray below meth c (MQ below (sx_Qc E B D cl A Rt) (As.map (sx_v E)).toArray s 0 0 A) D cl A s.heap E B cc Rt := by
    refine ⟨fun pc x w H locs ls hdg hq hP hD hS => ?_, fun pc w H locs ls hdg hq hP hD hS => ?_⟩
    · cases ret with
      | none => exact absurd hq (hret _ _)
      | some t =>
        cases t with
        | int => exact W.iret hx hb hr (fun t ht hW => ⟨⟨some (.inl x), w, rfl, hq, by rw [ht]; exact hP, va_K.moved hW.alike hK, hD⟩, hS.F ht⟩) hS.2.2 hdg
        | boolean =>
          have hn : narrow .boolean (.int x) = .int x := by rcases hret.2 x w hq with rfl | rfl <;> decide
          exact W.zret hx hb hr hn (fun t ht hW => ⟨⟨some (.inl x), w, rfl, hq, by rw [ht]; exact hP, va_K.moved hW.alike hK, hD⟩, hS.F ht⟩) hS.2.2 hdg
        | _ => exact False.elim hret
    · cases ret with
      | none => exact W.vret hx hb hr (fun t ht hW => ⟨⟨none, w, rfl, hq, by rw [ht]; exact hP, va_K.moved hW.alike hK, hD⟩, hS.F ht⟩) hS.2.2 hdg
      | some t =>
        cases t with
        | int => exact absurd hq (hret _)
        | boolean => exact absurd hq (hret.1 _)
        | _ => exact False.elim hret
  have hZ := body (sx_Z p l e rm s m (As.map (sx_v E)).toArray below meth c (MQ below (sx_Qc E B D cl A Rt) (As.map (sx_v E)).toArray s 0 0 A) D cl A s.heap E B maxL) (fun K hk pc i L st w hFi hv => by
    obtain ⟨h1, h2⟩ := hF pc i hFi
    exact sx_sound (host := host) (own := y.cls) hx hb hts hN hTw hown hK hcl hRt hk h1 h2 (fun hic hcall => hC pc i hFi hic p e s m _ below meth c _ _ ⟨hx, hb, hml, hown, hts⟩ hK hN K hk pc L st w (by
      have h3 : sx_len i.1 = 3 := by
        cases hi : i.1 <;> rw [hi] at hic <;> first | rfl | cases hic
      rw [← h3]; exact h1) hcall) hv)
  exact hZ s.heap [] ls (by simp; omega) hl2 hP hD hS
end SX3
end
section
-- by mk.py: the kinds of objects, names and codes of methods
def RCc : String := "ClassCharacters"
def TCc : u_T := fun k => match k with
  | 0 => ("ClassCharacters", "generators", "[I", true)
  | 1 => ("ClassCharacters", "generatorCount", "I", false)
  | 2 => ("ClassCharacters", "outcome", "I", false)
  | 3 => ("ClassCharacters", "elements", "LClassCharacters$Elements;", true)
  | 4 => ("ClassCharacters", "conjugates", "LClassCharacters$Conjugates;", true)
  | 5 => ("ClassCharacters", "residues", "LClassCharacters$Residues;", true)
  | 6 => ("ClassCharacters", "maps", "LClassCharacters$CentralMaps;", true)
  | _ => ("ClassCharacters", "rows", "LClassCharacters$Rows;", true)
def tCc : Nat → FieldType := fun k => match k with
  | 0 => (.array .int)
  | 1 => .int
  | 2 => .int
  | 3 => (.object "ClassCharacters$Elements")
  | 4 => (.object "ClassCharacters$Conjugates")
  | 5 => (.object "ClassCharacters$Residues")
  | 6 => (.object "ClassCharacters$CentralMaps")
  | _ => (.object "ClassCharacters$Rows")
theorem nCc : ∀ a, a < 8 → ∀ b, b < 8 → a ≠ b → (TCc a).2.1 ≠ (TCc b).2.1 := by decide +kernel
theorem tCc_ok : ∀ k, k < 8 → parseFieldDescriptor (TCc k).2.2.1 = some (tCc k) := by decide +kernel
def REl : String := "ClassCharacters$Elements"
def TEl : u_T := fun k => match k with
  | 0 => ("ClassCharacters$Elements", "sorted", "[I", true)
  | 1 => ("ClassCharacters$Elements", "found", "[I", true)
  | _ => ("ClassCharacters$Elements", "count", "I", false)
def tEl : Nat → FieldType := fun k => match k with
  | 0 => (.array .int)
  | 1 => (.array .int)
  | _ => .int
theorem nEl : ∀ a, a < 3 → ∀ b, b < 3 → a ≠ b → (TEl a).2.1 ≠ (TEl b).2.1 := by decide +kernel
theorem tEl_ok : ∀ k, k < 3 → parseFieldDescriptor (TEl k).2.2.1 = some (tEl k) := by decide +kernel
def RCo : String := "ClassCharacters$Conjugates"
def TCo : u_T := fun k => match k with
  | 0 => ("ClassCharacters$Conjugates", "count", "I", false)
  | 1 => ("ClassCharacters$Conjugates", "classAt", "[I", true)
  | 2 => ("ClassCharacters$Conjugates", "sizes", "[I", true)
  | 3 => ("ClassCharacters$Conjugates", "leasts", "[I", true)
  | 4 => ("ClassCharacters$Conjugates", "powers", "[[I", true)
  | 5 => ("ClassCharacters$Conjugates", "current", "[I", true)
  | 6 => ("ClassCharacters$Conjugates", "commonExponent", "I", false)
  | _ => ("ClassCharacters$Conjugates", "pairCounts", "[I", true)
def tCo : Nat → FieldType := fun k => match k with
  | 0 => .int
  | 1 => (.array .int)
  | 2 => (.array .int)
  | 3 => (.array .int)
  | 4 => (.array (.array .int))
  | 5 => (.array .int)
  | 6 => .int
  | _ => (.array .int)
theorem nCo : ∀ a, a < 8 → ∀ b, b < 8 → a ≠ b → (TCo a).2.1 ≠ (TCo b).2.1 := by decide +kernel
theorem tCo_ok : ∀ k, k < 8 → parseFieldDescriptor (TCo k).2.2.1 = some (tCo k) := by decide +kernel
def RRe : String := "ClassCharacters$Residues"
def TRe : u_T := fun k => match k with
  | 0 => ("ClassCharacters$Residues", "modulus", "I", false)
  | _ => ("ClassCharacters$Residues", "leastRoot", "I", false)
def tRe : Nat → FieldType := fun k => match k with
  | 0 => .int
  | _ => .int
theorem nRe : ∀ a, a < 2 → ∀ b, b < 2 → a ≠ b → (TRe a).2.1 ≠ (TRe b).2.1 := by decide +kernel
theorem tRe_ok : ∀ k, k < 2 → parseFieldDescriptor (TRe k).2.2.1 = some (tRe k) := by decide +kernel
def RCm : String := "ClassCharacters$CentralMaps"
def TCm : u_T := fun k => match k with
  | 0 => ("ClassCharacters$CentralMaps", "count", "I", false)
  | 1 => ("ClassCharacters$CentralMaps", "basis", "[[I", true)
  | 2 => ("ClassCharacters$CentralMaps", "pivots", "[I", true)
  | 3 => ("ClassCharacters$CentralMaps", "ends", "[I", true)
  | 4 => ("ClassCharacters$CentralMaps", "parts", "[[I", true)
  | 5 => ("ClassCharacters$CentralMaps", "partPivots", "[I", true)
  | 6 => ("ClassCharacters$CentralMaps", "action", "[[I", true)
  | 7 => ("ClassCharacters$CentralMaps", "system", "[[I", true)
  | _ => ("ClassCharacters$CentralMaps", "solvedBy", "[I", true)
def tCm : Nat → FieldType := fun k => match k with
  | 0 => .int
  | 1 => (.array (.array .int))
  | 2 => (.array .int)
  | 3 => (.array .int)
  | 4 => (.array (.array .int))
  | 5 => (.array .int)
  | 6 => (.array (.array .int))
  | 7 => (.array (.array .int))
  | _ => (.array .int)
theorem nCm : ∀ a, a < 9 → ∀ b, b < 9 → a ≠ b → (TCm a).2.1 ≠ (TCm b).2.1 := by decide +kernel
theorem tCm_ok : ∀ k, k < 9 → parseFieldDescriptor (TCm k).2.2.1 = some (tCm k) := by decide +kernel
def RRo : String := "ClassCharacters$Rows"
def TRo : u_T := fun k => match k with
  | 0 => ("ClassCharacters$Rows", "count", "I", false)
  | 1 => ("ClassCharacters$Rows", "degrees", "[I", true)
  | 2 => ("ClassCharacters$Rows", "values", "[[I", true)
  | 3 => ("ClassCharacters$Rows", "indicators", "[I", true)
  | 4 => ("ClassCharacters$Rows", "kernels", "[I", true)
  | 5 => ("ClassCharacters$Rows", "places", "[I", true)
  | 6 => ("ClassCharacters$Rows", "normalSets", "[I", true)
  | _ => ("ClassCharacters$Rows", "normalCount", "I", false)
def tRo : Nat → FieldType := fun k => match k with
  | 0 => .int
  | 1 => (.array .int)
  | 2 => (.array (.array .int))
  | 3 => (.array .int)
  | 4 => (.array .int)
  | 5 => (.array .int)
  | 6 => (.array .int)
  | _ => .int
theorem nRo : ∀ a, a < 8 → ∀ b, b < 8 → a ≠ b → (TRo a).2.1 ≠ (TRo b).2.1 := by decide +kernel
theorem tRo_ok : ∀ k, k < 8 → parseFieldDescriptor (TRo k).2.2.1 = some (tRo k) := by decide +kernel
def RMo : String := "ClassCharactersModel"
def TMo : u_T := fun k => match k with
  | 0 => ("ClassCharactersModel", "generators", "I", false)
  | 1 => ("ClassCharactersModel", "generator", "[I", true)
  | 2 => ("ClassCharactersModel", "fine", "Z", false)
  | 3 => ("ClassCharactersModel", "order", "I", false)
  | 4 => ("ClassCharactersModel", "code", "[I", true)
  | 5 => ("ClassCharactersModel", "kind", "[I", true)
  | 6 => ("ClassCharactersModel", "classes", "I", false)
  | 7 => ("ClassCharactersModel", "size", "[I", true)
  | 8 => ("ClassCharactersModel", "least", "[I", true)
  | 9 => ("ClassCharactersModel", "constants", "[I", true)
  | 10 => ("ClassCharactersModel", "exponent", "I", false)
  | 11 => ("ClassCharactersModel", "prime", "I", false)
  | 12 => ("ClassCharactersModel", "root", "I", false)
  | 13 => ("ClassCharactersModel", "cells", "[I", true)
  | 14 => ("ClassCharactersModel", "idempotents", "I", false)
  | 15 => ("ClassCharactersModel", "degrees", "[I", true)
  | 16 => ("ClassCharactersModel", "values", "[I", true)
  | _ => ("ClassCharactersModel", "sets", "[I", true)
def tMo : Nat → FieldType := fun k => match k with
  | 0 => .int
  | 1 => (.array .int)
  | 2 => .boolean
  | 3 => .int
  | 4 => (.array .int)
  | 5 => (.array .int)
  | 6 => .int
  | 7 => (.array .int)
  | 8 => (.array .int)
  | 9 => (.array .int)
  | 10 => .int
  | 11 => .int
  | 12 => .int
  | 13 => (.array .int)
  | 14 => .int
  | 15 => (.array .int)
  | 16 => (.array .int)
  | _ => (.array .int)
theorem nMo : ∀ a, a < 18 → ∀ b, b < 18 → a ≠ b → (TMo a).2.1 ≠ (TMo b).2.1 := by decide +kernel
theorem tMo_ok : ∀ k, k < 18 → parseFieldDescriptor (TMo k).2.2.1 = some (tMo k) := by decide +kernel
abbrev kinds : List vw_C := [(RCc, TCc, 8), (REl, TEl, 3), (RCo, TCo, 8), (RRe, TRe, 2), (RCm, TCm, 9), (RRo, TRo, 8), (RMo, TMo, 18)]
abbrev hostC : String := "ClassCharacters"
theorem kinds_ok : sx_Tb kinds := by
  intro ci r h
  match ci, h with
  | 0, h => obtain rfl := Option.some.inj h; exact ⟨⟨tCc, tCc_ok⟩, nCc⟩
  | 1, h => obtain rfl := Option.some.inj h; exact ⟨⟨tEl, tEl_ok⟩, nEl⟩
  | 2, h => obtain rfl := Option.some.inj h; exact ⟨⟨tCo, tCo_ok⟩, nCo⟩
  | 3, h => obtain rfl := Option.some.inj h; exact ⟨⟨tRe, tRe_ok⟩, nRe⟩
  | 4, h => obtain rfl := Option.some.inj h; exact ⟨⟨tCm, tCm_ok⟩, nCm⟩
  | 5, h => obtain rfl := Option.some.inj h; exact ⟨⟨tRo, tRo_ok⟩, nRo⟩
  | 6, h => obtain rfl := Option.some.inj h; exact ⟨⟨tMo, tMo_ok⟩, nMo⟩
  | n + 7, h => exact absurd h (by simp [kinds])
def yCc_add : MethodName := ⟨"ClassCharacters", "add", "(I)Z"⟩
def yCc_clear : MethodName := ⟨"ClassCharacters", "clear", "()V"⟩
def yCc_build : MethodName := ⟨"ClassCharacters", "build", "()I"⟩
def yCc_order : MethodName := ⟨"ClassCharacters", "order", "()I"⟩
def yCc_element : MethodName := ⟨"ClassCharacters", "element", "(I)I"⟩
def yCc_classOf : MethodName := ⟨"ClassCharacters", "classOf", "(I)I"⟩
def yCc_classes : MethodName := ⟨"ClassCharacters", "classes", "()I"⟩
def yCc_size : MethodName := ⟨"ClassCharacters", "size", "(I)I"⟩
def yCc_least : MethodName := ⟨"ClassCharacters", "least", "(I)I"⟩
def yCc_power : MethodName := ⟨"ClassCharacters", "power", "(II)I"⟩
def yCc_constant : MethodName := ⟨"ClassCharacters", "constant", "(III)I"⟩
def yCc_exponent : MethodName := ⟨"ClassCharacters", "exponent", "()I"⟩
def yCc_prime : MethodName := ⟨"ClassCharacters", "prime", "()I"⟩
def yCc_root : MethodName := ⟨"ClassCharacters", "root", "()I"⟩
def yCc_degree : MethodName := ⟨"ClassCharacters", "degree", "(I)I"⟩
def yCc_value : MethodName := ⟨"ClassCharacters", "value", "(II)I"⟩
def yCc_multiplicity : MethodName := ⟨"ClassCharacters", "multiplicity", "(III)I"⟩
def yCc_indicator : MethodName := ⟨"ClassCharacters", "indicator", "(I)I"⟩
def yCc_kernel : MethodName := ⟨"ClassCharacters", "kernel", "(I)I"⟩
def yCc_normals : MethodName := ⟨"ClassCharacters", "normals", "()I"⟩
def yCc_isBuilt : MethodName := ⟨"ClassCharacters", "isBuilt", "()Z"⟩
def yCc_isClass : MethodName := ⟨"ClassCharacters", "isClass", "(I)Z"⟩
def yCc_workOut : MethodName := ⟨"ClassCharacters", "workOut", "()I"⟩
def yMo_image : MethodName := ⟨"ClassCharactersModel", "image", "(II)I"⟩
def yMo_product : MethodName := ⟨"ClassCharactersModel", "product", "(II)I"⟩
def yMo_inverted : MethodName := ⟨"ClassCharactersModel", "inverted", "(I)I"⟩
def yMo_isPermutation : MethodName := ⟨"ClassCharactersModel", "isPermutation", "(I)Z"⟩
def yMo_add : MethodName := ⟨"ClassCharactersModel", "add", "(I)Z"⟩
def yMo_clear : MethodName := ⟨"ClassCharactersModel", "clear", "()V"⟩
def yMo_find : MethodName := ⟨"ClassCharactersModel", "find", "(I)I"⟩
def yMo_close : MethodName := ⟨"ClassCharactersModel", "close", "()Z"⟩
def yMo_classify : MethodName := ⟨"ClassCharactersModel", "classify", "()Z"⟩
def yMo_count : MethodName := ⟨"ClassCharactersModel", "count", "()V"⟩
def yMo_powerOf : MethodName := ⟨"ClassCharactersModel", "powerOf", "(II)I"⟩
def yMo_allAtOnce : MethodName := ⟨"ClassCharactersModel", "allAtOnce", "(I)Z"⟩
def yMo_isPrime : MethodName := ⟨"ClassCharactersModel", "isPrime", "(I)Z"⟩
def yMo_numbers : MethodName := ⟨"ClassCharactersModel", "numbers", "()V"⟩
def yMo_isRoot : MethodName := ⟨"ClassCharactersModel", "isRoot", "(I)Z"⟩
def yMo_mod : MethodName := ⟨"ClassCharactersModel", "mod", "(I)I"⟩
def yMo_raised : MethodName := ⟨"ClassCharactersModel", "raised", "(II)I"⟩
def yMo_over : MethodName := ⟨"ClassCharactersModel", "over", "(II)I"⟩
def yMo_multiply : MethodName := ⟨"ClassCharactersModel", "multiply", "(III)V"⟩
def yMo_copy : MethodName := ⟨"ClassCharactersModel", "copy", "(II)V"⟩
def yMo_fermat : MethodName := ⟨"ClassCharactersModel", "fermat", "()V"⟩
def yMo_ratio : MethodName := ⟨"ClassCharactersModel", "ratio", "(II)I"⟩
def yMo_split : MethodName := ⟨"ClassCharactersModel", "split", "(II)V"⟩
def yMo_takeApart : MethodName := ⟨"ClassCharactersModel", "takeApart", "()V"⟩
def yMo_inverseOf : MethodName := ⟨"ClassCharactersModel", "inverseOf", "(I)I"⟩
def yMo_makeRow : MethodName := ⟨"ClassCharactersModel", "makeRow", "(I)V"⟩
def yMo_comesBefore : MethodName := ⟨"ClassCharactersModel", "comesBefore", "(II)Z"⟩
def yMo_exchange : MethodName := ⟨"ClassCharactersModel", "exchange", "(II)V"⟩
def yMo_build : MethodName := ⟨"ClassCharactersModel", "build", "()I"⟩
def yMo_isClass : MethodName := ⟨"ClassCharactersModel", "isClass", "(I)Z"⟩
def yMo_order : MethodName := ⟨"ClassCharactersModel", "order", "()I"⟩
def yMo_element : MethodName := ⟨"ClassCharactersModel", "element", "(I)I"⟩
def yMo_classOf : MethodName := ⟨"ClassCharactersModel", "classOf", "(I)I"⟩
def yMo_classes : MethodName := ⟨"ClassCharactersModel", "classes", "()I"⟩
def yMo_size : MethodName := ⟨"ClassCharactersModel", "size", "(I)I"⟩
def yMo_least : MethodName := ⟨"ClassCharactersModel", "least", "(I)I"⟩
def yMo_power : MethodName := ⟨"ClassCharactersModel", "power", "(II)I"⟩
def yMo_constant : MethodName := ⟨"ClassCharactersModel", "constant", "(III)I"⟩
def yMo_exponent : MethodName := ⟨"ClassCharactersModel", "exponent", "()I"⟩
def yMo_prime : MethodName := ⟨"ClassCharactersModel", "prime", "()I"⟩
def yMo_root : MethodName := ⟨"ClassCharactersModel", "root", "()I"⟩
def yMo_degree : MethodName := ⟨"ClassCharactersModel", "degree", "(I)I"⟩
def yMo_value : MethodName := ⟨"ClassCharactersModel", "value", "(II)I"⟩
def yMo_multiplicity : MethodName := ⟨"ClassCharactersModel", "multiplicity", "(III)I"⟩
def yMo_indicator : MethodName := ⟨"ClassCharactersModel", "indicator", "(I)I"⟩
def yMo_kernel : MethodName := ⟨"ClassCharactersModel", "kernel", "(I)I"⟩
def yMo_insert : MethodName := ⟨"ClassCharactersModel", "insert", "(II)I"⟩
def yMo_normals : MethodName := ⟨"ClassCharactersModel", "normals", "()I"⟩
def yCm_find : MethodName := ⟨"ClassCharacters$CentralMaps", "find", "(LClassCharacters$Conjugates;LClassCharacters$Residues;)V"⟩
def yCm_startWhole : MethodName := ⟨"ClassCharacters$CentralMaps", "startWhole", "()V"⟩
def yCm_setAction : MethodName := ⟨"ClassCharacters$CentralMaps", "setAction", "(IILClassCharacters$Conjugates;LClassCharacters$Residues;)V"⟩
def yCm_split : MethodName := ⟨"ClassCharacters$CentralMaps", "split", "(IILClassCharacters$Residues;)V"⟩
def yCm_setSystem : MethodName := ⟨"ClassCharacters$CentralMaps", "setSystem", "(IILClassCharacters$Residues;)V"⟩
def yCm_solve : MethodName := ⟨"ClassCharacters$CentralMaps", "solve", "(ILClassCharacters$Residues;)V"⟩
def yCm_swapRows : MethodName := ⟨"ClassCharacters$CentralMaps", "swapRows", "(III)V"⟩
def yCm_clearColumn : MethodName := ⟨"ClassCharacters$CentralMaps", "clearColumn", "(IIILClassCharacters$Residues;)V"⟩
def yCm_takeSolution : MethodName := ⟨"ClassCharacters$CentralMaps", "takeSolution", "(IIIILClassCharacters$Residues;)V"⟩
def yCm_scale : MethodName := ⟨"ClassCharacters$CentralMaps", "scale", "(LClassCharacters$Residues;)V"⟩
def yCd_isPermutation : MethodName := ⟨"ClassCharacters$Codes", "isPermutation", "(I)Z"⟩
def yCd_product : MethodName := ⟨"ClassCharacters$Codes", "product", "(II)I"⟩
def yCd_inverse : MethodName := ⟨"ClassCharacters$Codes", "inverse", "(I)I"⟩
def yCo_divide : MethodName := ⟨"ClassCharacters$Conjugates", "divide", "(LClassCharacters$Elements;)Z"⟩
def yCo_gather : MethodName := ⟨"ClassCharacters$Conjugates", "gather", "(ILClassCharacters$Elements;)V"⟩
def yCo_classHolding : MethodName := ⟨"ClassCharacters$Conjugates", "classHolding", "(ILClassCharacters$Elements;)I"⟩
def yCo_listPowers : MethodName := ⟨"ClassCharacters$Conjugates", "listPowers", "(LClassCharacters$Elements;)V"⟩
def yCo_classRaised : MethodName := ⟨"ClassCharacters$Conjugates", "classRaised", "(II)I"⟩
def yCo_inverseOf : MethodName := ⟨"ClassCharacters$Conjugates", "inverseOf", "(I)I"⟩
def yCo_countPairs : MethodName := ⟨"ClassCharacters$Conjugates", "countPairs", "(LClassCharacters$Elements;)V"⟩
def yCo_pairs : MethodName := ⟨"ClassCharacters$Conjugates", "pairs", "(III)I"⟩
def yCo_pairPlace : MethodName := ⟨"ClassCharacters$Conjugates", "pairPlace", "(III)I"⟩
def yEl_generate : MethodName := ⟨"ClassCharacters$Elements", "generate", "([II)Z"⟩
def yEl_indexOf : MethodName := ⟨"ClassCharacters$Elements", "indexOf", "(I)I"⟩
def yEl_include : MethodName := ⟨"ClassCharacters$Elements", "include", "(I)Z"⟩
def yEl_firstNotBelow : MethodName := ⟨"ClassCharacters$Elements", "firstNotBelow", "(I)I"⟩
def yRe_choose : MethodName := ⟨"ClassCharacters$Residues", "choose", "(II)V"⟩
def yRe_isPrime : MethodName := ⟨"ClassCharacters$Residues", "isPrime", "(I)Z"⟩
def yRe_orderOf : MethodName := ⟨"ClassCharacters$Residues", "orderOf", "(I)I"⟩
def yRe_reduce : MethodName := ⟨"ClassCharacters$Residues", "reduce", "(I)I"⟩
def yRe_times : MethodName := ⟨"ClassCharacters$Residues", "times", "(II)I"⟩
def yRe_plusTimes : MethodName := ⟨"ClassCharacters$Residues", "plusTimes", "(III)I"⟩
def yRe_minusTimes : MethodName := ⟨"ClassCharacters$Residues", "minusTimes", "(III)I"⟩
def yRe_over : MethodName := ⟨"ClassCharacters$Residues", "over", "(II)I"⟩
def yRe_reciprocal : MethodName := ⟨"ClassCharacters$Residues", "reciprocal", "(I)I"⟩
def yRe_raised : MethodName := ⟨"ClassCharacters$Residues", "raised", "(II)I"⟩
def yRo_make : MethodName := ⟨"ClassCharacters$Rows", "make", "(ILClassCharacters$CentralMaps;LClassCharacters$Conjugates;LClassCharacters$Residues;)V"⟩
def yRo_setValues : MethodName := ⟨"ClassCharacters$Rows", "setValues", "(II[ILClassCharacters$Conjugates;LClassCharacters$Residues;)V"⟩
def yRo_degreeFor : MethodName := ⟨"ClassCharacters$Rows", "degreeFor", "(IILClassCharacters$Residues;)I"⟩
def yRo_setIndicator : MethodName := ⟨"ClassCharacters$Rows", "setIndicator", "(IILClassCharacters$Conjugates;LClassCharacters$Residues;)V"⟩
def yRo_setKernel : MethodName := ⟨"ClassCharacters$Rows", "setKernel", "(I)V"⟩
def yRo_insertPlace : MethodName := ⟨"ClassCharacters$Rows", "insertPlace", "(I)V"⟩
def yRo_comesBefore : MethodName := ⟨"ClassCharacters$Rows", "comesBefore", "(II)Z"⟩
def yRo_listNormals : MethodName := ⟨"ClassCharacters$Rows", "listNormals", "()V"⟩
def yRo_includeNormal : MethodName := ⟨"ClassCharacters$Rows", "includeNormal", "(I)V"⟩
def yRo_timesOfRoot : MethodName := ⟨"ClassCharacters$Rows", "timesOfRoot", "(IIILClassCharacters$Conjugates;LClassCharacters$Residues;)I"⟩
def yMa_floorMod : MethodName := ⟨"java/lang/Math", "floorMod", "(II)I"⟩
def yMa_max : MethodName := ⟨"java/lang/Math", "max", "(II)I"⟩
def yAr_fill : MethodName := ⟨"java/util/Arrays", "fill", "([II)V"⟩
-- the words that every method carries
def wt : List Cond := lw_tbl.filter goodWord
def wn : List Cond := lw_tbl.filter sx_isN
theorem wt_sub {w : Cond} (h : w ∈ wt) : w ∈ lw_tbl := (List.mem_filter.mp h).1
theorem wt_good {w : Cond} (h : w ∈ wt) : goodWord w = true := (List.mem_filter.mp h).2
abbrev wy (y : MethodName) (cc : ByteArray) (nL : Nat) (ret : Option FieldType) : List Cond := Cond.code y cc nL ret :: wt
theorem wy_in {y y' : MethodName} {cc cc' : ByteArray} {nL nL' : Nat} {ret ret' : Option FieldType} (h : Cond.code y' cc' nL' ret' ∈ wt) : GoodIn (wy y cc nL ret) (wy y' cc' nL' ret') := by
  intro w hw
  have hm : w ∈ wt := by
    rcases List.mem_cons.mp hw with rfl | hw
    · exact h
    · exact hw
  exact ⟨List.mem_cons_of_mem _ hm, good_of_word (wt_good hm)⟩
-- a list of rows as a table
def sx_tab (l : List (Nat × Instr × Nat × Nat)) : sx_F := fun pc => (l.find? (fun q => q.1 == pc)).map (fun q => q.2)
theorem sx_tab_mem {l : List (Nat × Instr × Nat × Nat)} {pc : Nat} {i : Instr × Nat × Nat} (h : sx_tab l pc = some i) : (pc, i) ∈ l := by
  unfold sx_tab at h
  cases hf : l.find? (fun q => q.1 == pc) with
  | none => rw [hf] at h; cases h
  | some q =>
    rw [hf] at h
    have h1 := List.mem_of_find?_eq_some hf
    have h2 := List.find?_some hf
    have h3 : q.1 = pc := by simpa using h2
    have h4 : q.2 = i := Option.some.inj h
    rw [← h3, ← h4]
    exact h1
def sx_chk (own : String) (Ts : List Cond) (nL : Nat) (cc : ByteArray) (l : List (Nat × Instr × Nat × Nat)) : Bool := l.all (fun q => decide (decode cc q.1 = .ok (q.2.1, sx_len q.2.1)) && sx_ok own hostC kinds Ts wn nL q.1 q.2.1 q.2.2)
theorem sx_chk_ok {own : String} {Ts : List Cond} {nL : Nat} {cc : ByteArray} {l : List (Nat × Instr × Nat × Nat)} (h : sx_chk own Ts nL cc l = true) (pc : Nat) (i : Instr × Nat × Nat) (hF : sx_tab l pc = some i) : decode cc pc = .ok (i.1, sx_len i.1) ∧ sx_ok own hostC kinds Ts wn nL pc i.1 i.2 = true := by
  have h1 := List.all_eq_true.mp h _ (sx_tab_mem hF)
  rw [Bool.and_eq_true] at h1
  exact ⟨of_decide_eq_true h1.1, h1.2⟩
theorem tst1 : Cond.fieldLinkNest "ClassCharacters" 72 "ClassCharacters$Elements" "sorted" "[I" "ClassCharacters" ∈ wn := by decide +kernel
theorem tst2 : Cond.arrayClass .int ∈ wt := by decide +kernel
theorem wt_kinds (y : MethodName) (cc : ByteArray) (nL : Nat) (ret : Option FieldType) : sx_Tw kinds (wy y cc nL ret) := by
  have h : kinds.all (fun r => (u_ws r.1 r.2.1 r.2.2).all (fun w => decide (w ∈ wt))) = true := by decide +kernel
  intro ci r hr w hw
  exact List.mem_cons_of_mem _ (of_decide_eq_true (List.all_eq_true.mp (List.all_eq_true.mp h r (List.mem_of_getElem? hr)) w hw))
end
section
abbrev lCd_isPermutation : List (Nat × Instr × Nat × Nat) := [(0, .iload_n 0, 0, 0), (1, .ifCond .lt (9), 10, 0), (4, .iload_n 0, 0, 0), (5, .ldc 9, 16777216, 0), (7, .if_icmp .lt (5), 12, 0), (10, .iconst 0, 0, 0), (11, .ireturn, 0, 0), (12, .iconst 0, 0, 0), (13, .istore_n 1, 0, 0), (14, .bipush (21), 0, 0), (16, .istore_n 2, 0, 0), (17, .iload_n 2, 0, 0), (18, .ifCond .lt (20), 38, 0), (21, .iload_n 1, 0, 0), (22, .iconst 1, 0, 0), (23, .iload_n 0, 0, 0), (24, .iload_n 2, 0, 0), (25, .ishr, 0, 0), (26, .bipush (7), 0, 0), (28, .iand, 0, 0), (29, .ishl, 0, 0), (30, .ior, 0, 0), (31, .istore_n 1, 0, 0), (32, .iinc 2 (-3), 0, 0), (35, .goto (-18), 17, 0), (38, .iload_n 1, 0, 0), (39, .sipush (255), 0, 0), (42, .if_icmp .ne (7), 49, 0), (45, .iconst 1, 0, 0), (46, .goto (4), 50, 0), (49, .iconst 0, 0, 0), (50, .ireturn, 0, 0)]
def fCd_isPermutation : sx_F := sx_tab lCd_isPermutation
theorem kCd_isPermutation : sx_chk "ClassCharacters$Codes" (wy yCd_isPermutation prog_3_method_2_code 3 (some .boolean)) 3 prog_3_method_2_code lCd_isPermutation = true := by decide +kernel
theorem gCd_isPermutation_0 : fCd_isPermutation 0 = some (.iload_n 0, 0, 0) := rfl
theorem gCd_isPermutation_1 : fCd_isPermutation 1 = some (.ifCond .lt (9), 10, 0) := rfl
theorem gCd_isPermutation_4 : fCd_isPermutation 4 = some (.iload_n 0, 0, 0) := rfl
theorem gCd_isPermutation_5 : fCd_isPermutation 5 = some (.ldc 9, 16777216, 0) := rfl
theorem gCd_isPermutation_7 : fCd_isPermutation 7 = some (.if_icmp .lt (5), 12, 0) := rfl
theorem gCd_isPermutation_10 : fCd_isPermutation 10 = some (.iconst 0, 0, 0) := rfl
theorem gCd_isPermutation_11 : fCd_isPermutation 11 = some (.ireturn, 0, 0) := rfl
theorem gCd_isPermutation_12 : fCd_isPermutation 12 = some (.iconst 0, 0, 0) := rfl
theorem gCd_isPermutation_13 : fCd_isPermutation 13 = some (.istore_n 1, 0, 0) := rfl
theorem gCd_isPermutation_14 : fCd_isPermutation 14 = some (.bipush (21), 0, 0) := rfl
theorem gCd_isPermutation_16 : fCd_isPermutation 16 = some (.istore_n 2, 0, 0) := rfl
theorem gCd_isPermutation_17 : fCd_isPermutation 17 = some (.iload_n 2, 0, 0) := rfl
theorem gCd_isPermutation_18 : fCd_isPermutation 18 = some (.ifCond .lt (20), 38, 0) := rfl
theorem gCd_isPermutation_21 : fCd_isPermutation 21 = some (.iload_n 1, 0, 0) := rfl
theorem gCd_isPermutation_22 : fCd_isPermutation 22 = some (.iconst 1, 0, 0) := rfl
theorem gCd_isPermutation_23 : fCd_isPermutation 23 = some (.iload_n 0, 0, 0) := rfl
theorem gCd_isPermutation_24 : fCd_isPermutation 24 = some (.iload_n 2, 0, 0) := rfl
theorem gCd_isPermutation_25 : fCd_isPermutation 25 = some (.ishr, 0, 0) := rfl
theorem gCd_isPermutation_26 : fCd_isPermutation 26 = some (.bipush (7), 0, 0) := rfl
theorem gCd_isPermutation_28 : fCd_isPermutation 28 = some (.iand, 0, 0) := rfl
theorem gCd_isPermutation_29 : fCd_isPermutation 29 = some (.ishl, 0, 0) := rfl
theorem gCd_isPermutation_30 : fCd_isPermutation 30 = some (.ior, 0, 0) := rfl
theorem gCd_isPermutation_31 : fCd_isPermutation 31 = some (.istore_n 1, 0, 0) := rfl
theorem gCd_isPermutation_32 : fCd_isPermutation 32 = some (.iinc 2 (-3), 0, 0) := rfl
theorem gCd_isPermutation_35 : fCd_isPermutation 35 = some (.goto (-18), 17, 0) := rfl
theorem gCd_isPermutation_38 : fCd_isPermutation 38 = some (.iload_n 1, 0, 0) := rfl
theorem gCd_isPermutation_39 : fCd_isPermutation 39 = some (.sipush (255), 0, 0) := rfl
theorem gCd_isPermutation_42 : fCd_isPermutation 42 = some (.if_icmp .ne (7), 49, 0) := rfl
theorem gCd_isPermutation_45 : fCd_isPermutation 45 = some (.iconst 1, 0, 0) := rfl
theorem gCd_isPermutation_46 : fCd_isPermutation 46 = some (.goto (4), 50, 0) := rfl
theorem gCd_isPermutation_49 : fCd_isPermutation 49 = some (.iconst 0, 0, 0) := rfl
theorem gCd_isPermutation_50 : fCd_isPermutation 50 = some (.ireturn, 0, 0) := rfl
abbrev lCd_product : List (Nat × Instr × Nat × Nat) := [(0, .iconst 0, 0, 0), (1, .istore_n 2, 0, 0), (2, .bipush (21), 0, 0), (4, .istore_n 3, 0, 0), (5, .iload_n 3, 0, 0), (6, .ifCond .lt (38), 44, 0), (9, .iload_n 0, 0, 0), (10, .iload_n 3, 0, 0), (11, .ishr, 0, 0), (12, .bipush (7), 0, 0), (14, .iand, 0, 0), (15, .istore 4, 0, 0), (17, .iload_n 1, 0, 0), (18, .bipush (21), 0, 0), (20, .iconst 3, 0, 0), (21, .iload 4, 0, 0), (23, .imul, 0, 0), (24, .isub, 0, 0), (25, .ishr, 0, 0), (26, .bipush (7), 0, 0), (28, .iand, 0, 0), (29, .istore 5, 0, 0), (31, .iload_n 2, 0, 0), (32, .iconst 3, 0, 0), (33, .ishl, 0, 0), (34, .iload 5, 0, 0), (36, .ior, 0, 0), (37, .istore_n 2, 0, 0), (38, .iinc 3 (-3), 0, 0), (41, .goto (-36), 5, 0), (44, .iload_n 2, 0, 0), (45, .ireturn, 0, 0)]
def fCd_product : sx_F := sx_tab lCd_product
theorem kCd_product : sx_chk "ClassCharacters$Codes" (wy yCd_product prog_3_method_3_code 6 (some .int)) 6 prog_3_method_3_code lCd_product = true := by decide +kernel
theorem gCd_product_0 : fCd_product 0 = some (.iconst 0, 0, 0) := rfl
theorem gCd_product_1 : fCd_product 1 = some (.istore_n 2, 0, 0) := rfl
theorem gCd_product_2 : fCd_product 2 = some (.bipush (21), 0, 0) := rfl
theorem gCd_product_4 : fCd_product 4 = some (.istore_n 3, 0, 0) := rfl
theorem gCd_product_5 : fCd_product 5 = some (.iload_n 3, 0, 0) := rfl
theorem gCd_product_6 : fCd_product 6 = some (.ifCond .lt (38), 44, 0) := rfl
theorem gCd_product_9 : fCd_product 9 = some (.iload_n 0, 0, 0) := rfl
theorem gCd_product_10 : fCd_product 10 = some (.iload_n 3, 0, 0) := rfl
theorem gCd_product_11 : fCd_product 11 = some (.ishr, 0, 0) := rfl
theorem gCd_product_12 : fCd_product 12 = some (.bipush (7), 0, 0) := rfl
theorem gCd_product_14 : fCd_product 14 = some (.iand, 0, 0) := rfl
theorem gCd_product_15 : fCd_product 15 = some (.istore 4, 0, 0) := rfl
theorem gCd_product_17 : fCd_product 17 = some (.iload_n 1, 0, 0) := rfl
theorem gCd_product_18 : fCd_product 18 = some (.bipush (21), 0, 0) := rfl
theorem gCd_product_20 : fCd_product 20 = some (.iconst 3, 0, 0) := rfl
theorem gCd_product_21 : fCd_product 21 = some (.iload 4, 0, 0) := rfl
theorem gCd_product_23 : fCd_product 23 = some (.imul, 0, 0) := rfl
theorem gCd_product_24 : fCd_product 24 = some (.isub, 0, 0) := rfl
theorem gCd_product_25 : fCd_product 25 = some (.ishr, 0, 0) := rfl
theorem gCd_product_26 : fCd_product 26 = some (.bipush (7), 0, 0) := rfl
theorem gCd_product_28 : fCd_product 28 = some (.iand, 0, 0) := rfl
theorem gCd_product_29 : fCd_product 29 = some (.istore 5, 0, 0) := rfl
theorem gCd_product_31 : fCd_product 31 = some (.iload_n 2, 0, 0) := rfl
theorem gCd_product_32 : fCd_product 32 = some (.iconst 3, 0, 0) := rfl
theorem gCd_product_33 : fCd_product 33 = some (.ishl, 0, 0) := rfl
theorem gCd_product_34 : fCd_product 34 = some (.iload 5, 0, 0) := rfl
theorem gCd_product_36 : fCd_product 36 = some (.ior, 0, 0) := rfl
theorem gCd_product_37 : fCd_product 37 = some (.istore_n 2, 0, 0) := rfl
theorem gCd_product_38 : fCd_product 38 = some (.iinc 3 (-3), 0, 0) := rfl
theorem gCd_product_41 : fCd_product 41 = some (.goto (-36), 5, 0) := rfl
theorem gCd_product_44 : fCd_product 44 = some (.iload_n 2, 0, 0) := rfl
theorem gCd_product_45 : fCd_product 45 = some (.ireturn, 0, 0) := rfl
abbrev lCd_inverse : List (Nat × Instr × Nat × Nat) := [(0, .iconst 0, 0, 0), (1, .istore_n 1, 0, 0), (2, .iconst 0, 0, 0), (3, .istore_n 2, 0, 0), (4, .iload_n 2, 0, 0), (5, .bipush (7), 0, 0), (7, .if_icmp .gt (32), 39, 0), (10, .iload_n 0, 0, 0), (11, .bipush (21), 0, 0), (13, .iconst 3, 0, 0), (14, .iload_n 2, 0, 0), (15, .imul, 0, 0), (16, .isub, 0, 0), (17, .ishr, 0, 0), (18, .bipush (7), 0, 0), (20, .iand, 0, 0), (21, .istore_n 3, 0, 0), (22, .iload_n 1, 0, 0), (23, .iload_n 2, 0, 0), (24, .bipush (21), 0, 0), (26, .iconst 3, 0, 0), (27, .iload_n 3, 0, 0), (28, .imul, 0, 0), (29, .isub, 0, 0), (30, .ishl, 0, 0), (31, .ior, 0, 0), (32, .istore_n 1, 0, 0), (33, .iinc 2 (1), 0, 0), (36, .goto (-32), 4, 0), (39, .iload_n 1, 0, 0), (40, .ireturn, 0, 0)]
def fCd_inverse : sx_F := sx_tab lCd_inverse
theorem kCd_inverse : sx_chk "ClassCharacters$Codes" (wy yCd_inverse prog_3_method_4_code 4 (some .int)) 4 prog_3_method_4_code lCd_inverse = true := by decide +kernel
theorem gCd_inverse_0 : fCd_inverse 0 = some (.iconst 0, 0, 0) := rfl
theorem gCd_inverse_1 : fCd_inverse 1 = some (.istore_n 1, 0, 0) := rfl
theorem gCd_inverse_2 : fCd_inverse 2 = some (.iconst 0, 0, 0) := rfl
theorem gCd_inverse_3 : fCd_inverse 3 = some (.istore_n 2, 0, 0) := rfl
theorem gCd_inverse_4 : fCd_inverse 4 = some (.iload_n 2, 0, 0) := rfl
theorem gCd_inverse_5 : fCd_inverse 5 = some (.bipush (7), 0, 0) := rfl
theorem gCd_inverse_7 : fCd_inverse 7 = some (.if_icmp .gt (32), 39, 0) := rfl
theorem gCd_inverse_10 : fCd_inverse 10 = some (.iload_n 0, 0, 0) := rfl
theorem gCd_inverse_11 : fCd_inverse 11 = some (.bipush (21), 0, 0) := rfl
theorem gCd_inverse_13 : fCd_inverse 13 = some (.iconst 3, 0, 0) := rfl
theorem gCd_inverse_14 : fCd_inverse 14 = some (.iload_n 2, 0, 0) := rfl
theorem gCd_inverse_15 : fCd_inverse 15 = some (.imul, 0, 0) := rfl
theorem gCd_inverse_16 : fCd_inverse 16 = some (.isub, 0, 0) := rfl
theorem gCd_inverse_17 : fCd_inverse 17 = some (.ishr, 0, 0) := rfl
theorem gCd_inverse_18 : fCd_inverse 18 = some (.bipush (7), 0, 0) := rfl
theorem gCd_inverse_20 : fCd_inverse 20 = some (.iand, 0, 0) := rfl
theorem gCd_inverse_21 : fCd_inverse 21 = some (.istore_n 3, 0, 0) := rfl
theorem gCd_inverse_22 : fCd_inverse 22 = some (.iload_n 1, 0, 0) := rfl
theorem gCd_inverse_23 : fCd_inverse 23 = some (.iload_n 2, 0, 0) := rfl
theorem gCd_inverse_24 : fCd_inverse 24 = some (.bipush (21), 0, 0) := rfl
theorem gCd_inverse_26 : fCd_inverse 26 = some (.iconst 3, 0, 0) := rfl
theorem gCd_inverse_27 : fCd_inverse 27 = some (.iload_n 3, 0, 0) := rfl
theorem gCd_inverse_28 : fCd_inverse 28 = some (.imul, 0, 0) := rfl
theorem gCd_inverse_29 : fCd_inverse 29 = some (.isub, 0, 0) := rfl
theorem gCd_inverse_30 : fCd_inverse 30 = some (.ishl, 0, 0) := rfl
theorem gCd_inverse_31 : fCd_inverse 31 = some (.ior, 0, 0) := rfl
theorem gCd_inverse_32 : fCd_inverse 32 = some (.istore_n 1, 0, 0) := rfl
theorem gCd_inverse_33 : fCd_inverse 33 = some (.iinc 2 (1), 0, 0) := rfl
theorem gCd_inverse_36 : fCd_inverse 36 = some (.goto (-32), 4, 0) := rfl
theorem gCd_inverse_39 : fCd_inverse 39 = some (.iload_n 1, 0, 0) := rfl
theorem gCd_inverse_40 : fCd_inverse 40 = some (.ireturn, 0, 0) := rfl
abbrev lEl_generate : List (Nat × Instr × Nat × Nat) := [(0, .aload_n 0, 0, 0), (1, .iconst 0, 0, 0), (2, .putfield 18, 1, 2), (5, .aload_n 0, 0, 0), (6, .ldc 24, 342391, 0), (8, .invokevirtual 25, 95, 0), (11, .istore_n 3, 0, 0), (12, .iconst 0, 0, 0), (13, .istore 4, 0, 0), (15, .iload 4, 0, 0), (17, .bipush (120), 0, 0), (19, .if_icmp .ge (60), 79, 0), (22, .iload_n 3, 0, 0), (23, .ifCond .eq (56), 79, 0), (26, .iload 4, 0, 0), (28, .aload_n 0, 0, 0), (29, .getfield 18, 1, 2), (32, .if_icmp .ge (47), 79, 0), (35, .iconst 0, 0, 0), (36, .istore 5, 0, 0), (38, .iload_n 3, 0, 0), (39, .ifCond .eq (34), 73, 0), (42, .iload 5, 0, 0), (44, .iload_n 2, 0, 0), (45, .if_icmp .ge (28), 73, 0), (48, .aload_n 0, 0, 0), (49, .aload_n 0, 0, 0), (50, .getfield 15, 1, 1), (53, .iload 4, 0, 0), (55, .iaload, 0, 0), (56, .aload_n 1, 0, 0), (57, .iload 5, 0, 0), (59, .iaload, 0, 0), (60, .invokestatic 29, 82, 0), (63, .invokevirtual 25, 95, 0), (66, .istore_n 3, 0, 0), (67, .iinc 5 (1), 0, 0), (70, .goto (-32), 38, 0), (73, .iinc 4 (1), 0, 0), (76, .goto (-61), 15, 0), (79, .iload_n 3, 0, 0), (80, .ireturn, 0, 0)]
def fEl_generate : sx_F := sx_tab lEl_generate
theorem kEl_generate : sx_chk "ClassCharacters$Elements" (wy yEl_generate prog_5_method_2_code 6 (some .boolean)) 6 prog_5_method_2_code lEl_generate = true := by decide +kernel
theorem gEl_generate_0 : fEl_generate 0 = some (.aload_n 0, 0, 0) := rfl
theorem gEl_generate_1 : fEl_generate 1 = some (.iconst 0, 0, 0) := rfl
theorem gEl_generate_2 : fEl_generate 2 = some (.putfield 18, 1, 2) := rfl
theorem gEl_generate_5 : fEl_generate 5 = some (.aload_n 0, 0, 0) := rfl
theorem gEl_generate_6 : fEl_generate 6 = some (.ldc 24, 342391, 0) := rfl
theorem gEl_generate_8 : fEl_generate 8 = some (.invokevirtual 25, 95, 0) := rfl
theorem gEl_generate_11 : fEl_generate 11 = some (.istore_n 3, 0, 0) := rfl
theorem gEl_generate_12 : fEl_generate 12 = some (.iconst 0, 0, 0) := rfl
theorem gEl_generate_13 : fEl_generate 13 = some (.istore 4, 0, 0) := rfl
theorem gEl_generate_15 : fEl_generate 15 = some (.iload 4, 0, 0) := rfl
theorem gEl_generate_17 : fEl_generate 17 = some (.bipush (120), 0, 0) := rfl
theorem gEl_generate_19 : fEl_generate 19 = some (.if_icmp .ge (60), 79, 0) := rfl
theorem gEl_generate_22 : fEl_generate 22 = some (.iload_n 3, 0, 0) := rfl
theorem gEl_generate_23 : fEl_generate 23 = some (.ifCond .eq (56), 79, 0) := rfl
theorem gEl_generate_26 : fEl_generate 26 = some (.iload 4, 0, 0) := rfl
theorem gEl_generate_28 : fEl_generate 28 = some (.aload_n 0, 0, 0) := rfl
theorem gEl_generate_29 : fEl_generate 29 = some (.getfield 18, 1, 2) := rfl
theorem gEl_generate_32 : fEl_generate 32 = some (.if_icmp .ge (47), 79, 0) := rfl
theorem gEl_generate_35 : fEl_generate 35 = some (.iconst 0, 0, 0) := rfl
theorem gEl_generate_36 : fEl_generate 36 = some (.istore 5, 0, 0) := rfl
theorem gEl_generate_38 : fEl_generate 38 = some (.iload_n 3, 0, 0) := rfl
theorem gEl_generate_39 : fEl_generate 39 = some (.ifCond .eq (34), 73, 0) := rfl
theorem gEl_generate_42 : fEl_generate 42 = some (.iload 5, 0, 0) := rfl
theorem gEl_generate_44 : fEl_generate 44 = some (.iload_n 2, 0, 0) := rfl
theorem gEl_generate_45 : fEl_generate 45 = some (.if_icmp .ge (28), 73, 0) := rfl
theorem gEl_generate_48 : fEl_generate 48 = some (.aload_n 0, 0, 0) := rfl
theorem gEl_generate_49 : fEl_generate 49 = some (.aload_n 0, 0, 0) := rfl
theorem gEl_generate_50 : fEl_generate 50 = some (.getfield 15, 1, 1) := rfl
theorem gEl_generate_53 : fEl_generate 53 = some (.iload 4, 0, 0) := rfl
theorem gEl_generate_55 : fEl_generate 55 = some (.iaload, 0, 0) := rfl
theorem gEl_generate_56 : fEl_generate 56 = some (.aload_n 1, 0, 0) := rfl
theorem gEl_generate_57 : fEl_generate 57 = some (.iload 5, 0, 0) := rfl
theorem gEl_generate_59 : fEl_generate 59 = some (.iaload, 0, 0) := rfl
theorem gEl_generate_60 : fEl_generate 60 = some (.invokestatic 29, 82, 0) := rfl
theorem gEl_generate_63 : fEl_generate 63 = some (.invokevirtual 25, 95, 0) := rfl
theorem gEl_generate_66 : fEl_generate 66 = some (.istore_n 3, 0, 0) := rfl
theorem gEl_generate_67 : fEl_generate 67 = some (.iinc 5 (1), 0, 0) := rfl
theorem gEl_generate_70 : fEl_generate 70 = some (.goto (-32), 38, 0) := rfl
theorem gEl_generate_73 : fEl_generate 73 = some (.iinc 4 (1), 0, 0) := rfl
theorem gEl_generate_76 : fEl_generate 76 = some (.goto (-61), 15, 0) := rfl
theorem gEl_generate_79 : fEl_generate 79 = some (.iload_n 3, 0, 0) := rfl
theorem gEl_generate_80 : fEl_generate 80 = some (.ireturn, 0, 0) := rfl
abbrev lEl_indexOf : List (Nat × Instr × Nat × Nat) := [(0, .aload_n 0, 0, 0), (1, .iload_n 1, 0, 0), (2, .invokevirtual 33, 96, 0), (5, .istore_n 2, 0, 0), (6, .iload_n 2, 0, 0), (7, .aload_n 0, 0, 0), (8, .getfield 18, 1, 2), (11, .if_icmp .ge (17), 28, 0), (14, .aload_n 0, 0, 0), (15, .getfield 9, 1, 0), (18, .iload_n 2, 0, 0), (19, .iaload, 0, 0), (20, .iload_n 1, 0, 0), (21, .if_icmp .ne (7), 28, 0), (24, .iload_n 2, 0, 0), (25, .goto (4), 29, 0), (28, .iconst (-1), 0, 0), (29, .ireturn, 0, 0)]
def fEl_indexOf : sx_F := sx_tab lEl_indexOf
theorem kEl_indexOf : sx_chk "ClassCharacters$Elements" (wy yEl_indexOf prog_5_method_3_code 3 (some .int)) 3 prog_5_method_3_code lEl_indexOf = true := by decide +kernel
theorem gEl_indexOf_0 : fEl_indexOf 0 = some (.aload_n 0, 0, 0) := rfl
theorem gEl_indexOf_1 : fEl_indexOf 1 = some (.iload_n 1, 0, 0) := rfl
theorem gEl_indexOf_2 : fEl_indexOf 2 = some (.invokevirtual 33, 96, 0) := rfl
theorem gEl_indexOf_5 : fEl_indexOf 5 = some (.istore_n 2, 0, 0) := rfl
theorem gEl_indexOf_6 : fEl_indexOf 6 = some (.iload_n 2, 0, 0) := rfl
theorem gEl_indexOf_7 : fEl_indexOf 7 = some (.aload_n 0, 0, 0) := rfl
theorem gEl_indexOf_8 : fEl_indexOf 8 = some (.getfield 18, 1, 2) := rfl
theorem gEl_indexOf_11 : fEl_indexOf 11 = some (.if_icmp .ge (17), 28, 0) := rfl
theorem gEl_indexOf_14 : fEl_indexOf 14 = some (.aload_n 0, 0, 0) := rfl
theorem gEl_indexOf_15 : fEl_indexOf 15 = some (.getfield 9, 1, 0) := rfl
theorem gEl_indexOf_18 : fEl_indexOf 18 = some (.iload_n 2, 0, 0) := rfl
theorem gEl_indexOf_19 : fEl_indexOf 19 = some (.iaload, 0, 0) := rfl
theorem gEl_indexOf_20 : fEl_indexOf 20 = some (.iload_n 1, 0, 0) := rfl
theorem gEl_indexOf_21 : fEl_indexOf 21 = some (.if_icmp .ne (7), 28, 0) := rfl
theorem gEl_indexOf_24 : fEl_indexOf 24 = some (.iload_n 2, 0, 0) := rfl
theorem gEl_indexOf_25 : fEl_indexOf 25 = some (.goto (4), 29, 0) := rfl
theorem gEl_indexOf_28 : fEl_indexOf 28 = some (.iconst (-1), 0, 0) := rfl
theorem gEl_indexOf_29 : fEl_indexOf 29 = some (.ireturn, 0, 0) := rfl
abbrev lEl_include : List (Nat × Instr × Nat × Nat) := [(0, .aload_n 0, 0, 0), (1, .iload_n 1, 0, 0), (2, .invokevirtual 33, 96, 0), (5, .istore_n 2, 0, 0), (6, .iload_n 2, 0, 0), (7, .aload_n 0, 0, 0), (8, .getfield 18, 1, 2), (11, .if_icmp .ge (15), 26, 0), (14, .aload_n 0, 0, 0), (15, .getfield 9, 1, 0), (18, .iload_n 2, 0, 0), (19, .iaload, 0, 0), (20, .iload_n 1, 0, 0), (21, .if_icmp .ne (5), 26, 0), (24, .iconst 1, 0, 0), (25, .ireturn, 0, 0), (26, .aload_n 0, 0, 0), (27, .getfield 18, 1, 2), (30, .bipush (120), 0, 0), (32, .if_icmp .lt (5), 37, 0), (35, .iconst 0, 0, 0), (36, .ireturn, 0, 0), (37, .aload_n 0, 0, 0), (38, .getfield 18, 1, 2), (41, .istore_n 3, 0, 0), (42, .iload_n 3, 0, 0), (43, .iload_n 2, 0, 0), (44, .if_icmp .le (23), 67, 0), (47, .aload_n 0, 0, 0), (48, .getfield 9, 1, 0), (51, .iload_n 3, 0, 0), (52, .aload_n 0, 0, 0), (53, .getfield 9, 1, 0), (56, .iload_n 3, 0, 0), (57, .iconst 1, 0, 0), (58, .isub, 0, 0), (59, .iaload, 0, 0), (60, .iastore, 0, 0), (61, .iinc 3 (-1), 0, 0), (64, .goto (-22), 42, 0), (67, .aload_n 0, 0, 0), (68, .getfield 9, 1, 0), (71, .iload_n 2, 0, 0), (72, .iload_n 1, 0, 0), (73, .iastore, 0, 0), (74, .aload_n 0, 0, 0), (75, .getfield 15, 1, 1), (78, .aload_n 0, 0, 0), (79, .getfield 18, 1, 2), (82, .iload_n 1, 0, 0), (83, .iastore, 0, 0), (84, .aload_n 0, 0, 0), (85, .dup, 0, 0), (86, .getfield 18, 1, 2), (89, .iconst 1, 0, 0), (90, .iadd, 0, 0), (91, .putfield 18, 1, 2), (94, .iconst 1, 0, 0), (95, .ireturn, 0, 0)]
def fEl_include : sx_F := sx_tab lEl_include
theorem kEl_include : sx_chk "ClassCharacters$Elements" (wy yEl_include prog_5_method_4_code 4 (some .boolean)) 4 prog_5_method_4_code lEl_include = true := by decide +kernel
theorem gEl_include_0 : fEl_include 0 = some (.aload_n 0, 0, 0) := rfl
theorem gEl_include_1 : fEl_include 1 = some (.iload_n 1, 0, 0) := rfl
theorem gEl_include_2 : fEl_include 2 = some (.invokevirtual 33, 96, 0) := rfl
theorem gEl_include_5 : fEl_include 5 = some (.istore_n 2, 0, 0) := rfl
theorem gEl_include_6 : fEl_include 6 = some (.iload_n 2, 0, 0) := rfl
theorem gEl_include_7 : fEl_include 7 = some (.aload_n 0, 0, 0) := rfl
theorem gEl_include_8 : fEl_include 8 = some (.getfield 18, 1, 2) := rfl
theorem gEl_include_11 : fEl_include 11 = some (.if_icmp .ge (15), 26, 0) := rfl
theorem gEl_include_14 : fEl_include 14 = some (.aload_n 0, 0, 0) := rfl
theorem gEl_include_15 : fEl_include 15 = some (.getfield 9, 1, 0) := rfl
theorem gEl_include_18 : fEl_include 18 = some (.iload_n 2, 0, 0) := rfl
theorem gEl_include_19 : fEl_include 19 = some (.iaload, 0, 0) := rfl
theorem gEl_include_20 : fEl_include 20 = some (.iload_n 1, 0, 0) := rfl
theorem gEl_include_21 : fEl_include 21 = some (.if_icmp .ne (5), 26, 0) := rfl
theorem gEl_include_24 : fEl_include 24 = some (.iconst 1, 0, 0) := rfl
theorem gEl_include_25 : fEl_include 25 = some (.ireturn, 0, 0) := rfl
theorem gEl_include_26 : fEl_include 26 = some (.aload_n 0, 0, 0) := rfl
theorem gEl_include_27 : fEl_include 27 = some (.getfield 18, 1, 2) := rfl
theorem gEl_include_30 : fEl_include 30 = some (.bipush (120), 0, 0) := rfl
theorem gEl_include_32 : fEl_include 32 = some (.if_icmp .lt (5), 37, 0) := rfl
theorem gEl_include_35 : fEl_include 35 = some (.iconst 0, 0, 0) := rfl
theorem gEl_include_36 : fEl_include 36 = some (.ireturn, 0, 0) := rfl
theorem gEl_include_37 : fEl_include 37 = some (.aload_n 0, 0, 0) := rfl
theorem gEl_include_38 : fEl_include 38 = some (.getfield 18, 1, 2) := rfl
theorem gEl_include_41 : fEl_include 41 = some (.istore_n 3, 0, 0) := rfl
theorem gEl_include_42 : fEl_include 42 = some (.iload_n 3, 0, 0) := rfl
theorem gEl_include_43 : fEl_include 43 = some (.iload_n 2, 0, 0) := rfl
theorem gEl_include_44 : fEl_include 44 = some (.if_icmp .le (23), 67, 0) := rfl
theorem gEl_include_47 : fEl_include 47 = some (.aload_n 0, 0, 0) := rfl
theorem gEl_include_48 : fEl_include 48 = some (.getfield 9, 1, 0) := rfl
theorem gEl_include_51 : fEl_include 51 = some (.iload_n 3, 0, 0) := rfl
theorem gEl_include_52 : fEl_include 52 = some (.aload_n 0, 0, 0) := rfl
theorem gEl_include_53 : fEl_include 53 = some (.getfield 9, 1, 0) := rfl
theorem gEl_include_56 : fEl_include 56 = some (.iload_n 3, 0, 0) := rfl
theorem gEl_include_57 : fEl_include 57 = some (.iconst 1, 0, 0) := rfl
theorem gEl_include_58 : fEl_include 58 = some (.isub, 0, 0) := rfl
theorem gEl_include_59 : fEl_include 59 = some (.iaload, 0, 0) := rfl
theorem gEl_include_60 : fEl_include 60 = some (.iastore, 0, 0) := rfl
theorem gEl_include_61 : fEl_include 61 = some (.iinc 3 (-1), 0, 0) := rfl
theorem gEl_include_64 : fEl_include 64 = some (.goto (-22), 42, 0) := rfl
theorem gEl_include_67 : fEl_include 67 = some (.aload_n 0, 0, 0) := rfl
theorem gEl_include_68 : fEl_include 68 = some (.getfield 9, 1, 0) := rfl
theorem gEl_include_71 : fEl_include 71 = some (.iload_n 2, 0, 0) := rfl
theorem gEl_include_72 : fEl_include 72 = some (.iload_n 1, 0, 0) := rfl
theorem gEl_include_73 : fEl_include 73 = some (.iastore, 0, 0) := rfl
theorem gEl_include_74 : fEl_include 74 = some (.aload_n 0, 0, 0) := rfl
theorem gEl_include_75 : fEl_include 75 = some (.getfield 15, 1, 1) := rfl
theorem gEl_include_78 : fEl_include 78 = some (.aload_n 0, 0, 0) := rfl
theorem gEl_include_79 : fEl_include 79 = some (.getfield 18, 1, 2) := rfl
theorem gEl_include_82 : fEl_include 82 = some (.iload_n 1, 0, 0) := rfl
theorem gEl_include_83 : fEl_include 83 = some (.iastore, 0, 0) := rfl
theorem gEl_include_84 : fEl_include 84 = some (.aload_n 0, 0, 0) := rfl
theorem gEl_include_85 : fEl_include 85 = some (.dup, 0, 0) := rfl
theorem gEl_include_86 : fEl_include 86 = some (.getfield 18, 1, 2) := rfl
theorem gEl_include_89 : fEl_include 89 = some (.iconst 1, 0, 0) := rfl
theorem gEl_include_90 : fEl_include 90 = some (.iadd, 0, 0) := rfl
theorem gEl_include_91 : fEl_include 91 = some (.putfield 18, 1, 2) := rfl
theorem gEl_include_94 : fEl_include 94 = some (.iconst 1, 0, 0) := rfl
theorem gEl_include_95 : fEl_include 95 = some (.ireturn, 0, 0) := rfl
abbrev lEl_firstNotBelow : List (Nat × Instr × Nat × Nat) := [(0, .iconst 0, 0, 0), (1, .istore_n 2, 0, 0), (2, .bipush (64), 0, 0), (4, .istore_n 3, 0, 0), (5, .iload_n 3, 0, 0), (6, .ifCond .le (38), 44, 0), (9, .iload_n 2, 0, 0), (10, .iload_n 3, 0, 0), (11, .iadd, 0, 0), (12, .aload_n 0, 0, 0), (13, .getfield 18, 1, 2), (16, .if_icmp .gt (21), 37, 0), (19, .aload_n 0, 0, 0), (20, .getfield 9, 1, 0), (23, .iload_n 2, 0, 0), (24, .iload_n 3, 0, 0), (25, .iadd, 0, 0), (26, .iconst 1, 0, 0), (27, .isub, 0, 0), (28, .iaload, 0, 0), (29, .iload_n 1, 0, 0), (30, .if_icmp .ge (7), 37, 0), (33, .iload_n 2, 0, 0), (34, .iload_n 3, 0, 0), (35, .iadd, 0, 0), (36, .istore_n 2, 0, 0), (37, .iload_n 3, 0, 0), (38, .iconst 2, 0, 0), (39, .idiv, 0, 0), (40, .istore_n 3, 0, 0), (41, .goto (-36), 5, 0), (44, .iload_n 2, 0, 0), (45, .ireturn, 0, 0)]
def fEl_firstNotBelow : sx_F := sx_tab lEl_firstNotBelow
theorem kEl_firstNotBelow : sx_chk "ClassCharacters$Elements" (wy yEl_firstNotBelow prog_5_method_5_code 4 (some .int)) 4 prog_5_method_5_code lEl_firstNotBelow = true := by decide +kernel
theorem gEl_firstNotBelow_0 : fEl_firstNotBelow 0 = some (.iconst 0, 0, 0) := rfl
theorem gEl_firstNotBelow_1 : fEl_firstNotBelow 1 = some (.istore_n 2, 0, 0) := rfl
theorem gEl_firstNotBelow_2 : fEl_firstNotBelow 2 = some (.bipush (64), 0, 0) := rfl
theorem gEl_firstNotBelow_4 : fEl_firstNotBelow 4 = some (.istore_n 3, 0, 0) := rfl
theorem gEl_firstNotBelow_5 : fEl_firstNotBelow 5 = some (.iload_n 3, 0, 0) := rfl
theorem gEl_firstNotBelow_6 : fEl_firstNotBelow 6 = some (.ifCond .le (38), 44, 0) := rfl
theorem gEl_firstNotBelow_9 : fEl_firstNotBelow 9 = some (.iload_n 2, 0, 0) := rfl
theorem gEl_firstNotBelow_10 : fEl_firstNotBelow 10 = some (.iload_n 3, 0, 0) := rfl
theorem gEl_firstNotBelow_11 : fEl_firstNotBelow 11 = some (.iadd, 0, 0) := rfl
theorem gEl_firstNotBelow_12 : fEl_firstNotBelow 12 = some (.aload_n 0, 0, 0) := rfl
theorem gEl_firstNotBelow_13 : fEl_firstNotBelow 13 = some (.getfield 18, 1, 2) := rfl
theorem gEl_firstNotBelow_16 : fEl_firstNotBelow 16 = some (.if_icmp .gt (21), 37, 0) := rfl
theorem gEl_firstNotBelow_19 : fEl_firstNotBelow 19 = some (.aload_n 0, 0, 0) := rfl
theorem gEl_firstNotBelow_20 : fEl_firstNotBelow 20 = some (.getfield 9, 1, 0) := rfl
theorem gEl_firstNotBelow_23 : fEl_firstNotBelow 23 = some (.iload_n 2, 0, 0) := rfl
theorem gEl_firstNotBelow_24 : fEl_firstNotBelow 24 = some (.iload_n 3, 0, 0) := rfl
theorem gEl_firstNotBelow_25 : fEl_firstNotBelow 25 = some (.iadd, 0, 0) := rfl
theorem gEl_firstNotBelow_26 : fEl_firstNotBelow 26 = some (.iconst 1, 0, 0) := rfl
theorem gEl_firstNotBelow_27 : fEl_firstNotBelow 27 = some (.isub, 0, 0) := rfl
theorem gEl_firstNotBelow_28 : fEl_firstNotBelow 28 = some (.iaload, 0, 0) := rfl
theorem gEl_firstNotBelow_29 : fEl_firstNotBelow 29 = some (.iload_n 1, 0, 0) := rfl
theorem gEl_firstNotBelow_30 : fEl_firstNotBelow 30 = some (.if_icmp .ge (7), 37, 0) := rfl
theorem gEl_firstNotBelow_33 : fEl_firstNotBelow 33 = some (.iload_n 2, 0, 0) := rfl
theorem gEl_firstNotBelow_34 : fEl_firstNotBelow 34 = some (.iload_n 3, 0, 0) := rfl
theorem gEl_firstNotBelow_35 : fEl_firstNotBelow 35 = some (.iadd, 0, 0) := rfl
theorem gEl_firstNotBelow_36 : fEl_firstNotBelow 36 = some (.istore_n 2, 0, 0) := rfl
theorem gEl_firstNotBelow_37 : fEl_firstNotBelow 37 = some (.iload_n 3, 0, 0) := rfl
theorem gEl_firstNotBelow_38 : fEl_firstNotBelow 38 = some (.iconst 2, 0, 0) := rfl
theorem gEl_firstNotBelow_39 : fEl_firstNotBelow 39 = some (.idiv, 0, 0) := rfl
theorem gEl_firstNotBelow_40 : fEl_firstNotBelow 40 = some (.istore_n 3, 0, 0) := rfl
theorem gEl_firstNotBelow_41 : fEl_firstNotBelow 41 = some (.goto (-36), 5, 0) := rfl
theorem gEl_firstNotBelow_44 : fEl_firstNotBelow 44 = some (.iload_n 2, 0, 0) := rfl
theorem gEl_firstNotBelow_45 : fEl_firstNotBelow 45 = some (.ireturn, 0, 0) := rfl
abbrev lRe_choose : List (Nat × Instr × Nat × Nat) := [(0, .iload_n 2, 0, 0), (1, .iconst 1, 0, 0), (2, .iadd, 0, 0), (3, .istore_n 3, 0, 0), (4, .iconst 1, 0, 0), (5, .istore 4, 0, 0), (7, .iload 4, 0, 0), (9, .sipush (300), 0, 0), (12, .if_icmp .ge (35), 47, 0), (15, .iload 4, 0, 0), (17, .iload_n 2, 0, 0), (18, .imul, 0, 0), (19, .iconst 1, 0, 0), (20, .iadd, 0, 0), (21, .istore_n 3, 0, 0), (22, .iload_n 3, 0, 0), (23, .iload_n 3, 0, 0), (24, .imul, 0, 0), (25, .iconst 4, 0, 0), (26, .iload_n 1, 0, 0), (27, .imul, 0, 0), (28, .if_icmp .le (13), 41, 0), (31, .iload_n 3, 0, 0), (32, .invokestatic 16, 98, 0), (35, .ifCond .eq (6), 41, 0), (38, .goto (9), 47, 0), (41, .iinc 4 (1), 0, 0), (44, .goto (-37), 7, 0), (47, .aload_n 0, 0, 0), (48, .iload_n 3, 0, 0), (49, .iconst 2, 0, 0), (50, .invokestatic 20, 118, 0), (53, .putfield 7, 3, 0), (56, .aload_n 0, 0, 0), (57, .iconst 1, 0, 0), (58, .putfield 13, 3, 1), (61, .aload_n 0, 0, 0), (62, .getfield 13, 3, 1), (65, .aload_n 0, 0, 0), (66, .getfield 7, 3, 0), (69, .iconst 1, 0, 0), (70, .isub, 0, 0), (71, .if_icmp .ge (28), 99, 0), (74, .aload_n 0, 0, 0), (75, .aload_n 0, 0, 0), (76, .getfield 13, 3, 1), (79, .invokevirtual 26, 99, 0), (82, .iload_n 2, 0, 0), (83, .if_icmp .eq (16), 99, 0), (86, .aload_n 0, 0, 0), (87, .dup, 0, 0), (88, .getfield 13, 3, 1), (91, .iconst 1, 0, 0), (92, .iadd, 0, 0), (93, .putfield 13, 3, 1), (96, .goto (-35), 61, 0), (99, .return_, 0, 0)]
def fRe_choose : sx_F := sx_tab lRe_choose
theorem kRe_choose : sx_chk "ClassCharacters$Residues" (wy yRe_choose prog_6_method_2_code 5 none) 5 prog_6_method_2_code lRe_choose = true := by decide +kernel
theorem gRe_choose_0 : fRe_choose 0 = some (.iload_n 2, 0, 0) := rfl
theorem gRe_choose_1 : fRe_choose 1 = some (.iconst 1, 0, 0) := rfl
theorem gRe_choose_2 : fRe_choose 2 = some (.iadd, 0, 0) := rfl
theorem gRe_choose_3 : fRe_choose 3 = some (.istore_n 3, 0, 0) := rfl
theorem gRe_choose_4 : fRe_choose 4 = some (.iconst 1, 0, 0) := rfl
theorem gRe_choose_5 : fRe_choose 5 = some (.istore 4, 0, 0) := rfl
theorem gRe_choose_7 : fRe_choose 7 = some (.iload 4, 0, 0) := rfl
theorem gRe_choose_9 : fRe_choose 9 = some (.sipush (300), 0, 0) := rfl
theorem gRe_choose_12 : fRe_choose 12 = some (.if_icmp .ge (35), 47, 0) := rfl
theorem gRe_choose_15 : fRe_choose 15 = some (.iload 4, 0, 0) := rfl
theorem gRe_choose_17 : fRe_choose 17 = some (.iload_n 2, 0, 0) := rfl
theorem gRe_choose_18 : fRe_choose 18 = some (.imul, 0, 0) := rfl
theorem gRe_choose_19 : fRe_choose 19 = some (.iconst 1, 0, 0) := rfl
theorem gRe_choose_20 : fRe_choose 20 = some (.iadd, 0, 0) := rfl
theorem gRe_choose_21 : fRe_choose 21 = some (.istore_n 3, 0, 0) := rfl
theorem gRe_choose_22 : fRe_choose 22 = some (.iload_n 3, 0, 0) := rfl
theorem gRe_choose_23 : fRe_choose 23 = some (.iload_n 3, 0, 0) := rfl
theorem gRe_choose_24 : fRe_choose 24 = some (.imul, 0, 0) := rfl
theorem gRe_choose_25 : fRe_choose 25 = some (.iconst 4, 0, 0) := rfl
theorem gRe_choose_26 : fRe_choose 26 = some (.iload_n 1, 0, 0) := rfl
theorem gRe_choose_27 : fRe_choose 27 = some (.imul, 0, 0) := rfl
theorem gRe_choose_28 : fRe_choose 28 = some (.if_icmp .le (13), 41, 0) := rfl
theorem gRe_choose_31 : fRe_choose 31 = some (.iload_n 3, 0, 0) := rfl
theorem gRe_choose_32 : fRe_choose 32 = some (.invokestatic 16, 98, 0) := rfl
theorem gRe_choose_35 : fRe_choose 35 = some (.ifCond .eq (6), 41, 0) := rfl
theorem gRe_choose_38 : fRe_choose 38 = some (.goto (9), 47, 0) := rfl
theorem gRe_choose_41 : fRe_choose 41 = some (.iinc 4 (1), 0, 0) := rfl
theorem gRe_choose_44 : fRe_choose 44 = some (.goto (-37), 7, 0) := rfl
theorem gRe_choose_47 : fRe_choose 47 = some (.aload_n 0, 0, 0) := rfl
theorem gRe_choose_48 : fRe_choose 48 = some (.iload_n 3, 0, 0) := rfl
theorem gRe_choose_49 : fRe_choose 49 = some (.iconst 2, 0, 0) := rfl
theorem gRe_choose_50 : fRe_choose 50 = some (.invokestatic 20, 118, 0) := rfl
theorem gRe_choose_53 : fRe_choose 53 = some (.putfield 7, 3, 0) := rfl
theorem gRe_choose_56 : fRe_choose 56 = some (.aload_n 0, 0, 0) := rfl
theorem gRe_choose_57 : fRe_choose 57 = some (.iconst 1, 0, 0) := rfl
theorem gRe_choose_58 : fRe_choose 58 = some (.putfield 13, 3, 1) := rfl
theorem gRe_choose_61 : fRe_choose 61 = some (.aload_n 0, 0, 0) := rfl
theorem gRe_choose_62 : fRe_choose 62 = some (.getfield 13, 3, 1) := rfl
theorem gRe_choose_65 : fRe_choose 65 = some (.aload_n 0, 0, 0) := rfl
theorem gRe_choose_66 : fRe_choose 66 = some (.getfield 7, 3, 0) := rfl
theorem gRe_choose_69 : fRe_choose 69 = some (.iconst 1, 0, 0) := rfl
theorem gRe_choose_70 : fRe_choose 70 = some (.isub, 0, 0) := rfl
theorem gRe_choose_71 : fRe_choose 71 = some (.if_icmp .ge (28), 99, 0) := rfl
theorem gRe_choose_74 : fRe_choose 74 = some (.aload_n 0, 0, 0) := rfl
theorem gRe_choose_75 : fRe_choose 75 = some (.aload_n 0, 0, 0) := rfl
theorem gRe_choose_76 : fRe_choose 76 = some (.getfield 13, 3, 1) := rfl
theorem gRe_choose_79 : fRe_choose 79 = some (.invokevirtual 26, 99, 0) := rfl
theorem gRe_choose_82 : fRe_choose 82 = some (.iload_n 2, 0, 0) := rfl
theorem gRe_choose_83 : fRe_choose 83 = some (.if_icmp .eq (16), 99, 0) := rfl
theorem gRe_choose_86 : fRe_choose 86 = some (.aload_n 0, 0, 0) := rfl
theorem gRe_choose_87 : fRe_choose 87 = some (.dup, 0, 0) := rfl
theorem gRe_choose_88 : fRe_choose 88 = some (.getfield 13, 3, 1) := rfl
theorem gRe_choose_91 : fRe_choose 91 = some (.iconst 1, 0, 0) := rfl
theorem gRe_choose_92 : fRe_choose 92 = some (.iadd, 0, 0) := rfl
theorem gRe_choose_93 : fRe_choose 93 = some (.putfield 13, 3, 1) := rfl
theorem gRe_choose_96 : fRe_choose 96 = some (.goto (-35), 61, 0) := rfl
theorem gRe_choose_99 : fRe_choose 99 = some (.return_, 0, 0) := rfl
abbrev lRe_isPrime : List (Nat × Instr × Nat × Nat) := [(0, .iconst 2, 0, 0), (1, .istore_n 1, 0, 0), (2, .iload_n 1, 0, 0), (3, .iload_n 1, 0, 0), (4, .imul, 0, 0), (5, .iload_n 0, 0, 0), (6, .if_icmp .gt (17), 23, 0), (9, .iload_n 0, 0, 0), (10, .iload_n 1, 0, 0), (11, .irem, 0, 0), (12, .ifCond .ne (5), 17, 0), (15, .iconst 0, 0, 0), (16, .ireturn, 0, 0), (17, .iinc 1 (1), 0, 0), (20, .goto (-18), 2, 0), (23, .iload_n 0, 0, 0), (24, .iconst 1, 0, 0), (25, .if_icmp .le (7), 32, 0), (28, .iconst 1, 0, 0), (29, .goto (4), 33, 0), (32, .iconst 0, 0, 0), (33, .ireturn, 0, 0)]
def fRe_isPrime : sx_F := sx_tab lRe_isPrime
theorem kRe_isPrime : sx_chk "ClassCharacters$Residues" (wy yRe_isPrime prog_6_method_3_code 2 (some .boolean)) 2 prog_6_method_3_code lRe_isPrime = true := by decide +kernel
theorem gRe_isPrime_0 : fRe_isPrime 0 = some (.iconst 2, 0, 0) := rfl
theorem gRe_isPrime_1 : fRe_isPrime 1 = some (.istore_n 1, 0, 0) := rfl
theorem gRe_isPrime_2 : fRe_isPrime 2 = some (.iload_n 1, 0, 0) := rfl
theorem gRe_isPrime_3 : fRe_isPrime 3 = some (.iload_n 1, 0, 0) := rfl
theorem gRe_isPrime_4 : fRe_isPrime 4 = some (.imul, 0, 0) := rfl
theorem gRe_isPrime_5 : fRe_isPrime 5 = some (.iload_n 0, 0, 0) := rfl
theorem gRe_isPrime_6 : fRe_isPrime 6 = some (.if_icmp .gt (17), 23, 0) := rfl
theorem gRe_isPrime_9 : fRe_isPrime 9 = some (.iload_n 0, 0, 0) := rfl
theorem gRe_isPrime_10 : fRe_isPrime 10 = some (.iload_n 1, 0, 0) := rfl
theorem gRe_isPrime_11 : fRe_isPrime 11 = some (.irem, 0, 0) := rfl
theorem gRe_isPrime_12 : fRe_isPrime 12 = some (.ifCond .ne (5), 17, 0) := rfl
theorem gRe_isPrime_15 : fRe_isPrime 15 = some (.iconst 0, 0, 0) := rfl
theorem gRe_isPrime_16 : fRe_isPrime 16 = some (.ireturn, 0, 0) := rfl
theorem gRe_isPrime_17 : fRe_isPrime 17 = some (.iinc 1 (1), 0, 0) := rfl
theorem gRe_isPrime_20 : fRe_isPrime 20 = some (.goto (-18), 2, 0) := rfl
theorem gRe_isPrime_23 : fRe_isPrime 23 = some (.iload_n 0, 0, 0) := rfl
theorem gRe_isPrime_24 : fRe_isPrime 24 = some (.iconst 1, 0, 0) := rfl
theorem gRe_isPrime_25 : fRe_isPrime 25 = some (.if_icmp .le (7), 32, 0) := rfl
theorem gRe_isPrime_28 : fRe_isPrime 28 = some (.iconst 1, 0, 0) := rfl
theorem gRe_isPrime_29 : fRe_isPrime 29 = some (.goto (4), 33, 0) := rfl
theorem gRe_isPrime_32 : fRe_isPrime 32 = some (.iconst 0, 0, 0) := rfl
theorem gRe_isPrime_33 : fRe_isPrime 33 = some (.ireturn, 0, 0) := rfl
abbrev lRe_orderOf : List (Nat × Instr × Nat × Nat) := [(0, .iload_n 1, 0, 0), (1, .istore_n 2, 0, 0), (2, .iconst 1, 0, 0), (3, .istore_n 3, 0, 0), (4, .iload_n 2, 0, 0), (5, .iconst 1, 0, 0), (6, .if_icmp .eq (24), 30, 0), (9, .iload_n 3, 0, 0), (10, .aload_n 0, 0, 0), (11, .getfield 7, 3, 0), (14, .if_icmp .ge (16), 30, 0), (17, .aload_n 0, 0, 0), (18, .iload_n 2, 0, 0), (19, .iload_n 1, 0, 0), (20, .invokevirtual 30, 101, 0), (23, .istore_n 2, 0, 0), (24, .iinc 3 (1), 0, 0), (27, .goto (-23), 4, 0), (30, .iload_n 3, 0, 0), (31, .ireturn, 0, 0)]
def fRe_orderOf : sx_F := sx_tab lRe_orderOf
theorem kRe_orderOf : sx_chk "ClassCharacters$Residues" (wy yRe_orderOf prog_6_method_4_code 4 (some .int)) 4 prog_6_method_4_code lRe_orderOf = true := by decide +kernel
theorem gRe_orderOf_0 : fRe_orderOf 0 = some (.iload_n 1, 0, 0) := rfl
theorem gRe_orderOf_1 : fRe_orderOf 1 = some (.istore_n 2, 0, 0) := rfl
theorem gRe_orderOf_2 : fRe_orderOf 2 = some (.iconst 1, 0, 0) := rfl
theorem gRe_orderOf_3 : fRe_orderOf 3 = some (.istore_n 3, 0, 0) := rfl
theorem gRe_orderOf_4 : fRe_orderOf 4 = some (.iload_n 2, 0, 0) := rfl
theorem gRe_orderOf_5 : fRe_orderOf 5 = some (.iconst 1, 0, 0) := rfl
theorem gRe_orderOf_6 : fRe_orderOf 6 = some (.if_icmp .eq (24), 30, 0) := rfl
theorem gRe_orderOf_9 : fRe_orderOf 9 = some (.iload_n 3, 0, 0) := rfl
theorem gRe_orderOf_10 : fRe_orderOf 10 = some (.aload_n 0, 0, 0) := rfl
theorem gRe_orderOf_11 : fRe_orderOf 11 = some (.getfield 7, 3, 0) := rfl
theorem gRe_orderOf_14 : fRe_orderOf 14 = some (.if_icmp .ge (16), 30, 0) := rfl
theorem gRe_orderOf_17 : fRe_orderOf 17 = some (.aload_n 0, 0, 0) := rfl
theorem gRe_orderOf_18 : fRe_orderOf 18 = some (.iload_n 2, 0, 0) := rfl
theorem gRe_orderOf_19 : fRe_orderOf 19 = some (.iload_n 1, 0, 0) := rfl
theorem gRe_orderOf_20 : fRe_orderOf 20 = some (.invokevirtual 30, 101, 0) := rfl
theorem gRe_orderOf_23 : fRe_orderOf 23 = some (.istore_n 2, 0, 0) := rfl
theorem gRe_orderOf_24 : fRe_orderOf 24 = some (.iinc 3 (1), 0, 0) := rfl
theorem gRe_orderOf_27 : fRe_orderOf 27 = some (.goto (-23), 4, 0) := rfl
theorem gRe_orderOf_30 : fRe_orderOf 30 = some (.iload_n 3, 0, 0) := rfl
theorem gRe_orderOf_31 : fRe_orderOf 31 = some (.ireturn, 0, 0) := rfl
abbrev lRe_reduce : List (Nat × Instr × Nat × Nat) := [(0, .iload_n 1, 0, 0), (1, .aload_n 0, 0, 0), (2, .getfield 7, 3, 0), (5, .invokestatic 33, 117, 0), (8, .ireturn, 0, 0)]
def fRe_reduce : sx_F := sx_tab lRe_reduce
theorem kRe_reduce : sx_chk "ClassCharacters$Residues" (wy yRe_reduce prog_6_method_5_code 2 (some .int)) 2 prog_6_method_5_code lRe_reduce = true := by decide +kernel
theorem gRe_reduce_0 : fRe_reduce 0 = some (.iload_n 1, 0, 0) := rfl
theorem gRe_reduce_1 : fRe_reduce 1 = some (.aload_n 0, 0, 0) := rfl
theorem gRe_reduce_2 : fRe_reduce 2 = some (.getfield 7, 3, 0) := rfl
theorem gRe_reduce_5 : fRe_reduce 5 = some (.invokestatic 33, 117, 0) := rfl
theorem gRe_reduce_8 : fRe_reduce 8 = some (.ireturn, 0, 0) := rfl
abbrev lRe_times : List (Nat × Instr × Nat × Nat) := [(0, .iload_n 1, 0, 0), (1, .iload_n 2, 0, 0), (2, .imul, 0, 0), (3, .aload_n 0, 0, 0), (4, .getfield 7, 3, 0), (7, .irem, 0, 0), (8, .ireturn, 0, 0)]
def fRe_times : sx_F := sx_tab lRe_times
theorem kRe_times : sx_chk "ClassCharacters$Residues" (wy yRe_times prog_6_method_6_code 3 (some .int)) 3 prog_6_method_6_code lRe_times = true := by decide +kernel
theorem gRe_times_0 : fRe_times 0 = some (.iload_n 1, 0, 0) := rfl
theorem gRe_times_1 : fRe_times 1 = some (.iload_n 2, 0, 0) := rfl
theorem gRe_times_2 : fRe_times 2 = some (.imul, 0, 0) := rfl
theorem gRe_times_3 : fRe_times 3 = some (.aload_n 0, 0, 0) := rfl
theorem gRe_times_4 : fRe_times 4 = some (.getfield 7, 3, 0) := rfl
theorem gRe_times_7 : fRe_times 7 = some (.irem, 0, 0) := rfl
theorem gRe_times_8 : fRe_times 8 = some (.ireturn, 0, 0) := rfl
abbrev lRe_plusTimes : List (Nat × Instr × Nat × Nat) := [(0, .iload_n 1, 0, 0), (1, .iload_n 2, 0, 0), (2, .iload_n 3, 0, 0), (3, .imul, 0, 0), (4, .iadd, 0, 0), (5, .aload_n 0, 0, 0), (6, .getfield 7, 3, 0), (9, .irem, 0, 0), (10, .ireturn, 0, 0)]
def fRe_plusTimes : sx_F := sx_tab lRe_plusTimes
theorem kRe_plusTimes : sx_chk "ClassCharacters$Residues" (wy yRe_plusTimes prog_6_method_7_code 4 (some .int)) 4 prog_6_method_7_code lRe_plusTimes = true := by decide +kernel
theorem gRe_plusTimes_0 : fRe_plusTimes 0 = some (.iload_n 1, 0, 0) := rfl
theorem gRe_plusTimes_1 : fRe_plusTimes 1 = some (.iload_n 2, 0, 0) := rfl
theorem gRe_plusTimes_2 : fRe_plusTimes 2 = some (.iload_n 3, 0, 0) := rfl
theorem gRe_plusTimes_3 : fRe_plusTimes 3 = some (.imul, 0, 0) := rfl
theorem gRe_plusTimes_4 : fRe_plusTimes 4 = some (.iadd, 0, 0) := rfl
theorem gRe_plusTimes_5 : fRe_plusTimes 5 = some (.aload_n 0, 0, 0) := rfl
theorem gRe_plusTimes_6 : fRe_plusTimes 6 = some (.getfield 7, 3, 0) := rfl
theorem gRe_plusTimes_9 : fRe_plusTimes 9 = some (.irem, 0, 0) := rfl
theorem gRe_plusTimes_10 : fRe_plusTimes 10 = some (.ireturn, 0, 0) := rfl
abbrev lRe_minusTimes : List (Nat × Instr × Nat × Nat) := [(0, .iload_n 1, 0, 0), (1, .aload_n 0, 0, 0), (2, .getfield 7, 3, 0), (5, .iload_n 2, 0, 0), (6, .isub, 0, 0), (7, .iload_n 3, 0, 0), (8, .imul, 0, 0), (9, .iadd, 0, 0), (10, .aload_n 0, 0, 0), (11, .getfield 7, 3, 0), (14, .irem, 0, 0), (15, .ireturn, 0, 0)]
def fRe_minusTimes : sx_F := sx_tab lRe_minusTimes
theorem kRe_minusTimes : sx_chk "ClassCharacters$Residues" (wy yRe_minusTimes prog_6_method_8_code 4 (some .int)) 4 prog_6_method_8_code lRe_minusTimes = true := by decide +kernel
theorem gRe_minusTimes_0 : fRe_minusTimes 0 = some (.iload_n 1, 0, 0) := rfl
theorem gRe_minusTimes_1 : fRe_minusTimes 1 = some (.aload_n 0, 0, 0) := rfl
theorem gRe_minusTimes_2 : fRe_minusTimes 2 = some (.getfield 7, 3, 0) := rfl
theorem gRe_minusTimes_5 : fRe_minusTimes 5 = some (.iload_n 2, 0, 0) := rfl
theorem gRe_minusTimes_6 : fRe_minusTimes 6 = some (.isub, 0, 0) := rfl
theorem gRe_minusTimes_7 : fRe_minusTimes 7 = some (.iload_n 3, 0, 0) := rfl
theorem gRe_minusTimes_8 : fRe_minusTimes 8 = some (.imul, 0, 0) := rfl
theorem gRe_minusTimes_9 : fRe_minusTimes 9 = some (.iadd, 0, 0) := rfl
theorem gRe_minusTimes_10 : fRe_minusTimes 10 = some (.aload_n 0, 0, 0) := rfl
theorem gRe_minusTimes_11 : fRe_minusTimes 11 = some (.getfield 7, 3, 0) := rfl
theorem gRe_minusTimes_14 : fRe_minusTimes 14 = some (.irem, 0, 0) := rfl
theorem gRe_minusTimes_15 : fRe_minusTimes 15 = some (.ireturn, 0, 0) := rfl
abbrev lRe_over : List (Nat × Instr × Nat × Nat) := [(0, .aload_n 0, 0, 0), (1, .iload_n 1, 0, 0), (2, .aload_n 0, 0, 0), (3, .iload_n 2, 0, 0), (4, .invokevirtual 36, 105, 0), (7, .invokevirtual 30, 101, 0), (10, .ireturn, 0, 0)]
def fRe_over : sx_F := sx_tab lRe_over
theorem kRe_over : sx_chk "ClassCharacters$Residues" (wy yRe_over prog_6_method_9_code 3 (some .int)) 3 prog_6_method_9_code lRe_over = true := by decide +kernel
theorem gRe_over_0 : fRe_over 0 = some (.aload_n 0, 0, 0) := rfl
theorem gRe_over_1 : fRe_over 1 = some (.iload_n 1, 0, 0) := rfl
theorem gRe_over_2 : fRe_over 2 = some (.aload_n 0, 0, 0) := rfl
theorem gRe_over_3 : fRe_over 3 = some (.iload_n 2, 0, 0) := rfl
theorem gRe_over_4 : fRe_over 4 = some (.invokevirtual 36, 105, 0) := rfl
theorem gRe_over_7 : fRe_over 7 = some (.invokevirtual 30, 101, 0) := rfl
theorem gRe_over_10 : fRe_over 10 = some (.ireturn, 0, 0) := rfl
abbrev lRe_reciprocal : List (Nat × Instr × Nat × Nat) := [(0, .aload_n 0, 0, 0), (1, .getfield 7, 3, 0), (4, .istore_n 2, 0, 0), (5, .iload_n 1, 0, 0), (6, .aload_n 0, 0, 0), (7, .getfield 7, 3, 0), (10, .irem, 0, 0), (11, .istore_n 3, 0, 0), (12, .iconst 0, 0, 0), (13, .istore 4, 0, 0), (15, .iconst 1, 0, 0), (16, .istore 5, 0, 0), (18, .iconst 0, 0, 0), (19, .istore 6, 0, 0), (21, .iload 6, 0, 0), (23, .bipush (64), 0, 0), (25, .if_icmp .ge (49), 74, 0), (28, .iload_n 3, 0, 0), (29, .ifCond .le (45), 74, 0), (32, .iload_n 2, 0, 0), (33, .iload_n 3, 0, 0), (34, .idiv, 0, 0), (35, .istore 7, 0, 0), (37, .iload_n 2, 0, 0), (38, .iload 7, 0, 0), (40, .iload_n 3, 0, 0), (41, .imul, 0, 0), (42, .isub, 0, 0), (43, .istore 8, 0, 0), (45, .iload 4, 0, 0), (47, .iload 7, 0, 0), (49, .iload 5, 0, 0), (51, .imul, 0, 0), (52, .isub, 0, 0), (53, .istore 9, 0, 0), (55, .iload_n 3, 0, 0), (56, .istore_n 2, 0, 0), (57, .iload 5, 0, 0), (59, .istore 4, 0, 0), (61, .iload 8, 0, 0), (63, .istore_n 3, 0, 0), (64, .iload 9, 0, 0), (66, .istore 5, 0, 0), (68, .iinc 6 (1), 0, 0), (71, .goto (-50), 21, 0), (74, .iload 4, 0, 0), (76, .ifCond .ge (13), 89, 0), (79, .iload 4, 0, 0), (81, .aload_n 0, 0, 0), (82, .getfield 7, 3, 0), (85, .iadd, 0, 0), (86, .goto (5), 91, 0), (89, .iload 4, 0, 0), (91, .ireturn, 0, 0)]
def fRe_reciprocal : sx_F := sx_tab lRe_reciprocal
theorem kRe_reciprocal : sx_chk "ClassCharacters$Residues" (wy yRe_reciprocal prog_6_method_10_code 10 (some .int)) 10 prog_6_method_10_code lRe_reciprocal = true := by decide +kernel
theorem gRe_reciprocal_0 : fRe_reciprocal 0 = some (.aload_n 0, 0, 0) := rfl
theorem gRe_reciprocal_1 : fRe_reciprocal 1 = some (.getfield 7, 3, 0) := rfl
theorem gRe_reciprocal_4 : fRe_reciprocal 4 = some (.istore_n 2, 0, 0) := rfl
theorem gRe_reciprocal_5 : fRe_reciprocal 5 = some (.iload_n 1, 0, 0) := rfl
theorem gRe_reciprocal_6 : fRe_reciprocal 6 = some (.aload_n 0, 0, 0) := rfl
theorem gRe_reciprocal_7 : fRe_reciprocal 7 = some (.getfield 7, 3, 0) := rfl
theorem gRe_reciprocal_10 : fRe_reciprocal 10 = some (.irem, 0, 0) := rfl
theorem gRe_reciprocal_11 : fRe_reciprocal 11 = some (.istore_n 3, 0, 0) := rfl
theorem gRe_reciprocal_12 : fRe_reciprocal 12 = some (.iconst 0, 0, 0) := rfl
theorem gRe_reciprocal_13 : fRe_reciprocal 13 = some (.istore 4, 0, 0) := rfl
theorem gRe_reciprocal_15 : fRe_reciprocal 15 = some (.iconst 1, 0, 0) := rfl
theorem gRe_reciprocal_16 : fRe_reciprocal 16 = some (.istore 5, 0, 0) := rfl
theorem gRe_reciprocal_18 : fRe_reciprocal 18 = some (.iconst 0, 0, 0) := rfl
theorem gRe_reciprocal_19 : fRe_reciprocal 19 = some (.istore 6, 0, 0) := rfl
theorem gRe_reciprocal_21 : fRe_reciprocal 21 = some (.iload 6, 0, 0) := rfl
theorem gRe_reciprocal_23 : fRe_reciprocal 23 = some (.bipush (64), 0, 0) := rfl
theorem gRe_reciprocal_25 : fRe_reciprocal 25 = some (.if_icmp .ge (49), 74, 0) := rfl
theorem gRe_reciprocal_28 : fRe_reciprocal 28 = some (.iload_n 3, 0, 0) := rfl
theorem gRe_reciprocal_29 : fRe_reciprocal 29 = some (.ifCond .le (45), 74, 0) := rfl
theorem gRe_reciprocal_32 : fRe_reciprocal 32 = some (.iload_n 2, 0, 0) := rfl
theorem gRe_reciprocal_33 : fRe_reciprocal 33 = some (.iload_n 3, 0, 0) := rfl
theorem gRe_reciprocal_34 : fRe_reciprocal 34 = some (.idiv, 0, 0) := rfl
theorem gRe_reciprocal_35 : fRe_reciprocal 35 = some (.istore 7, 0, 0) := rfl
theorem gRe_reciprocal_37 : fRe_reciprocal 37 = some (.iload_n 2, 0, 0) := rfl
theorem gRe_reciprocal_38 : fRe_reciprocal 38 = some (.iload 7, 0, 0) := rfl
theorem gRe_reciprocal_40 : fRe_reciprocal 40 = some (.iload_n 3, 0, 0) := rfl
theorem gRe_reciprocal_41 : fRe_reciprocal 41 = some (.imul, 0, 0) := rfl
theorem gRe_reciprocal_42 : fRe_reciprocal 42 = some (.isub, 0, 0) := rfl
theorem gRe_reciprocal_43 : fRe_reciprocal 43 = some (.istore 8, 0, 0) := rfl
theorem gRe_reciprocal_45 : fRe_reciprocal 45 = some (.iload 4, 0, 0) := rfl
theorem gRe_reciprocal_47 : fRe_reciprocal 47 = some (.iload 7, 0, 0) := rfl
theorem gRe_reciprocal_49 : fRe_reciprocal 49 = some (.iload 5, 0, 0) := rfl
theorem gRe_reciprocal_51 : fRe_reciprocal 51 = some (.imul, 0, 0) := rfl
theorem gRe_reciprocal_52 : fRe_reciprocal 52 = some (.isub, 0, 0) := rfl
theorem gRe_reciprocal_53 : fRe_reciprocal 53 = some (.istore 9, 0, 0) := rfl
theorem gRe_reciprocal_55 : fRe_reciprocal 55 = some (.iload_n 3, 0, 0) := rfl
theorem gRe_reciprocal_56 : fRe_reciprocal 56 = some (.istore_n 2, 0, 0) := rfl
theorem gRe_reciprocal_57 : fRe_reciprocal 57 = some (.iload 5, 0, 0) := rfl
theorem gRe_reciprocal_59 : fRe_reciprocal 59 = some (.istore 4, 0, 0) := rfl
theorem gRe_reciprocal_61 : fRe_reciprocal 61 = some (.iload 8, 0, 0) := rfl
theorem gRe_reciprocal_63 : fRe_reciprocal 63 = some (.istore_n 3, 0, 0) := rfl
theorem gRe_reciprocal_64 : fRe_reciprocal 64 = some (.iload 9, 0, 0) := rfl
theorem gRe_reciprocal_66 : fRe_reciprocal 66 = some (.istore 5, 0, 0) := rfl
theorem gRe_reciprocal_68 : fRe_reciprocal 68 = some (.iinc 6 (1), 0, 0) := rfl
theorem gRe_reciprocal_71 : fRe_reciprocal 71 = some (.goto (-50), 21, 0) := rfl
theorem gRe_reciprocal_74 : fRe_reciprocal 74 = some (.iload 4, 0, 0) := rfl
theorem gRe_reciprocal_76 : fRe_reciprocal 76 = some (.ifCond .ge (13), 89, 0) := rfl
theorem gRe_reciprocal_79 : fRe_reciprocal 79 = some (.iload 4, 0, 0) := rfl
theorem gRe_reciprocal_81 : fRe_reciprocal 81 = some (.aload_n 0, 0, 0) := rfl
theorem gRe_reciprocal_82 : fRe_reciprocal 82 = some (.getfield 7, 3, 0) := rfl
theorem gRe_reciprocal_85 : fRe_reciprocal 85 = some (.iadd, 0, 0) := rfl
theorem gRe_reciprocal_86 : fRe_reciprocal 86 = some (.goto (5), 91, 0) := rfl
theorem gRe_reciprocal_89 : fRe_reciprocal 89 = some (.iload 4, 0, 0) := rfl
theorem gRe_reciprocal_91 : fRe_reciprocal 91 = some (.ireturn, 0, 0) := rfl
abbrev lRe_raised : List (Nat × Instr × Nat × Nat) := [(0, .iconst 1, 0, 0), (1, .istore_n 3, 0, 0), (2, .iconst 0, 0, 0), (3, .istore 4, 0, 0), (5, .iload 4, 0, 0), (7, .iload_n 2, 0, 0), (8, .if_icmp .ge (16), 24, 0), (11, .aload_n 0, 0, 0), (12, .iload_n 3, 0, 0), (13, .iload_n 1, 0, 0), (14, .invokevirtual 30, 101, 0), (17, .istore_n 3, 0, 0), (18, .iinc 4 (1), 0, 0), (21, .goto (-16), 5, 0), (24, .iload_n 3, 0, 0), (25, .ireturn, 0, 0)]
def fRe_raised : sx_F := sx_tab lRe_raised
theorem kRe_raised : sx_chk "ClassCharacters$Residues" (wy yRe_raised prog_6_method_11_code 5 (some .int)) 5 prog_6_method_11_code lRe_raised = true := by decide +kernel
theorem gRe_raised_0 : fRe_raised 0 = some (.iconst 1, 0, 0) := rfl
theorem gRe_raised_1 : fRe_raised 1 = some (.istore_n 3, 0, 0) := rfl
theorem gRe_raised_2 : fRe_raised 2 = some (.iconst 0, 0, 0) := rfl
theorem gRe_raised_3 : fRe_raised 3 = some (.istore 4, 0, 0) := rfl
theorem gRe_raised_5 : fRe_raised 5 = some (.iload 4, 0, 0) := rfl
theorem gRe_raised_7 : fRe_raised 7 = some (.iload_n 2, 0, 0) := rfl
theorem gRe_raised_8 : fRe_raised 8 = some (.if_icmp .ge (16), 24, 0) := rfl
theorem gRe_raised_11 : fRe_raised 11 = some (.aload_n 0, 0, 0) := rfl
theorem gRe_raised_12 : fRe_raised 12 = some (.iload_n 3, 0, 0) := rfl
theorem gRe_raised_13 : fRe_raised 13 = some (.iload_n 1, 0, 0) := rfl
theorem gRe_raised_14 : fRe_raised 14 = some (.invokevirtual 30, 101, 0) := rfl
theorem gRe_raised_17 : fRe_raised 17 = some (.istore_n 3, 0, 0) := rfl
theorem gRe_raised_18 : fRe_raised 18 = some (.iinc 4 (1), 0, 0) := rfl
theorem gRe_raised_21 : fRe_raised 21 = some (.goto (-16), 5, 0) := rfl
theorem gRe_raised_24 : fRe_raised 24 = some (.iload_n 3, 0, 0) := rfl
theorem gRe_raised_25 : fRe_raised 25 = some (.ireturn, 0, 0) := rfl
abbrev lMa_floorMod : List (Nat × Instr × Nat × Nat) := [(0, .iload_n 0, 0, 0), (1, .iload_n 1, 0, 0), (2, .irem, 0, 0), (3, .istore_n 2, 0, 0), (4, .iload_n 0, 0, 0), (5, .iload_n 1, 0, 0), (6, .ixor, 0, 0), (7, .ifCond .ge (11), 18, 0), (10, .iload_n 2, 0, 0), (11, .ifCond .eq (7), 18, 0), (14, .iload_n 2, 0, 0), (15, .iload_n 1, 0, 0), (16, .iadd, 0, 0), (17, .ireturn, 0, 0), (18, .iload_n 2, 0, 0), (19, .ireturn, 0, 0)]
def fMa_floorMod : sx_F := sx_tab lMa_floorMod
theorem kMa_floorMod : sx_chk "java/lang/Math" (wy yMa_floorMod prog_10_method_50_code 3 (some .int)) 3 prog_10_method_50_code lMa_floorMod = true := by decide +kernel
theorem gMa_floorMod_0 : fMa_floorMod 0 = some (.iload_n 0, 0, 0) := rfl
theorem gMa_floorMod_1 : fMa_floorMod 1 = some (.iload_n 1, 0, 0) := rfl
theorem gMa_floorMod_2 : fMa_floorMod 2 = some (.irem, 0, 0) := rfl
theorem gMa_floorMod_3 : fMa_floorMod 3 = some (.istore_n 2, 0, 0) := rfl
theorem gMa_floorMod_4 : fMa_floorMod 4 = some (.iload_n 0, 0, 0) := rfl
theorem gMa_floorMod_5 : fMa_floorMod 5 = some (.iload_n 1, 0, 0) := rfl
theorem gMa_floorMod_6 : fMa_floorMod 6 = some (.ixor, 0, 0) := rfl
theorem gMa_floorMod_7 : fMa_floorMod 7 = some (.ifCond .ge (11), 18, 0) := rfl
theorem gMa_floorMod_10 : fMa_floorMod 10 = some (.iload_n 2, 0, 0) := rfl
theorem gMa_floorMod_11 : fMa_floorMod 11 = some (.ifCond .eq (7), 18, 0) := rfl
theorem gMa_floorMod_14 : fMa_floorMod 14 = some (.iload_n 2, 0, 0) := rfl
theorem gMa_floorMod_15 : fMa_floorMod 15 = some (.iload_n 1, 0, 0) := rfl
theorem gMa_floorMod_16 : fMa_floorMod 16 = some (.iadd, 0, 0) := rfl
theorem gMa_floorMod_17 : fMa_floorMod 17 = some (.ireturn, 0, 0) := rfl
theorem gMa_floorMod_18 : fMa_floorMod 18 = some (.iload_n 2, 0, 0) := rfl
theorem gMa_floorMod_19 : fMa_floorMod 19 = some (.ireturn, 0, 0) := rfl
abbrev lMa_max : List (Nat × Instr × Nat × Nat) := [(0, .iload_n 0, 0, 0), (1, .iload_n 1, 0, 0), (2, .if_icmp .lt (7), 9, 0), (5, .iload_n 0, 0, 0), (6, .goto (4), 10, 0), (9, .iload_n 1, 0, 0), (10, .ireturn, 0, 0)]
def fMa_max : sx_F := sx_tab lMa_max
theorem kMa_max : sx_chk "java/lang/Math" (wy yMa_max prog_10_method_65_code 2 (some .int)) 2 prog_10_method_65_code lMa_max = true := by decide +kernel
theorem gMa_max_0 : fMa_max 0 = some (.iload_n 0, 0, 0) := rfl
theorem gMa_max_1 : fMa_max 1 = some (.iload_n 1, 0, 0) := rfl
theorem gMa_max_2 : fMa_max 2 = some (.if_icmp .lt (7), 9, 0) := rfl
theorem gMa_max_5 : fMa_max 5 = some (.iload_n 0, 0, 0) := rfl
theorem gMa_max_6 : fMa_max 6 = some (.goto (4), 10, 0) := rfl
theorem gMa_max_9 : fMa_max 9 = some (.iload_n 1, 0, 0) := rfl
theorem gMa_max_10 : fMa_max 10 = some (.ireturn, 0, 0) := rfl
abbrev lAr_fill : List (Nat × Instr × Nat × Nat) := [(0, .iconst 0, 0, 0), (1, .istore_n 2, 0, 0), (2, .aload_n 0, 0, 0), (3, .arraylength, 0, 0), (4, .istore_n 3, 0, 0), (5, .iload_n 2, 0, 0), (6, .iload_n 3, 0, 0), (7, .if_icmp .ge (13), 20, 0), (10, .aload_n 0, 0, 0), (11, .iload_n 2, 0, 0), (12, .iload_n 1, 0, 0), (13, .iastore, 0, 0), (14, .iinc 2 (1), 0, 0), (17, .goto (-12), 5, 0), (20, .return_, 0, 0)]
def fAr_fill : sx_F := sx_tab lAr_fill
theorem kAr_fill : sx_chk "java/util/Arrays" (wy yAr_fill prog_12_method_103_code 4 none) 4 prog_12_method_103_code lAr_fill = true := by decide +kernel
theorem gAr_fill_0 : fAr_fill 0 = some (.iconst 0, 0, 0) := rfl
theorem gAr_fill_1 : fAr_fill 1 = some (.istore_n 2, 0, 0) := rfl
theorem gAr_fill_2 : fAr_fill 2 = some (.aload_n 0, 0, 0) := rfl
theorem gAr_fill_3 : fAr_fill 3 = some (.arraylength, 0, 0) := rfl
theorem gAr_fill_4 : fAr_fill 4 = some (.istore_n 3, 0, 0) := rfl
theorem gAr_fill_5 : fAr_fill 5 = some (.iload_n 2, 0, 0) := rfl
theorem gAr_fill_6 : fAr_fill 6 = some (.iload_n 3, 0, 0) := rfl
theorem gAr_fill_7 : fAr_fill 7 = some (.if_icmp .ge (13), 20, 0) := rfl
theorem gAr_fill_10 : fAr_fill 10 = some (.aload_n 0, 0, 0) := rfl
theorem gAr_fill_11 : fAr_fill 11 = some (.iload_n 2, 0, 0) := rfl
theorem gAr_fill_12 : fAr_fill 12 = some (.iload_n 1, 0, 0) := rfl
theorem gAr_fill_13 : fAr_fill 13 = some (.iastore, 0, 0) := rfl
theorem gAr_fill_14 : fAr_fill 14 = some (.iinc 2 (1), 0, 0) := rfl
theorem gAr_fill_17 : fAr_fill 17 = some (.goto (-12), 5, 0) := rfl
theorem gAr_fill_20 : fAr_fill 20 = some (.return_, 0, 0) := rfl
end
section
abbrev lCc_add : List (Nat × Instr × Nat × Nat) := [(0, .aload_n 0, 0, 0), (1, .getfield 13, 0, 1), (4, .iconst 4, 0, 0), (5, .if_icmp .ge (10), 15, 0), (8, .iload_n 1, 0, 0), (9, .invokestatic 55, 81, 0), (12, .ifCond .ne (5), 17, 0), (15, .iconst 0, 0, 0), (16, .ireturn, 0, 0), (17, .aload_n 0, 0, 0), (18, .getfield 9, 0, 0), (21, .aload_n 0, 0, 0), (22, .getfield 13, 0, 1), (25, .iload_n 1, 0, 0), (26, .iastore, 0, 0), (27, .aload_n 0, 0, 0), (28, .dup, 0, 0), (29, .getfield 13, 0, 1), (32, .iconst 1, 0, 0), (33, .iadd, 0, 0), (34, .putfield 13, 0, 1), (37, .aload_n 0, 0, 0), (38, .iconst (-1), 0, 0), (39, .putfield 17, 0, 2), (42, .iconst 1, 0, 0), (43, .ireturn, 0, 0)]
def fCc_add : sx_F := sx_tab lCc_add
theorem kCc_add : sx_chk "ClassCharacters" (wy yCc_add prog_1_method_2_code 2 (some .boolean)) 2 prog_1_method_2_code lCc_add = true := by decide +kernel
theorem gCc_add_0 : fCc_add 0 = some (.aload_n 0, 0, 0) := rfl
theorem gCc_add_1 : fCc_add 1 = some (.getfield 13, 0, 1) := rfl
theorem gCc_add_4 : fCc_add 4 = some (.iconst 4, 0, 0) := rfl
theorem gCc_add_5 : fCc_add 5 = some (.if_icmp .ge (10), 15, 0) := rfl
theorem gCc_add_8 : fCc_add 8 = some (.iload_n 1, 0, 0) := rfl
theorem gCc_add_9 : fCc_add 9 = some (.invokestatic 55, 81, 0) := rfl
theorem gCc_add_12 : fCc_add 12 = some (.ifCond .ne (5), 17, 0) := rfl
theorem gCc_add_15 : fCc_add 15 = some (.iconst 0, 0, 0) := rfl
theorem gCc_add_16 : fCc_add 16 = some (.ireturn, 0, 0) := rfl
theorem gCc_add_17 : fCc_add 17 = some (.aload_n 0, 0, 0) := rfl
theorem gCc_add_18 : fCc_add 18 = some (.getfield 9, 0, 0) := rfl
theorem gCc_add_21 : fCc_add 21 = some (.aload_n 0, 0, 0) := rfl
theorem gCc_add_22 : fCc_add 22 = some (.getfield 13, 0, 1) := rfl
theorem gCc_add_25 : fCc_add 25 = some (.iload_n 1, 0, 0) := rfl
theorem gCc_add_26 : fCc_add 26 = some (.iastore, 0, 0) := rfl
theorem gCc_add_27 : fCc_add 27 = some (.aload_n 0, 0, 0) := rfl
theorem gCc_add_28 : fCc_add 28 = some (.dup, 0, 0) := rfl
theorem gCc_add_29 : fCc_add 29 = some (.getfield 13, 0, 1) := rfl
theorem gCc_add_32 : fCc_add 32 = some (.iconst 1, 0, 0) := rfl
theorem gCc_add_33 : fCc_add 33 = some (.iadd, 0, 0) := rfl
theorem gCc_add_34 : fCc_add 34 = some (.putfield 13, 0, 1) := rfl
theorem gCc_add_37 : fCc_add 37 = some (.aload_n 0, 0, 0) := rfl
theorem gCc_add_38 : fCc_add 38 = some (.iconst (-1), 0, 0) := rfl
theorem gCc_add_39 : fCc_add 39 = some (.putfield 17, 0, 2) := rfl
theorem gCc_add_42 : fCc_add 42 = some (.iconst 1, 0, 0) := rfl
theorem gCc_add_43 : fCc_add 43 = some (.ireturn, 0, 0) := rfl
abbrev lCc_clear : List (Nat × Instr × Nat × Nat) := [(0, .aload_n 0, 0, 0), (1, .iconst 0, 0, 0), (2, .putfield 13, 0, 1), (5, .aload_n 0, 0, 0), (6, .iconst (-1), 0, 0), (7, .putfield 17, 0, 2), (10, .return_, 0, 0)]
def fCc_clear : sx_F := sx_tab lCc_clear
theorem kCc_clear : sx_chk "ClassCharacters" (wy yCc_clear prog_1_method_3_code 1 none) 1 prog_1_method_3_code lCc_clear = true := by decide +kernel
theorem gCc_clear_0 : fCc_clear 0 = some (.aload_n 0, 0, 0) := rfl
theorem gCc_clear_1 : fCc_clear 1 = some (.iconst 0, 0, 0) := rfl
theorem gCc_clear_2 : fCc_clear 2 = some (.putfield 13, 0, 1) := rfl
theorem gCc_clear_5 : fCc_clear 5 = some (.aload_n 0, 0, 0) := rfl
theorem gCc_clear_6 : fCc_clear 6 = some (.iconst (-1), 0, 0) := rfl
theorem gCc_clear_7 : fCc_clear 7 = some (.putfield 17, 0, 2) := rfl
theorem gCc_clear_10 : fCc_clear 10 = some (.return_, 0, 0) := rfl
abbrev lCc_build : List (Nat × Instr × Nat × Nat) := [(0, .aload_n 0, 0, 0), (1, .getfield 17, 0, 2), (4, .iconst (-1), 0, 0), (5, .if_icmp .ne (11), 16, 0), (8, .aload_n 0, 0, 0), (9, .aload_n 0, 0, 0), (10, .invokevirtual 61, 22, 0), (13, .putfield 17, 0, 2), (16, .aload_n 0, 0, 0), (17, .getfield 17, 0, 2), (20, .ireturn, 0, 0)]
def fCc_build : sx_F := sx_tab lCc_build
theorem kCc_build : sx_chk "ClassCharacters" (wy yCc_build prog_1_method_4_code 1 (some .int)) 1 prog_1_method_4_code lCc_build = true := by decide +kernel
theorem gCc_build_0 : fCc_build 0 = some (.aload_n 0, 0, 0) := rfl
theorem gCc_build_1 : fCc_build 1 = some (.getfield 17, 0, 2) := rfl
theorem gCc_build_4 : fCc_build 4 = some (.iconst (-1), 0, 0) := rfl
theorem gCc_build_5 : fCc_build 5 = some (.if_icmp .ne (11), 16, 0) := rfl
theorem gCc_build_8 : fCc_build 8 = some (.aload_n 0, 0, 0) := rfl
theorem gCc_build_9 : fCc_build 9 = some (.aload_n 0, 0, 0) := rfl
theorem gCc_build_10 : fCc_build 10 = some (.invokevirtual 61, 22, 0) := rfl
theorem gCc_build_13 : fCc_build 13 = some (.putfield 17, 0, 2) := rfl
theorem gCc_build_16 : fCc_build 16 = some (.aload_n 0, 0, 0) := rfl
theorem gCc_build_17 : fCc_build 17 = some (.getfield 17, 0, 2) := rfl
theorem gCc_build_20 : fCc_build 20 = some (.ireturn, 0, 0) := rfl
abbrev lCc_order : List (Nat × Instr × Nat × Nat) := [(0, .aload_n 0, 0, 0), (1, .invokevirtual 65, 20, 0), (4, .ifCond .eq (13), 17, 0), (7, .aload_n 0, 0, 0), (8, .getfield 23, 0, 3), (11, .getfield 69, 1, 2), (14, .goto (4), 18, 0), (17, .iconst 0, 0, 0), (18, .ireturn, 0, 0)]
def fCc_order : sx_F := sx_tab lCc_order
theorem kCc_order : sx_chk "ClassCharacters" (wy yCc_order prog_1_method_5_code 1 (some .int)) 1 prog_1_method_5_code lCc_order = true := by decide +kernel
theorem gCc_order_0 : fCc_order 0 = some (.aload_n 0, 0, 0) := rfl
theorem gCc_order_1 : fCc_order 1 = some (.invokevirtual 65, 20, 0) := rfl
theorem gCc_order_4 : fCc_order 4 = some (.ifCond .eq (13), 17, 0) := rfl
theorem gCc_order_7 : fCc_order 7 = some (.aload_n 0, 0, 0) := rfl
theorem gCc_order_8 : fCc_order 8 = some (.getfield 23, 0, 3) := rfl
theorem gCc_order_11 : fCc_order 11 = some (.getfield 69, 1, 2) := rfl
theorem gCc_order_14 : fCc_order 14 = some (.goto (4), 18, 0) := rfl
theorem gCc_order_17 : fCc_order 17 = some (.iconst 0, 0, 0) := rfl
theorem gCc_order_18 : fCc_order 18 = some (.ireturn, 0, 0) := rfl
abbrev lCc_element : List (Nat × Instr × Nat × Nat) := [(0, .aload_n 0, 0, 0), (1, .invokevirtual 65, 20, 0), (4, .ifCond .eq (18), 22, 0), (7, .iload_n 1, 0, 0), (8, .ifCond .lt (14), 22, 0), (11, .iload_n 1, 0, 0), (12, .aload_n 0, 0, 0), (13, .getfield 23, 0, 3), (16, .getfield 69, 1, 2), (19, .if_icmp .lt (5), 24, 0), (22, .iconst (-1), 0, 0), (23, .ireturn, 0, 0), (24, .aload_n 0, 0, 0), (25, .getfield 23, 0, 3), (28, .getfield 72, 1, 0), (31, .iload_n 1, 0, 0), (32, .iaload, 0, 0), (33, .ireturn, 0, 0)]
def fCc_element : sx_F := sx_tab lCc_element
theorem kCc_element : sx_chk "ClassCharacters" (wy yCc_element prog_1_method_6_code 2 (some .int)) 2 prog_1_method_6_code lCc_element = true := by decide +kernel
theorem gCc_element_0 : fCc_element 0 = some (.aload_n 0, 0, 0) := rfl
theorem gCc_element_1 : fCc_element 1 = some (.invokevirtual 65, 20, 0) := rfl
theorem gCc_element_4 : fCc_element 4 = some (.ifCond .eq (18), 22, 0) := rfl
theorem gCc_element_7 : fCc_element 7 = some (.iload_n 1, 0, 0) := rfl
theorem gCc_element_8 : fCc_element 8 = some (.ifCond .lt (14), 22, 0) := rfl
theorem gCc_element_11 : fCc_element 11 = some (.iload_n 1, 0, 0) := rfl
theorem gCc_element_12 : fCc_element 12 = some (.aload_n 0, 0, 0) := rfl
theorem gCc_element_13 : fCc_element 13 = some (.getfield 23, 0, 3) := rfl
theorem gCc_element_16 : fCc_element 16 = some (.getfield 69, 1, 2) := rfl
theorem gCc_element_19 : fCc_element 19 = some (.if_icmp .lt (5), 24, 0) := rfl
theorem gCc_element_22 : fCc_element 22 = some (.iconst (-1), 0, 0) := rfl
theorem gCc_element_23 : fCc_element 23 = some (.ireturn, 0, 0) := rfl
theorem gCc_element_24 : fCc_element 24 = some (.aload_n 0, 0, 0) := rfl
theorem gCc_element_25 : fCc_element 25 = some (.getfield 23, 0, 3) := rfl
theorem gCc_element_28 : fCc_element 28 = some (.getfield 72, 1, 0) := rfl
theorem gCc_element_31 : fCc_element 31 = some (.iload_n 1, 0, 0) := rfl
theorem gCc_element_32 : fCc_element 32 = some (.iaload, 0, 0) := rfl
theorem gCc_element_33 : fCc_element 33 = some (.ireturn, 0, 0) := rfl
abbrev lCc_classOf : List (Nat × Instr × Nat × Nat) := [(0, .aload_n 0, 0, 0), (1, .invokevirtual 65, 20, 0), (4, .ifCond .eq (18), 22, 0), (7, .aload_n 0, 0, 0), (8, .getfield 30, 0, 4), (11, .iload_n 1, 0, 0), (12, .aload_n 0, 0, 0), (13, .getfield 23, 0, 3), (16, .invokevirtual 75, 86, 0), (19, .goto (4), 23, 0), (22, .iconst (-1), 0, 0), (23, .ireturn, 0, 0)]
def fCc_classOf : sx_F := sx_tab lCc_classOf
theorem kCc_classOf : sx_chk "ClassCharacters" (wy yCc_classOf prog_1_method_7_code 2 (some .int)) 2 prog_1_method_7_code lCc_classOf = true := by decide +kernel
theorem gCc_classOf_0 : fCc_classOf 0 = some (.aload_n 0, 0, 0) := rfl
theorem gCc_classOf_1 : fCc_classOf 1 = some (.invokevirtual 65, 20, 0) := rfl
theorem gCc_classOf_4 : fCc_classOf 4 = some (.ifCond .eq (18), 22, 0) := rfl
theorem gCc_classOf_7 : fCc_classOf 7 = some (.aload_n 0, 0, 0) := rfl
theorem gCc_classOf_8 : fCc_classOf 8 = some (.getfield 30, 0, 4) := rfl
theorem gCc_classOf_11 : fCc_classOf 11 = some (.iload_n 1, 0, 0) := rfl
theorem gCc_classOf_12 : fCc_classOf 12 = some (.aload_n 0, 0, 0) := rfl
theorem gCc_classOf_13 : fCc_classOf 13 = some (.getfield 23, 0, 3) := rfl
theorem gCc_classOf_16 : fCc_classOf 16 = some (.invokevirtual 75, 86, 0) := rfl
theorem gCc_classOf_19 : fCc_classOf 19 = some (.goto (4), 23, 0) := rfl
theorem gCc_classOf_22 : fCc_classOf 22 = some (.iconst (-1), 0, 0) := rfl
theorem gCc_classOf_23 : fCc_classOf 23 = some (.ireturn, 0, 0) := rfl
abbrev lCc_classes : List (Nat × Instr × Nat × Nat) := [(0, .aload_n 0, 0, 0), (1, .invokevirtual 65, 20, 0), (4, .ifCond .eq (13), 17, 0), (7, .aload_n 0, 0, 0), (8, .getfield 30, 0, 4), (11, .getfield 79, 2, 0), (14, .goto (4), 18, 0), (17, .iconst 0, 0, 0), (18, .ireturn, 0, 0)]
def fCc_classes : sx_F := sx_tab lCc_classes
theorem kCc_classes : sx_chk "ClassCharacters" (wy yCc_classes prog_1_method_8_code 1 (some .int)) 1 prog_1_method_8_code lCc_classes = true := by decide +kernel
theorem gCc_classes_0 : fCc_classes 0 = some (.aload_n 0, 0, 0) := rfl
theorem gCc_classes_1 : fCc_classes 1 = some (.invokevirtual 65, 20, 0) := rfl
theorem gCc_classes_4 : fCc_classes 4 = some (.ifCond .eq (13), 17, 0) := rfl
theorem gCc_classes_7 : fCc_classes 7 = some (.aload_n 0, 0, 0) := rfl
theorem gCc_classes_8 : fCc_classes 8 = some (.getfield 30, 0, 4) := rfl
theorem gCc_classes_11 : fCc_classes 11 = some (.getfield 79, 2, 0) := rfl
theorem gCc_classes_14 : fCc_classes 14 = some (.goto (4), 18, 0) := rfl
theorem gCc_classes_17 : fCc_classes 17 = some (.iconst 0, 0, 0) := rfl
theorem gCc_classes_18 : fCc_classes 18 = some (.ireturn, 0, 0) := rfl
abbrev lCc_size : List (Nat × Instr × Nat × Nat) := [(0, .aload_n 0, 0, 0), (1, .iload_n 1, 0, 0), (2, .invokevirtual 80, 21, 0), (5, .ifCond .eq (15), 20, 0), (8, .aload_n 0, 0, 0), (9, .getfield 30, 0, 4), (12, .getfield 83, 2, 2), (15, .iload_n 1, 0, 0), (16, .iaload, 0, 0), (17, .goto (4), 21, 0), (20, .iconst 0, 0, 0), (21, .ireturn, 0, 0)]
def fCc_size : sx_F := sx_tab lCc_size
theorem kCc_size : sx_chk "ClassCharacters" (wy yCc_size prog_1_method_9_code 2 (some .int)) 2 prog_1_method_9_code lCc_size = true := by decide +kernel
theorem gCc_size_0 : fCc_size 0 = some (.aload_n 0, 0, 0) := rfl
theorem gCc_size_1 : fCc_size 1 = some (.iload_n 1, 0, 0) := rfl
theorem gCc_size_2 : fCc_size 2 = some (.invokevirtual 80, 21, 0) := rfl
theorem gCc_size_5 : fCc_size 5 = some (.ifCond .eq (15), 20, 0) := rfl
theorem gCc_size_8 : fCc_size 8 = some (.aload_n 0, 0, 0) := rfl
theorem gCc_size_9 : fCc_size 9 = some (.getfield 30, 0, 4) := rfl
theorem gCc_size_12 : fCc_size 12 = some (.getfield 83, 2, 2) := rfl
theorem gCc_size_15 : fCc_size 15 = some (.iload_n 1, 0, 0) := rfl
theorem gCc_size_16 : fCc_size 16 = some (.iaload, 0, 0) := rfl
theorem gCc_size_17 : fCc_size 17 = some (.goto (4), 21, 0) := rfl
theorem gCc_size_20 : fCc_size 20 = some (.iconst 0, 0, 0) := rfl
theorem gCc_size_21 : fCc_size 21 = some (.ireturn, 0, 0) := rfl
abbrev lCc_least : List (Nat × Instr × Nat × Nat) := [(0, .aload_n 0, 0, 0), (1, .iload_n 1, 0, 0), (2, .invokevirtual 80, 21, 0), (5, .ifCond .eq (15), 20, 0), (8, .aload_n 0, 0, 0), (9, .getfield 30, 0, 4), (12, .getfield 86, 2, 3), (15, .iload_n 1, 0, 0), (16, .iaload, 0, 0), (17, .goto (4), 21, 0), (20, .iconst (-1), 0, 0), (21, .ireturn, 0, 0)]
def fCc_least : sx_F := sx_tab lCc_least
theorem kCc_least : sx_chk "ClassCharacters" (wy yCc_least prog_1_method_10_code 2 (some .int)) 2 prog_1_method_10_code lCc_least = true := by decide +kernel
theorem gCc_least_0 : fCc_least 0 = some (.aload_n 0, 0, 0) := rfl
theorem gCc_least_1 : fCc_least 1 = some (.iload_n 1, 0, 0) := rfl
theorem gCc_least_2 : fCc_least 2 = some (.invokevirtual 80, 21, 0) := rfl
theorem gCc_least_5 : fCc_least 5 = some (.ifCond .eq (15), 20, 0) := rfl
theorem gCc_least_8 : fCc_least 8 = some (.aload_n 0, 0, 0) := rfl
theorem gCc_least_9 : fCc_least 9 = some (.getfield 30, 0, 4) := rfl
theorem gCc_least_12 : fCc_least 12 = some (.getfield 86, 2, 3) := rfl
theorem gCc_least_15 : fCc_least 15 = some (.iload_n 1, 0, 0) := rfl
theorem gCc_least_16 : fCc_least 16 = some (.iaload, 0, 0) := rfl
theorem gCc_least_17 : fCc_least 17 = some (.goto (4), 21, 0) := rfl
theorem gCc_least_20 : fCc_least 20 = some (.iconst (-1), 0, 0) := rfl
theorem gCc_least_21 : fCc_least 21 = some (.ireturn, 0, 0) := rfl
abbrev lCc_power : List (Nat × Instr × Nat × Nat) := [(0, .aload_n 0, 0, 0), (1, .iload_n 1, 0, 0), (2, .invokevirtual 80, 21, 0), (5, .ifCond .eq (14), 19, 0), (8, .iload_n 2, 0, 0), (9, .ifCond .lt (10), 19, 0), (12, .iload_n 2, 0, 0), (13, .sipush (1000), 0, 0), (16, .if_icmp .le (5), 21, 0), (19, .iconst (-1), 0, 0), (20, .ireturn, 0, 0), (21, .aload_n 0, 0, 0), (22, .getfield 30, 0, 4), (25, .iload_n 1, 0, 0), (26, .iload_n 2, 0, 0), (27, .invokevirtual 89, 88, 0), (30, .ireturn, 0, 0)]
def fCc_power : sx_F := sx_tab lCc_power
theorem kCc_power : sx_chk "ClassCharacters" (wy yCc_power prog_1_method_11_code 3 (some .int)) 3 prog_1_method_11_code lCc_power = true := by decide +kernel
theorem gCc_power_0 : fCc_power 0 = some (.aload_n 0, 0, 0) := rfl
theorem gCc_power_1 : fCc_power 1 = some (.iload_n 1, 0, 0) := rfl
theorem gCc_power_2 : fCc_power 2 = some (.invokevirtual 80, 21, 0) := rfl
theorem gCc_power_5 : fCc_power 5 = some (.ifCond .eq (14), 19, 0) := rfl
theorem gCc_power_8 : fCc_power 8 = some (.iload_n 2, 0, 0) := rfl
theorem gCc_power_9 : fCc_power 9 = some (.ifCond .lt (10), 19, 0) := rfl
theorem gCc_power_12 : fCc_power 12 = some (.iload_n 2, 0, 0) := rfl
theorem gCc_power_13 : fCc_power 13 = some (.sipush (1000), 0, 0) := rfl
theorem gCc_power_16 : fCc_power 16 = some (.if_icmp .le (5), 21, 0) := rfl
theorem gCc_power_19 : fCc_power 19 = some (.iconst (-1), 0, 0) := rfl
theorem gCc_power_20 : fCc_power 20 = some (.ireturn, 0, 0) := rfl
theorem gCc_power_21 : fCc_power 21 = some (.aload_n 0, 0, 0) := rfl
theorem gCc_power_22 : fCc_power 22 = some (.getfield 30, 0, 4) := rfl
theorem gCc_power_25 : fCc_power 25 = some (.iload_n 1, 0, 0) := rfl
theorem gCc_power_26 : fCc_power 26 = some (.iload_n 2, 0, 0) := rfl
theorem gCc_power_27 : fCc_power 27 = some (.invokevirtual 89, 88, 0) := rfl
theorem gCc_power_30 : fCc_power 30 = some (.ireturn, 0, 0) := rfl
abbrev lCc_constant : List (Nat × Instr × Nat × Nat) := [(0, .aload_n 0, 0, 0), (1, .iload_n 1, 0, 0), (2, .invokevirtual 80, 21, 0), (5, .ifCond .eq (19), 24, 0), (8, .aload_n 0, 0, 0), (9, .iload_n 2, 0, 0), (10, .invokevirtual 80, 21, 0), (13, .ifCond .eq (11), 24, 0), (16, .aload_n 0, 0, 0), (17, .iload_n 3, 0, 0), (18, .invokevirtual 80, 21, 0), (21, .ifCond .ne (5), 26, 0), (24, .iconst (-1), 0, 0), (25, .ireturn, 0, 0), (26, .aload_n 0, 0, 0), (27, .getfield 30, 0, 4), (30, .iload_n 1, 0, 0), (31, .iload_n 2, 0, 0), (32, .iload_n 3, 0, 0), (33, .invokevirtual 93, 91, 0), (36, .ireturn, 0, 0)]
def fCc_constant : sx_F := sx_tab lCc_constant
theorem kCc_constant : sx_chk "ClassCharacters" (wy yCc_constant prog_1_method_12_code 4 (some .int)) 4 prog_1_method_12_code lCc_constant = true := by decide +kernel
theorem gCc_constant_0 : fCc_constant 0 = some (.aload_n 0, 0, 0) := rfl
theorem gCc_constant_1 : fCc_constant 1 = some (.iload_n 1, 0, 0) := rfl
theorem gCc_constant_2 : fCc_constant 2 = some (.invokevirtual 80, 21, 0) := rfl
theorem gCc_constant_5 : fCc_constant 5 = some (.ifCond .eq (19), 24, 0) := rfl
theorem gCc_constant_8 : fCc_constant 8 = some (.aload_n 0, 0, 0) := rfl
theorem gCc_constant_9 : fCc_constant 9 = some (.iload_n 2, 0, 0) := rfl
theorem gCc_constant_10 : fCc_constant 10 = some (.invokevirtual 80, 21, 0) := rfl
theorem gCc_constant_13 : fCc_constant 13 = some (.ifCond .eq (11), 24, 0) := rfl
theorem gCc_constant_16 : fCc_constant 16 = some (.aload_n 0, 0, 0) := rfl
theorem gCc_constant_17 : fCc_constant 17 = some (.iload_n 3, 0, 0) := rfl
theorem gCc_constant_18 : fCc_constant 18 = some (.invokevirtual 80, 21, 0) := rfl
theorem gCc_constant_21 : fCc_constant 21 = some (.ifCond .ne (5), 26, 0) := rfl
theorem gCc_constant_24 : fCc_constant 24 = some (.iconst (-1), 0, 0) := rfl
theorem gCc_constant_25 : fCc_constant 25 = some (.ireturn, 0, 0) := rfl
theorem gCc_constant_26 : fCc_constant 26 = some (.aload_n 0, 0, 0) := rfl
theorem gCc_constant_27 : fCc_constant 27 = some (.getfield 30, 0, 4) := rfl
theorem gCc_constant_30 : fCc_constant 30 = some (.iload_n 1, 0, 0) := rfl
theorem gCc_constant_31 : fCc_constant 31 = some (.iload_n 2, 0, 0) := rfl
theorem gCc_constant_32 : fCc_constant 32 = some (.iload_n 3, 0, 0) := rfl
theorem gCc_constant_33 : fCc_constant 33 = some (.invokevirtual 93, 91, 0) := rfl
theorem gCc_constant_36 : fCc_constant 36 = some (.ireturn, 0, 0) := rfl
abbrev lCc_exponent : List (Nat × Instr × Nat × Nat) := [(0, .aload_n 0, 0, 0), (1, .invokevirtual 65, 20, 0), (4, .ifCond .eq (13), 17, 0), (7, .aload_n 0, 0, 0), (8, .getfield 30, 0, 4), (11, .getfield 97, 2, 6), (14, .goto (4), 18, 0), (17, .iconst 0, 0, 0), (18, .ireturn, 0, 0)]
def fCc_exponent : sx_F := sx_tab lCc_exponent
theorem kCc_exponent : sx_chk "ClassCharacters" (wy yCc_exponent prog_1_method_13_code 1 (some .int)) 1 prog_1_method_13_code lCc_exponent = true := by decide +kernel
theorem gCc_exponent_0 : fCc_exponent 0 = some (.aload_n 0, 0, 0) := rfl
theorem gCc_exponent_1 : fCc_exponent 1 = some (.invokevirtual 65, 20, 0) := rfl
theorem gCc_exponent_4 : fCc_exponent 4 = some (.ifCond .eq (13), 17, 0) := rfl
theorem gCc_exponent_7 : fCc_exponent 7 = some (.aload_n 0, 0, 0) := rfl
theorem gCc_exponent_8 : fCc_exponent 8 = some (.getfield 30, 0, 4) := rfl
theorem gCc_exponent_11 : fCc_exponent 11 = some (.getfield 97, 2, 6) := rfl
theorem gCc_exponent_14 : fCc_exponent 14 = some (.goto (4), 18, 0) := rfl
theorem gCc_exponent_17 : fCc_exponent 17 = some (.iconst 0, 0, 0) := rfl
theorem gCc_exponent_18 : fCc_exponent 18 = some (.ireturn, 0, 0) := rfl
abbrev lCc_prime : List (Nat × Instr × Nat × Nat) := [(0, .aload_n 0, 0, 0), (1, .invokevirtual 65, 20, 0), (4, .ifCond .eq (13), 17, 0), (7, .aload_n 0, 0, 0), (8, .getfield 37, 0, 5), (11, .getfield 100, 3, 0), (14, .goto (4), 18, 0), (17, .iconst 0, 0, 0), (18, .ireturn, 0, 0)]
def fCc_prime : sx_F := sx_tab lCc_prime
theorem kCc_prime : sx_chk "ClassCharacters" (wy yCc_prime prog_1_method_14_code 1 (some .int)) 1 prog_1_method_14_code lCc_prime = true := by decide +kernel
theorem gCc_prime_0 : fCc_prime 0 = some (.aload_n 0, 0, 0) := rfl
theorem gCc_prime_1 : fCc_prime 1 = some (.invokevirtual 65, 20, 0) := rfl
theorem gCc_prime_4 : fCc_prime 4 = some (.ifCond .eq (13), 17, 0) := rfl
theorem gCc_prime_7 : fCc_prime 7 = some (.aload_n 0, 0, 0) := rfl
theorem gCc_prime_8 : fCc_prime 8 = some (.getfield 37, 0, 5) := rfl
theorem gCc_prime_11 : fCc_prime 11 = some (.getfield 100, 3, 0) := rfl
theorem gCc_prime_14 : fCc_prime 14 = some (.goto (4), 18, 0) := rfl
theorem gCc_prime_17 : fCc_prime 17 = some (.iconst 0, 0, 0) := rfl
theorem gCc_prime_18 : fCc_prime 18 = some (.ireturn, 0, 0) := rfl
abbrev lCc_root : List (Nat × Instr × Nat × Nat) := [(0, .aload_n 0, 0, 0), (1, .invokevirtual 65, 20, 0), (4, .ifCond .eq (13), 17, 0), (7, .aload_n 0, 0, 0), (8, .getfield 37, 0, 5), (11, .getfield 103, 3, 1), (14, .goto (4), 18, 0), (17, .iconst 0, 0, 0), (18, .ireturn, 0, 0)]
def fCc_root : sx_F := sx_tab lCc_root
theorem kCc_root : sx_chk "ClassCharacters" (wy yCc_root prog_1_method_15_code 1 (some .int)) 1 prog_1_method_15_code lCc_root = true := by decide +kernel
theorem gCc_root_0 : fCc_root 0 = some (.aload_n 0, 0, 0) := rfl
theorem gCc_root_1 : fCc_root 1 = some (.invokevirtual 65, 20, 0) := rfl
theorem gCc_root_4 : fCc_root 4 = some (.ifCond .eq (13), 17, 0) := rfl
theorem gCc_root_7 : fCc_root 7 = some (.aload_n 0, 0, 0) := rfl
theorem gCc_root_8 : fCc_root 8 = some (.getfield 37, 0, 5) := rfl
theorem gCc_root_11 : fCc_root 11 = some (.getfield 103, 3, 1) := rfl
theorem gCc_root_14 : fCc_root 14 = some (.goto (4), 18, 0) := rfl
theorem gCc_root_17 : fCc_root 17 = some (.iconst 0, 0, 0) := rfl
theorem gCc_root_18 : fCc_root 18 = some (.ireturn, 0, 0) := rfl
abbrev lCc_degree : List (Nat × Instr × Nat × Nat) := [(0, .aload_n 0, 0, 0), (1, .iload_n 1, 0, 0), (2, .invokevirtual 80, 21, 0), (5, .ifCond .eq (23), 28, 0), (8, .aload_n 0, 0, 0), (9, .getfield 51, 0, 7), (12, .getfield 106, 5, 1), (15, .aload_n 0, 0, 0), (16, .getfield 51, 0, 7), (19, .getfield 109, 5, 5), (22, .iload_n 1, 0, 0), (23, .iaload, 0, 0), (24, .iaload, 0, 0), (25, .goto (4), 29, 0), (28, .iconst 0, 0, 0), (29, .ireturn, 0, 0)]
def fCc_degree : sx_F := sx_tab lCc_degree
theorem kCc_degree : sx_chk "ClassCharacters" (wy yCc_degree prog_1_method_16_code 2 (some .int)) 2 prog_1_method_16_code lCc_degree = true := by decide +kernel
theorem gCc_degree_0 : fCc_degree 0 = some (.aload_n 0, 0, 0) := rfl
theorem gCc_degree_1 : fCc_degree 1 = some (.iload_n 1, 0, 0) := rfl
theorem gCc_degree_2 : fCc_degree 2 = some (.invokevirtual 80, 21, 0) := rfl
theorem gCc_degree_5 : fCc_degree 5 = some (.ifCond .eq (23), 28, 0) := rfl
theorem gCc_degree_8 : fCc_degree 8 = some (.aload_n 0, 0, 0) := rfl
theorem gCc_degree_9 : fCc_degree 9 = some (.getfield 51, 0, 7) := rfl
theorem gCc_degree_12 : fCc_degree 12 = some (.getfield 106, 5, 1) := rfl
theorem gCc_degree_15 : fCc_degree 15 = some (.aload_n 0, 0, 0) := rfl
theorem gCc_degree_16 : fCc_degree 16 = some (.getfield 51, 0, 7) := rfl
theorem gCc_degree_19 : fCc_degree 19 = some (.getfield 109, 5, 5) := rfl
theorem gCc_degree_22 : fCc_degree 22 = some (.iload_n 1, 0, 0) := rfl
theorem gCc_degree_23 : fCc_degree 23 = some (.iaload, 0, 0) := rfl
theorem gCc_degree_24 : fCc_degree 24 = some (.iaload, 0, 0) := rfl
theorem gCc_degree_25 : fCc_degree 25 = some (.goto (4), 29, 0) := rfl
theorem gCc_degree_28 : fCc_degree 28 = some (.iconst 0, 0, 0) := rfl
theorem gCc_degree_29 : fCc_degree 29 = some (.ireturn, 0, 0) := rfl
abbrev lCc_value : List (Nat × Instr × Nat × Nat) := [(0, .aload_n 0, 0, 0), (1, .iload_n 1, 0, 0), (2, .invokevirtual 80, 21, 0), (5, .ifCond .eq (11), 16, 0), (8, .aload_n 0, 0, 0), (9, .iload_n 2, 0, 0), (10, .invokevirtual 80, 21, 0), (13, .ifCond .ne (5), 18, 0), (16, .iconst (-1), 0, 0), (17, .ireturn, 0, 0), (18, .aload_n 0, 0, 0), (19, .getfield 51, 0, 7), (22, .getfield 112, 5, 2), (25, .aload_n 0, 0, 0), (26, .getfield 51, 0, 7), (29, .getfield 109, 5, 5), (32, .iload_n 1, 0, 0), (33, .iaload, 0, 0), (34, .aaload, 0, 0), (35, .iload_n 2, 0, 0), (36, .iaload, 0, 0), (37, .ireturn, 0, 0)]
def fCc_value : sx_F := sx_tab lCc_value
theorem kCc_value : sx_chk "ClassCharacters" (wy yCc_value prog_1_method_17_code 3 (some .int)) 3 prog_1_method_17_code lCc_value = true := by decide +kernel
theorem gCc_value_0 : fCc_value 0 = some (.aload_n 0, 0, 0) := rfl
theorem gCc_value_1 : fCc_value 1 = some (.iload_n 1, 0, 0) := rfl
theorem gCc_value_2 : fCc_value 2 = some (.invokevirtual 80, 21, 0) := rfl
theorem gCc_value_5 : fCc_value 5 = some (.ifCond .eq (11), 16, 0) := rfl
theorem gCc_value_8 : fCc_value 8 = some (.aload_n 0, 0, 0) := rfl
theorem gCc_value_9 : fCc_value 9 = some (.iload_n 2, 0, 0) := rfl
theorem gCc_value_10 : fCc_value 10 = some (.invokevirtual 80, 21, 0) := rfl
theorem gCc_value_13 : fCc_value 13 = some (.ifCond .ne (5), 18, 0) := rfl
theorem gCc_value_16 : fCc_value 16 = some (.iconst (-1), 0, 0) := rfl
theorem gCc_value_17 : fCc_value 17 = some (.ireturn, 0, 0) := rfl
theorem gCc_value_18 : fCc_value 18 = some (.aload_n 0, 0, 0) := rfl
theorem gCc_value_19 : fCc_value 19 = some (.getfield 51, 0, 7) := rfl
theorem gCc_value_22 : fCc_value 22 = some (.getfield 112, 5, 2) := rfl
theorem gCc_value_25 : fCc_value 25 = some (.aload_n 0, 0, 0) := rfl
theorem gCc_value_26 : fCc_value 26 = some (.getfield 51, 0, 7) := rfl
theorem gCc_value_29 : fCc_value 29 = some (.getfield 109, 5, 5) := rfl
theorem gCc_value_32 : fCc_value 32 = some (.iload_n 1, 0, 0) := rfl
theorem gCc_value_33 : fCc_value 33 = some (.iaload, 0, 0) := rfl
theorem gCc_value_34 : fCc_value 34 = some (.aaload, 0, 0) := rfl
theorem gCc_value_35 : fCc_value 35 = some (.iload_n 2, 0, 0) := rfl
theorem gCc_value_36 : fCc_value 36 = some (.iaload, 0, 0) := rfl
theorem gCc_value_37 : fCc_value 37 = some (.ireturn, 0, 0) := rfl
abbrev lCc_multiplicity : List (Nat × Instr × Nat × Nat) := [(0, .aload_n 0, 0, 0), (1, .iload_n 1, 0, 0), (2, .invokevirtual 80, 21, 0), (5, .ifCond .eq (26), 31, 0), (8, .aload_n 0, 0, 0), (9, .iload_n 2, 0, 0), (10, .invokevirtual 80, 21, 0), (13, .ifCond .eq (18), 31, 0), (16, .iload_n 3, 0, 0), (17, .ifCond .lt (14), 31, 0), (20, .iload_n 3, 0, 0), (21, .aload_n 0, 0, 0), (22, .getfield 30, 0, 4), (25, .getfield 97, 2, 6), (28, .if_icmp .lt (5), 33, 0), (31, .iconst (-1), 0, 0), (32, .ireturn, 0, 0), (33, .aload_n 0, 0, 0), (34, .getfield 51, 0, 7), (37, .aload_n 0, 0, 0), (38, .getfield 51, 0, 7), (41, .getfield 109, 5, 5), (44, .iload_n 1, 0, 0), (45, .iaload, 0, 0), (46, .iload_n 2, 0, 0), (47, .iload_n 3, 0, 0), (48, .aload_n 0, 0, 0), (49, .getfield 30, 0, 4), (52, .aload_n 0, 0, 0), (53, .getfield 37, 0, 5), (56, .invokevirtual 116, 116, 0), (59, .ireturn, 0, 0)]
def fCc_multiplicity : sx_F := sx_tab lCc_multiplicity
theorem kCc_multiplicity : sx_chk "ClassCharacters" (wy yCc_multiplicity prog_1_method_18_code 4 (some .int)) 4 prog_1_method_18_code lCc_multiplicity = true := by decide +kernel
theorem gCc_multiplicity_0 : fCc_multiplicity 0 = some (.aload_n 0, 0, 0) := rfl
theorem gCc_multiplicity_1 : fCc_multiplicity 1 = some (.iload_n 1, 0, 0) := rfl
theorem gCc_multiplicity_2 : fCc_multiplicity 2 = some (.invokevirtual 80, 21, 0) := rfl
theorem gCc_multiplicity_5 : fCc_multiplicity 5 = some (.ifCond .eq (26), 31, 0) := rfl
theorem gCc_multiplicity_8 : fCc_multiplicity 8 = some (.aload_n 0, 0, 0) := rfl
theorem gCc_multiplicity_9 : fCc_multiplicity 9 = some (.iload_n 2, 0, 0) := rfl
theorem gCc_multiplicity_10 : fCc_multiplicity 10 = some (.invokevirtual 80, 21, 0) := rfl
theorem gCc_multiplicity_13 : fCc_multiplicity 13 = some (.ifCond .eq (18), 31, 0) := rfl
theorem gCc_multiplicity_16 : fCc_multiplicity 16 = some (.iload_n 3, 0, 0) := rfl
theorem gCc_multiplicity_17 : fCc_multiplicity 17 = some (.ifCond .lt (14), 31, 0) := rfl
theorem gCc_multiplicity_20 : fCc_multiplicity 20 = some (.iload_n 3, 0, 0) := rfl
theorem gCc_multiplicity_21 : fCc_multiplicity 21 = some (.aload_n 0, 0, 0) := rfl
theorem gCc_multiplicity_22 : fCc_multiplicity 22 = some (.getfield 30, 0, 4) := rfl
theorem gCc_multiplicity_25 : fCc_multiplicity 25 = some (.getfield 97, 2, 6) := rfl
theorem gCc_multiplicity_28 : fCc_multiplicity 28 = some (.if_icmp .lt (5), 33, 0) := rfl
theorem gCc_multiplicity_31 : fCc_multiplicity 31 = some (.iconst (-1), 0, 0) := rfl
theorem gCc_multiplicity_32 : fCc_multiplicity 32 = some (.ireturn, 0, 0) := rfl
theorem gCc_multiplicity_33 : fCc_multiplicity 33 = some (.aload_n 0, 0, 0) := rfl
theorem gCc_multiplicity_34 : fCc_multiplicity 34 = some (.getfield 51, 0, 7) := rfl
theorem gCc_multiplicity_37 : fCc_multiplicity 37 = some (.aload_n 0, 0, 0) := rfl
theorem gCc_multiplicity_38 : fCc_multiplicity 38 = some (.getfield 51, 0, 7) := rfl
theorem gCc_multiplicity_41 : fCc_multiplicity 41 = some (.getfield 109, 5, 5) := rfl
theorem gCc_multiplicity_44 : fCc_multiplicity 44 = some (.iload_n 1, 0, 0) := rfl
theorem gCc_multiplicity_45 : fCc_multiplicity 45 = some (.iaload, 0, 0) := rfl
theorem gCc_multiplicity_46 : fCc_multiplicity 46 = some (.iload_n 2, 0, 0) := rfl
theorem gCc_multiplicity_47 : fCc_multiplicity 47 = some (.iload_n 3, 0, 0) := rfl
theorem gCc_multiplicity_48 : fCc_multiplicity 48 = some (.aload_n 0, 0, 0) := rfl
theorem gCc_multiplicity_49 : fCc_multiplicity 49 = some (.getfield 30, 0, 4) := rfl
theorem gCc_multiplicity_52 : fCc_multiplicity 52 = some (.aload_n 0, 0, 0) := rfl
theorem gCc_multiplicity_53 : fCc_multiplicity 53 = some (.getfield 37, 0, 5) := rfl
theorem gCc_multiplicity_56 : fCc_multiplicity 56 = some (.invokevirtual 116, 116, 0) := rfl
theorem gCc_multiplicity_59 : fCc_multiplicity 59 = some (.ireturn, 0, 0) := rfl
abbrev lCc_indicator : List (Nat × Instr × Nat × Nat) := [(0, .aload_n 0, 0, 0), (1, .iload_n 1, 0, 0), (2, .invokevirtual 80, 21, 0), (5, .ifCond .eq (23), 28, 0), (8, .aload_n 0, 0, 0), (9, .getfield 51, 0, 7), (12, .getfield 120, 5, 3), (15, .aload_n 0, 0, 0), (16, .getfield 51, 0, 7), (19, .getfield 109, 5, 5), (22, .iload_n 1, 0, 0), (23, .iaload, 0, 0), (24, .iaload, 0, 0), (25, .goto (4), 29, 0), (28, .iconst 0, 0, 0), (29, .ireturn, 0, 0)]
def fCc_indicator : sx_F := sx_tab lCc_indicator
theorem kCc_indicator : sx_chk "ClassCharacters" (wy yCc_indicator prog_1_method_19_code 2 (some .int)) 2 prog_1_method_19_code lCc_indicator = true := by decide +kernel
theorem gCc_indicator_0 : fCc_indicator 0 = some (.aload_n 0, 0, 0) := rfl
theorem gCc_indicator_1 : fCc_indicator 1 = some (.iload_n 1, 0, 0) := rfl
theorem gCc_indicator_2 : fCc_indicator 2 = some (.invokevirtual 80, 21, 0) := rfl
theorem gCc_indicator_5 : fCc_indicator 5 = some (.ifCond .eq (23), 28, 0) := rfl
theorem gCc_indicator_8 : fCc_indicator 8 = some (.aload_n 0, 0, 0) := rfl
theorem gCc_indicator_9 : fCc_indicator 9 = some (.getfield 51, 0, 7) := rfl
theorem gCc_indicator_12 : fCc_indicator 12 = some (.getfield 120, 5, 3) := rfl
theorem gCc_indicator_15 : fCc_indicator 15 = some (.aload_n 0, 0, 0) := rfl
theorem gCc_indicator_16 : fCc_indicator 16 = some (.getfield 51, 0, 7) := rfl
theorem gCc_indicator_19 : fCc_indicator 19 = some (.getfield 109, 5, 5) := rfl
theorem gCc_indicator_22 : fCc_indicator 22 = some (.iload_n 1, 0, 0) := rfl
theorem gCc_indicator_23 : fCc_indicator 23 = some (.iaload, 0, 0) := rfl
theorem gCc_indicator_24 : fCc_indicator 24 = some (.iaload, 0, 0) := rfl
theorem gCc_indicator_25 : fCc_indicator 25 = some (.goto (4), 29, 0) := rfl
theorem gCc_indicator_28 : fCc_indicator 28 = some (.iconst 0, 0, 0) := rfl
theorem gCc_indicator_29 : fCc_indicator 29 = some (.ireturn, 0, 0) := rfl
abbrev lCc_kernel : List (Nat × Instr × Nat × Nat) := [(0, .aload_n 0, 0, 0), (1, .iload_n 1, 0, 0), (2, .invokevirtual 80, 21, 0), (5, .ifCond .eq (23), 28, 0), (8, .aload_n 0, 0, 0), (9, .getfield 51, 0, 7), (12, .getfield 123, 5, 4), (15, .aload_n 0, 0, 0), (16, .getfield 51, 0, 7), (19, .getfield 109, 5, 5), (22, .iload_n 1, 0, 0), (23, .iaload, 0, 0), (24, .iaload, 0, 0), (25, .goto (4), 29, 0), (28, .iconst 0, 0, 0), (29, .ireturn, 0, 0)]
def fCc_kernel : sx_F := sx_tab lCc_kernel
theorem kCc_kernel : sx_chk "ClassCharacters" (wy yCc_kernel prog_1_method_20_code 2 (some .int)) 2 prog_1_method_20_code lCc_kernel = true := by decide +kernel
theorem gCc_kernel_0 : fCc_kernel 0 = some (.aload_n 0, 0, 0) := rfl
theorem gCc_kernel_1 : fCc_kernel 1 = some (.iload_n 1, 0, 0) := rfl
theorem gCc_kernel_2 : fCc_kernel 2 = some (.invokevirtual 80, 21, 0) := rfl
theorem gCc_kernel_5 : fCc_kernel 5 = some (.ifCond .eq (23), 28, 0) := rfl
theorem gCc_kernel_8 : fCc_kernel 8 = some (.aload_n 0, 0, 0) := rfl
theorem gCc_kernel_9 : fCc_kernel 9 = some (.getfield 51, 0, 7) := rfl
theorem gCc_kernel_12 : fCc_kernel 12 = some (.getfield 123, 5, 4) := rfl
theorem gCc_kernel_15 : fCc_kernel 15 = some (.aload_n 0, 0, 0) := rfl
theorem gCc_kernel_16 : fCc_kernel 16 = some (.getfield 51, 0, 7) := rfl
theorem gCc_kernel_19 : fCc_kernel 19 = some (.getfield 109, 5, 5) := rfl
theorem gCc_kernel_22 : fCc_kernel 22 = some (.iload_n 1, 0, 0) := rfl
theorem gCc_kernel_23 : fCc_kernel 23 = some (.iaload, 0, 0) := rfl
theorem gCc_kernel_24 : fCc_kernel 24 = some (.iaload, 0, 0) := rfl
theorem gCc_kernel_25 : fCc_kernel 25 = some (.goto (4), 29, 0) := rfl
theorem gCc_kernel_28 : fCc_kernel 28 = some (.iconst 0, 0, 0) := rfl
theorem gCc_kernel_29 : fCc_kernel 29 = some (.ireturn, 0, 0) := rfl
abbrev lCc_normals : List (Nat × Instr × Nat × Nat) := [(0, .aload_n 0, 0, 0), (1, .invokevirtual 65, 20, 0), (4, .ifCond .eq (13), 17, 0), (7, .aload_n 0, 0, 0), (8, .getfield 51, 0, 7), (11, .getfield 126, 5, 7), (14, .goto (4), 18, 0), (17, .iconst 0, 0, 0), (18, .ireturn, 0, 0)]
def fCc_normals : sx_F := sx_tab lCc_normals
theorem kCc_normals : sx_chk "ClassCharacters" (wy yCc_normals prog_1_method_21_code 1 (some .int)) 1 prog_1_method_21_code lCc_normals = true := by decide +kernel
theorem gCc_normals_0 : fCc_normals 0 = some (.aload_n 0, 0, 0) := rfl
theorem gCc_normals_1 : fCc_normals 1 = some (.invokevirtual 65, 20, 0) := rfl
theorem gCc_normals_4 : fCc_normals 4 = some (.ifCond .eq (13), 17, 0) := rfl
theorem gCc_normals_7 : fCc_normals 7 = some (.aload_n 0, 0, 0) := rfl
theorem gCc_normals_8 : fCc_normals 8 = some (.getfield 51, 0, 7) := rfl
theorem gCc_normals_11 : fCc_normals 11 = some (.getfield 126, 5, 7) := rfl
theorem gCc_normals_14 : fCc_normals 14 = some (.goto (4), 18, 0) := rfl
theorem gCc_normals_17 : fCc_normals 17 = some (.iconst 0, 0, 0) := rfl
theorem gCc_normals_18 : fCc_normals 18 = some (.ireturn, 0, 0) := rfl
abbrev lCc_isBuilt : List (Nat × Instr × Nat × Nat) := [(0, .aload_n 0, 0, 0), (1, .getfield 17, 0, 2), (4, .ifCond .ne (7), 11, 0), (7, .iconst 1, 0, 0), (8, .goto (4), 12, 0), (11, .iconst 0, 0, 0), (12, .ireturn, 0, 0)]
def fCc_isBuilt : sx_F := sx_tab lCc_isBuilt
theorem kCc_isBuilt : sx_chk "ClassCharacters" (wy yCc_isBuilt prog_1_method_22_code 1 (some .boolean)) 1 prog_1_method_22_code lCc_isBuilt = true := by decide +kernel
theorem gCc_isBuilt_0 : fCc_isBuilt 0 = some (.aload_n 0, 0, 0) := rfl
theorem gCc_isBuilt_1 : fCc_isBuilt 1 = some (.getfield 17, 0, 2) := rfl
theorem gCc_isBuilt_4 : fCc_isBuilt 4 = some (.ifCond .ne (7), 11, 0) := rfl
theorem gCc_isBuilt_7 : fCc_isBuilt 7 = some (.iconst 1, 0, 0) := rfl
theorem gCc_isBuilt_8 : fCc_isBuilt 8 = some (.goto (4), 12, 0) := rfl
theorem gCc_isBuilt_11 : fCc_isBuilt 11 = some (.iconst 0, 0, 0) := rfl
theorem gCc_isBuilt_12 : fCc_isBuilt 12 = some (.ireturn, 0, 0) := rfl
abbrev lCc_isClass : List (Nat × Instr × Nat × Nat) := [(0, .aload_n 0, 0, 0), (1, .invokevirtual 65, 20, 0), (4, .ifCond .eq (22), 26, 0), (7, .iload_n 1, 0, 0), (8, .ifCond .lt (18), 26, 0), (11, .iload_n 1, 0, 0), (12, .aload_n 0, 0, 0), (13, .getfield 30, 0, 4), (16, .getfield 79, 2, 0), (19, .if_icmp .ge (7), 26, 0), (22, .iconst 1, 0, 0), (23, .goto (4), 27, 0), (26, .iconst 0, 0, 0), (27, .ireturn, 0, 0)]
def fCc_isClass : sx_F := sx_tab lCc_isClass
theorem kCc_isClass : sx_chk "ClassCharacters" (wy yCc_isClass prog_1_method_23_code 2 (some .boolean)) 2 prog_1_method_23_code lCc_isClass = true := by decide +kernel
theorem gCc_isClass_0 : fCc_isClass 0 = some (.aload_n 0, 0, 0) := rfl
theorem gCc_isClass_1 : fCc_isClass 1 = some (.invokevirtual 65, 20, 0) := rfl
theorem gCc_isClass_4 : fCc_isClass 4 = some (.ifCond .eq (22), 26, 0) := rfl
theorem gCc_isClass_7 : fCc_isClass 7 = some (.iload_n 1, 0, 0) := rfl
theorem gCc_isClass_8 : fCc_isClass 8 = some (.ifCond .lt (18), 26, 0) := rfl
theorem gCc_isClass_11 : fCc_isClass 11 = some (.iload_n 1, 0, 0) := rfl
theorem gCc_isClass_12 : fCc_isClass 12 = some (.aload_n 0, 0, 0) := rfl
theorem gCc_isClass_13 : fCc_isClass 13 = some (.getfield 30, 0, 4) := rfl
theorem gCc_isClass_16 : fCc_isClass 16 = some (.getfield 79, 2, 0) := rfl
theorem gCc_isClass_19 : fCc_isClass 19 = some (.if_icmp .ge (7), 26, 0) := rfl
theorem gCc_isClass_22 : fCc_isClass 22 = some (.iconst 1, 0, 0) := rfl
theorem gCc_isClass_23 : fCc_isClass 23 = some (.goto (4), 27, 0) := rfl
theorem gCc_isClass_26 : fCc_isClass 26 = some (.iconst 0, 0, 0) := rfl
theorem gCc_isClass_27 : fCc_isClass 27 = some (.ireturn, 0, 0) := rfl
abbrev lCc_workOut : List (Nat × Instr × Nat × Nat) := [(0, .aload_n 0, 0, 0), (1, .getfield 23, 0, 3), (4, .aload_n 0, 0, 0), (5, .getfield 9, 0, 0), (8, .aload_n 0, 0, 0), (9, .getfield 13, 0, 1), (12, .invokevirtual 129, 93, 0), (15, .ifCond .ne (5), 20, 0), (18, .iconst 1, 0, 0), (19, .ireturn, 0, 0), (20, .aload_n 0, 0, 0), (21, .getfield 30, 0, 4), (24, .aload_n 0, 0, 0), (25, .getfield 23, 0, 3), (28, .invokevirtual 133, 84, 0), (31, .ifCond .ne (5), 36, 0), (34, .iconst 2, 0, 0), (35, .ireturn, 0, 0), (36, .aload_n 0, 0, 0), (37, .getfield 30, 0, 4), (40, .aload_n 0, 0, 0), (41, .getfield 23, 0, 3), (44, .invokevirtual 137, 87, 0), (47, .aload_n 0, 0, 0), (48, .getfield 30, 0, 4), (51, .aload_n 0, 0, 0), (52, .getfield 23, 0, 3), (55, .invokevirtual 141, 90, 0), (58, .aload_n 0, 0, 0), (59, .getfield 37, 0, 5), (62, .aload_n 0, 0, 0), (63, .getfield 23, 0, 3), (66, .getfield 69, 1, 2), (69, .aload_n 0, 0, 0), (70, .getfield 30, 0, 4), (73, .getfield 97, 2, 6), (76, .invokevirtual 144, 97, 0), (79, .aload_n 0, 0, 0), (80, .getfield 44, 0, 6), (83, .aload_n 0, 0, 0), (84, .getfield 30, 0, 4), (87, .aload_n 0, 0, 0), (88, .getfield 37, 0, 5), (91, .invokevirtual 148, 71, 0), (94, .aload_n 0, 0, 0), (95, .getfield 51, 0, 7), (98, .aload_n 0, 0, 0), (99, .getfield 23, 0, 3), (102, .getfield 69, 1, 2), (105, .aload_n 0, 0, 0), (106, .getfield 44, 0, 6), (109, .aload_n 0, 0, 0), (110, .getfield 30, 0, 4), (113, .aload_n 0, 0, 0), (114, .getfield 37, 0, 5), (117, .invokevirtual 152, 107, 0), (120, .iconst 0, 0, 0), (121, .ireturn, 0, 0)]
def fCc_workOut : sx_F := sx_tab lCc_workOut
theorem kCc_workOut : sx_chk "ClassCharacters" (wy yCc_workOut prog_1_method_24_code 1 (some .int)) 1 prog_1_method_24_code lCc_workOut = true := by decide +kernel
theorem gCc_workOut_0 : fCc_workOut 0 = some (.aload_n 0, 0, 0) := rfl
theorem gCc_workOut_1 : fCc_workOut 1 = some (.getfield 23, 0, 3) := rfl
theorem gCc_workOut_4 : fCc_workOut 4 = some (.aload_n 0, 0, 0) := rfl
theorem gCc_workOut_5 : fCc_workOut 5 = some (.getfield 9, 0, 0) := rfl
theorem gCc_workOut_8 : fCc_workOut 8 = some (.aload_n 0, 0, 0) := rfl
theorem gCc_workOut_9 : fCc_workOut 9 = some (.getfield 13, 0, 1) := rfl
theorem gCc_workOut_12 : fCc_workOut 12 = some (.invokevirtual 129, 93, 0) := rfl
theorem gCc_workOut_15 : fCc_workOut 15 = some (.ifCond .ne (5), 20, 0) := rfl
theorem gCc_workOut_18 : fCc_workOut 18 = some (.iconst 1, 0, 0) := rfl
theorem gCc_workOut_19 : fCc_workOut 19 = some (.ireturn, 0, 0) := rfl
theorem gCc_workOut_20 : fCc_workOut 20 = some (.aload_n 0, 0, 0) := rfl
theorem gCc_workOut_21 : fCc_workOut 21 = some (.getfield 30, 0, 4) := rfl
theorem gCc_workOut_24 : fCc_workOut 24 = some (.aload_n 0, 0, 0) := rfl
theorem gCc_workOut_25 : fCc_workOut 25 = some (.getfield 23, 0, 3) := rfl
theorem gCc_workOut_28 : fCc_workOut 28 = some (.invokevirtual 133, 84, 0) := rfl
theorem gCc_workOut_31 : fCc_workOut 31 = some (.ifCond .ne (5), 36, 0) := rfl
theorem gCc_workOut_34 : fCc_workOut 34 = some (.iconst 2, 0, 0) := rfl
theorem gCc_workOut_35 : fCc_workOut 35 = some (.ireturn, 0, 0) := rfl
theorem gCc_workOut_36 : fCc_workOut 36 = some (.aload_n 0, 0, 0) := rfl
theorem gCc_workOut_37 : fCc_workOut 37 = some (.getfield 30, 0, 4) := rfl
theorem gCc_workOut_40 : fCc_workOut 40 = some (.aload_n 0, 0, 0) := rfl
theorem gCc_workOut_41 : fCc_workOut 41 = some (.getfield 23, 0, 3) := rfl
theorem gCc_workOut_44 : fCc_workOut 44 = some (.invokevirtual 137, 87, 0) := rfl
theorem gCc_workOut_47 : fCc_workOut 47 = some (.aload_n 0, 0, 0) := rfl
theorem gCc_workOut_48 : fCc_workOut 48 = some (.getfield 30, 0, 4) := rfl
theorem gCc_workOut_51 : fCc_workOut 51 = some (.aload_n 0, 0, 0) := rfl
theorem gCc_workOut_52 : fCc_workOut 52 = some (.getfield 23, 0, 3) := rfl
theorem gCc_workOut_55 : fCc_workOut 55 = some (.invokevirtual 141, 90, 0) := rfl
theorem gCc_workOut_58 : fCc_workOut 58 = some (.aload_n 0, 0, 0) := rfl
theorem gCc_workOut_59 : fCc_workOut 59 = some (.getfield 37, 0, 5) := rfl
theorem gCc_workOut_62 : fCc_workOut 62 = some (.aload_n 0, 0, 0) := rfl
theorem gCc_workOut_63 : fCc_workOut 63 = some (.getfield 23, 0, 3) := rfl
theorem gCc_workOut_66 : fCc_workOut 66 = some (.getfield 69, 1, 2) := rfl
theorem gCc_workOut_69 : fCc_workOut 69 = some (.aload_n 0, 0, 0) := rfl
theorem gCc_workOut_70 : fCc_workOut 70 = some (.getfield 30, 0, 4) := rfl
theorem gCc_workOut_73 : fCc_workOut 73 = some (.getfield 97, 2, 6) := rfl
theorem gCc_workOut_76 : fCc_workOut 76 = some (.invokevirtual 144, 97, 0) := rfl
theorem gCc_workOut_79 : fCc_workOut 79 = some (.aload_n 0, 0, 0) := rfl
theorem gCc_workOut_80 : fCc_workOut 80 = some (.getfield 44, 0, 6) := rfl
theorem gCc_workOut_83 : fCc_workOut 83 = some (.aload_n 0, 0, 0) := rfl
theorem gCc_workOut_84 : fCc_workOut 84 = some (.getfield 30, 0, 4) := rfl
theorem gCc_workOut_87 : fCc_workOut 87 = some (.aload_n 0, 0, 0) := rfl
theorem gCc_workOut_88 : fCc_workOut 88 = some (.getfield 37, 0, 5) := rfl
theorem gCc_workOut_91 : fCc_workOut 91 = some (.invokevirtual 148, 71, 0) := rfl
theorem gCc_workOut_94 : fCc_workOut 94 = some (.aload_n 0, 0, 0) := rfl
theorem gCc_workOut_95 : fCc_workOut 95 = some (.getfield 51, 0, 7) := rfl
theorem gCc_workOut_98 : fCc_workOut 98 = some (.aload_n 0, 0, 0) := rfl
theorem gCc_workOut_99 : fCc_workOut 99 = some (.getfield 23, 0, 3) := rfl
theorem gCc_workOut_102 : fCc_workOut 102 = some (.getfield 69, 1, 2) := rfl
theorem gCc_workOut_105 : fCc_workOut 105 = some (.aload_n 0, 0, 0) := rfl
theorem gCc_workOut_106 : fCc_workOut 106 = some (.getfield 44, 0, 6) := rfl
theorem gCc_workOut_109 : fCc_workOut 109 = some (.aload_n 0, 0, 0) := rfl
theorem gCc_workOut_110 : fCc_workOut 110 = some (.getfield 30, 0, 4) := rfl
theorem gCc_workOut_113 : fCc_workOut 113 = some (.aload_n 0, 0, 0) := rfl
theorem gCc_workOut_114 : fCc_workOut 114 = some (.getfield 37, 0, 5) := rfl
theorem gCc_workOut_117 : fCc_workOut 117 = some (.invokevirtual 152, 107, 0) := rfl
theorem gCc_workOut_120 : fCc_workOut 120 = some (.iconst 0, 0, 0) := rfl
theorem gCc_workOut_121 : fCc_workOut 121 = some (.ireturn, 0, 0) := rfl
abbrev lCo_divide : List (Nat × Instr × Nat × Nat) := [(0, .aload_n 0, 0, 0), (1, .iconst 0, 0, 0), (2, .putfield 9, 2, 0), (5, .aload_n 0, 0, 0), (6, .getfield 15, 2, 1), (9, .iconst (-1), 0, 0), (10, .invokestatic 39, 119, 0), (13, .iconst 0, 0, 0), (14, .istore_n 2, 0, 0), (15, .iload_n 2, 0, 0), (16, .aload_n 1, 0, 0), (17, .getfield 45, 1, 2), (20, .if_icmp .ge (41), 61, 0), (23, .aload_n 0, 0, 0), (24, .getfield 15, 2, 1), (27, .iload_n 2, 0, 0), (28, .iaload, 0, 0), (29, .iconst (-1), 0, 0), (30, .if_icmp .ne (25), 55, 0), (33, .aload_n 0, 0, 0), (34, .getfield 9, 2, 0), (37, .bipush (16), 0, 0), (39, .if_icmp .lt (5), 44, 0), (42, .iconst 0, 0, 0), (43, .ireturn, 0, 0), (44, .aload_n 0, 0, 0), (45, .aload_n 1, 0, 0), (46, .getfield 48, 1, 0), (49, .iload_n 2, 0, 0), (50, .iaload, 0, 0), (51, .aload_n 1, 0, 0), (52, .invokevirtual 51, 85, 0), (55, .iinc 2 (1), 0, 0), (58, .goto (-43), 15, 0), (61, .iconst 1, 0, 0), (62, .ireturn, 0, 0)]
def fCo_divide : sx_F := sx_tab lCo_divide
theorem kCo_divide : sx_chk "ClassCharacters$Conjugates" (wy yCo_divide prog_4_method_2_code 3 (some .boolean)) 3 prog_4_method_2_code lCo_divide = true := by decide +kernel
theorem gCo_divide_0 : fCo_divide 0 = some (.aload_n 0, 0, 0) := rfl
theorem gCo_divide_1 : fCo_divide 1 = some (.iconst 0, 0, 0) := rfl
theorem gCo_divide_2 : fCo_divide 2 = some (.putfield 9, 2, 0) := rfl
theorem gCo_divide_5 : fCo_divide 5 = some (.aload_n 0, 0, 0) := rfl
theorem gCo_divide_6 : fCo_divide 6 = some (.getfield 15, 2, 1) := rfl
theorem gCo_divide_9 : fCo_divide 9 = some (.iconst (-1), 0, 0) := rfl
theorem gCo_divide_10 : fCo_divide 10 = some (.invokestatic 39, 119, 0) := rfl
theorem gCo_divide_13 : fCo_divide 13 = some (.iconst 0, 0, 0) := rfl
theorem gCo_divide_14 : fCo_divide 14 = some (.istore_n 2, 0, 0) := rfl
theorem gCo_divide_15 : fCo_divide 15 = some (.iload_n 2, 0, 0) := rfl
theorem gCo_divide_16 : fCo_divide 16 = some (.aload_n 1, 0, 0) := rfl
theorem gCo_divide_17 : fCo_divide 17 = some (.getfield 45, 1, 2) := rfl
theorem gCo_divide_20 : fCo_divide 20 = some (.if_icmp .ge (41), 61, 0) := rfl
theorem gCo_divide_23 : fCo_divide 23 = some (.aload_n 0, 0, 0) := rfl
theorem gCo_divide_24 : fCo_divide 24 = some (.getfield 15, 2, 1) := rfl
theorem gCo_divide_27 : fCo_divide 27 = some (.iload_n 2, 0, 0) := rfl
theorem gCo_divide_28 : fCo_divide 28 = some (.iaload, 0, 0) := rfl
theorem gCo_divide_29 : fCo_divide 29 = some (.iconst (-1), 0, 0) := rfl
theorem gCo_divide_30 : fCo_divide 30 = some (.if_icmp .ne (25), 55, 0) := rfl
theorem gCo_divide_33 : fCo_divide 33 = some (.aload_n 0, 0, 0) := rfl
theorem gCo_divide_34 : fCo_divide 34 = some (.getfield 9, 2, 0) := rfl
theorem gCo_divide_37 : fCo_divide 37 = some (.bipush (16), 0, 0) := rfl
theorem gCo_divide_39 : fCo_divide 39 = some (.if_icmp .lt (5), 44, 0) := rfl
theorem gCo_divide_42 : fCo_divide 42 = some (.iconst 0, 0, 0) := rfl
theorem gCo_divide_43 : fCo_divide 43 = some (.ireturn, 0, 0) := rfl
theorem gCo_divide_44 : fCo_divide 44 = some (.aload_n 0, 0, 0) := rfl
theorem gCo_divide_45 : fCo_divide 45 = some (.aload_n 1, 0, 0) := rfl
theorem gCo_divide_46 : fCo_divide 46 = some (.getfield 48, 1, 0) := rfl
theorem gCo_divide_49 : fCo_divide 49 = some (.iload_n 2, 0, 0) := rfl
theorem gCo_divide_50 : fCo_divide 50 = some (.iaload, 0, 0) := rfl
theorem gCo_divide_51 : fCo_divide 51 = some (.aload_n 1, 0, 0) := rfl
theorem gCo_divide_52 : fCo_divide 52 = some (.invokevirtual 51, 85, 0) := rfl
theorem gCo_divide_55 : fCo_divide 55 = some (.iinc 2 (1), 0, 0) := rfl
theorem gCo_divide_58 : fCo_divide 58 = some (.goto (-43), 15, 0) := rfl
theorem gCo_divide_61 : fCo_divide 61 = some (.iconst 1, 0, 0) := rfl
theorem gCo_divide_62 : fCo_divide 62 = some (.ireturn, 0, 0) := rfl
abbrev lCo_gather : List (Nat × Instr × Nat × Nat) := [(0, .aload_n 0, 0, 0), (1, .getfield 22, 2, 3), (4, .aload_n 0, 0, 0), (5, .getfield 9, 2, 0), (8, .iload_n 1, 0, 0), (9, .iastore, 0, 0), (10, .aload_n 0, 0, 0), (11, .getfield 19, 2, 2), (14, .aload_n 0, 0, 0), (15, .getfield 9, 2, 0), (18, .iconst 0, 0, 0), (19, .iastore, 0, 0), (20, .iconst 0, 0, 0), (21, .istore_n 3, 0, 0), (22, .iload_n 3, 0, 0), (23, .aload_n 2, 0, 0), (24, .getfield 45, 1, 2), (27, .if_icmp .ge (82), 109, 0), (30, .aload_n 2, 0, 0), (31, .getfield 48, 1, 0), (34, .iload_n 3, 0, 0), (35, .iaload, 0, 0), (36, .istore 4, 0, 0), (38, .iload 4, 0, 0), (40, .invokestatic 55, 83, 0), (43, .iload_n 1, 0, 0), (44, .invokestatic 61, 82, 0), (47, .iload 4, 0, 0), (49, .invokestatic 61, 82, 0), (52, .istore 5, 0, 0), (54, .aload_n 2, 0, 0), (55, .iload 5, 0, 0), (57, .invokevirtual 65, 94, 0), (60, .istore 6, 0, 0), (62, .iload 6, 0, 0), (64, .iconst (-1), 0, 0), (65, .if_icmp .eq (38), 103, 0), (68, .aload_n 0, 0, 0), (69, .getfield 15, 2, 1), (72, .iload 6, 0, 0), (74, .iaload, 0, 0), (75, .iconst (-1), 0, 0), (76, .if_icmp .ne (27), 103, 0), (79, .aload_n 0, 0, 0), (80, .getfield 15, 2, 1), (83, .iload 6, 0, 0), (85, .aload_n 0, 0, 0), (86, .getfield 9, 2, 0), (89, .iastore, 0, 0), (90, .aload_n 0, 0, 0), (91, .getfield 19, 2, 2), (94, .aload_n 0, 0, 0), (95, .getfield 9, 2, 0), (98, .dup2, 0, 0), (99, .iaload, 0, 0), (100, .iconst 1, 0, 0), (101, .iadd, 0, 0), (102, .iastore, 0, 0), (103, .iinc 3 (1), 0, 0), (106, .goto (-84), 22, 0), (109, .aload_n 0, 0, 0), (110, .dup, 0, 0), (111, .getfield 9, 2, 0), (114, .iconst 1, 0, 0), (115, .iadd, 0, 0), (116, .putfield 9, 2, 0), (119, .return_, 0, 0)]
def fCo_gather : sx_F := sx_tab lCo_gather
theorem kCo_gather : sx_chk "ClassCharacters$Conjugates" (wy yCo_gather prog_4_method_3_code 7 none) 7 prog_4_method_3_code lCo_gather = true := by decide +kernel
theorem gCo_gather_0 : fCo_gather 0 = some (.aload_n 0, 0, 0) := rfl
theorem gCo_gather_1 : fCo_gather 1 = some (.getfield 22, 2, 3) := rfl
theorem gCo_gather_4 : fCo_gather 4 = some (.aload_n 0, 0, 0) := rfl
theorem gCo_gather_5 : fCo_gather 5 = some (.getfield 9, 2, 0) := rfl
theorem gCo_gather_8 : fCo_gather 8 = some (.iload_n 1, 0, 0) := rfl
theorem gCo_gather_9 : fCo_gather 9 = some (.iastore, 0, 0) := rfl
theorem gCo_gather_10 : fCo_gather 10 = some (.aload_n 0, 0, 0) := rfl
theorem gCo_gather_11 : fCo_gather 11 = some (.getfield 19, 2, 2) := rfl
theorem gCo_gather_14 : fCo_gather 14 = some (.aload_n 0, 0, 0) := rfl
theorem gCo_gather_15 : fCo_gather 15 = some (.getfield 9, 2, 0) := rfl
theorem gCo_gather_18 : fCo_gather 18 = some (.iconst 0, 0, 0) := rfl
theorem gCo_gather_19 : fCo_gather 19 = some (.iastore, 0, 0) := rfl
theorem gCo_gather_20 : fCo_gather 20 = some (.iconst 0, 0, 0) := rfl
theorem gCo_gather_21 : fCo_gather 21 = some (.istore_n 3, 0, 0) := rfl
theorem gCo_gather_22 : fCo_gather 22 = some (.iload_n 3, 0, 0) := rfl
theorem gCo_gather_23 : fCo_gather 23 = some (.aload_n 2, 0, 0) := rfl
theorem gCo_gather_24 : fCo_gather 24 = some (.getfield 45, 1, 2) := rfl
theorem gCo_gather_27 : fCo_gather 27 = some (.if_icmp .ge (82), 109, 0) := rfl
theorem gCo_gather_30 : fCo_gather 30 = some (.aload_n 2, 0, 0) := rfl
theorem gCo_gather_31 : fCo_gather 31 = some (.getfield 48, 1, 0) := rfl
theorem gCo_gather_34 : fCo_gather 34 = some (.iload_n 3, 0, 0) := rfl
theorem gCo_gather_35 : fCo_gather 35 = some (.iaload, 0, 0) := rfl
theorem gCo_gather_36 : fCo_gather 36 = some (.istore 4, 0, 0) := rfl
theorem gCo_gather_38 : fCo_gather 38 = some (.iload 4, 0, 0) := rfl
theorem gCo_gather_40 : fCo_gather 40 = some (.invokestatic 55, 83, 0) := rfl
theorem gCo_gather_43 : fCo_gather 43 = some (.iload_n 1, 0, 0) := rfl
theorem gCo_gather_44 : fCo_gather 44 = some (.invokestatic 61, 82, 0) := rfl
theorem gCo_gather_47 : fCo_gather 47 = some (.iload 4, 0, 0) := rfl
theorem gCo_gather_49 : fCo_gather 49 = some (.invokestatic 61, 82, 0) := rfl
theorem gCo_gather_52 : fCo_gather 52 = some (.istore 5, 0, 0) := rfl
theorem gCo_gather_54 : fCo_gather 54 = some (.aload_n 2, 0, 0) := rfl
theorem gCo_gather_55 : fCo_gather 55 = some (.iload 5, 0, 0) := rfl
theorem gCo_gather_57 : fCo_gather 57 = some (.invokevirtual 65, 94, 0) := rfl
theorem gCo_gather_60 : fCo_gather 60 = some (.istore 6, 0, 0) := rfl
theorem gCo_gather_62 : fCo_gather 62 = some (.iload 6, 0, 0) := rfl
theorem gCo_gather_64 : fCo_gather 64 = some (.iconst (-1), 0, 0) := rfl
theorem gCo_gather_65 : fCo_gather 65 = some (.if_icmp .eq (38), 103, 0) := rfl
theorem gCo_gather_68 : fCo_gather 68 = some (.aload_n 0, 0, 0) := rfl
theorem gCo_gather_69 : fCo_gather 69 = some (.getfield 15, 2, 1) := rfl
theorem gCo_gather_72 : fCo_gather 72 = some (.iload 6, 0, 0) := rfl
theorem gCo_gather_74 : fCo_gather 74 = some (.iaload, 0, 0) := rfl
theorem gCo_gather_75 : fCo_gather 75 = some (.iconst (-1), 0, 0) := rfl
theorem gCo_gather_76 : fCo_gather 76 = some (.if_icmp .ne (27), 103, 0) := rfl
theorem gCo_gather_79 : fCo_gather 79 = some (.aload_n 0, 0, 0) := rfl
theorem gCo_gather_80 : fCo_gather 80 = some (.getfield 15, 2, 1) := rfl
theorem gCo_gather_83 : fCo_gather 83 = some (.iload 6, 0, 0) := rfl
theorem gCo_gather_85 : fCo_gather 85 = some (.aload_n 0, 0, 0) := rfl
theorem gCo_gather_86 : fCo_gather 86 = some (.getfield 9, 2, 0) := rfl
theorem gCo_gather_89 : fCo_gather 89 = some (.iastore, 0, 0) := rfl
theorem gCo_gather_90 : fCo_gather 90 = some (.aload_n 0, 0, 0) := rfl
theorem gCo_gather_91 : fCo_gather 91 = some (.getfield 19, 2, 2) := rfl
theorem gCo_gather_94 : fCo_gather 94 = some (.aload_n 0, 0, 0) := rfl
theorem gCo_gather_95 : fCo_gather 95 = some (.getfield 9, 2, 0) := rfl
theorem gCo_gather_98 : fCo_gather 98 = some (.dup2, 0, 0) := rfl
theorem gCo_gather_99 : fCo_gather 99 = some (.iaload, 0, 0) := rfl
theorem gCo_gather_100 : fCo_gather 100 = some (.iconst 1, 0, 0) := rfl
theorem gCo_gather_101 : fCo_gather 101 = some (.iadd, 0, 0) := rfl
theorem gCo_gather_102 : fCo_gather 102 = some (.iastore, 0, 0) := rfl
theorem gCo_gather_103 : fCo_gather 103 = some (.iinc 3 (1), 0, 0) := rfl
theorem gCo_gather_106 : fCo_gather 106 = some (.goto (-84), 22, 0) := rfl
theorem gCo_gather_109 : fCo_gather 109 = some (.aload_n 0, 0, 0) := rfl
theorem gCo_gather_110 : fCo_gather 110 = some (.dup, 0, 0) := rfl
theorem gCo_gather_111 : fCo_gather 111 = some (.getfield 9, 2, 0) := rfl
theorem gCo_gather_114 : fCo_gather 114 = some (.iconst 1, 0, 0) := rfl
theorem gCo_gather_115 : fCo_gather 115 = some (.iadd, 0, 0) := rfl
theorem gCo_gather_116 : fCo_gather 116 = some (.putfield 9, 2, 0) := rfl
theorem gCo_gather_119 : fCo_gather 119 = some (.return_, 0, 0) := rfl
abbrev lCo_classHolding : List (Nat × Instr × Nat × Nat) := [(0, .aload_n 2, 0, 0), (1, .iload_n 1, 0, 0), (2, .invokevirtual 65, 94, 0), (5, .istore_n 3, 0, 0), (6, .iload_n 3, 0, 0), (7, .iconst (-1), 0, 0), (8, .if_icmp .ne (7), 15, 0), (11, .iconst (-1), 0, 0), (12, .goto (9), 21, 0), (15, .aload_n 0, 0, 0), (16, .getfield 15, 2, 1), (19, .iload_n 3, 0, 0), (20, .iaload, 0, 0), (21, .ireturn, 0, 0)]
def fCo_classHolding : sx_F := sx_tab lCo_classHolding
theorem kCo_classHolding : sx_chk "ClassCharacters$Conjugates" (wy yCo_classHolding prog_4_method_4_code 4 (some .int)) 4 prog_4_method_4_code lCo_classHolding = true := by decide +kernel
theorem gCo_classHolding_0 : fCo_classHolding 0 = some (.aload_n 2, 0, 0) := rfl
theorem gCo_classHolding_1 : fCo_classHolding 1 = some (.iload_n 1, 0, 0) := rfl
theorem gCo_classHolding_2 : fCo_classHolding 2 = some (.invokevirtual 65, 94, 0) := rfl
theorem gCo_classHolding_5 : fCo_classHolding 5 = some (.istore_n 3, 0, 0) := rfl
theorem gCo_classHolding_6 : fCo_classHolding 6 = some (.iload_n 3, 0, 0) := rfl
theorem gCo_classHolding_7 : fCo_classHolding 7 = some (.iconst (-1), 0, 0) := rfl
theorem gCo_classHolding_8 : fCo_classHolding 8 = some (.if_icmp .ne (7), 15, 0) := rfl
theorem gCo_classHolding_11 : fCo_classHolding 11 = some (.iconst (-1), 0, 0) := rfl
theorem gCo_classHolding_12 : fCo_classHolding 12 = some (.goto (9), 21, 0) := rfl
theorem gCo_classHolding_15 : fCo_classHolding 15 = some (.aload_n 0, 0, 0) := rfl
theorem gCo_classHolding_16 : fCo_classHolding 16 = some (.getfield 15, 2, 1) := rfl
theorem gCo_classHolding_19 : fCo_classHolding 19 = some (.iload_n 3, 0, 0) := rfl
theorem gCo_classHolding_20 : fCo_classHolding 20 = some (.iaload, 0, 0) := rfl
theorem gCo_classHolding_21 : fCo_classHolding 21 = some (.ireturn, 0, 0) := rfl
abbrev lCo_listPowers : List (Nat × Instr × Nat × Nat) := [(0, .aload_n 0, 0, 0), (1, .getfield 30, 2, 5), (4, .ldc 68, 342391, 0), (6, .invokestatic 39, 119, 0), (9, .iconst 0, 0, 0), (10, .istore_n 2, 0, 0), (11, .iconst 0, 0, 0), (12, .istore_n 3, 0, 0), (13, .iload_n 2, 0, 0), (14, .ifCond .ne (109), 123, 0), (17, .iload_n 3, 0, 0), (18, .bipush (120), 0, 0), (20, .if_icmp .ge (103), 123, 0), (23, .iconst 1, 0, 0), (24, .istore_n 2, 0, 0), (25, .iconst 0, 0, 0), (26, .istore 4, 0, 0), (28, .iload 4, 0, 0), (30, .aload_n 0, 0, 0), (31, .getfield 9, 2, 0), (34, .if_icmp .ge (76), 110, 0), (37, .aload_n 0, 0, 0), (38, .getfield 27, 2, 4), (41, .iload 4, 0, 0), (43, .aaload, 0, 0), (44, .iload_n 3, 0, 0), (45, .aload_n 0, 0, 0), (46, .aload_n 0, 0, 0), (47, .getfield 30, 2, 5), (50, .iload 4, 0, 0), (52, .iaload, 0, 0), (53, .aload_n 1, 0, 0), (54, .invokevirtual 69, 86, 0), (57, .iastore, 0, 0), (58, .aload_n 0, 0, 0), (59, .getfield 30, 2, 5), (62, .iload 4, 0, 0), (64, .aload_n 0, 0, 0), (65, .getfield 30, 2, 5), (68, .iload 4, 0, 0), (70, .iaload, 0, 0), (71, .aload_n 0, 0, 0), (72, .getfield 22, 2, 3), (75, .iload 4, 0, 0), (77, .iaload, 0, 0), (78, .invokestatic 61, 82, 0), (81, .iastore, 0, 0), (82, .iload_n 2, 0, 0), (83, .ifCond .eq (19), 102, 0), (86, .aload_n 0, 0, 0), (87, .getfield 30, 2, 5), (90, .iload 4, 0, 0), (92, .iaload, 0, 0), (93, .ldc 68, 342391, 0), (95, .if_icmp .ne (7), 102, 0), (98, .iconst 1, 0, 0), (99, .goto (4), 103, 0), (102, .iconst 0, 0, 0), (103, .istore_n 2, 0, 0), (104, .iinc 4 (1), 0, 0), (107, .goto (-79), 28, 0), (110, .aload_n 0, 0, 0), (111, .iload_n 3, 0, 0), (112, .iconst 1, 0, 0), (113, .iadd, 0, 0), (114, .putfield 33, 2, 6), (117, .iinc 3 (1), 0, 0), (120, .goto (-107), 13, 0), (123, .return_, 0, 0)]
def fCo_listPowers : sx_F := sx_tab lCo_listPowers
theorem kCo_listPowers : sx_chk "ClassCharacters$Conjugates" (wy yCo_listPowers prog_4_method_5_code 5 none) 5 prog_4_method_5_code lCo_listPowers = true := by decide +kernel
theorem gCo_listPowers_0 : fCo_listPowers 0 = some (.aload_n 0, 0, 0) := rfl
theorem gCo_listPowers_1 : fCo_listPowers 1 = some (.getfield 30, 2, 5) := rfl
theorem gCo_listPowers_4 : fCo_listPowers 4 = some (.ldc 68, 342391, 0) := rfl
theorem gCo_listPowers_6 : fCo_listPowers 6 = some (.invokestatic 39, 119, 0) := rfl
theorem gCo_listPowers_9 : fCo_listPowers 9 = some (.iconst 0, 0, 0) := rfl
theorem gCo_listPowers_10 : fCo_listPowers 10 = some (.istore_n 2, 0, 0) := rfl
theorem gCo_listPowers_11 : fCo_listPowers 11 = some (.iconst 0, 0, 0) := rfl
theorem gCo_listPowers_12 : fCo_listPowers 12 = some (.istore_n 3, 0, 0) := rfl
theorem gCo_listPowers_13 : fCo_listPowers 13 = some (.iload_n 2, 0, 0) := rfl
theorem gCo_listPowers_14 : fCo_listPowers 14 = some (.ifCond .ne (109), 123, 0) := rfl
theorem gCo_listPowers_17 : fCo_listPowers 17 = some (.iload_n 3, 0, 0) := rfl
theorem gCo_listPowers_18 : fCo_listPowers 18 = some (.bipush (120), 0, 0) := rfl
theorem gCo_listPowers_20 : fCo_listPowers 20 = some (.if_icmp .ge (103), 123, 0) := rfl
theorem gCo_listPowers_23 : fCo_listPowers 23 = some (.iconst 1, 0, 0) := rfl
theorem gCo_listPowers_24 : fCo_listPowers 24 = some (.istore_n 2, 0, 0) := rfl
theorem gCo_listPowers_25 : fCo_listPowers 25 = some (.iconst 0, 0, 0) := rfl
theorem gCo_listPowers_26 : fCo_listPowers 26 = some (.istore 4, 0, 0) := rfl
theorem gCo_listPowers_28 : fCo_listPowers 28 = some (.iload 4, 0, 0) := rfl
theorem gCo_listPowers_30 : fCo_listPowers 30 = some (.aload_n 0, 0, 0) := rfl
theorem gCo_listPowers_31 : fCo_listPowers 31 = some (.getfield 9, 2, 0) := rfl
theorem gCo_listPowers_34 : fCo_listPowers 34 = some (.if_icmp .ge (76), 110, 0) := rfl
theorem gCo_listPowers_37 : fCo_listPowers 37 = some (.aload_n 0, 0, 0) := rfl
theorem gCo_listPowers_38 : fCo_listPowers 38 = some (.getfield 27, 2, 4) := rfl
theorem gCo_listPowers_41 : fCo_listPowers 41 = some (.iload 4, 0, 0) := rfl
theorem gCo_listPowers_43 : fCo_listPowers 43 = some (.aaload, 0, 0) := rfl
theorem gCo_listPowers_44 : fCo_listPowers 44 = some (.iload_n 3, 0, 0) := rfl
theorem gCo_listPowers_45 : fCo_listPowers 45 = some (.aload_n 0, 0, 0) := rfl
theorem gCo_listPowers_46 : fCo_listPowers 46 = some (.aload_n 0, 0, 0) := rfl
theorem gCo_listPowers_47 : fCo_listPowers 47 = some (.getfield 30, 2, 5) := rfl
theorem gCo_listPowers_50 : fCo_listPowers 50 = some (.iload 4, 0, 0) := rfl
theorem gCo_listPowers_52 : fCo_listPowers 52 = some (.iaload, 0, 0) := rfl
theorem gCo_listPowers_53 : fCo_listPowers 53 = some (.aload_n 1, 0, 0) := rfl
theorem gCo_listPowers_54 : fCo_listPowers 54 = some (.invokevirtual 69, 86, 0) := rfl
theorem gCo_listPowers_57 : fCo_listPowers 57 = some (.iastore, 0, 0) := rfl
theorem gCo_listPowers_58 : fCo_listPowers 58 = some (.aload_n 0, 0, 0) := rfl
theorem gCo_listPowers_59 : fCo_listPowers 59 = some (.getfield 30, 2, 5) := rfl
theorem gCo_listPowers_62 : fCo_listPowers 62 = some (.iload 4, 0, 0) := rfl
theorem gCo_listPowers_64 : fCo_listPowers 64 = some (.aload_n 0, 0, 0) := rfl
theorem gCo_listPowers_65 : fCo_listPowers 65 = some (.getfield 30, 2, 5) := rfl
theorem gCo_listPowers_68 : fCo_listPowers 68 = some (.iload 4, 0, 0) := rfl
theorem gCo_listPowers_70 : fCo_listPowers 70 = some (.iaload, 0, 0) := rfl
theorem gCo_listPowers_71 : fCo_listPowers 71 = some (.aload_n 0, 0, 0) := rfl
theorem gCo_listPowers_72 : fCo_listPowers 72 = some (.getfield 22, 2, 3) := rfl
theorem gCo_listPowers_75 : fCo_listPowers 75 = some (.iload 4, 0, 0) := rfl
theorem gCo_listPowers_77 : fCo_listPowers 77 = some (.iaload, 0, 0) := rfl
theorem gCo_listPowers_78 : fCo_listPowers 78 = some (.invokestatic 61, 82, 0) := rfl
theorem gCo_listPowers_81 : fCo_listPowers 81 = some (.iastore, 0, 0) := rfl
theorem gCo_listPowers_82 : fCo_listPowers 82 = some (.iload_n 2, 0, 0) := rfl
theorem gCo_listPowers_83 : fCo_listPowers 83 = some (.ifCond .eq (19), 102, 0) := rfl
theorem gCo_listPowers_86 : fCo_listPowers 86 = some (.aload_n 0, 0, 0) := rfl
theorem gCo_listPowers_87 : fCo_listPowers 87 = some (.getfield 30, 2, 5) := rfl
theorem gCo_listPowers_90 : fCo_listPowers 90 = some (.iload 4, 0, 0) := rfl
theorem gCo_listPowers_92 : fCo_listPowers 92 = some (.iaload, 0, 0) := rfl
theorem gCo_listPowers_93 : fCo_listPowers 93 = some (.ldc 68, 342391, 0) := rfl
theorem gCo_listPowers_95 : fCo_listPowers 95 = some (.if_icmp .ne (7), 102, 0) := rfl
theorem gCo_listPowers_98 : fCo_listPowers 98 = some (.iconst 1, 0, 0) := rfl
theorem gCo_listPowers_99 : fCo_listPowers 99 = some (.goto (4), 103, 0) := rfl
theorem gCo_listPowers_102 : fCo_listPowers 102 = some (.iconst 0, 0, 0) := rfl
theorem gCo_listPowers_103 : fCo_listPowers 103 = some (.istore_n 2, 0, 0) := rfl
theorem gCo_listPowers_104 : fCo_listPowers 104 = some (.iinc 4 (1), 0, 0) := rfl
theorem gCo_listPowers_107 : fCo_listPowers 107 = some (.goto (-79), 28, 0) := rfl
theorem gCo_listPowers_110 : fCo_listPowers 110 = some (.aload_n 0, 0, 0) := rfl
theorem gCo_listPowers_111 : fCo_listPowers 111 = some (.iload_n 3, 0, 0) := rfl
theorem gCo_listPowers_112 : fCo_listPowers 112 = some (.iconst 1, 0, 0) := rfl
theorem gCo_listPowers_113 : fCo_listPowers 113 = some (.iadd, 0, 0) := rfl
theorem gCo_listPowers_114 : fCo_listPowers 114 = some (.putfield 33, 2, 6) := rfl
theorem gCo_listPowers_117 : fCo_listPowers 117 = some (.iinc 3 (1), 0, 0) := rfl
theorem gCo_listPowers_120 : fCo_listPowers 120 = some (.goto (-107), 13, 0) := rfl
theorem gCo_listPowers_123 : fCo_listPowers 123 = some (.return_, 0, 0) := rfl
abbrev lCo_classRaised : List (Nat × Instr × Nat × Nat) := [(0, .aload_n 0, 0, 0), (1, .getfield 27, 2, 4), (4, .iload_n 1, 0, 0), (5, .aaload, 0, 0), (6, .iload_n 2, 0, 0), (7, .aload_n 0, 0, 0), (8, .getfield 33, 2, 6), (11, .irem, 0, 0), (12, .iaload, 0, 0), (13, .ireturn, 0, 0)]
def fCo_classRaised : sx_F := sx_tab lCo_classRaised
theorem kCo_classRaised : sx_chk "ClassCharacters$Conjugates" (wy yCo_classRaised prog_4_method_6_code 3 (some .int)) 3 prog_4_method_6_code lCo_classRaised = true := by decide +kernel
theorem gCo_classRaised_0 : fCo_classRaised 0 = some (.aload_n 0, 0, 0) := rfl
theorem gCo_classRaised_1 : fCo_classRaised 1 = some (.getfield 27, 2, 4) := rfl
theorem gCo_classRaised_4 : fCo_classRaised 4 = some (.iload_n 1, 0, 0) := rfl
theorem gCo_classRaised_5 : fCo_classRaised 5 = some (.aaload, 0, 0) := rfl
theorem gCo_classRaised_6 : fCo_classRaised 6 = some (.iload_n 2, 0, 0) := rfl
theorem gCo_classRaised_7 : fCo_classRaised 7 = some (.aload_n 0, 0, 0) := rfl
theorem gCo_classRaised_8 : fCo_classRaised 8 = some (.getfield 33, 2, 6) := rfl
theorem gCo_classRaised_11 : fCo_classRaised 11 = some (.irem, 0, 0) := rfl
theorem gCo_classRaised_12 : fCo_classRaised 12 = some (.iaload, 0, 0) := rfl
theorem gCo_classRaised_13 : fCo_classRaised 13 = some (.ireturn, 0, 0) := rfl
abbrev lCo_inverseOf : List (Nat × Instr × Nat × Nat) := [(0, .aload_n 0, 0, 0), (1, .getfield 27, 2, 4), (4, .iload_n 1, 0, 0), (5, .aaload, 0, 0), (6, .aload_n 0, 0, 0), (7, .getfield 33, 2, 6), (10, .iconst 1, 0, 0), (11, .isub, 0, 0), (12, .iaload, 0, 0), (13, .ireturn, 0, 0)]
def fCo_inverseOf : sx_F := sx_tab lCo_inverseOf
theorem kCo_inverseOf : sx_chk "ClassCharacters$Conjugates" (wy yCo_inverseOf prog_4_method_7_code 2 (some .int)) 2 prog_4_method_7_code lCo_inverseOf = true := by decide +kernel
theorem gCo_inverseOf_0 : fCo_inverseOf 0 = some (.aload_n 0, 0, 0) := rfl
theorem gCo_inverseOf_1 : fCo_inverseOf 1 = some (.getfield 27, 2, 4) := rfl
theorem gCo_inverseOf_4 : fCo_inverseOf 4 = some (.iload_n 1, 0, 0) := rfl
theorem gCo_inverseOf_5 : fCo_inverseOf 5 = some (.aaload, 0, 0) := rfl
theorem gCo_inverseOf_6 : fCo_inverseOf 6 = some (.aload_n 0, 0, 0) := rfl
theorem gCo_inverseOf_7 : fCo_inverseOf 7 = some (.getfield 33, 2, 6) := rfl
theorem gCo_inverseOf_10 : fCo_inverseOf 10 = some (.iconst 1, 0, 0) := rfl
theorem gCo_inverseOf_11 : fCo_inverseOf 11 = some (.isub, 0, 0) := rfl
theorem gCo_inverseOf_12 : fCo_inverseOf 12 = some (.iaload, 0, 0) := rfl
theorem gCo_inverseOf_13 : fCo_inverseOf 13 = some (.ireturn, 0, 0) := rfl
abbrev lCo_countPairs : List (Nat × Instr × Nat × Nat) := [(0, .aload_n 0, 0, 0), (1, .getfield 36, 2, 7), (4, .iconst 0, 0, 0), (5, .invokestatic 39, 119, 0), (8, .iconst 0, 0, 0), (9, .istore_n 2, 0, 0), (10, .iload_n 2, 0, 0), (11, .aload_n 1, 0, 0), (12, .getfield 45, 1, 2), (15, .if_icmp .ge (83), 98, 0), (18, .aload_n 1, 0, 0), (19, .getfield 48, 1, 0), (22, .iload_n 2, 0, 0), (23, .iaload, 0, 0), (24, .invokestatic 55, 83, 0), (27, .istore_n 3, 0, 0), (28, .iconst 0, 0, 0), (29, .istore 4, 0, 0), (31, .iload 4, 0, 0), (33, .aload_n 0, 0, 0), (34, .getfield 9, 2, 0), (37, .if_icmp .ge (55), 92, 0), (40, .aload_n 0, 0, 0), (41, .iload_n 3, 0, 0), (42, .aload_n 0, 0, 0), (43, .getfield 22, 2, 3), (46, .iload 4, 0, 0), (48, .iaload, 0, 0), (49, .invokestatic 61, 82, 0), (52, .aload_n 1, 0, 0), (53, .invokevirtual 69, 86, 0), (56, .istore 5, 0, 0), (58, .iload 5, 0, 0), (60, .iconst (-1), 0, 0), (61, .if_icmp .eq (25), 86, 0), (64, .aload_n 0, 0, 0), (65, .getfield 36, 2, 7), (68, .aload_n 0, 0, 0), (69, .getfield 15, 2, 1), (72, .iload_n 2, 0, 0), (73, .iaload, 0, 0), (74, .iload 5, 0, 0), (76, .iload 4, 0, 0), (78, .invokestatic 73, 92, 0), (81, .dup2, 0, 0), (82, .iaload, 0, 0), (83, .iconst 1, 0, 0), (84, .iadd, 0, 0), (85, .iastore, 0, 0), (86, .iinc 4 (1), 0, 0), (89, .goto (-58), 31, 0), (92, .iinc 2 (1), 0, 0), (95, .goto (-85), 10, 0), (98, .return_, 0, 0)]
def fCo_countPairs : sx_F := sx_tab lCo_countPairs
theorem kCo_countPairs : sx_chk "ClassCharacters$Conjugates" (wy yCo_countPairs prog_4_method_8_code 6 none) 6 prog_4_method_8_code lCo_countPairs = true := by decide +kernel
theorem gCo_countPairs_0 : fCo_countPairs 0 = some (.aload_n 0, 0, 0) := rfl
theorem gCo_countPairs_1 : fCo_countPairs 1 = some (.getfield 36, 2, 7) := rfl
theorem gCo_countPairs_4 : fCo_countPairs 4 = some (.iconst 0, 0, 0) := rfl
theorem gCo_countPairs_5 : fCo_countPairs 5 = some (.invokestatic 39, 119, 0) := rfl
theorem gCo_countPairs_8 : fCo_countPairs 8 = some (.iconst 0, 0, 0) := rfl
theorem gCo_countPairs_9 : fCo_countPairs 9 = some (.istore_n 2, 0, 0) := rfl
theorem gCo_countPairs_10 : fCo_countPairs 10 = some (.iload_n 2, 0, 0) := rfl
theorem gCo_countPairs_11 : fCo_countPairs 11 = some (.aload_n 1, 0, 0) := rfl
theorem gCo_countPairs_12 : fCo_countPairs 12 = some (.getfield 45, 1, 2) := rfl
theorem gCo_countPairs_15 : fCo_countPairs 15 = some (.if_icmp .ge (83), 98, 0) := rfl
theorem gCo_countPairs_18 : fCo_countPairs 18 = some (.aload_n 1, 0, 0) := rfl
theorem gCo_countPairs_19 : fCo_countPairs 19 = some (.getfield 48, 1, 0) := rfl
theorem gCo_countPairs_22 : fCo_countPairs 22 = some (.iload_n 2, 0, 0) := rfl
theorem gCo_countPairs_23 : fCo_countPairs 23 = some (.iaload, 0, 0) := rfl
theorem gCo_countPairs_24 : fCo_countPairs 24 = some (.invokestatic 55, 83, 0) := rfl
theorem gCo_countPairs_27 : fCo_countPairs 27 = some (.istore_n 3, 0, 0) := rfl
theorem gCo_countPairs_28 : fCo_countPairs 28 = some (.iconst 0, 0, 0) := rfl
theorem gCo_countPairs_29 : fCo_countPairs 29 = some (.istore 4, 0, 0) := rfl
theorem gCo_countPairs_31 : fCo_countPairs 31 = some (.iload 4, 0, 0) := rfl
theorem gCo_countPairs_33 : fCo_countPairs 33 = some (.aload_n 0, 0, 0) := rfl
theorem gCo_countPairs_34 : fCo_countPairs 34 = some (.getfield 9, 2, 0) := rfl
theorem gCo_countPairs_37 : fCo_countPairs 37 = some (.if_icmp .ge (55), 92, 0) := rfl
theorem gCo_countPairs_40 : fCo_countPairs 40 = some (.aload_n 0, 0, 0) := rfl
theorem gCo_countPairs_41 : fCo_countPairs 41 = some (.iload_n 3, 0, 0) := rfl
theorem gCo_countPairs_42 : fCo_countPairs 42 = some (.aload_n 0, 0, 0) := rfl
theorem gCo_countPairs_43 : fCo_countPairs 43 = some (.getfield 22, 2, 3) := rfl
theorem gCo_countPairs_46 : fCo_countPairs 46 = some (.iload 4, 0, 0) := rfl
theorem gCo_countPairs_48 : fCo_countPairs 48 = some (.iaload, 0, 0) := rfl
theorem gCo_countPairs_49 : fCo_countPairs 49 = some (.invokestatic 61, 82, 0) := rfl
theorem gCo_countPairs_52 : fCo_countPairs 52 = some (.aload_n 1, 0, 0) := rfl
theorem gCo_countPairs_53 : fCo_countPairs 53 = some (.invokevirtual 69, 86, 0) := rfl
theorem gCo_countPairs_56 : fCo_countPairs 56 = some (.istore 5, 0, 0) := rfl
theorem gCo_countPairs_58 : fCo_countPairs 58 = some (.iload 5, 0, 0) := rfl
theorem gCo_countPairs_60 : fCo_countPairs 60 = some (.iconst (-1), 0, 0) := rfl
theorem gCo_countPairs_61 : fCo_countPairs 61 = some (.if_icmp .eq (25), 86, 0) := rfl
theorem gCo_countPairs_64 : fCo_countPairs 64 = some (.aload_n 0, 0, 0) := rfl
theorem gCo_countPairs_65 : fCo_countPairs 65 = some (.getfield 36, 2, 7) := rfl
theorem gCo_countPairs_68 : fCo_countPairs 68 = some (.aload_n 0, 0, 0) := rfl
theorem gCo_countPairs_69 : fCo_countPairs 69 = some (.getfield 15, 2, 1) := rfl
theorem gCo_countPairs_72 : fCo_countPairs 72 = some (.iload_n 2, 0, 0) := rfl
theorem gCo_countPairs_73 : fCo_countPairs 73 = some (.iaload, 0, 0) := rfl
theorem gCo_countPairs_74 : fCo_countPairs 74 = some (.iload 5, 0, 0) := rfl
theorem gCo_countPairs_76 : fCo_countPairs 76 = some (.iload 4, 0, 0) := rfl
theorem gCo_countPairs_78 : fCo_countPairs 78 = some (.invokestatic 73, 92, 0) := rfl
theorem gCo_countPairs_81 : fCo_countPairs 81 = some (.dup2, 0, 0) := rfl
theorem gCo_countPairs_82 : fCo_countPairs 82 = some (.iaload, 0, 0) := rfl
theorem gCo_countPairs_83 : fCo_countPairs 83 = some (.iconst 1, 0, 0) := rfl
theorem gCo_countPairs_84 : fCo_countPairs 84 = some (.iadd, 0, 0) := rfl
theorem gCo_countPairs_85 : fCo_countPairs 85 = some (.iastore, 0, 0) := rfl
theorem gCo_countPairs_86 : fCo_countPairs 86 = some (.iinc 4 (1), 0, 0) := rfl
theorem gCo_countPairs_89 : fCo_countPairs 89 = some (.goto (-58), 31, 0) := rfl
theorem gCo_countPairs_92 : fCo_countPairs 92 = some (.iinc 2 (1), 0, 0) := rfl
theorem gCo_countPairs_95 : fCo_countPairs 95 = some (.goto (-85), 10, 0) := rfl
theorem gCo_countPairs_98 : fCo_countPairs 98 = some (.return_, 0, 0) := rfl
abbrev lCo_pairs : List (Nat × Instr × Nat × Nat) := [(0, .aload_n 0, 0, 0), (1, .getfield 36, 2, 7), (4, .iload_n 1, 0, 0), (5, .iload_n 2, 0, 0), (6, .iload_n 3, 0, 0), (7, .invokestatic 73, 92, 0), (10, .iaload, 0, 0), (11, .ireturn, 0, 0)]
def fCo_pairs : sx_F := sx_tab lCo_pairs
theorem kCo_pairs : sx_chk "ClassCharacters$Conjugates" (wy yCo_pairs prog_4_method_9_code 4 (some .int)) 4 prog_4_method_9_code lCo_pairs = true := by decide +kernel
theorem gCo_pairs_0 : fCo_pairs 0 = some (.aload_n 0, 0, 0) := rfl
theorem gCo_pairs_1 : fCo_pairs 1 = some (.getfield 36, 2, 7) := rfl
theorem gCo_pairs_4 : fCo_pairs 4 = some (.iload_n 1, 0, 0) := rfl
theorem gCo_pairs_5 : fCo_pairs 5 = some (.iload_n 2, 0, 0) := rfl
theorem gCo_pairs_6 : fCo_pairs 6 = some (.iload_n 3, 0, 0) := rfl
theorem gCo_pairs_7 : fCo_pairs 7 = some (.invokestatic 73, 92, 0) := rfl
theorem gCo_pairs_10 : fCo_pairs 10 = some (.iaload, 0, 0) := rfl
theorem gCo_pairs_11 : fCo_pairs 11 = some (.ireturn, 0, 0) := rfl
abbrev lCo_pairPlace : List (Nat × Instr × Nat × Nat) := [(0, .iload_n 0, 0, 0), (1, .bipush (16), 0, 0), (3, .imul, 0, 0), (4, .iload_n 1, 0, 0), (5, .iadd, 0, 0), (6, .bipush (16), 0, 0), (8, .imul, 0, 0), (9, .iload_n 2, 0, 0), (10, .iadd, 0, 0), (11, .ireturn, 0, 0)]
def fCo_pairPlace : sx_F := sx_tab lCo_pairPlace
theorem kCo_pairPlace : sx_chk "ClassCharacters$Conjugates" (wy yCo_pairPlace prog_4_method_10_code 3 (some .int)) 3 prog_4_method_10_code lCo_pairPlace = true := by decide +kernel
theorem gCo_pairPlace_0 : fCo_pairPlace 0 = some (.iload_n 0, 0, 0) := rfl
theorem gCo_pairPlace_1 : fCo_pairPlace 1 = some (.bipush (16), 0, 0) := rfl
theorem gCo_pairPlace_3 : fCo_pairPlace 3 = some (.imul, 0, 0) := rfl
theorem gCo_pairPlace_4 : fCo_pairPlace 4 = some (.iload_n 1, 0, 0) := rfl
theorem gCo_pairPlace_5 : fCo_pairPlace 5 = some (.iadd, 0, 0) := rfl
theorem gCo_pairPlace_6 : fCo_pairPlace 6 = some (.bipush (16), 0, 0) := rfl
theorem gCo_pairPlace_8 : fCo_pairPlace 8 = some (.imul, 0, 0) := rfl
theorem gCo_pairPlace_9 : fCo_pairPlace 9 = some (.iload_n 2, 0, 0) := rfl
theorem gCo_pairPlace_10 : fCo_pairPlace 10 = some (.iadd, 0, 0) := rfl
theorem gCo_pairPlace_11 : fCo_pairPlace 11 = some (.ireturn, 0, 0) := rfl
end
section
abbrev lCm_find : List (Nat × Instr × Nat × Nat) := [(0, .aload_n 0, 0, 0), (1, .aload_n 1, 0, 0), (2, .getfield 42, 2, 0), (5, .putfield 9, 4, 0), (8, .aload_n 0, 0, 0), (9, .invokevirtual 45, 72, 0), (12, .iconst 1, 0, 0), (13, .istore_n 3, 0, 0), (14, .iload_n 3, 0, 0), (15, .aload_n 0, 0, 0), (16, .getfield 9, 4, 0), (19, .if_icmp .ge (80), 99, 0), (22, .iconst 0, 0, 0), (23, .istore 4, 0, 0), (25, .iload 4, 0, 0), (27, .aload_n 0, 0, 0), (28, .getfield 9, 4, 0), (31, .if_icmp .ge (62), 93, 0), (34, .aload_n 0, 0, 0), (35, .getfield 24, 4, 3), (38, .iload 4, 0, 0), (40, .iaload, 0, 0), (41, .iload 4, 0, 0), (43, .iconst 1, 0, 0), (44, .iadd, 0, 0), (45, .if_icmp .le (29), 74, 0), (48, .aload_n 0, 0, 0), (49, .iload_n 3, 0, 0), (50, .iload 4, 0, 0), (52, .aload_n 1, 0, 0), (53, .aload_n 2, 0, 0), (54, .invokevirtual 48, 73, 0), (57, .aload_n 0, 0, 0), (58, .iload 4, 0, 0), (60, .aload_n 0, 0, 0), (61, .getfield 24, 4, 3), (64, .iload 4, 0, 0), (66, .iaload, 0, 0), (67, .iload 4, 0, 0), (69, .isub, 0, 0), (70, .aload_n 2, 0, 0), (71, .invokevirtual 52, 74, 0), (74, .aload_n 0, 0, 0), (75, .getfield 24, 4, 3), (78, .iload 4, 0, 0), (80, .iaload, 0, 0), (81, .iload 4, 0, 0), (83, .iconst 1, 0, 0), (84, .iadd, 0, 0), (85, .invokestatic 56, 118, 0), (88, .istore 4, 0, 0), (90, .goto (-65), 25, 0), (93, .iinc 3 (1), 0, 0), (96, .goto (-82), 14, 0), (99, .aload_n 0, 0, 0), (100, .aload_n 2, 0, 0), (101, .invokevirtual 62, 80, 0), (104, .return_, 0, 0)]
def fCm_find : sx_F := sx_tab lCm_find
theorem kCm_find : sx_chk "ClassCharacters$CentralMaps" (wy yCm_find prog_2_method_2_code 5 none) 5 prog_2_method_2_code lCm_find = true := by decide +kernel
theorem gCm_find_0 : fCm_find 0 = some (.aload_n 0, 0, 0) := rfl
theorem gCm_find_1 : fCm_find 1 = some (.aload_n 1, 0, 0) := rfl
theorem gCm_find_2 : fCm_find 2 = some (.getfield 42, 2, 0) := rfl
theorem gCm_find_5 : fCm_find 5 = some (.putfield 9, 4, 0) := rfl
theorem gCm_find_8 : fCm_find 8 = some (.aload_n 0, 0, 0) := rfl
theorem gCm_find_9 : fCm_find 9 = some (.invokevirtual 45, 72, 0) := rfl
theorem gCm_find_12 : fCm_find 12 = some (.iconst 1, 0, 0) := rfl
theorem gCm_find_13 : fCm_find 13 = some (.istore_n 3, 0, 0) := rfl
theorem gCm_find_14 : fCm_find 14 = some (.iload_n 3, 0, 0) := rfl
theorem gCm_find_15 : fCm_find 15 = some (.aload_n 0, 0, 0) := rfl
theorem gCm_find_16 : fCm_find 16 = some (.getfield 9, 4, 0) := rfl
theorem gCm_find_19 : fCm_find 19 = some (.if_icmp .ge (80), 99, 0) := rfl
theorem gCm_find_22 : fCm_find 22 = some (.iconst 0, 0, 0) := rfl
theorem gCm_find_23 : fCm_find 23 = some (.istore 4, 0, 0) := rfl
theorem gCm_find_25 : fCm_find 25 = some (.iload 4, 0, 0) := rfl
theorem gCm_find_27 : fCm_find 27 = some (.aload_n 0, 0, 0) := rfl
theorem gCm_find_28 : fCm_find 28 = some (.getfield 9, 4, 0) := rfl
theorem gCm_find_31 : fCm_find 31 = some (.if_icmp .ge (62), 93, 0) := rfl
theorem gCm_find_34 : fCm_find 34 = some (.aload_n 0, 0, 0) := rfl
theorem gCm_find_35 : fCm_find 35 = some (.getfield 24, 4, 3) := rfl
theorem gCm_find_38 : fCm_find 38 = some (.iload 4, 0, 0) := rfl
theorem gCm_find_40 : fCm_find 40 = some (.iaload, 0, 0) := rfl
theorem gCm_find_41 : fCm_find 41 = some (.iload 4, 0, 0) := rfl
theorem gCm_find_43 : fCm_find 43 = some (.iconst 1, 0, 0) := rfl
theorem gCm_find_44 : fCm_find 44 = some (.iadd, 0, 0) := rfl
theorem gCm_find_45 : fCm_find 45 = some (.if_icmp .le (29), 74, 0) := rfl
theorem gCm_find_48 : fCm_find 48 = some (.aload_n 0, 0, 0) := rfl
theorem gCm_find_49 : fCm_find 49 = some (.iload_n 3, 0, 0) := rfl
theorem gCm_find_50 : fCm_find 50 = some (.iload 4, 0, 0) := rfl
theorem gCm_find_52 : fCm_find 52 = some (.aload_n 1, 0, 0) := rfl
theorem gCm_find_53 : fCm_find 53 = some (.aload_n 2, 0, 0) := rfl
theorem gCm_find_54 : fCm_find 54 = some (.invokevirtual 48, 73, 0) := rfl
theorem gCm_find_57 : fCm_find 57 = some (.aload_n 0, 0, 0) := rfl
theorem gCm_find_58 : fCm_find 58 = some (.iload 4, 0, 0) := rfl
theorem gCm_find_60 : fCm_find 60 = some (.aload_n 0, 0, 0) := rfl
theorem gCm_find_61 : fCm_find 61 = some (.getfield 24, 4, 3) := rfl
theorem gCm_find_64 : fCm_find 64 = some (.iload 4, 0, 0) := rfl
theorem gCm_find_66 : fCm_find 66 = some (.iaload, 0, 0) := rfl
theorem gCm_find_67 : fCm_find 67 = some (.iload 4, 0, 0) := rfl
theorem gCm_find_69 : fCm_find 69 = some (.isub, 0, 0) := rfl
theorem gCm_find_70 : fCm_find 70 = some (.aload_n 2, 0, 0) := rfl
theorem gCm_find_71 : fCm_find 71 = some (.invokevirtual 52, 74, 0) := rfl
theorem gCm_find_74 : fCm_find 74 = some (.aload_n 0, 0, 0) := rfl
theorem gCm_find_75 : fCm_find 75 = some (.getfield 24, 4, 3) := rfl
theorem gCm_find_78 : fCm_find 78 = some (.iload 4, 0, 0) := rfl
theorem gCm_find_80 : fCm_find 80 = some (.iaload, 0, 0) := rfl
theorem gCm_find_81 : fCm_find 81 = some (.iload 4, 0, 0) := rfl
theorem gCm_find_83 : fCm_find 83 = some (.iconst 1, 0, 0) := rfl
theorem gCm_find_84 : fCm_find 84 = some (.iadd, 0, 0) := rfl
theorem gCm_find_85 : fCm_find 85 = some (.invokestatic 56, 118, 0) := rfl
theorem gCm_find_88 : fCm_find 88 = some (.istore 4, 0, 0) := rfl
theorem gCm_find_90 : fCm_find 90 = some (.goto (-65), 25, 0) := rfl
theorem gCm_find_93 : fCm_find 93 = some (.iinc 3 (1), 0, 0) := rfl
theorem gCm_find_96 : fCm_find 96 = some (.goto (-82), 14, 0) := rfl
theorem gCm_find_99 : fCm_find 99 = some (.aload_n 0, 0, 0) := rfl
theorem gCm_find_100 : fCm_find 100 = some (.aload_n 2, 0, 0) := rfl
theorem gCm_find_101 : fCm_find 101 = some (.invokevirtual 62, 80, 0) := rfl
theorem gCm_find_104 : fCm_find 104 = some (.return_, 0, 0) := rfl
abbrev lCm_startWhole : List (Nat × Instr × Nat × Nat) := [(0, .iconst 0, 0, 0), (1, .istore_n 1, 0, 0), (2, .iload_n 1, 0, 0), (3, .aload_n 0, 0, 0), (4, .getfield 9, 4, 0), (7, .if_icmp .ge (44), 51, 0), (10, .aload_n 0, 0, 0), (11, .getfield 17, 4, 1), (14, .iload_n 1, 0, 0), (15, .aaload, 0, 0), (16, .iconst 0, 0, 0), (17, .invokestatic 66, 119, 0), (20, .aload_n 0, 0, 0), (21, .getfield 17, 4, 1), (24, .iload_n 1, 0, 0), (25, .aaload, 0, 0), (26, .iload_n 1, 0, 0), (27, .iconst 1, 0, 0), (28, .iastore, 0, 0), (29, .aload_n 0, 0, 0), (30, .getfield 20, 4, 2), (33, .iload_n 1, 0, 0), (34, .iload_n 1, 0, 0), (35, .iastore, 0, 0), (36, .aload_n 0, 0, 0), (37, .getfield 24, 4, 3), (40, .iload_n 1, 0, 0), (41, .iload_n 1, 0, 0), (42, .iconst 1, 0, 0), (43, .iadd, 0, 0), (44, .iastore, 0, 0), (45, .iinc 1 (1), 0, 0), (48, .goto (-46), 2, 0), (51, .aload_n 0, 0, 0), (52, .getfield 24, 4, 3), (55, .iconst 0, 0, 0), (56, .aload_n 0, 0, 0), (57, .getfield 9, 4, 0), (60, .iastore, 0, 0), (61, .return_, 0, 0)]
def fCm_startWhole : sx_F := sx_tab lCm_startWhole
theorem kCm_startWhole : sx_chk "ClassCharacters$CentralMaps" (wy yCm_startWhole prog_2_method_3_code 2 none) 2 prog_2_method_3_code lCm_startWhole = true := by decide +kernel
theorem gCm_startWhole_0 : fCm_startWhole 0 = some (.iconst 0, 0, 0) := rfl
theorem gCm_startWhole_1 : fCm_startWhole 1 = some (.istore_n 1, 0, 0) := rfl
theorem gCm_startWhole_2 : fCm_startWhole 2 = some (.iload_n 1, 0, 0) := rfl
theorem gCm_startWhole_3 : fCm_startWhole 3 = some (.aload_n 0, 0, 0) := rfl
theorem gCm_startWhole_4 : fCm_startWhole 4 = some (.getfield 9, 4, 0) := rfl
theorem gCm_startWhole_7 : fCm_startWhole 7 = some (.if_icmp .ge (44), 51, 0) := rfl
theorem gCm_startWhole_10 : fCm_startWhole 10 = some (.aload_n 0, 0, 0) := rfl
theorem gCm_startWhole_11 : fCm_startWhole 11 = some (.getfield 17, 4, 1) := rfl
theorem gCm_startWhole_14 : fCm_startWhole 14 = some (.iload_n 1, 0, 0) := rfl
theorem gCm_startWhole_15 : fCm_startWhole 15 = some (.aaload, 0, 0) := rfl
theorem gCm_startWhole_16 : fCm_startWhole 16 = some (.iconst 0, 0, 0) := rfl
theorem gCm_startWhole_17 : fCm_startWhole 17 = some (.invokestatic 66, 119, 0) := rfl
theorem gCm_startWhole_20 : fCm_startWhole 20 = some (.aload_n 0, 0, 0) := rfl
theorem gCm_startWhole_21 : fCm_startWhole 21 = some (.getfield 17, 4, 1) := rfl
theorem gCm_startWhole_24 : fCm_startWhole 24 = some (.iload_n 1, 0, 0) := rfl
theorem gCm_startWhole_25 : fCm_startWhole 25 = some (.aaload, 0, 0) := rfl
theorem gCm_startWhole_26 : fCm_startWhole 26 = some (.iload_n 1, 0, 0) := rfl
theorem gCm_startWhole_27 : fCm_startWhole 27 = some (.iconst 1, 0, 0) := rfl
theorem gCm_startWhole_28 : fCm_startWhole 28 = some (.iastore, 0, 0) := rfl
theorem gCm_startWhole_29 : fCm_startWhole 29 = some (.aload_n 0, 0, 0) := rfl
theorem gCm_startWhole_30 : fCm_startWhole 30 = some (.getfield 20, 4, 2) := rfl
theorem gCm_startWhole_33 : fCm_startWhole 33 = some (.iload_n 1, 0, 0) := rfl
theorem gCm_startWhole_34 : fCm_startWhole 34 = some (.iload_n 1, 0, 0) := rfl
theorem gCm_startWhole_35 : fCm_startWhole 35 = some (.iastore, 0, 0) := rfl
theorem gCm_startWhole_36 : fCm_startWhole 36 = some (.aload_n 0, 0, 0) := rfl
theorem gCm_startWhole_37 : fCm_startWhole 37 = some (.getfield 24, 4, 3) := rfl
theorem gCm_startWhole_40 : fCm_startWhole 40 = some (.iload_n 1, 0, 0) := rfl
theorem gCm_startWhole_41 : fCm_startWhole 41 = some (.iload_n 1, 0, 0) := rfl
theorem gCm_startWhole_42 : fCm_startWhole 42 = some (.iconst 1, 0, 0) := rfl
theorem gCm_startWhole_43 : fCm_startWhole 43 = some (.iadd, 0, 0) := rfl
theorem gCm_startWhole_44 : fCm_startWhole 44 = some (.iastore, 0, 0) := rfl
theorem gCm_startWhole_45 : fCm_startWhole 45 = some (.iinc 1 (1), 0, 0) := rfl
theorem gCm_startWhole_48 : fCm_startWhole 48 = some (.goto (-46), 2, 0) := rfl
theorem gCm_startWhole_51 : fCm_startWhole 51 = some (.aload_n 0, 0, 0) := rfl
theorem gCm_startWhole_52 : fCm_startWhole 52 = some (.getfield 24, 4, 3) := rfl
theorem gCm_startWhole_55 : fCm_startWhole 55 = some (.iconst 0, 0, 0) := rfl
theorem gCm_startWhole_56 : fCm_startWhole 56 = some (.aload_n 0, 0, 0) := rfl
theorem gCm_startWhole_57 : fCm_startWhole 57 = some (.getfield 9, 4, 0) := rfl
theorem gCm_startWhole_60 : fCm_startWhole 60 = some (.iastore, 0, 0) := rfl
theorem gCm_startWhole_61 : fCm_startWhole 61 = some (.return_, 0, 0) := rfl
abbrev lCm_setAction : List (Nat × Instr × Nat × Nat) := [(0, .aload_n 0, 0, 0), (1, .getfield 24, 4, 3), (4, .iload_n 2, 0, 0), (5, .iaload, 0, 0), (6, .iload_n 2, 0, 0), (7, .isub, 0, 0), (8, .istore 5, 0, 0), (10, .iconst 0, 0, 0), (11, .istore 6, 0, 0), (13, .iload 6, 0, 0), (15, .iload 5, 0, 0), (17, .if_icmp .ge (99), 116, 0), (20, .iconst 0, 0, 0), (21, .istore 7, 0, 0), (23, .iload 7, 0, 0), (25, .iload 5, 0, 0), (27, .if_icmp .ge (83), 110, 0), (30, .iconst 0, 0, 0), (31, .istore 8, 0, 0), (33, .iconst 0, 0, 0), (34, .istore 9, 0, 0), (36, .iload 9, 0, 0), (38, .aload_n 0, 0, 0), (39, .getfield 9, 4, 0), (42, .if_icmp .ge (50), 92, 0), (45, .aload_n 3, 0, 0), (46, .iload_n 1, 0, 0), (47, .aload_n 0, 0, 0), (48, .getfield 20, 4, 2), (51, .iload_n 2, 0, 0), (52, .iload 6, 0, 0), (54, .iadd, 0, 0), (55, .iaload, 0, 0), (56, .iload 9, 0, 0), (58, .invokevirtual 72, 91, 0), (61, .istore 10, 0, 0), (63, .aload 4, 0, 0), (65, .iload 8, 0, 0), (67, .iload 10, 0, 0), (69, .aload_n 0, 0, 0), (70, .getfield 17, 4, 1), (73, .iload_n 2, 0, 0), (74, .iload 7, 0, 0), (76, .iadd, 0, 0), (77, .aaload, 0, 0), (78, .iload 9, 0, 0), (80, .iaload, 0, 0), (81, .invokevirtual 76, 102, 0), (84, .istore 8, 0, 0), (86, .iinc 9 (1), 0, 0), (89, .goto (-53), 36, 0), (92, .aload_n 0, 0, 0), (93, .getfield 33, 4, 6), (96, .iload 6, 0, 0), (98, .aaload, 0, 0), (99, .iload 7, 0, 0), (101, .iload 8, 0, 0), (103, .iastore, 0, 0), (104, .iinc 7 (1), 0, 0), (107, .goto (-84), 23, 0), (110, .iinc 6 (1), 0, 0), (113, .goto (-100), 13, 0), (116, .return_, 0, 0)]
def fCm_setAction : sx_F := sx_tab lCm_setAction
theorem kCm_setAction : sx_chk "ClassCharacters$CentralMaps" (wy yCm_setAction prog_2_method_4_code 11 none) 11 prog_2_method_4_code lCm_setAction = true := by decide +kernel
theorem gCm_setAction_0 : fCm_setAction 0 = some (.aload_n 0, 0, 0) := rfl
theorem gCm_setAction_1 : fCm_setAction 1 = some (.getfield 24, 4, 3) := rfl
theorem gCm_setAction_4 : fCm_setAction 4 = some (.iload_n 2, 0, 0) := rfl
theorem gCm_setAction_5 : fCm_setAction 5 = some (.iaload, 0, 0) := rfl
theorem gCm_setAction_6 : fCm_setAction 6 = some (.iload_n 2, 0, 0) := rfl
theorem gCm_setAction_7 : fCm_setAction 7 = some (.isub, 0, 0) := rfl
theorem gCm_setAction_8 : fCm_setAction 8 = some (.istore 5, 0, 0) := rfl
theorem gCm_setAction_10 : fCm_setAction 10 = some (.iconst 0, 0, 0) := rfl
theorem gCm_setAction_11 : fCm_setAction 11 = some (.istore 6, 0, 0) := rfl
theorem gCm_setAction_13 : fCm_setAction 13 = some (.iload 6, 0, 0) := rfl
theorem gCm_setAction_15 : fCm_setAction 15 = some (.iload 5, 0, 0) := rfl
theorem gCm_setAction_17 : fCm_setAction 17 = some (.if_icmp .ge (99), 116, 0) := rfl
theorem gCm_setAction_20 : fCm_setAction 20 = some (.iconst 0, 0, 0) := rfl
theorem gCm_setAction_21 : fCm_setAction 21 = some (.istore 7, 0, 0) := rfl
theorem gCm_setAction_23 : fCm_setAction 23 = some (.iload 7, 0, 0) := rfl
theorem gCm_setAction_25 : fCm_setAction 25 = some (.iload 5, 0, 0) := rfl
theorem gCm_setAction_27 : fCm_setAction 27 = some (.if_icmp .ge (83), 110, 0) := rfl
theorem gCm_setAction_30 : fCm_setAction 30 = some (.iconst 0, 0, 0) := rfl
theorem gCm_setAction_31 : fCm_setAction 31 = some (.istore 8, 0, 0) := rfl
theorem gCm_setAction_33 : fCm_setAction 33 = some (.iconst 0, 0, 0) := rfl
theorem gCm_setAction_34 : fCm_setAction 34 = some (.istore 9, 0, 0) := rfl
theorem gCm_setAction_36 : fCm_setAction 36 = some (.iload 9, 0, 0) := rfl
theorem gCm_setAction_38 : fCm_setAction 38 = some (.aload_n 0, 0, 0) := rfl
theorem gCm_setAction_39 : fCm_setAction 39 = some (.getfield 9, 4, 0) := rfl
theorem gCm_setAction_42 : fCm_setAction 42 = some (.if_icmp .ge (50), 92, 0) := rfl
theorem gCm_setAction_45 : fCm_setAction 45 = some (.aload_n 3, 0, 0) := rfl
theorem gCm_setAction_46 : fCm_setAction 46 = some (.iload_n 1, 0, 0) := rfl
theorem gCm_setAction_47 : fCm_setAction 47 = some (.aload_n 0, 0, 0) := rfl
theorem gCm_setAction_48 : fCm_setAction 48 = some (.getfield 20, 4, 2) := rfl
theorem gCm_setAction_51 : fCm_setAction 51 = some (.iload_n 2, 0, 0) := rfl
theorem gCm_setAction_52 : fCm_setAction 52 = some (.iload 6, 0, 0) := rfl
theorem gCm_setAction_54 : fCm_setAction 54 = some (.iadd, 0, 0) := rfl
theorem gCm_setAction_55 : fCm_setAction 55 = some (.iaload, 0, 0) := rfl
theorem gCm_setAction_56 : fCm_setAction 56 = some (.iload 9, 0, 0) := rfl
theorem gCm_setAction_58 : fCm_setAction 58 = some (.invokevirtual 72, 91, 0) := rfl
theorem gCm_setAction_61 : fCm_setAction 61 = some (.istore 10, 0, 0) := rfl
theorem gCm_setAction_63 : fCm_setAction 63 = some (.aload 4, 0, 0) := rfl
theorem gCm_setAction_65 : fCm_setAction 65 = some (.iload 8, 0, 0) := rfl
theorem gCm_setAction_67 : fCm_setAction 67 = some (.iload 10, 0, 0) := rfl
theorem gCm_setAction_69 : fCm_setAction 69 = some (.aload_n 0, 0, 0) := rfl
theorem gCm_setAction_70 : fCm_setAction 70 = some (.getfield 17, 4, 1) := rfl
theorem gCm_setAction_73 : fCm_setAction 73 = some (.iload_n 2, 0, 0) := rfl
theorem gCm_setAction_74 : fCm_setAction 74 = some (.iload 7, 0, 0) := rfl
theorem gCm_setAction_76 : fCm_setAction 76 = some (.iadd, 0, 0) := rfl
theorem gCm_setAction_77 : fCm_setAction 77 = some (.aaload, 0, 0) := rfl
theorem gCm_setAction_78 : fCm_setAction 78 = some (.iload 9, 0, 0) := rfl
theorem gCm_setAction_80 : fCm_setAction 80 = some (.iaload, 0, 0) := rfl
theorem gCm_setAction_81 : fCm_setAction 81 = some (.invokevirtual 76, 102, 0) := rfl
theorem gCm_setAction_84 : fCm_setAction 84 = some (.istore 8, 0, 0) := rfl
theorem gCm_setAction_86 : fCm_setAction 86 = some (.iinc 9 (1), 0, 0) := rfl
theorem gCm_setAction_89 : fCm_setAction 89 = some (.goto (-53), 36, 0) := rfl
theorem gCm_setAction_92 : fCm_setAction 92 = some (.aload_n 0, 0, 0) := rfl
theorem gCm_setAction_93 : fCm_setAction 93 = some (.getfield 33, 4, 6) := rfl
theorem gCm_setAction_96 : fCm_setAction 96 = some (.iload 6, 0, 0) := rfl
theorem gCm_setAction_98 : fCm_setAction 98 = some (.aaload, 0, 0) := rfl
theorem gCm_setAction_99 : fCm_setAction 99 = some (.iload 7, 0, 0) := rfl
theorem gCm_setAction_101 : fCm_setAction 101 = some (.iload 8, 0, 0) := rfl
theorem gCm_setAction_103 : fCm_setAction 103 = some (.iastore, 0, 0) := rfl
theorem gCm_setAction_104 : fCm_setAction 104 = some (.iinc 7 (1), 0, 0) := rfl
theorem gCm_setAction_107 : fCm_setAction 107 = some (.goto (-84), 23, 0) := rfl
theorem gCm_setAction_110 : fCm_setAction 110 = some (.iinc 6 (1), 0, 0) := rfl
theorem gCm_setAction_113 : fCm_setAction 113 = some (.goto (-100), 13, 0) := rfl
theorem gCm_setAction_116 : fCm_setAction 116 = some (.return_, 0, 0) := rfl
abbrev lCm_split : List (Nat × Instr × Nat × Nat) := [(0, .iconst 0, 0, 0), (1, .istore 4, 0, 0), (3, .iconst 0, 0, 0), (4, .istore 5, 0, 0), (6, .iload 5, 0, 0), (8, .aload_n 3, 0, 0), (9, .getfield 81, 3, 0), (12, .if_icmp .ge (99), 111, 0), (15, .iload 4, 0, 0), (17, .iload_n 2, 0, 0), (18, .if_icmp .ge (93), 111, 0), (21, .iload 4, 0, 0), (23, .istore 6, 0, 0), (25, .aload_n 0, 0, 0), (26, .iload 5, 0, 0), (28, .iload_n 2, 0, 0), (29, .aload_n 3, 0, 0), (30, .invokevirtual 84, 75, 0), (33, .aload_n 0, 0, 0), (34, .iload_n 2, 0, 0), (35, .aload_n 3, 0, 0), (36, .invokevirtual 87, 76, 0), (39, .iconst 0, 0, 0), (40, .istore 7, 0, 0), (42, .iload 7, 0, 0), (44, .iload_n 2, 0, 0), (45, .if_icmp .ge (40), 85, 0), (48, .iload 4, 0, 0), (50, .iload_n 2, 0, 0), (51, .if_icmp .ge (34), 85, 0), (54, .aload_n 0, 0, 0), (55, .getfield 39, 4, 8), (58, .iload 7, 0, 0), (60, .iaload, 0, 0), (61, .iconst (-1), 0, 0), (62, .if_icmp .ne (17), 79, 0), (65, .aload_n 0, 0, 0), (66, .iload 7, 0, 0), (68, .iload_n 1, 0, 0), (69, .iload_n 2, 0, 0), (70, .iload 4, 0, 0), (72, .aload_n 3, 0, 0), (73, .invokevirtual 91, 79, 0), (76, .iinc 4 (1), 0, 0), (79, .iinc 7 (1), 0, 0), (82, .goto (-40), 42, 0), (85, .iload 4, 0, 0), (87, .iload 6, 0, 0), (89, .if_icmp .le (16), 105, 0), (92, .aload_n 0, 0, 0), (93, .getfield 24, 4, 3), (96, .iload_n 1, 0, 0), (97, .iload 6, 0, 0), (99, .iadd, 0, 0), (100, .iload_n 1, 0, 0), (101, .iload 4, 0, 0), (103, .iadd, 0, 0), (104, .iastore, 0, 0), (105, .iinc 5 (1), 0, 0), (108, .goto (-102), 6, 0), (111, .iconst 0, 0, 0), (112, .istore 5, 0, 0), (114, .iload 5, 0, 0), (116, .iload 4, 0, 0), (118, .if_icmp .ge (50), 168, 0), (121, .aload_n 0, 0, 0), (122, .getfield 27, 4, 4), (125, .iload 5, 0, 0), (127, .aaload, 0, 0), (128, .iconst 0, 0, 0), (129, .aload_n 0, 0, 0), (130, .getfield 17, 4, 1), (133, .iload_n 1, 0, 0), (134, .iload 5, 0, 0), (136, .iadd, 0, 0), (137, .aaload, 0, 0), (138, .iconst 0, 0, 0), (139, .aload_n 0, 0, 0), (140, .getfield 9, 4, 0), (143, .invokestatic 95, 900, 0), (146, .aload_n 0, 0, 0), (147, .getfield 20, 4, 2), (150, .iload_n 1, 0, 0), (151, .iload 5, 0, 0), (153, .iadd, 0, 0), (154, .aload_n 0, 0, 0), (155, .getfield 30, 4, 5), (158, .iload 5, 0, 0), (160, .iaload, 0, 0), (161, .iastore, 0, 0), (162, .iinc 5 (1), 0, 0), (165, .goto (-51), 114, 0), (168, .return_, 0, 0)]
def fCm_split : sx_F := sx_tab lCm_split
theorem kCm_split : sx_chk "ClassCharacters$CentralMaps" (wy yCm_split prog_2_method_5_code 8 none) 8 prog_2_method_5_code lCm_split = true := by decide +kernel
theorem gCm_split_0 : fCm_split 0 = some (.iconst 0, 0, 0) := rfl
theorem gCm_split_1 : fCm_split 1 = some (.istore 4, 0, 0) := rfl
theorem gCm_split_3 : fCm_split 3 = some (.iconst 0, 0, 0) := rfl
theorem gCm_split_4 : fCm_split 4 = some (.istore 5, 0, 0) := rfl
theorem gCm_split_6 : fCm_split 6 = some (.iload 5, 0, 0) := rfl
theorem gCm_split_8 : fCm_split 8 = some (.aload_n 3, 0, 0) := rfl
theorem gCm_split_9 : fCm_split 9 = some (.getfield 81, 3, 0) := rfl
theorem gCm_split_12 : fCm_split 12 = some (.if_icmp .ge (99), 111, 0) := rfl
theorem gCm_split_15 : fCm_split 15 = some (.iload 4, 0, 0) := rfl
theorem gCm_split_17 : fCm_split 17 = some (.iload_n 2, 0, 0) := rfl
theorem gCm_split_18 : fCm_split 18 = some (.if_icmp .ge (93), 111, 0) := rfl
theorem gCm_split_21 : fCm_split 21 = some (.iload 4, 0, 0) := rfl
theorem gCm_split_23 : fCm_split 23 = some (.istore 6, 0, 0) := rfl
theorem gCm_split_25 : fCm_split 25 = some (.aload_n 0, 0, 0) := rfl
theorem gCm_split_26 : fCm_split 26 = some (.iload 5, 0, 0) := rfl
theorem gCm_split_28 : fCm_split 28 = some (.iload_n 2, 0, 0) := rfl
theorem gCm_split_29 : fCm_split 29 = some (.aload_n 3, 0, 0) := rfl
theorem gCm_split_30 : fCm_split 30 = some (.invokevirtual 84, 75, 0) := rfl
theorem gCm_split_33 : fCm_split 33 = some (.aload_n 0, 0, 0) := rfl
theorem gCm_split_34 : fCm_split 34 = some (.iload_n 2, 0, 0) := rfl
theorem gCm_split_35 : fCm_split 35 = some (.aload_n 3, 0, 0) := rfl
theorem gCm_split_36 : fCm_split 36 = some (.invokevirtual 87, 76, 0) := rfl
theorem gCm_split_39 : fCm_split 39 = some (.iconst 0, 0, 0) := rfl
theorem gCm_split_40 : fCm_split 40 = some (.istore 7, 0, 0) := rfl
theorem gCm_split_42 : fCm_split 42 = some (.iload 7, 0, 0) := rfl
theorem gCm_split_44 : fCm_split 44 = some (.iload_n 2, 0, 0) := rfl
theorem gCm_split_45 : fCm_split 45 = some (.if_icmp .ge (40), 85, 0) := rfl
theorem gCm_split_48 : fCm_split 48 = some (.iload 4, 0, 0) := rfl
theorem gCm_split_50 : fCm_split 50 = some (.iload_n 2, 0, 0) := rfl
theorem gCm_split_51 : fCm_split 51 = some (.if_icmp .ge (34), 85, 0) := rfl
theorem gCm_split_54 : fCm_split 54 = some (.aload_n 0, 0, 0) := rfl
theorem gCm_split_55 : fCm_split 55 = some (.getfield 39, 4, 8) := rfl
theorem gCm_split_58 : fCm_split 58 = some (.iload 7, 0, 0) := rfl
theorem gCm_split_60 : fCm_split 60 = some (.iaload, 0, 0) := rfl
theorem gCm_split_61 : fCm_split 61 = some (.iconst (-1), 0, 0) := rfl
theorem gCm_split_62 : fCm_split 62 = some (.if_icmp .ne (17), 79, 0) := rfl
theorem gCm_split_65 : fCm_split 65 = some (.aload_n 0, 0, 0) := rfl
theorem gCm_split_66 : fCm_split 66 = some (.iload 7, 0, 0) := rfl
theorem gCm_split_68 : fCm_split 68 = some (.iload_n 1, 0, 0) := rfl
theorem gCm_split_69 : fCm_split 69 = some (.iload_n 2, 0, 0) := rfl
theorem gCm_split_70 : fCm_split 70 = some (.iload 4, 0, 0) := rfl
theorem gCm_split_72 : fCm_split 72 = some (.aload_n 3, 0, 0) := rfl
theorem gCm_split_73 : fCm_split 73 = some (.invokevirtual 91, 79, 0) := rfl
theorem gCm_split_76 : fCm_split 76 = some (.iinc 4 (1), 0, 0) := rfl
theorem gCm_split_79 : fCm_split 79 = some (.iinc 7 (1), 0, 0) := rfl
theorem gCm_split_82 : fCm_split 82 = some (.goto (-40), 42, 0) := rfl
theorem gCm_split_85 : fCm_split 85 = some (.iload 4, 0, 0) := rfl
theorem gCm_split_87 : fCm_split 87 = some (.iload 6, 0, 0) := rfl
theorem gCm_split_89 : fCm_split 89 = some (.if_icmp .le (16), 105, 0) := rfl
theorem gCm_split_92 : fCm_split 92 = some (.aload_n 0, 0, 0) := rfl
theorem gCm_split_93 : fCm_split 93 = some (.getfield 24, 4, 3) := rfl
theorem gCm_split_96 : fCm_split 96 = some (.iload_n 1, 0, 0) := rfl
theorem gCm_split_97 : fCm_split 97 = some (.iload 6, 0, 0) := rfl
theorem gCm_split_99 : fCm_split 99 = some (.iadd, 0, 0) := rfl
theorem gCm_split_100 : fCm_split 100 = some (.iload_n 1, 0, 0) := rfl
theorem gCm_split_101 : fCm_split 101 = some (.iload 4, 0, 0) := rfl
theorem gCm_split_103 : fCm_split 103 = some (.iadd, 0, 0) := rfl
theorem gCm_split_104 : fCm_split 104 = some (.iastore, 0, 0) := rfl
theorem gCm_split_105 : fCm_split 105 = some (.iinc 5 (1), 0, 0) := rfl
theorem gCm_split_108 : fCm_split 108 = some (.goto (-102), 6, 0) := rfl
theorem gCm_split_111 : fCm_split 111 = some (.iconst 0, 0, 0) := rfl
theorem gCm_split_112 : fCm_split 112 = some (.istore 5, 0, 0) := rfl
theorem gCm_split_114 : fCm_split 114 = some (.iload 5, 0, 0) := rfl
theorem gCm_split_116 : fCm_split 116 = some (.iload 4, 0, 0) := rfl
theorem gCm_split_118 : fCm_split 118 = some (.if_icmp .ge (50), 168, 0) := rfl
theorem gCm_split_121 : fCm_split 121 = some (.aload_n 0, 0, 0) := rfl
theorem gCm_split_122 : fCm_split 122 = some (.getfield 27, 4, 4) := rfl
theorem gCm_split_125 : fCm_split 125 = some (.iload 5, 0, 0) := rfl
theorem gCm_split_127 : fCm_split 127 = some (.aaload, 0, 0) := rfl
theorem gCm_split_128 : fCm_split 128 = some (.iconst 0, 0, 0) := rfl
theorem gCm_split_129 : fCm_split 129 = some (.aload_n 0, 0, 0) := rfl
theorem gCm_split_130 : fCm_split 130 = some (.getfield 17, 4, 1) := rfl
theorem gCm_split_133 : fCm_split 133 = some (.iload_n 1, 0, 0) := rfl
theorem gCm_split_134 : fCm_split 134 = some (.iload 5, 0, 0) := rfl
theorem gCm_split_136 : fCm_split 136 = some (.iadd, 0, 0) := rfl
theorem gCm_split_137 : fCm_split 137 = some (.aaload, 0, 0) := rfl
theorem gCm_split_138 : fCm_split 138 = some (.iconst 0, 0, 0) := rfl
theorem gCm_split_139 : fCm_split 139 = some (.aload_n 0, 0, 0) := rfl
theorem gCm_split_140 : fCm_split 140 = some (.getfield 9, 4, 0) := rfl
theorem gCm_split_143 : fCm_split 143 = some (.invokestatic 95, 900, 0) := rfl
theorem gCm_split_146 : fCm_split 146 = some (.aload_n 0, 0, 0) := rfl
theorem gCm_split_147 : fCm_split 147 = some (.getfield 20, 4, 2) := rfl
theorem gCm_split_150 : fCm_split 150 = some (.iload_n 1, 0, 0) := rfl
theorem gCm_split_151 : fCm_split 151 = some (.iload 5, 0, 0) := rfl
theorem gCm_split_153 : fCm_split 153 = some (.iadd, 0, 0) := rfl
theorem gCm_split_154 : fCm_split 154 = some (.aload_n 0, 0, 0) := rfl
theorem gCm_split_155 : fCm_split 155 = some (.getfield 30, 4, 5) := rfl
theorem gCm_split_158 : fCm_split 158 = some (.iload 5, 0, 0) := rfl
theorem gCm_split_160 : fCm_split 160 = some (.iaload, 0, 0) := rfl
theorem gCm_split_161 : fCm_split 161 = some (.iastore, 0, 0) := rfl
theorem gCm_split_162 : fCm_split 162 = some (.iinc 5 (1), 0, 0) := rfl
theorem gCm_split_165 : fCm_split 165 = some (.goto (-51), 114, 0) := rfl
theorem gCm_split_168 : fCm_split 168 = some (.return_, 0, 0) := rfl
abbrev lCm_setSystem : List (Nat × Instr × Nat × Nat) := [(0, .iconst 0, 0, 0), (1, .istore 4, 0, 0), (3, .iload 4, 0, 0), (5, .iload_n 2, 0, 0), (6, .if_icmp .ge (55), 61, 0), (9, .aload_n 0, 0, 0), (10, .getfield 33, 4, 6), (13, .iload 4, 0, 0), (15, .aaload, 0, 0), (16, .iconst 0, 0, 0), (17, .aload_n 0, 0, 0), (18, .getfield 36, 4, 7), (21, .iload 4, 0, 0), (23, .aaload, 0, 0), (24, .iconst 0, 0, 0), (25, .iload_n 2, 0, 0), (26, .invokestatic 95, 900, 0), (29, .aload_n 0, 0, 0), (30, .getfield 36, 4, 7), (33, .iload 4, 0, 0), (35, .aaload, 0, 0), (36, .iload 4, 0, 0), (38, .aload_n 3, 0, 0), (39, .aload_n 0, 0, 0), (40, .getfield 36, 4, 7), (43, .iload 4, 0, 0), (45, .aaload, 0, 0), (46, .iload 4, 0, 0), (48, .iaload, 0, 0), (49, .iload_n 1, 0, 0), (50, .isub, 0, 0), (51, .invokevirtual 101, 100, 0), (54, .iastore, 0, 0), (55, .iinc 4 (1), 0, 0), (58, .goto (-55), 3, 0), (61, .return_, 0, 0)]
def fCm_setSystem : sx_F := sx_tab lCm_setSystem
theorem kCm_setSystem : sx_chk "ClassCharacters$CentralMaps" (wy yCm_setSystem prog_2_method_6_code 5 none) 5 prog_2_method_6_code lCm_setSystem = true := by decide +kernel
theorem gCm_setSystem_0 : fCm_setSystem 0 = some (.iconst 0, 0, 0) := rfl
theorem gCm_setSystem_1 : fCm_setSystem 1 = some (.istore 4, 0, 0) := rfl
theorem gCm_setSystem_3 : fCm_setSystem 3 = some (.iload 4, 0, 0) := rfl
theorem gCm_setSystem_5 : fCm_setSystem 5 = some (.iload_n 2, 0, 0) := rfl
theorem gCm_setSystem_6 : fCm_setSystem 6 = some (.if_icmp .ge (55), 61, 0) := rfl
theorem gCm_setSystem_9 : fCm_setSystem 9 = some (.aload_n 0, 0, 0) := rfl
theorem gCm_setSystem_10 : fCm_setSystem 10 = some (.getfield 33, 4, 6) := rfl
theorem gCm_setSystem_13 : fCm_setSystem 13 = some (.iload 4, 0, 0) := rfl
theorem gCm_setSystem_15 : fCm_setSystem 15 = some (.aaload, 0, 0) := rfl
theorem gCm_setSystem_16 : fCm_setSystem 16 = some (.iconst 0, 0, 0) := rfl
theorem gCm_setSystem_17 : fCm_setSystem 17 = some (.aload_n 0, 0, 0) := rfl
theorem gCm_setSystem_18 : fCm_setSystem 18 = some (.getfield 36, 4, 7) := rfl
theorem gCm_setSystem_21 : fCm_setSystem 21 = some (.iload 4, 0, 0) := rfl
theorem gCm_setSystem_23 : fCm_setSystem 23 = some (.aaload, 0, 0) := rfl
theorem gCm_setSystem_24 : fCm_setSystem 24 = some (.iconst 0, 0, 0) := rfl
theorem gCm_setSystem_25 : fCm_setSystem 25 = some (.iload_n 2, 0, 0) := rfl
theorem gCm_setSystem_26 : fCm_setSystem 26 = some (.invokestatic 95, 900, 0) := rfl
theorem gCm_setSystem_29 : fCm_setSystem 29 = some (.aload_n 0, 0, 0) := rfl
theorem gCm_setSystem_30 : fCm_setSystem 30 = some (.getfield 36, 4, 7) := rfl
theorem gCm_setSystem_33 : fCm_setSystem 33 = some (.iload 4, 0, 0) := rfl
theorem gCm_setSystem_35 : fCm_setSystem 35 = some (.aaload, 0, 0) := rfl
theorem gCm_setSystem_36 : fCm_setSystem 36 = some (.iload 4, 0, 0) := rfl
theorem gCm_setSystem_38 : fCm_setSystem 38 = some (.aload_n 3, 0, 0) := rfl
theorem gCm_setSystem_39 : fCm_setSystem 39 = some (.aload_n 0, 0, 0) := rfl
theorem gCm_setSystem_40 : fCm_setSystem 40 = some (.getfield 36, 4, 7) := rfl
theorem gCm_setSystem_43 : fCm_setSystem 43 = some (.iload 4, 0, 0) := rfl
theorem gCm_setSystem_45 : fCm_setSystem 45 = some (.aaload, 0, 0) := rfl
theorem gCm_setSystem_46 : fCm_setSystem 46 = some (.iload 4, 0, 0) := rfl
theorem gCm_setSystem_48 : fCm_setSystem 48 = some (.iaload, 0, 0) := rfl
theorem gCm_setSystem_49 : fCm_setSystem 49 = some (.iload_n 1, 0, 0) := rfl
theorem gCm_setSystem_50 : fCm_setSystem 50 = some (.isub, 0, 0) := rfl
theorem gCm_setSystem_51 : fCm_setSystem 51 = some (.invokevirtual 101, 100, 0) := rfl
theorem gCm_setSystem_54 : fCm_setSystem 54 = some (.iastore, 0, 0) := rfl
theorem gCm_setSystem_55 : fCm_setSystem 55 = some (.iinc 4 (1), 0, 0) := rfl
theorem gCm_setSystem_58 : fCm_setSystem 58 = some (.goto (-55), 3, 0) := rfl
theorem gCm_setSystem_61 : fCm_setSystem 61 = some (.return_, 0, 0) := rfl
abbrev lCm_solve : List (Nat × Instr × Nat × Nat) := [(0, .iconst 0, 0, 0), (1, .istore_n 3, 0, 0), (2, .iconst 0, 0, 0), (3, .istore 4, 0, 0), (5, .iload 4, 0, 0), (7, .iload_n 1, 0, 0), (8, .if_icmp .ge (79), 87, 0), (11, .iload_n 3, 0, 0), (12, .istore 5, 0, 0), (14, .iload 5, 0, 0), (16, .iload_n 1, 0, 0), (17, .if_icmp .ge (22), 39, 0), (20, .aload_n 0, 0, 0), (21, .getfield 36, 4, 7), (24, .iload 5, 0, 0), (26, .aaload, 0, 0), (27, .iload 4, 0, 0), (29, .iaload, 0, 0), (30, .ifCond .ne (9), 39, 0), (33, .iinc 5 (1), 0, 0), (36, .goto (-22), 14, 0), (39, .aload_n 0, 0, 0), (40, .getfield 39, 4, 8), (43, .iload 4, 0, 0), (45, .iconst (-1), 0, 0), (46, .iastore, 0, 0), (47, .iload 5, 0, 0), (49, .iload_n 1, 0, 0), (50, .if_icmp .ge (31), 81, 0), (53, .aload_n 0, 0, 0), (54, .iload 5, 0, 0), (56, .iload_n 3, 0, 0), (57, .iload_n 1, 0, 0), (58, .invokevirtual 105, 77, 0), (61, .aload_n 0, 0, 0), (62, .iload 4, 0, 0), (64, .iload_n 3, 0, 0), (65, .iload_n 1, 0, 0), (66, .aload_n 2, 0, 0), (67, .invokevirtual 109, 78, 0), (70, .aload_n 0, 0, 0), (71, .getfield 39, 4, 8), (74, .iload 4, 0, 0), (76, .iload_n 3, 0, 0), (77, .iastore, 0, 0), (78, .iinc 3 (1), 0, 0), (81, .iinc 4 (1), 0, 0), (84, .goto (-79), 5, 0), (87, .return_, 0, 0)]
def fCm_solve : sx_F := sx_tab lCm_solve
theorem kCm_solve : sx_chk "ClassCharacters$CentralMaps" (wy yCm_solve prog_2_method_7_code 6 none) 6 prog_2_method_7_code lCm_solve = true := by decide +kernel
theorem gCm_solve_0 : fCm_solve 0 = some (.iconst 0, 0, 0) := rfl
theorem gCm_solve_1 : fCm_solve 1 = some (.istore_n 3, 0, 0) := rfl
theorem gCm_solve_2 : fCm_solve 2 = some (.iconst 0, 0, 0) := rfl
theorem gCm_solve_3 : fCm_solve 3 = some (.istore 4, 0, 0) := rfl
theorem gCm_solve_5 : fCm_solve 5 = some (.iload 4, 0, 0) := rfl
theorem gCm_solve_7 : fCm_solve 7 = some (.iload_n 1, 0, 0) := rfl
theorem gCm_solve_8 : fCm_solve 8 = some (.if_icmp .ge (79), 87, 0) := rfl
theorem gCm_solve_11 : fCm_solve 11 = some (.iload_n 3, 0, 0) := rfl
theorem gCm_solve_12 : fCm_solve 12 = some (.istore 5, 0, 0) := rfl
theorem gCm_solve_14 : fCm_solve 14 = some (.iload 5, 0, 0) := rfl
theorem gCm_solve_16 : fCm_solve 16 = some (.iload_n 1, 0, 0) := rfl
theorem gCm_solve_17 : fCm_solve 17 = some (.if_icmp .ge (22), 39, 0) := rfl
theorem gCm_solve_20 : fCm_solve 20 = some (.aload_n 0, 0, 0) := rfl
theorem gCm_solve_21 : fCm_solve 21 = some (.getfield 36, 4, 7) := rfl
theorem gCm_solve_24 : fCm_solve 24 = some (.iload 5, 0, 0) := rfl
theorem gCm_solve_26 : fCm_solve 26 = some (.aaload, 0, 0) := rfl
theorem gCm_solve_27 : fCm_solve 27 = some (.iload 4, 0, 0) := rfl
theorem gCm_solve_29 : fCm_solve 29 = some (.iaload, 0, 0) := rfl
theorem gCm_solve_30 : fCm_solve 30 = some (.ifCond .ne (9), 39, 0) := rfl
theorem gCm_solve_33 : fCm_solve 33 = some (.iinc 5 (1), 0, 0) := rfl
theorem gCm_solve_36 : fCm_solve 36 = some (.goto (-22), 14, 0) := rfl
theorem gCm_solve_39 : fCm_solve 39 = some (.aload_n 0, 0, 0) := rfl
theorem gCm_solve_40 : fCm_solve 40 = some (.getfield 39, 4, 8) := rfl
theorem gCm_solve_43 : fCm_solve 43 = some (.iload 4, 0, 0) := rfl
theorem gCm_solve_45 : fCm_solve 45 = some (.iconst (-1), 0, 0) := rfl
theorem gCm_solve_46 : fCm_solve 46 = some (.iastore, 0, 0) := rfl
theorem gCm_solve_47 : fCm_solve 47 = some (.iload 5, 0, 0) := rfl
theorem gCm_solve_49 : fCm_solve 49 = some (.iload_n 1, 0, 0) := rfl
theorem gCm_solve_50 : fCm_solve 50 = some (.if_icmp .ge (31), 81, 0) := rfl
theorem gCm_solve_53 : fCm_solve 53 = some (.aload_n 0, 0, 0) := rfl
theorem gCm_solve_54 : fCm_solve 54 = some (.iload 5, 0, 0) := rfl
theorem gCm_solve_56 : fCm_solve 56 = some (.iload_n 3, 0, 0) := rfl
theorem gCm_solve_57 : fCm_solve 57 = some (.iload_n 1, 0, 0) := rfl
theorem gCm_solve_58 : fCm_solve 58 = some (.invokevirtual 105, 77, 0) := rfl
theorem gCm_solve_61 : fCm_solve 61 = some (.aload_n 0, 0, 0) := rfl
theorem gCm_solve_62 : fCm_solve 62 = some (.iload 4, 0, 0) := rfl
theorem gCm_solve_64 : fCm_solve 64 = some (.iload_n 3, 0, 0) := rfl
theorem gCm_solve_65 : fCm_solve 65 = some (.iload_n 1, 0, 0) := rfl
theorem gCm_solve_66 : fCm_solve 66 = some (.aload_n 2, 0, 0) := rfl
theorem gCm_solve_67 : fCm_solve 67 = some (.invokevirtual 109, 78, 0) := rfl
theorem gCm_solve_70 : fCm_solve 70 = some (.aload_n 0, 0, 0) := rfl
theorem gCm_solve_71 : fCm_solve 71 = some (.getfield 39, 4, 8) := rfl
theorem gCm_solve_74 : fCm_solve 74 = some (.iload 4, 0, 0) := rfl
theorem gCm_solve_76 : fCm_solve 76 = some (.iload_n 3, 0, 0) := rfl
theorem gCm_solve_77 : fCm_solve 77 = some (.iastore, 0, 0) := rfl
theorem gCm_solve_78 : fCm_solve 78 = some (.iinc 3 (1), 0, 0) := rfl
theorem gCm_solve_81 : fCm_solve 81 = some (.iinc 4 (1), 0, 0) := rfl
theorem gCm_solve_84 : fCm_solve 84 = some (.goto (-79), 5, 0) := rfl
theorem gCm_solve_87 : fCm_solve 87 = some (.return_, 0, 0) := rfl
abbrev lCm_swapRows : List (Nat × Instr × Nat × Nat) := [(0, .iconst 0, 0, 0), (1, .istore 4, 0, 0), (3, .iload 4, 0, 0), (5, .iload_n 3, 0, 0), (6, .if_icmp .ge (49), 55, 0), (9, .aload_n 0, 0, 0), (10, .getfield 36, 4, 7), (13, .iload_n 1, 0, 0), (14, .aaload, 0, 0), (15, .iload 4, 0, 0), (17, .iaload, 0, 0), (18, .istore 5, 0, 0), (20, .aload_n 0, 0, 0), (21, .getfield 36, 4, 7), (24, .iload_n 1, 0, 0), (25, .aaload, 0, 0), (26, .iload 4, 0, 0), (28, .aload_n 0, 0, 0), (29, .getfield 36, 4, 7), (32, .iload_n 2, 0, 0), (33, .aaload, 0, 0), (34, .iload 4, 0, 0), (36, .iaload, 0, 0), (37, .iastore, 0, 0), (38, .aload_n 0, 0, 0), (39, .getfield 36, 4, 7), (42, .iload_n 2, 0, 0), (43, .aaload, 0, 0), (44, .iload 4, 0, 0), (46, .iload 5, 0, 0), (48, .iastore, 0, 0), (49, .iinc 4 (1), 0, 0), (52, .goto (-49), 3, 0), (55, .return_, 0, 0)]
def fCm_swapRows : sx_F := sx_tab lCm_swapRows
theorem kCm_swapRows : sx_chk "ClassCharacters$CentralMaps" (wy yCm_swapRows prog_2_method_8_code 6 none) 6 prog_2_method_8_code lCm_swapRows = true := by decide +kernel
theorem gCm_swapRows_0 : fCm_swapRows 0 = some (.iconst 0, 0, 0) := rfl
theorem gCm_swapRows_1 : fCm_swapRows 1 = some (.istore 4, 0, 0) := rfl
theorem gCm_swapRows_3 : fCm_swapRows 3 = some (.iload 4, 0, 0) := rfl
theorem gCm_swapRows_5 : fCm_swapRows 5 = some (.iload_n 3, 0, 0) := rfl
theorem gCm_swapRows_6 : fCm_swapRows 6 = some (.if_icmp .ge (49), 55, 0) := rfl
theorem gCm_swapRows_9 : fCm_swapRows 9 = some (.aload_n 0, 0, 0) := rfl
theorem gCm_swapRows_10 : fCm_swapRows 10 = some (.getfield 36, 4, 7) := rfl
theorem gCm_swapRows_13 : fCm_swapRows 13 = some (.iload_n 1, 0, 0) := rfl
theorem gCm_swapRows_14 : fCm_swapRows 14 = some (.aaload, 0, 0) := rfl
theorem gCm_swapRows_15 : fCm_swapRows 15 = some (.iload 4, 0, 0) := rfl
theorem gCm_swapRows_17 : fCm_swapRows 17 = some (.iaload, 0, 0) := rfl
theorem gCm_swapRows_18 : fCm_swapRows 18 = some (.istore 5, 0, 0) := rfl
theorem gCm_swapRows_20 : fCm_swapRows 20 = some (.aload_n 0, 0, 0) := rfl
theorem gCm_swapRows_21 : fCm_swapRows 21 = some (.getfield 36, 4, 7) := rfl
theorem gCm_swapRows_24 : fCm_swapRows 24 = some (.iload_n 1, 0, 0) := rfl
theorem gCm_swapRows_25 : fCm_swapRows 25 = some (.aaload, 0, 0) := rfl
theorem gCm_swapRows_26 : fCm_swapRows 26 = some (.iload 4, 0, 0) := rfl
theorem gCm_swapRows_28 : fCm_swapRows 28 = some (.aload_n 0, 0, 0) := rfl
theorem gCm_swapRows_29 : fCm_swapRows 29 = some (.getfield 36, 4, 7) := rfl
theorem gCm_swapRows_32 : fCm_swapRows 32 = some (.iload_n 2, 0, 0) := rfl
theorem gCm_swapRows_33 : fCm_swapRows 33 = some (.aaload, 0, 0) := rfl
theorem gCm_swapRows_34 : fCm_swapRows 34 = some (.iload 4, 0, 0) := rfl
theorem gCm_swapRows_36 : fCm_swapRows 36 = some (.iaload, 0, 0) := rfl
theorem gCm_swapRows_37 : fCm_swapRows 37 = some (.iastore, 0, 0) := rfl
theorem gCm_swapRows_38 : fCm_swapRows 38 = some (.aload_n 0, 0, 0) := rfl
theorem gCm_swapRows_39 : fCm_swapRows 39 = some (.getfield 36, 4, 7) := rfl
theorem gCm_swapRows_42 : fCm_swapRows 42 = some (.iload_n 2, 0, 0) := rfl
theorem gCm_swapRows_43 : fCm_swapRows 43 = some (.aaload, 0, 0) := rfl
theorem gCm_swapRows_44 : fCm_swapRows 44 = some (.iload 4, 0, 0) := rfl
theorem gCm_swapRows_46 : fCm_swapRows 46 = some (.iload 5, 0, 0) := rfl
theorem gCm_swapRows_48 : fCm_swapRows 48 = some (.iastore, 0, 0) := rfl
theorem gCm_swapRows_49 : fCm_swapRows 49 = some (.iinc 4 (1), 0, 0) := rfl
theorem gCm_swapRows_52 : fCm_swapRows 52 = some (.goto (-49), 3, 0) := rfl
theorem gCm_swapRows_55 : fCm_swapRows 55 = some (.return_, 0, 0) := rfl
abbrev lCm_clearColumn : List (Nat × Instr × Nat × Nat) := [(0, .aload 4, 0, 0), (2, .aload_n 0, 0, 0), (3, .getfield 36, 4, 7), (6, .iload_n 2, 0, 0), (7, .aaload, 0, 0), (8, .iload_n 1, 0, 0), (9, .iaload, 0, 0), (10, .invokevirtual 113, 105, 0), (13, .istore 5, 0, 0), (15, .iload_n 1, 0, 0), (16, .istore 6, 0, 0), (18, .iload 6, 0, 0), (20, .iload_n 3, 0, 0), (21, .if_icmp .ge (34), 55, 0), (24, .aload_n 0, 0, 0), (25, .getfield 36, 4, 7), (28, .iload_n 2, 0, 0), (29, .aaload, 0, 0), (30, .iload 6, 0, 0), (32, .aload 4, 0, 0), (34, .aload_n 0, 0, 0), (35, .getfield 36, 4, 7), (38, .iload_n 2, 0, 0), (39, .aaload, 0, 0), (40, .iload 6, 0, 0), (42, .iaload, 0, 0), (43, .iload 5, 0, 0), (45, .invokevirtual 116, 101, 0), (48, .iastore, 0, 0), (49, .iinc 6 (1), 0, 0), (52, .goto (-34), 18, 0), (55, .iconst 0, 0, 0), (56, .istore 6, 0, 0), (58, .iload 6, 0, 0), (60, .iload_n 3, 0, 0), (61, .if_icmp .ge (82), 143, 0), (64, .aload_n 0, 0, 0), (65, .getfield 36, 4, 7), (68, .iload 6, 0, 0), (70, .aaload, 0, 0), (71, .iload_n 1, 0, 0), (72, .iaload, 0, 0), (73, .istore 7, 0, 0), (75, .iload 6, 0, 0), (77, .iload_n 2, 0, 0), (78, .if_icmp .eq (59), 137, 0), (81, .iload 7, 0, 0), (83, .ifCond .eq (54), 137, 0), (86, .iload_n 1, 0, 0), (87, .istore 8, 0, 0), (89, .iload 8, 0, 0), (91, .iload_n 3, 0, 0), (92, .if_icmp .ge (45), 137, 0), (95, .aload_n 0, 0, 0), (96, .getfield 36, 4, 7), (99, .iload 6, 0, 0), (101, .aaload, 0, 0), (102, .iload 8, 0, 0), (104, .aload 4, 0, 0), (106, .aload_n 0, 0, 0), (107, .getfield 36, 4, 7), (110, .iload 6, 0, 0), (112, .aaload, 0, 0), (113, .iload 8, 0, 0), (115, .iaload, 0, 0), (116, .iload 7, 0, 0), (118, .aload_n 0, 0, 0), (119, .getfield 36, 4, 7), (122, .iload_n 2, 0, 0), (123, .aaload, 0, 0), (124, .iload 8, 0, 0), (126, .iaload, 0, 0), (127, .invokevirtual 119, 103, 0), (130, .iastore, 0, 0), (131, .iinc 8 (1), 0, 0), (134, .goto (-45), 89, 0), (137, .iinc 6 (1), 0, 0), (140, .goto (-82), 58, 0), (143, .return_, 0, 0)]
def fCm_clearColumn : sx_F := sx_tab lCm_clearColumn
theorem kCm_clearColumn : sx_chk "ClassCharacters$CentralMaps" (wy yCm_clearColumn prog_2_method_9_code 9 none) 9 prog_2_method_9_code lCm_clearColumn = true := by decide +kernel
theorem gCm_clearColumn_0 : fCm_clearColumn 0 = some (.aload 4, 0, 0) := rfl
theorem gCm_clearColumn_2 : fCm_clearColumn 2 = some (.aload_n 0, 0, 0) := rfl
theorem gCm_clearColumn_3 : fCm_clearColumn 3 = some (.getfield 36, 4, 7) := rfl
theorem gCm_clearColumn_6 : fCm_clearColumn 6 = some (.iload_n 2, 0, 0) := rfl
theorem gCm_clearColumn_7 : fCm_clearColumn 7 = some (.aaload, 0, 0) := rfl
theorem gCm_clearColumn_8 : fCm_clearColumn 8 = some (.iload_n 1, 0, 0) := rfl
theorem gCm_clearColumn_9 : fCm_clearColumn 9 = some (.iaload, 0, 0) := rfl
theorem gCm_clearColumn_10 : fCm_clearColumn 10 = some (.invokevirtual 113, 105, 0) := rfl
theorem gCm_clearColumn_13 : fCm_clearColumn 13 = some (.istore 5, 0, 0) := rfl
theorem gCm_clearColumn_15 : fCm_clearColumn 15 = some (.iload_n 1, 0, 0) := rfl
theorem gCm_clearColumn_16 : fCm_clearColumn 16 = some (.istore 6, 0, 0) := rfl
theorem gCm_clearColumn_18 : fCm_clearColumn 18 = some (.iload 6, 0, 0) := rfl
theorem gCm_clearColumn_20 : fCm_clearColumn 20 = some (.iload_n 3, 0, 0) := rfl
theorem gCm_clearColumn_21 : fCm_clearColumn 21 = some (.if_icmp .ge (34), 55, 0) := rfl
theorem gCm_clearColumn_24 : fCm_clearColumn 24 = some (.aload_n 0, 0, 0) := rfl
theorem gCm_clearColumn_25 : fCm_clearColumn 25 = some (.getfield 36, 4, 7) := rfl
theorem gCm_clearColumn_28 : fCm_clearColumn 28 = some (.iload_n 2, 0, 0) := rfl
theorem gCm_clearColumn_29 : fCm_clearColumn 29 = some (.aaload, 0, 0) := rfl
theorem gCm_clearColumn_30 : fCm_clearColumn 30 = some (.iload 6, 0, 0) := rfl
theorem gCm_clearColumn_32 : fCm_clearColumn 32 = some (.aload 4, 0, 0) := rfl
theorem gCm_clearColumn_34 : fCm_clearColumn 34 = some (.aload_n 0, 0, 0) := rfl
theorem gCm_clearColumn_35 : fCm_clearColumn 35 = some (.getfield 36, 4, 7) := rfl
theorem gCm_clearColumn_38 : fCm_clearColumn 38 = some (.iload_n 2, 0, 0) := rfl
theorem gCm_clearColumn_39 : fCm_clearColumn 39 = some (.aaload, 0, 0) := rfl
theorem gCm_clearColumn_40 : fCm_clearColumn 40 = some (.iload 6, 0, 0) := rfl
theorem gCm_clearColumn_42 : fCm_clearColumn 42 = some (.iaload, 0, 0) := rfl
theorem gCm_clearColumn_43 : fCm_clearColumn 43 = some (.iload 5, 0, 0) := rfl
theorem gCm_clearColumn_45 : fCm_clearColumn 45 = some (.invokevirtual 116, 101, 0) := rfl
theorem gCm_clearColumn_48 : fCm_clearColumn 48 = some (.iastore, 0, 0) := rfl
theorem gCm_clearColumn_49 : fCm_clearColumn 49 = some (.iinc 6 (1), 0, 0) := rfl
theorem gCm_clearColumn_52 : fCm_clearColumn 52 = some (.goto (-34), 18, 0) := rfl
theorem gCm_clearColumn_55 : fCm_clearColumn 55 = some (.iconst 0, 0, 0) := rfl
theorem gCm_clearColumn_56 : fCm_clearColumn 56 = some (.istore 6, 0, 0) := rfl
theorem gCm_clearColumn_58 : fCm_clearColumn 58 = some (.iload 6, 0, 0) := rfl
theorem gCm_clearColumn_60 : fCm_clearColumn 60 = some (.iload_n 3, 0, 0) := rfl
theorem gCm_clearColumn_61 : fCm_clearColumn 61 = some (.if_icmp .ge (82), 143, 0) := rfl
theorem gCm_clearColumn_64 : fCm_clearColumn 64 = some (.aload_n 0, 0, 0) := rfl
theorem gCm_clearColumn_65 : fCm_clearColumn 65 = some (.getfield 36, 4, 7) := rfl
theorem gCm_clearColumn_68 : fCm_clearColumn 68 = some (.iload 6, 0, 0) := rfl
theorem gCm_clearColumn_70 : fCm_clearColumn 70 = some (.aaload, 0, 0) := rfl
theorem gCm_clearColumn_71 : fCm_clearColumn 71 = some (.iload_n 1, 0, 0) := rfl
theorem gCm_clearColumn_72 : fCm_clearColumn 72 = some (.iaload, 0, 0) := rfl
theorem gCm_clearColumn_73 : fCm_clearColumn 73 = some (.istore 7, 0, 0) := rfl
theorem gCm_clearColumn_75 : fCm_clearColumn 75 = some (.iload 6, 0, 0) := rfl
theorem gCm_clearColumn_77 : fCm_clearColumn 77 = some (.iload_n 2, 0, 0) := rfl
theorem gCm_clearColumn_78 : fCm_clearColumn 78 = some (.if_icmp .eq (59), 137, 0) := rfl
theorem gCm_clearColumn_81 : fCm_clearColumn 81 = some (.iload 7, 0, 0) := rfl
theorem gCm_clearColumn_83 : fCm_clearColumn 83 = some (.ifCond .eq (54), 137, 0) := rfl
theorem gCm_clearColumn_86 : fCm_clearColumn 86 = some (.iload_n 1, 0, 0) := rfl
theorem gCm_clearColumn_87 : fCm_clearColumn 87 = some (.istore 8, 0, 0) := rfl
theorem gCm_clearColumn_89 : fCm_clearColumn 89 = some (.iload 8, 0, 0) := rfl
theorem gCm_clearColumn_91 : fCm_clearColumn 91 = some (.iload_n 3, 0, 0) := rfl
theorem gCm_clearColumn_92 : fCm_clearColumn 92 = some (.if_icmp .ge (45), 137, 0) := rfl
theorem gCm_clearColumn_95 : fCm_clearColumn 95 = some (.aload_n 0, 0, 0) := rfl
theorem gCm_clearColumn_96 : fCm_clearColumn 96 = some (.getfield 36, 4, 7) := rfl
theorem gCm_clearColumn_99 : fCm_clearColumn 99 = some (.iload 6, 0, 0) := rfl
theorem gCm_clearColumn_101 : fCm_clearColumn 101 = some (.aaload, 0, 0) := rfl
theorem gCm_clearColumn_102 : fCm_clearColumn 102 = some (.iload 8, 0, 0) := rfl
theorem gCm_clearColumn_104 : fCm_clearColumn 104 = some (.aload 4, 0, 0) := rfl
theorem gCm_clearColumn_106 : fCm_clearColumn 106 = some (.aload_n 0, 0, 0) := rfl
theorem gCm_clearColumn_107 : fCm_clearColumn 107 = some (.getfield 36, 4, 7) := rfl
theorem gCm_clearColumn_110 : fCm_clearColumn 110 = some (.iload 6, 0, 0) := rfl
theorem gCm_clearColumn_112 : fCm_clearColumn 112 = some (.aaload, 0, 0) := rfl
theorem gCm_clearColumn_113 : fCm_clearColumn 113 = some (.iload 8, 0, 0) := rfl
theorem gCm_clearColumn_115 : fCm_clearColumn 115 = some (.iaload, 0, 0) := rfl
theorem gCm_clearColumn_116 : fCm_clearColumn 116 = some (.iload 7, 0, 0) := rfl
theorem gCm_clearColumn_118 : fCm_clearColumn 118 = some (.aload_n 0, 0, 0) := rfl
theorem gCm_clearColumn_119 : fCm_clearColumn 119 = some (.getfield 36, 4, 7) := rfl
theorem gCm_clearColumn_122 : fCm_clearColumn 122 = some (.iload_n 2, 0, 0) := rfl
theorem gCm_clearColumn_123 : fCm_clearColumn 123 = some (.aaload, 0, 0) := rfl
theorem gCm_clearColumn_124 : fCm_clearColumn 124 = some (.iload 8, 0, 0) := rfl
theorem gCm_clearColumn_126 : fCm_clearColumn 126 = some (.iaload, 0, 0) := rfl
theorem gCm_clearColumn_127 : fCm_clearColumn 127 = some (.invokevirtual 119, 103, 0) := rfl
theorem gCm_clearColumn_130 : fCm_clearColumn 130 = some (.iastore, 0, 0) := rfl
theorem gCm_clearColumn_131 : fCm_clearColumn 131 = some (.iinc 8 (1), 0, 0) := rfl
theorem gCm_clearColumn_134 : fCm_clearColumn 134 = some (.goto (-45), 89, 0) := rfl
theorem gCm_clearColumn_137 : fCm_clearColumn 137 = some (.iinc 6 (1), 0, 0) := rfl
theorem gCm_clearColumn_140 : fCm_clearColumn 140 = some (.goto (-82), 58, 0) := rfl
theorem gCm_clearColumn_143 : fCm_clearColumn 143 = some (.return_, 0, 0) := rfl
abbrev lCm_takeSolution : List (Nat × Instr × Nat × Nat) := [(0, .aload_n 0, 0, 0), (1, .getfield 27, 4, 4), (4, .iload 4, 0, 0), (6, .aaload, 0, 0), (7, .astore 6, 0, 0), (9, .aload_n 0, 0, 0), (10, .getfield 17, 4, 1), (13, .iload_n 2, 0, 0), (14, .iload_n 1, 0, 0), (15, .iadd, 0, 0), (16, .aaload, 0, 0), (17, .iconst 0, 0, 0), (18, .aload 6, 0, 0), (20, .iconst 0, 0, 0), (21, .aload_n 0, 0, 0), (22, .getfield 9, 4, 0), (25, .invokestatic 95, 900, 0), (28, .iconst 0, 0, 0), (29, .istore 7, 0, 0), (31, .iload 7, 0, 0), (33, .iload_n 3, 0, 0), (34, .if_icmp .ge (83), 117, 0), (37, .aload_n 0, 0, 0), (38, .getfield 39, 4, 8), (41, .iload 7, 0, 0), (43, .iaload, 0, 0), (44, .iconst (-1), 0, 0), (45, .if_icmp .eq (66), 111, 0), (48, .aload_n 0, 0, 0), (49, .getfield 36, 4, 7), (52, .aload_n 0, 0, 0), (53, .getfield 39, 4, 8), (56, .iload 7, 0, 0), (58, .iaload, 0, 0), (59, .aaload, 0, 0), (60, .iload_n 1, 0, 0), (61, .iaload, 0, 0), (62, .istore 8, 0, 0), (64, .iconst 0, 0, 0), (65, .istore 9, 0, 0), (67, .iload 9, 0, 0), (69, .aload_n 0, 0, 0), (70, .getfield 9, 4, 0), (73, .if_icmp .ge (38), 111, 0), (76, .aload 6, 0, 0), (78, .iload 9, 0, 0), (80, .aload 5, 0, 0), (82, .aload 6, 0, 0), (84, .iload 9, 0, 0), (86, .iaload, 0, 0), (87, .iload 8, 0, 0), (89, .aload_n 0, 0, 0), (90, .getfield 17, 4, 1), (93, .iload_n 2, 0, 0), (94, .iload 7, 0, 0), (96, .iadd, 0, 0), (97, .aaload, 0, 0), (98, .iload 9, 0, 0), (100, .iaload, 0, 0), (101, .invokevirtual 119, 103, 0), (104, .iastore, 0, 0), (105, .iinc 9 (1), 0, 0), (108, .goto (-41), 67, 0), (111, .iinc 7 (1), 0, 0), (114, .goto (-83), 31, 0), (117, .aload_n 0, 0, 0), (118, .getfield 30, 4, 5), (121, .iload 4, 0, 0), (123, .aload_n 0, 0, 0), (124, .getfield 20, 4, 2), (127, .iload_n 2, 0, 0), (128, .iload_n 1, 0, 0), (129, .iadd, 0, 0), (130, .iaload, 0, 0), (131, .iastore, 0, 0), (132, .return_, 0, 0)]
def fCm_takeSolution : sx_F := sx_tab lCm_takeSolution
theorem kCm_takeSolution : sx_chk "ClassCharacters$CentralMaps" (wy yCm_takeSolution prog_2_method_10_code 10 none) 10 prog_2_method_10_code lCm_takeSolution = true := by decide +kernel
theorem gCm_takeSolution_0 : fCm_takeSolution 0 = some (.aload_n 0, 0, 0) := rfl
theorem gCm_takeSolution_1 : fCm_takeSolution 1 = some (.getfield 27, 4, 4) := rfl
theorem gCm_takeSolution_4 : fCm_takeSolution 4 = some (.iload 4, 0, 0) := rfl
theorem gCm_takeSolution_6 : fCm_takeSolution 6 = some (.aaload, 0, 0) := rfl
theorem gCm_takeSolution_7 : fCm_takeSolution 7 = some (.astore 6, 0, 0) := rfl
theorem gCm_takeSolution_9 : fCm_takeSolution 9 = some (.aload_n 0, 0, 0) := rfl
theorem gCm_takeSolution_10 : fCm_takeSolution 10 = some (.getfield 17, 4, 1) := rfl
theorem gCm_takeSolution_13 : fCm_takeSolution 13 = some (.iload_n 2, 0, 0) := rfl
theorem gCm_takeSolution_14 : fCm_takeSolution 14 = some (.iload_n 1, 0, 0) := rfl
theorem gCm_takeSolution_15 : fCm_takeSolution 15 = some (.iadd, 0, 0) := rfl
theorem gCm_takeSolution_16 : fCm_takeSolution 16 = some (.aaload, 0, 0) := rfl
theorem gCm_takeSolution_17 : fCm_takeSolution 17 = some (.iconst 0, 0, 0) := rfl
theorem gCm_takeSolution_18 : fCm_takeSolution 18 = some (.aload 6, 0, 0) := rfl
theorem gCm_takeSolution_20 : fCm_takeSolution 20 = some (.iconst 0, 0, 0) := rfl
theorem gCm_takeSolution_21 : fCm_takeSolution 21 = some (.aload_n 0, 0, 0) := rfl
theorem gCm_takeSolution_22 : fCm_takeSolution 22 = some (.getfield 9, 4, 0) := rfl
theorem gCm_takeSolution_25 : fCm_takeSolution 25 = some (.invokestatic 95, 900, 0) := rfl
theorem gCm_takeSolution_28 : fCm_takeSolution 28 = some (.iconst 0, 0, 0) := rfl
theorem gCm_takeSolution_29 : fCm_takeSolution 29 = some (.istore 7, 0, 0) := rfl
theorem gCm_takeSolution_31 : fCm_takeSolution 31 = some (.iload 7, 0, 0) := rfl
theorem gCm_takeSolution_33 : fCm_takeSolution 33 = some (.iload_n 3, 0, 0) := rfl
theorem gCm_takeSolution_34 : fCm_takeSolution 34 = some (.if_icmp .ge (83), 117, 0) := rfl
theorem gCm_takeSolution_37 : fCm_takeSolution 37 = some (.aload_n 0, 0, 0) := rfl
theorem gCm_takeSolution_38 : fCm_takeSolution 38 = some (.getfield 39, 4, 8) := rfl
theorem gCm_takeSolution_41 : fCm_takeSolution 41 = some (.iload 7, 0, 0) := rfl
theorem gCm_takeSolution_43 : fCm_takeSolution 43 = some (.iaload, 0, 0) := rfl
theorem gCm_takeSolution_44 : fCm_takeSolution 44 = some (.iconst (-1), 0, 0) := rfl
theorem gCm_takeSolution_45 : fCm_takeSolution 45 = some (.if_icmp .eq (66), 111, 0) := rfl
theorem gCm_takeSolution_48 : fCm_takeSolution 48 = some (.aload_n 0, 0, 0) := rfl
theorem gCm_takeSolution_49 : fCm_takeSolution 49 = some (.getfield 36, 4, 7) := rfl
theorem gCm_takeSolution_52 : fCm_takeSolution 52 = some (.aload_n 0, 0, 0) := rfl
theorem gCm_takeSolution_53 : fCm_takeSolution 53 = some (.getfield 39, 4, 8) := rfl
theorem gCm_takeSolution_56 : fCm_takeSolution 56 = some (.iload 7, 0, 0) := rfl
theorem gCm_takeSolution_58 : fCm_takeSolution 58 = some (.iaload, 0, 0) := rfl
theorem gCm_takeSolution_59 : fCm_takeSolution 59 = some (.aaload, 0, 0) := rfl
theorem gCm_takeSolution_60 : fCm_takeSolution 60 = some (.iload_n 1, 0, 0) := rfl
theorem gCm_takeSolution_61 : fCm_takeSolution 61 = some (.iaload, 0, 0) := rfl
theorem gCm_takeSolution_62 : fCm_takeSolution 62 = some (.istore 8, 0, 0) := rfl
theorem gCm_takeSolution_64 : fCm_takeSolution 64 = some (.iconst 0, 0, 0) := rfl
theorem gCm_takeSolution_65 : fCm_takeSolution 65 = some (.istore 9, 0, 0) := rfl
theorem gCm_takeSolution_67 : fCm_takeSolution 67 = some (.iload 9, 0, 0) := rfl
theorem gCm_takeSolution_69 : fCm_takeSolution 69 = some (.aload_n 0, 0, 0) := rfl
theorem gCm_takeSolution_70 : fCm_takeSolution 70 = some (.getfield 9, 4, 0) := rfl
theorem gCm_takeSolution_73 : fCm_takeSolution 73 = some (.if_icmp .ge (38), 111, 0) := rfl
theorem gCm_takeSolution_76 : fCm_takeSolution 76 = some (.aload 6, 0, 0) := rfl
theorem gCm_takeSolution_78 : fCm_takeSolution 78 = some (.iload 9, 0, 0) := rfl
theorem gCm_takeSolution_80 : fCm_takeSolution 80 = some (.aload 5, 0, 0) := rfl
theorem gCm_takeSolution_82 : fCm_takeSolution 82 = some (.aload 6, 0, 0) := rfl
theorem gCm_takeSolution_84 : fCm_takeSolution 84 = some (.iload 9, 0, 0) := rfl
theorem gCm_takeSolution_86 : fCm_takeSolution 86 = some (.iaload, 0, 0) := rfl
theorem gCm_takeSolution_87 : fCm_takeSolution 87 = some (.iload 8, 0, 0) := rfl
theorem gCm_takeSolution_89 : fCm_takeSolution 89 = some (.aload_n 0, 0, 0) := rfl
theorem gCm_takeSolution_90 : fCm_takeSolution 90 = some (.getfield 17, 4, 1) := rfl
theorem gCm_takeSolution_93 : fCm_takeSolution 93 = some (.iload_n 2, 0, 0) := rfl
theorem gCm_takeSolution_94 : fCm_takeSolution 94 = some (.iload 7, 0, 0) := rfl
theorem gCm_takeSolution_96 : fCm_takeSolution 96 = some (.iadd, 0, 0) := rfl
theorem gCm_takeSolution_97 : fCm_takeSolution 97 = some (.aaload, 0, 0) := rfl
theorem gCm_takeSolution_98 : fCm_takeSolution 98 = some (.iload 9, 0, 0) := rfl
theorem gCm_takeSolution_100 : fCm_takeSolution 100 = some (.iaload, 0, 0) := rfl
theorem gCm_takeSolution_101 : fCm_takeSolution 101 = some (.invokevirtual 119, 103, 0) := rfl
theorem gCm_takeSolution_104 : fCm_takeSolution 104 = some (.iastore, 0, 0) := rfl
theorem gCm_takeSolution_105 : fCm_takeSolution 105 = some (.iinc 9 (1), 0, 0) := rfl
theorem gCm_takeSolution_108 : fCm_takeSolution 108 = some (.goto (-41), 67, 0) := rfl
theorem gCm_takeSolution_111 : fCm_takeSolution 111 = some (.iinc 7 (1), 0, 0) := rfl
theorem gCm_takeSolution_114 : fCm_takeSolution 114 = some (.goto (-83), 31, 0) := rfl
theorem gCm_takeSolution_117 : fCm_takeSolution 117 = some (.aload_n 0, 0, 0) := rfl
theorem gCm_takeSolution_118 : fCm_takeSolution 118 = some (.getfield 30, 4, 5) := rfl
theorem gCm_takeSolution_121 : fCm_takeSolution 121 = some (.iload 4, 0, 0) := rfl
theorem gCm_takeSolution_123 : fCm_takeSolution 123 = some (.aload_n 0, 0, 0) := rfl
theorem gCm_takeSolution_124 : fCm_takeSolution 124 = some (.getfield 20, 4, 2) := rfl
theorem gCm_takeSolution_127 : fCm_takeSolution 127 = some (.iload_n 2, 0, 0) := rfl
theorem gCm_takeSolution_128 : fCm_takeSolution 128 = some (.iload_n 1, 0, 0) := rfl
theorem gCm_takeSolution_129 : fCm_takeSolution 129 = some (.iadd, 0, 0) := rfl
theorem gCm_takeSolution_130 : fCm_takeSolution 130 = some (.iaload, 0, 0) := rfl
theorem gCm_takeSolution_131 : fCm_takeSolution 131 = some (.iastore, 0, 0) := rfl
theorem gCm_takeSolution_132 : fCm_takeSolution 132 = some (.return_, 0, 0) := rfl
abbrev lCm_scale : List (Nat × Instr × Nat × Nat) := [(0, .iconst 0, 0, 0), (1, .istore_n 2, 0, 0), (2, .iload_n 2, 0, 0), (3, .aload_n 0, 0, 0), (4, .getfield 9, 4, 0), (7, .if_icmp .ge (63), 70, 0), (10, .aload_n 1, 0, 0), (11, .aload_n 0, 0, 0), (12, .getfield 17, 4, 1), (15, .iload_n 2, 0, 0), (16, .aaload, 0, 0), (17, .iconst 0, 0, 0), (18, .iaload, 0, 0), (19, .invokevirtual 113, 105, 0), (22, .istore_n 3, 0, 0), (23, .iconst 0, 0, 0), (24, .istore 4, 0, 0), (26, .iload 4, 0, 0), (28, .aload_n 0, 0, 0), (29, .getfield 9, 4, 0), (32, .if_icmp .ge (32), 64, 0), (35, .aload_n 0, 0, 0), (36, .getfield 17, 4, 1), (39, .iload_n 2, 0, 0), (40, .aaload, 0, 0), (41, .iload 4, 0, 0), (43, .aload_n 1, 0, 0), (44, .aload_n 0, 0, 0), (45, .getfield 17, 4, 1), (48, .iload_n 2, 0, 0), (49, .aaload, 0, 0), (50, .iload 4, 0, 0), (52, .iaload, 0, 0), (53, .iload_n 3, 0, 0), (54, .invokevirtual 116, 101, 0), (57, .iastore, 0, 0), (58, .iinc 4 (1), 0, 0), (61, .goto (-35), 26, 0), (64, .iinc 2 (1), 0, 0), (67, .goto (-65), 2, 0), (70, .return_, 0, 0)]
def fCm_scale : sx_F := sx_tab lCm_scale
theorem kCm_scale : sx_chk "ClassCharacters$CentralMaps" (wy yCm_scale prog_2_method_11_code 5 none) 5 prog_2_method_11_code lCm_scale = true := by decide +kernel
theorem gCm_scale_0 : fCm_scale 0 = some (.iconst 0, 0, 0) := rfl
theorem gCm_scale_1 : fCm_scale 1 = some (.istore_n 2, 0, 0) := rfl
theorem gCm_scale_2 : fCm_scale 2 = some (.iload_n 2, 0, 0) := rfl
theorem gCm_scale_3 : fCm_scale 3 = some (.aload_n 0, 0, 0) := rfl
theorem gCm_scale_4 : fCm_scale 4 = some (.getfield 9, 4, 0) := rfl
theorem gCm_scale_7 : fCm_scale 7 = some (.if_icmp .ge (63), 70, 0) := rfl
theorem gCm_scale_10 : fCm_scale 10 = some (.aload_n 1, 0, 0) := rfl
theorem gCm_scale_11 : fCm_scale 11 = some (.aload_n 0, 0, 0) := rfl
theorem gCm_scale_12 : fCm_scale 12 = some (.getfield 17, 4, 1) := rfl
theorem gCm_scale_15 : fCm_scale 15 = some (.iload_n 2, 0, 0) := rfl
theorem gCm_scale_16 : fCm_scale 16 = some (.aaload, 0, 0) := rfl
theorem gCm_scale_17 : fCm_scale 17 = some (.iconst 0, 0, 0) := rfl
theorem gCm_scale_18 : fCm_scale 18 = some (.iaload, 0, 0) := rfl
theorem gCm_scale_19 : fCm_scale 19 = some (.invokevirtual 113, 105, 0) := rfl
theorem gCm_scale_22 : fCm_scale 22 = some (.istore_n 3, 0, 0) := rfl
theorem gCm_scale_23 : fCm_scale 23 = some (.iconst 0, 0, 0) := rfl
theorem gCm_scale_24 : fCm_scale 24 = some (.istore 4, 0, 0) := rfl
theorem gCm_scale_26 : fCm_scale 26 = some (.iload 4, 0, 0) := rfl
theorem gCm_scale_28 : fCm_scale 28 = some (.aload_n 0, 0, 0) := rfl
theorem gCm_scale_29 : fCm_scale 29 = some (.getfield 9, 4, 0) := rfl
theorem gCm_scale_32 : fCm_scale 32 = some (.if_icmp .ge (32), 64, 0) := rfl
theorem gCm_scale_35 : fCm_scale 35 = some (.aload_n 0, 0, 0) := rfl
theorem gCm_scale_36 : fCm_scale 36 = some (.getfield 17, 4, 1) := rfl
theorem gCm_scale_39 : fCm_scale 39 = some (.iload_n 2, 0, 0) := rfl
theorem gCm_scale_40 : fCm_scale 40 = some (.aaload, 0, 0) := rfl
theorem gCm_scale_41 : fCm_scale 41 = some (.iload 4, 0, 0) := rfl
theorem gCm_scale_43 : fCm_scale 43 = some (.aload_n 1, 0, 0) := rfl
theorem gCm_scale_44 : fCm_scale 44 = some (.aload_n 0, 0, 0) := rfl
theorem gCm_scale_45 : fCm_scale 45 = some (.getfield 17, 4, 1) := rfl
theorem gCm_scale_48 : fCm_scale 48 = some (.iload_n 2, 0, 0) := rfl
theorem gCm_scale_49 : fCm_scale 49 = some (.aaload, 0, 0) := rfl
theorem gCm_scale_50 : fCm_scale 50 = some (.iload 4, 0, 0) := rfl
theorem gCm_scale_52 : fCm_scale 52 = some (.iaload, 0, 0) := rfl
theorem gCm_scale_53 : fCm_scale 53 = some (.iload_n 3, 0, 0) := rfl
theorem gCm_scale_54 : fCm_scale 54 = some (.invokevirtual 116, 101, 0) := rfl
theorem gCm_scale_57 : fCm_scale 57 = some (.iastore, 0, 0) := rfl
theorem gCm_scale_58 : fCm_scale 58 = some (.iinc 4 (1), 0, 0) := rfl
theorem gCm_scale_61 : fCm_scale 61 = some (.goto (-35), 26, 0) := rfl
theorem gCm_scale_64 : fCm_scale 64 = some (.iinc 2 (1), 0, 0) := rfl
theorem gCm_scale_67 : fCm_scale 67 = some (.goto (-65), 2, 0) := rfl
theorem gCm_scale_70 : fCm_scale 70 = some (.return_, 0, 0) := rfl
end
section
abbrev lRo_make : List (Nat × Instr × Nat × Nat) := [(0, .aload_n 0, 0, 0), (1, .aload_n 3, 0, 0), (2, .getfield 39, 2, 0), (5, .putfield 9, 5, 0), (8, .iconst 0, 0, 0), (9, .istore 5, 0, 0), (11, .iload 5, 0, 0), (13, .aload_n 0, 0, 0), (14, .getfield 9, 5, 0), (17, .if_icmp .ge (48), 65, 0), (20, .aload_n 0, 0, 0), (21, .iload 5, 0, 0), (23, .iload_n 1, 0, 0), (24, .aload_n 2, 0, 0), (25, .getfield 42, 4, 1), (28, .iload 5, 0, 0), (30, .aaload, 0, 0), (31, .aload_n 3, 0, 0), (32, .aload 4, 0, 0), (34, .invokevirtual 47, 108, 0), (37, .aload_n 0, 0, 0), (38, .iload 5, 0, 0), (40, .iload_n 1, 0, 0), (41, .aload_n 3, 0, 0), (42, .aload 4, 0, 0), (44, .invokevirtual 51, 110, 0), (47, .aload_n 0, 0, 0), (48, .iload 5, 0, 0), (50, .invokevirtual 55, 111, 0), (53, .aload_n 0, 0, 0), (54, .iload 5, 0, 0), (56, .invokevirtual 59, 112, 0), (59, .iinc 5 (1), 0, 0), (62, .goto (-51), 11, 0), (65, .aload_n 0, 0, 0), (66, .invokevirtual 62, 114, 0), (69, .return_, 0, 0)]
def fRo_make : sx_F := sx_tab lRo_make
theorem kRo_make : sx_chk "ClassCharacters$Rows" (wy yRo_make prog_7_method_2_code 6 none) 6 prog_7_method_2_code lRo_make = true := by decide +kernel
theorem gRo_make_0 : fRo_make 0 = some (.aload_n 0, 0, 0) := rfl
theorem gRo_make_1 : fRo_make 1 = some (.aload_n 3, 0, 0) := rfl
theorem gRo_make_2 : fRo_make 2 = some (.getfield 39, 2, 0) := rfl
theorem gRo_make_5 : fRo_make 5 = some (.putfield 9, 5, 0) := rfl
theorem gRo_make_8 : fRo_make 8 = some (.iconst 0, 0, 0) := rfl
theorem gRo_make_9 : fRo_make 9 = some (.istore 5, 0, 0) := rfl
theorem gRo_make_11 : fRo_make 11 = some (.iload 5, 0, 0) := rfl
theorem gRo_make_13 : fRo_make 13 = some (.aload_n 0, 0, 0) := rfl
theorem gRo_make_14 : fRo_make 14 = some (.getfield 9, 5, 0) := rfl
theorem gRo_make_17 : fRo_make 17 = some (.if_icmp .ge (48), 65, 0) := rfl
theorem gRo_make_20 : fRo_make 20 = some (.aload_n 0, 0, 0) := rfl
theorem gRo_make_21 : fRo_make 21 = some (.iload 5, 0, 0) := rfl
theorem gRo_make_23 : fRo_make 23 = some (.iload_n 1, 0, 0) := rfl
theorem gRo_make_24 : fRo_make 24 = some (.aload_n 2, 0, 0) := rfl
theorem gRo_make_25 : fRo_make 25 = some (.getfield 42, 4, 1) := rfl
theorem gRo_make_28 : fRo_make 28 = some (.iload 5, 0, 0) := rfl
theorem gRo_make_30 : fRo_make 30 = some (.aaload, 0, 0) := rfl
theorem gRo_make_31 : fRo_make 31 = some (.aload_n 3, 0, 0) := rfl
theorem gRo_make_32 : fRo_make 32 = some (.aload 4, 0, 0) := rfl
theorem gRo_make_34 : fRo_make 34 = some (.invokevirtual 47, 108, 0) := rfl
theorem gRo_make_37 : fRo_make 37 = some (.aload_n 0, 0, 0) := rfl
theorem gRo_make_38 : fRo_make 38 = some (.iload 5, 0, 0) := rfl
theorem gRo_make_40 : fRo_make 40 = some (.iload_n 1, 0, 0) := rfl
theorem gRo_make_41 : fRo_make 41 = some (.aload_n 3, 0, 0) := rfl
theorem gRo_make_42 : fRo_make 42 = some (.aload 4, 0, 0) := rfl
theorem gRo_make_44 : fRo_make 44 = some (.invokevirtual 51, 110, 0) := rfl
theorem gRo_make_47 : fRo_make 47 = some (.aload_n 0, 0, 0) := rfl
theorem gRo_make_48 : fRo_make 48 = some (.iload 5, 0, 0) := rfl
theorem gRo_make_50 : fRo_make 50 = some (.invokevirtual 55, 111, 0) := rfl
theorem gRo_make_53 : fRo_make 53 = some (.aload_n 0, 0, 0) := rfl
theorem gRo_make_54 : fRo_make 54 = some (.iload 5, 0, 0) := rfl
theorem gRo_make_56 : fRo_make 56 = some (.invokevirtual 59, 112, 0) := rfl
theorem gRo_make_59 : fRo_make 59 = some (.iinc 5 (1), 0, 0) := rfl
theorem gRo_make_62 : fRo_make 62 = some (.goto (-51), 11, 0) := rfl
theorem gRo_make_65 : fRo_make 65 = some (.aload_n 0, 0, 0) := rfl
theorem gRo_make_66 : fRo_make 66 = some (.invokevirtual 62, 114, 0) := rfl
theorem gRo_make_69 : fRo_make 69 = some (.return_, 0, 0) := rfl
abbrev lRo_setValues : List (Nat × Instr × Nat × Nat) := [(0, .iconst 0, 0, 0), (1, .istore 6, 0, 0), (3, .iconst 0, 0, 0), (4, .istore 7, 0, 0), (6, .iload 7, 0, 0), (8, .aload_n 0, 0, 0), (9, .getfield 9, 5, 0), (12, .if_icmp .ge (59), 71, 0), (15, .aload 5, 0, 0), (17, .aload_n 3, 0, 0), (18, .iload 7, 0, 0), (20, .iaload, 0, 0), (21, .aload 4, 0, 0), (23, .getfield 65, 2, 2), (26, .iload 7, 0, 0), (28, .iaload, 0, 0), (29, .invokevirtual 68, 104, 0), (32, .istore 8, 0, 0), (34, .aload_n 0, 0, 0), (35, .getfield 21, 5, 2), (38, .iload_n 1, 0, 0), (39, .aaload, 0, 0), (40, .iload 7, 0, 0), (42, .iload 8, 0, 0), (44, .iastore, 0, 0), (45, .aload 5, 0, 0), (47, .iload 6, 0, 0), (49, .iload 8, 0, 0), (51, .aload_n 3, 0, 0), (52, .aload 4, 0, 0), (54, .iload 7, 0, 0), (56, .invokevirtual 74, 89, 0), (59, .iaload, 0, 0), (60, .invokevirtual 78, 102, 0), (63, .istore 6, 0, 0), (65, .iinc 7 (1), 0, 0), (68, .goto (-62), 6, 0), (71, .aload_n 0, 0, 0), (72, .getfield 15, 5, 1), (75, .iload_n 1, 0, 0), (76, .iload 6, 0, 0), (78, .iload_n 2, 0, 0), (79, .aload 5, 0, 0), (81, .invokestatic 82, 109, 0), (84, .iastore, 0, 0), (85, .iconst 0, 0, 0), (86, .istore 7, 0, 0), (88, .iload 7, 0, 0), (90, .aload_n 0, 0, 0), (91, .getfield 9, 5, 0), (94, .if_icmp .ge (38), 132, 0), (97, .aload_n 0, 0, 0), (98, .getfield 21, 5, 2), (101, .iload_n 1, 0, 0), (102, .aaload, 0, 0), (103, .iload 7, 0, 0), (105, .aload 5, 0, 0), (107, .aload_n 0, 0, 0), (108, .getfield 21, 5, 2), (111, .iload_n 1, 0, 0), (112, .aaload, 0, 0), (113, .iload 7, 0, 0), (115, .iaload, 0, 0), (116, .aload_n 0, 0, 0), (117, .getfield 15, 5, 1), (120, .iload_n 1, 0, 0), (121, .iaload, 0, 0), (122, .invokevirtual 86, 101, 0), (125, .iastore, 0, 0), (126, .iinc 7 (1), 0, 0), (129, .goto (-41), 88, 0), (132, .return_, 0, 0)]
def fRo_setValues : sx_F := sx_tab lRo_setValues
theorem kRo_setValues : sx_chk "ClassCharacters$Rows" (wy yRo_setValues prog_7_method_3_code 9 none) 9 prog_7_method_3_code lRo_setValues = true := by decide +kernel
theorem gRo_setValues_0 : fRo_setValues 0 = some (.iconst 0, 0, 0) := rfl
theorem gRo_setValues_1 : fRo_setValues 1 = some (.istore 6, 0, 0) := rfl
theorem gRo_setValues_3 : fRo_setValues 3 = some (.iconst 0, 0, 0) := rfl
theorem gRo_setValues_4 : fRo_setValues 4 = some (.istore 7, 0, 0) := rfl
theorem gRo_setValues_6 : fRo_setValues 6 = some (.iload 7, 0, 0) := rfl
theorem gRo_setValues_8 : fRo_setValues 8 = some (.aload_n 0, 0, 0) := rfl
theorem gRo_setValues_9 : fRo_setValues 9 = some (.getfield 9, 5, 0) := rfl
theorem gRo_setValues_12 : fRo_setValues 12 = some (.if_icmp .ge (59), 71, 0) := rfl
theorem gRo_setValues_15 : fRo_setValues 15 = some (.aload 5, 0, 0) := rfl
theorem gRo_setValues_17 : fRo_setValues 17 = some (.aload_n 3, 0, 0) := rfl
theorem gRo_setValues_18 : fRo_setValues 18 = some (.iload 7, 0, 0) := rfl
theorem gRo_setValues_20 : fRo_setValues 20 = some (.iaload, 0, 0) := rfl
theorem gRo_setValues_21 : fRo_setValues 21 = some (.aload 4, 0, 0) := rfl
theorem gRo_setValues_23 : fRo_setValues 23 = some (.getfield 65, 2, 2) := rfl
theorem gRo_setValues_26 : fRo_setValues 26 = some (.iload 7, 0, 0) := rfl
theorem gRo_setValues_28 : fRo_setValues 28 = some (.iaload, 0, 0) := rfl
theorem gRo_setValues_29 : fRo_setValues 29 = some (.invokevirtual 68, 104, 0) := rfl
theorem gRo_setValues_32 : fRo_setValues 32 = some (.istore 8, 0, 0) := rfl
theorem gRo_setValues_34 : fRo_setValues 34 = some (.aload_n 0, 0, 0) := rfl
theorem gRo_setValues_35 : fRo_setValues 35 = some (.getfield 21, 5, 2) := rfl
theorem gRo_setValues_38 : fRo_setValues 38 = some (.iload_n 1, 0, 0) := rfl
theorem gRo_setValues_39 : fRo_setValues 39 = some (.aaload, 0, 0) := rfl
theorem gRo_setValues_40 : fRo_setValues 40 = some (.iload 7, 0, 0) := rfl
theorem gRo_setValues_42 : fRo_setValues 42 = some (.iload 8, 0, 0) := rfl
theorem gRo_setValues_44 : fRo_setValues 44 = some (.iastore, 0, 0) := rfl
theorem gRo_setValues_45 : fRo_setValues 45 = some (.aload 5, 0, 0) := rfl
theorem gRo_setValues_47 : fRo_setValues 47 = some (.iload 6, 0, 0) := rfl
theorem gRo_setValues_49 : fRo_setValues 49 = some (.iload 8, 0, 0) := rfl
theorem gRo_setValues_51 : fRo_setValues 51 = some (.aload_n 3, 0, 0) := rfl
theorem gRo_setValues_52 : fRo_setValues 52 = some (.aload 4, 0, 0) := rfl
theorem gRo_setValues_54 : fRo_setValues 54 = some (.iload 7, 0, 0) := rfl
theorem gRo_setValues_56 : fRo_setValues 56 = some (.invokevirtual 74, 89, 0) := rfl
theorem gRo_setValues_59 : fRo_setValues 59 = some (.iaload, 0, 0) := rfl
theorem gRo_setValues_60 : fRo_setValues 60 = some (.invokevirtual 78, 102, 0) := rfl
theorem gRo_setValues_63 : fRo_setValues 63 = some (.istore 6, 0, 0) := rfl
theorem gRo_setValues_65 : fRo_setValues 65 = some (.iinc 7 (1), 0, 0) := rfl
theorem gRo_setValues_68 : fRo_setValues 68 = some (.goto (-62), 6, 0) := rfl
theorem gRo_setValues_71 : fRo_setValues 71 = some (.aload_n 0, 0, 0) := rfl
theorem gRo_setValues_72 : fRo_setValues 72 = some (.getfield 15, 5, 1) := rfl
theorem gRo_setValues_75 : fRo_setValues 75 = some (.iload_n 1, 0, 0) := rfl
theorem gRo_setValues_76 : fRo_setValues 76 = some (.iload 6, 0, 0) := rfl
theorem gRo_setValues_78 : fRo_setValues 78 = some (.iload_n 2, 0, 0) := rfl
theorem gRo_setValues_79 : fRo_setValues 79 = some (.aload 5, 0, 0) := rfl
theorem gRo_setValues_81 : fRo_setValues 81 = some (.invokestatic 82, 109, 0) := rfl
theorem gRo_setValues_84 : fRo_setValues 84 = some (.iastore, 0, 0) := rfl
theorem gRo_setValues_85 : fRo_setValues 85 = some (.iconst 0, 0, 0) := rfl
theorem gRo_setValues_86 : fRo_setValues 86 = some (.istore 7, 0, 0) := rfl
theorem gRo_setValues_88 : fRo_setValues 88 = some (.iload 7, 0, 0) := rfl
theorem gRo_setValues_90 : fRo_setValues 90 = some (.aload_n 0, 0, 0) := rfl
theorem gRo_setValues_91 : fRo_setValues 91 = some (.getfield 9, 5, 0) := rfl
theorem gRo_setValues_94 : fRo_setValues 94 = some (.if_icmp .ge (38), 132, 0) := rfl
theorem gRo_setValues_97 : fRo_setValues 97 = some (.aload_n 0, 0, 0) := rfl
theorem gRo_setValues_98 : fRo_setValues 98 = some (.getfield 21, 5, 2) := rfl
theorem gRo_setValues_101 : fRo_setValues 101 = some (.iload_n 1, 0, 0) := rfl
theorem gRo_setValues_102 : fRo_setValues 102 = some (.aaload, 0, 0) := rfl
theorem gRo_setValues_103 : fRo_setValues 103 = some (.iload 7, 0, 0) := rfl
theorem gRo_setValues_105 : fRo_setValues 105 = some (.aload 5, 0, 0) := rfl
theorem gRo_setValues_107 : fRo_setValues 107 = some (.aload_n 0, 0, 0) := rfl
theorem gRo_setValues_108 : fRo_setValues 108 = some (.getfield 21, 5, 2) := rfl
theorem gRo_setValues_111 : fRo_setValues 111 = some (.iload_n 1, 0, 0) := rfl
theorem gRo_setValues_112 : fRo_setValues 112 = some (.aaload, 0, 0) := rfl
theorem gRo_setValues_113 : fRo_setValues 113 = some (.iload 7, 0, 0) := rfl
theorem gRo_setValues_115 : fRo_setValues 115 = some (.iaload, 0, 0) := rfl
theorem gRo_setValues_116 : fRo_setValues 116 = some (.aload_n 0, 0, 0) := rfl
theorem gRo_setValues_117 : fRo_setValues 117 = some (.getfield 15, 5, 1) := rfl
theorem gRo_setValues_120 : fRo_setValues 120 = some (.iload_n 1, 0, 0) := rfl
theorem gRo_setValues_121 : fRo_setValues 121 = some (.iaload, 0, 0) := rfl
theorem gRo_setValues_122 : fRo_setValues 122 = some (.invokevirtual 86, 101, 0) := rfl
theorem gRo_setValues_125 : fRo_setValues 125 = some (.iastore, 0, 0) := rfl
theorem gRo_setValues_126 : fRo_setValues 126 = some (.iinc 7 (1), 0, 0) := rfl
theorem gRo_setValues_129 : fRo_setValues 129 = some (.goto (-41), 88, 0) := rfl
theorem gRo_setValues_132 : fRo_setValues 132 = some (.return_, 0, 0) := rfl
abbrev lRo_degreeFor : List (Nat × Instr × Nat × Nat) := [(0, .aload_n 2, 0, 0), (1, .iload_n 1, 0, 0), (2, .invokevirtual 89, 100, 0), (5, .istore_n 3, 0, 0), (6, .aload_n 2, 0, 0), (7, .getfield 92, 3, 0), (10, .iconst 1, 0, 0), (11, .isub, 0, 0), (12, .iconst 2, 0, 0), (13, .idiv, 0, 0), (14, .istore 4, 0, 0), (16, .iconst 1, 0, 0), (17, .istore 5, 0, 0), (19, .iload 5, 0, 0), (21, .iload 4, 0, 0), (23, .if_icmp .ge (26), 49, 0), (26, .aload_n 2, 0, 0), (27, .aload_n 2, 0, 0), (28, .iload 5, 0, 0), (30, .iload 5, 0, 0), (32, .invokevirtual 86, 101, 0), (35, .iload_n 0, 0, 0), (36, .invokevirtual 86, 101, 0), (39, .iload_n 3, 0, 0), (40, .if_icmp .eq (9), 49, 0), (43, .iinc 5 (1), 0, 0), (46, .goto (-27), 19, 0), (49, .iload 5, 0, 0), (51, .ireturn, 0, 0)]
def fRo_degreeFor : sx_F := sx_tab lRo_degreeFor
theorem kRo_degreeFor : sx_chk "ClassCharacters$Rows" (wy yRo_degreeFor prog_7_method_4_code 6 (some .int)) 6 prog_7_method_4_code lRo_degreeFor = true := by decide +kernel
theorem gRo_degreeFor_0 : fRo_degreeFor 0 = some (.aload_n 2, 0, 0) := rfl
theorem gRo_degreeFor_1 : fRo_degreeFor 1 = some (.iload_n 1, 0, 0) := rfl
theorem gRo_degreeFor_2 : fRo_degreeFor 2 = some (.invokevirtual 89, 100, 0) := rfl
theorem gRo_degreeFor_5 : fRo_degreeFor 5 = some (.istore_n 3, 0, 0) := rfl
theorem gRo_degreeFor_6 : fRo_degreeFor 6 = some (.aload_n 2, 0, 0) := rfl
theorem gRo_degreeFor_7 : fRo_degreeFor 7 = some (.getfield 92, 3, 0) := rfl
theorem gRo_degreeFor_10 : fRo_degreeFor 10 = some (.iconst 1, 0, 0) := rfl
theorem gRo_degreeFor_11 : fRo_degreeFor 11 = some (.isub, 0, 0) := rfl
theorem gRo_degreeFor_12 : fRo_degreeFor 12 = some (.iconst 2, 0, 0) := rfl
theorem gRo_degreeFor_13 : fRo_degreeFor 13 = some (.idiv, 0, 0) := rfl
theorem gRo_degreeFor_14 : fRo_degreeFor 14 = some (.istore 4, 0, 0) := rfl
theorem gRo_degreeFor_16 : fRo_degreeFor 16 = some (.iconst 1, 0, 0) := rfl
theorem gRo_degreeFor_17 : fRo_degreeFor 17 = some (.istore 5, 0, 0) := rfl
theorem gRo_degreeFor_19 : fRo_degreeFor 19 = some (.iload 5, 0, 0) := rfl
theorem gRo_degreeFor_21 : fRo_degreeFor 21 = some (.iload 4, 0, 0) := rfl
theorem gRo_degreeFor_23 : fRo_degreeFor 23 = some (.if_icmp .ge (26), 49, 0) := rfl
theorem gRo_degreeFor_26 : fRo_degreeFor 26 = some (.aload_n 2, 0, 0) := rfl
theorem gRo_degreeFor_27 : fRo_degreeFor 27 = some (.aload_n 2, 0, 0) := rfl
theorem gRo_degreeFor_28 : fRo_degreeFor 28 = some (.iload 5, 0, 0) := rfl
theorem gRo_degreeFor_30 : fRo_degreeFor 30 = some (.iload 5, 0, 0) := rfl
theorem gRo_degreeFor_32 : fRo_degreeFor 32 = some (.invokevirtual 86, 101, 0) := rfl
theorem gRo_degreeFor_35 : fRo_degreeFor 35 = some (.iload_n 0, 0, 0) := rfl
theorem gRo_degreeFor_36 : fRo_degreeFor 36 = some (.invokevirtual 86, 101, 0) := rfl
theorem gRo_degreeFor_39 : fRo_degreeFor 39 = some (.iload_n 3, 0, 0) := rfl
theorem gRo_degreeFor_40 : fRo_degreeFor 40 = some (.if_icmp .eq (9), 49, 0) := rfl
theorem gRo_degreeFor_43 : fRo_degreeFor 43 = some (.iinc 5 (1), 0, 0) := rfl
theorem gRo_degreeFor_46 : fRo_degreeFor 46 = some (.goto (-27), 19, 0) := rfl
theorem gRo_degreeFor_49 : fRo_degreeFor 49 = some (.iload 5, 0, 0) := rfl
theorem gRo_degreeFor_51 : fRo_degreeFor 51 = some (.ireturn, 0, 0) := rfl
abbrev lRo_setIndicator : List (Nat × Instr × Nat × Nat) := [(0, .iconst 0, 0, 0), (1, .istore 5, 0, 0), (3, .iconst 0, 0, 0), (4, .istore 6, 0, 0), (6, .iload 6, 0, 0), (8, .aload_n 0, 0, 0), (9, .getfield 9, 5, 0), (12, .if_icmp .ge (43), 55, 0), (15, .aload_n 3, 0, 0), (16, .iload 6, 0, 0), (18, .iconst 2, 0, 0), (19, .invokevirtual 95, 88, 0), (22, .istore 7, 0, 0), (24, .aload 4, 0, 0), (26, .iload 5, 0, 0), (28, .aload_n 3, 0, 0), (29, .getfield 65, 2, 2), (32, .iload 6, 0, 0), (34, .iaload, 0, 0), (35, .aload_n 0, 0, 0), (36, .getfield 21, 5, 2), (39, .iload_n 1, 0, 0), (40, .aaload, 0, 0), (41, .iload 7, 0, 0), (43, .iaload, 0, 0), (44, .invokevirtual 78, 102, 0), (47, .istore 5, 0, 0), (49, .iinc 6 (1), 0, 0), (52, .goto (-46), 6, 0), (55, .aload 4, 0, 0), (57, .iload 5, 0, 0), (59, .iload_n 2, 0, 0), (60, .invokevirtual 68, 104, 0), (63, .istore 6, 0, 0), (65, .aload_n 0, 0, 0), (66, .getfield 24, 5, 3), (69, .iload_n 1, 0, 0), (70, .iload 6, 0, 0), (72, .aload 4, 0, 0), (74, .getfield 92, 3, 0), (77, .iconst 1, 0, 0), (78, .isub, 0, 0), (79, .if_icmp .ne (7), 86, 0), (82, .iconst (-1), 0, 0), (83, .goto (5), 88, 0), (86, .iload 6, 0, 0), (88, .iastore, 0, 0), (89, .return_, 0, 0)]
def fRo_setIndicator : sx_F := sx_tab lRo_setIndicator
theorem kRo_setIndicator : sx_chk "ClassCharacters$Rows" (wy yRo_setIndicator prog_7_method_5_code 8 none) 8 prog_7_method_5_code lRo_setIndicator = true := by decide +kernel
theorem gRo_setIndicator_0 : fRo_setIndicator 0 = some (.iconst 0, 0, 0) := rfl
theorem gRo_setIndicator_1 : fRo_setIndicator 1 = some (.istore 5, 0, 0) := rfl
theorem gRo_setIndicator_3 : fRo_setIndicator 3 = some (.iconst 0, 0, 0) := rfl
theorem gRo_setIndicator_4 : fRo_setIndicator 4 = some (.istore 6, 0, 0) := rfl
theorem gRo_setIndicator_6 : fRo_setIndicator 6 = some (.iload 6, 0, 0) := rfl
theorem gRo_setIndicator_8 : fRo_setIndicator 8 = some (.aload_n 0, 0, 0) := rfl
theorem gRo_setIndicator_9 : fRo_setIndicator 9 = some (.getfield 9, 5, 0) := rfl
theorem gRo_setIndicator_12 : fRo_setIndicator 12 = some (.if_icmp .ge (43), 55, 0) := rfl
theorem gRo_setIndicator_15 : fRo_setIndicator 15 = some (.aload_n 3, 0, 0) := rfl
theorem gRo_setIndicator_16 : fRo_setIndicator 16 = some (.iload 6, 0, 0) := rfl
theorem gRo_setIndicator_18 : fRo_setIndicator 18 = some (.iconst 2, 0, 0) := rfl
theorem gRo_setIndicator_19 : fRo_setIndicator 19 = some (.invokevirtual 95, 88, 0) := rfl
theorem gRo_setIndicator_22 : fRo_setIndicator 22 = some (.istore 7, 0, 0) := rfl
theorem gRo_setIndicator_24 : fRo_setIndicator 24 = some (.aload 4, 0, 0) := rfl
theorem gRo_setIndicator_26 : fRo_setIndicator 26 = some (.iload 5, 0, 0) := rfl
theorem gRo_setIndicator_28 : fRo_setIndicator 28 = some (.aload_n 3, 0, 0) := rfl
theorem gRo_setIndicator_29 : fRo_setIndicator 29 = some (.getfield 65, 2, 2) := rfl
theorem gRo_setIndicator_32 : fRo_setIndicator 32 = some (.iload 6, 0, 0) := rfl
theorem gRo_setIndicator_34 : fRo_setIndicator 34 = some (.iaload, 0, 0) := rfl
theorem gRo_setIndicator_35 : fRo_setIndicator 35 = some (.aload_n 0, 0, 0) := rfl
theorem gRo_setIndicator_36 : fRo_setIndicator 36 = some (.getfield 21, 5, 2) := rfl
theorem gRo_setIndicator_39 : fRo_setIndicator 39 = some (.iload_n 1, 0, 0) := rfl
theorem gRo_setIndicator_40 : fRo_setIndicator 40 = some (.aaload, 0, 0) := rfl
theorem gRo_setIndicator_41 : fRo_setIndicator 41 = some (.iload 7, 0, 0) := rfl
theorem gRo_setIndicator_43 : fRo_setIndicator 43 = some (.iaload, 0, 0) := rfl
theorem gRo_setIndicator_44 : fRo_setIndicator 44 = some (.invokevirtual 78, 102, 0) := rfl
theorem gRo_setIndicator_47 : fRo_setIndicator 47 = some (.istore 5, 0, 0) := rfl
theorem gRo_setIndicator_49 : fRo_setIndicator 49 = some (.iinc 6 (1), 0, 0) := rfl
theorem gRo_setIndicator_52 : fRo_setIndicator 52 = some (.goto (-46), 6, 0) := rfl
theorem gRo_setIndicator_55 : fRo_setIndicator 55 = some (.aload 4, 0, 0) := rfl
theorem gRo_setIndicator_57 : fRo_setIndicator 57 = some (.iload 5, 0, 0) := rfl
theorem gRo_setIndicator_59 : fRo_setIndicator 59 = some (.iload_n 2, 0, 0) := rfl
theorem gRo_setIndicator_60 : fRo_setIndicator 60 = some (.invokevirtual 68, 104, 0) := rfl
theorem gRo_setIndicator_63 : fRo_setIndicator 63 = some (.istore 6, 0, 0) := rfl
theorem gRo_setIndicator_65 : fRo_setIndicator 65 = some (.aload_n 0, 0, 0) := rfl
theorem gRo_setIndicator_66 : fRo_setIndicator 66 = some (.getfield 24, 5, 3) := rfl
theorem gRo_setIndicator_69 : fRo_setIndicator 69 = some (.iload_n 1, 0, 0) := rfl
theorem gRo_setIndicator_70 : fRo_setIndicator 70 = some (.iload 6, 0, 0) := rfl
theorem gRo_setIndicator_72 : fRo_setIndicator 72 = some (.aload 4, 0, 0) := rfl
theorem gRo_setIndicator_74 : fRo_setIndicator 74 = some (.getfield 92, 3, 0) := rfl
theorem gRo_setIndicator_77 : fRo_setIndicator 77 = some (.iconst 1, 0, 0) := rfl
theorem gRo_setIndicator_78 : fRo_setIndicator 78 = some (.isub, 0, 0) := rfl
theorem gRo_setIndicator_79 : fRo_setIndicator 79 = some (.if_icmp .ne (7), 86, 0) := rfl
theorem gRo_setIndicator_82 : fRo_setIndicator 82 = some (.iconst (-1), 0, 0) := rfl
theorem gRo_setIndicator_83 : fRo_setIndicator 83 = some (.goto (5), 88, 0) := rfl
theorem gRo_setIndicator_86 : fRo_setIndicator 86 = some (.iload 6, 0, 0) := rfl
theorem gRo_setIndicator_88 : fRo_setIndicator 88 = some (.iastore, 0, 0) := rfl
theorem gRo_setIndicator_89 : fRo_setIndicator 89 = some (.return_, 0, 0) := rfl
abbrev lRo_setKernel : List (Nat × Instr × Nat × Nat) := [(0, .iconst 0, 0, 0), (1, .istore_n 2, 0, 0), (2, .iconst 0, 0, 0), (3, .istore_n 3, 0, 0), (4, .iload_n 3, 0, 0), (5, .aload_n 0, 0, 0), (6, .getfield 9, 5, 0), (9, .if_icmp .ge (32), 41, 0), (12, .aload_n 0, 0, 0), (13, .getfield 21, 5, 2), (16, .iload_n 1, 0, 0), (17, .aaload, 0, 0), (18, .iload_n 3, 0, 0), (19, .iaload, 0, 0), (20, .aload_n 0, 0, 0), (21, .getfield 15, 5, 1), (24, .iload_n 1, 0, 0), (25, .iaload, 0, 0), (26, .if_icmp .ne (9), 35, 0), (29, .iload_n 2, 0, 0), (30, .iconst 1, 0, 0), (31, .iload_n 3, 0, 0), (32, .ishl, 0, 0), (33, .ior, 0, 0), (34, .istore_n 2, 0, 0), (35, .iinc 3 (1), 0, 0), (38, .goto (-34), 4, 0), (41, .aload_n 0, 0, 0), (42, .getfield 27, 5, 4), (45, .iload_n 1, 0, 0), (46, .iload_n 2, 0, 0), (47, .iastore, 0, 0), (48, .return_, 0, 0)]
def fRo_setKernel : sx_F := sx_tab lRo_setKernel
theorem kRo_setKernel : sx_chk "ClassCharacters$Rows" (wy yRo_setKernel prog_7_method_6_code 4 none) 4 prog_7_method_6_code lRo_setKernel = true := by decide +kernel
theorem gRo_setKernel_0 : fRo_setKernel 0 = some (.iconst 0, 0, 0) := rfl
theorem gRo_setKernel_1 : fRo_setKernel 1 = some (.istore_n 2, 0, 0) := rfl
theorem gRo_setKernel_2 : fRo_setKernel 2 = some (.iconst 0, 0, 0) := rfl
theorem gRo_setKernel_3 : fRo_setKernel 3 = some (.istore_n 3, 0, 0) := rfl
theorem gRo_setKernel_4 : fRo_setKernel 4 = some (.iload_n 3, 0, 0) := rfl
theorem gRo_setKernel_5 : fRo_setKernel 5 = some (.aload_n 0, 0, 0) := rfl
theorem gRo_setKernel_6 : fRo_setKernel 6 = some (.getfield 9, 5, 0) := rfl
theorem gRo_setKernel_9 : fRo_setKernel 9 = some (.if_icmp .ge (32), 41, 0) := rfl
theorem gRo_setKernel_12 : fRo_setKernel 12 = some (.aload_n 0, 0, 0) := rfl
theorem gRo_setKernel_13 : fRo_setKernel 13 = some (.getfield 21, 5, 2) := rfl
theorem gRo_setKernel_16 : fRo_setKernel 16 = some (.iload_n 1, 0, 0) := rfl
theorem gRo_setKernel_17 : fRo_setKernel 17 = some (.aaload, 0, 0) := rfl
theorem gRo_setKernel_18 : fRo_setKernel 18 = some (.iload_n 3, 0, 0) := rfl
theorem gRo_setKernel_19 : fRo_setKernel 19 = some (.iaload, 0, 0) := rfl
theorem gRo_setKernel_20 : fRo_setKernel 20 = some (.aload_n 0, 0, 0) := rfl
theorem gRo_setKernel_21 : fRo_setKernel 21 = some (.getfield 15, 5, 1) := rfl
theorem gRo_setKernel_24 : fRo_setKernel 24 = some (.iload_n 1, 0, 0) := rfl
theorem gRo_setKernel_25 : fRo_setKernel 25 = some (.iaload, 0, 0) := rfl
theorem gRo_setKernel_26 : fRo_setKernel 26 = some (.if_icmp .ne (9), 35, 0) := rfl
theorem gRo_setKernel_29 : fRo_setKernel 29 = some (.iload_n 2, 0, 0) := rfl
theorem gRo_setKernel_30 : fRo_setKernel 30 = some (.iconst 1, 0, 0) := rfl
theorem gRo_setKernel_31 : fRo_setKernel 31 = some (.iload_n 3, 0, 0) := rfl
theorem gRo_setKernel_32 : fRo_setKernel 32 = some (.ishl, 0, 0) := rfl
theorem gRo_setKernel_33 : fRo_setKernel 33 = some (.ior, 0, 0) := rfl
theorem gRo_setKernel_34 : fRo_setKernel 34 = some (.istore_n 2, 0, 0) := rfl
theorem gRo_setKernel_35 : fRo_setKernel 35 = some (.iinc 3 (1), 0, 0) := rfl
theorem gRo_setKernel_38 : fRo_setKernel 38 = some (.goto (-34), 4, 0) := rfl
theorem gRo_setKernel_41 : fRo_setKernel 41 = some (.aload_n 0, 0, 0) := rfl
theorem gRo_setKernel_42 : fRo_setKernel 42 = some (.getfield 27, 5, 4) := rfl
theorem gRo_setKernel_45 : fRo_setKernel 45 = some (.iload_n 1, 0, 0) := rfl
theorem gRo_setKernel_46 : fRo_setKernel 46 = some (.iload_n 2, 0, 0) := rfl
theorem gRo_setKernel_47 : fRo_setKernel 47 = some (.iastore, 0, 0) := rfl
theorem gRo_setKernel_48 : fRo_setKernel 48 = some (.return_, 0, 0) := rfl
abbrev lRo_insertPlace : List (Nat × Instr × Nat × Nat) := [(0, .iload_n 1, 0, 0), (1, .istore_n 2, 0, 0), (2, .iload_n 2, 0, 0), (3, .ifCond .le (39), 42, 0), (6, .aload_n 0, 0, 0), (7, .iload_n 1, 0, 0), (8, .aload_n 0, 0, 0), (9, .getfield 30, 5, 5), (12, .iload_n 2, 0, 0), (13, .iconst 1, 0, 0), (14, .isub, 0, 0), (15, .iaload, 0, 0), (16, .invokevirtual 98, 113, 0), (19, .ifCond .eq (23), 42, 0), (22, .aload_n 0, 0, 0), (23, .getfield 30, 5, 5), (26, .iload_n 2, 0, 0), (27, .aload_n 0, 0, 0), (28, .getfield 30, 5, 5), (31, .iload_n 2, 0, 0), (32, .iconst 1, 0, 0), (33, .isub, 0, 0), (34, .iaload, 0, 0), (35, .iastore, 0, 0), (36, .iinc 2 (-1), 0, 0), (39, .goto (-37), 2, 0), (42, .aload_n 0, 0, 0), (43, .getfield 30, 5, 5), (46, .iload_n 2, 0, 0), (47, .iload_n 1, 0, 0), (48, .iastore, 0, 0), (49, .return_, 0, 0)]
def fRo_insertPlace : sx_F := sx_tab lRo_insertPlace
theorem kRo_insertPlace : sx_chk "ClassCharacters$Rows" (wy yRo_insertPlace prog_7_method_7_code 3 none) 3 prog_7_method_7_code lRo_insertPlace = true := by decide +kernel
theorem gRo_insertPlace_0 : fRo_insertPlace 0 = some (.iload_n 1, 0, 0) := rfl
theorem gRo_insertPlace_1 : fRo_insertPlace 1 = some (.istore_n 2, 0, 0) := rfl
theorem gRo_insertPlace_2 : fRo_insertPlace 2 = some (.iload_n 2, 0, 0) := rfl
theorem gRo_insertPlace_3 : fRo_insertPlace 3 = some (.ifCond .le (39), 42, 0) := rfl
theorem gRo_insertPlace_6 : fRo_insertPlace 6 = some (.aload_n 0, 0, 0) := rfl
theorem gRo_insertPlace_7 : fRo_insertPlace 7 = some (.iload_n 1, 0, 0) := rfl
theorem gRo_insertPlace_8 : fRo_insertPlace 8 = some (.aload_n 0, 0, 0) := rfl
theorem gRo_insertPlace_9 : fRo_insertPlace 9 = some (.getfield 30, 5, 5) := rfl
theorem gRo_insertPlace_12 : fRo_insertPlace 12 = some (.iload_n 2, 0, 0) := rfl
theorem gRo_insertPlace_13 : fRo_insertPlace 13 = some (.iconst 1, 0, 0) := rfl
theorem gRo_insertPlace_14 : fRo_insertPlace 14 = some (.isub, 0, 0) := rfl
theorem gRo_insertPlace_15 : fRo_insertPlace 15 = some (.iaload, 0, 0) := rfl
theorem gRo_insertPlace_16 : fRo_insertPlace 16 = some (.invokevirtual 98, 113, 0) := rfl
theorem gRo_insertPlace_19 : fRo_insertPlace 19 = some (.ifCond .eq (23), 42, 0) := rfl
theorem gRo_insertPlace_22 : fRo_insertPlace 22 = some (.aload_n 0, 0, 0) := rfl
theorem gRo_insertPlace_23 : fRo_insertPlace 23 = some (.getfield 30, 5, 5) := rfl
theorem gRo_insertPlace_26 : fRo_insertPlace 26 = some (.iload_n 2, 0, 0) := rfl
theorem gRo_insertPlace_27 : fRo_insertPlace 27 = some (.aload_n 0, 0, 0) := rfl
theorem gRo_insertPlace_28 : fRo_insertPlace 28 = some (.getfield 30, 5, 5) := rfl
theorem gRo_insertPlace_31 : fRo_insertPlace 31 = some (.iload_n 2, 0, 0) := rfl
theorem gRo_insertPlace_32 : fRo_insertPlace 32 = some (.iconst 1, 0, 0) := rfl
theorem gRo_insertPlace_33 : fRo_insertPlace 33 = some (.isub, 0, 0) := rfl
theorem gRo_insertPlace_34 : fRo_insertPlace 34 = some (.iaload, 0, 0) := rfl
theorem gRo_insertPlace_35 : fRo_insertPlace 35 = some (.iastore, 0, 0) := rfl
theorem gRo_insertPlace_36 : fRo_insertPlace 36 = some (.iinc 2 (-1), 0, 0) := rfl
theorem gRo_insertPlace_39 : fRo_insertPlace 39 = some (.goto (-37), 2, 0) := rfl
theorem gRo_insertPlace_42 : fRo_insertPlace 42 = some (.aload_n 0, 0, 0) := rfl
theorem gRo_insertPlace_43 : fRo_insertPlace 43 = some (.getfield 30, 5, 5) := rfl
theorem gRo_insertPlace_46 : fRo_insertPlace 46 = some (.iload_n 2, 0, 0) := rfl
theorem gRo_insertPlace_47 : fRo_insertPlace 47 = some (.iload_n 1, 0, 0) := rfl
theorem gRo_insertPlace_48 : fRo_insertPlace 48 = some (.iastore, 0, 0) := rfl
theorem gRo_insertPlace_49 : fRo_insertPlace 49 = some (.return_, 0, 0) := rfl
abbrev lRo_comesBefore : List (Nat × Instr × Nat × Nat) := [(0, .aload_n 0, 0, 0), (1, .getfield 15, 5, 1), (4, .iload_n 1, 0, 0), (5, .iaload, 0, 0), (6, .aload_n 0, 0, 0), (7, .getfield 15, 5, 1), (10, .iload_n 2, 0, 0), (11, .iaload, 0, 0), (12, .if_icmp .eq (24), 36, 0), (15, .aload_n 0, 0, 0), (16, .getfield 15, 5, 1), (19, .iload_n 1, 0, 0), (20, .iaload, 0, 0), (21, .aload_n 0, 0, 0), (22, .getfield 15, 5, 1), (25, .iload_n 2, 0, 0), (26, .iaload, 0, 0), (27, .if_icmp .ge (7), 34, 0), (30, .iconst 1, 0, 0), (31, .goto (4), 35, 0), (34, .iconst 0, 0, 0), (35, .ireturn, 0, 0), (36, .iconst 1, 0, 0), (37, .istore_n 3, 0, 0), (38, .iload_n 3, 0, 0), (39, .aload_n 0, 0, 0), (40, .getfield 9, 5, 0), (43, .if_icmp .ge (53), 96, 0), (46, .aload_n 0, 0, 0), (47, .getfield 21, 5, 2), (50, .iload_n 1, 0, 0), (51, .aaload, 0, 0), (52, .iload_n 3, 0, 0), (53, .iaload, 0, 0), (54, .aload_n 0, 0, 0), (55, .getfield 21, 5, 2), (58, .iload_n 2, 0, 0), (59, .aaload, 0, 0), (60, .iload_n 3, 0, 0), (61, .iaload, 0, 0), (62, .if_icmp .eq (28), 90, 0), (65, .aload_n 0, 0, 0), (66, .getfield 21, 5, 2), (69, .iload_n 1, 0, 0), (70, .aaload, 0, 0), (71, .iload_n 3, 0, 0), (72, .iaload, 0, 0), (73, .aload_n 0, 0, 0), (74, .getfield 21, 5, 2), (77, .iload_n 2, 0, 0), (78, .aaload, 0, 0), (79, .iload_n 3, 0, 0), (80, .iaload, 0, 0), (81, .if_icmp .ge (7), 88, 0), (84, .iconst 1, 0, 0), (85, .goto (4), 89, 0), (88, .iconst 0, 0, 0), (89, .ireturn, 0, 0), (90, .iinc 3 (1), 0, 0), (93, .goto (-55), 38, 0), (96, .iconst 0, 0, 0), (97, .ireturn, 0, 0)]
def fRo_comesBefore : sx_F := sx_tab lRo_comesBefore
theorem kRo_comesBefore : sx_chk "ClassCharacters$Rows" (wy yRo_comesBefore prog_7_method_8_code 4 (some .boolean)) 4 prog_7_method_8_code lRo_comesBefore = true := by decide +kernel
theorem gRo_comesBefore_0 : fRo_comesBefore 0 = some (.aload_n 0, 0, 0) := rfl
theorem gRo_comesBefore_1 : fRo_comesBefore 1 = some (.getfield 15, 5, 1) := rfl
theorem gRo_comesBefore_4 : fRo_comesBefore 4 = some (.iload_n 1, 0, 0) := rfl
theorem gRo_comesBefore_5 : fRo_comesBefore 5 = some (.iaload, 0, 0) := rfl
theorem gRo_comesBefore_6 : fRo_comesBefore 6 = some (.aload_n 0, 0, 0) := rfl
theorem gRo_comesBefore_7 : fRo_comesBefore 7 = some (.getfield 15, 5, 1) := rfl
theorem gRo_comesBefore_10 : fRo_comesBefore 10 = some (.iload_n 2, 0, 0) := rfl
theorem gRo_comesBefore_11 : fRo_comesBefore 11 = some (.iaload, 0, 0) := rfl
theorem gRo_comesBefore_12 : fRo_comesBefore 12 = some (.if_icmp .eq (24), 36, 0) := rfl
theorem gRo_comesBefore_15 : fRo_comesBefore 15 = some (.aload_n 0, 0, 0) := rfl
theorem gRo_comesBefore_16 : fRo_comesBefore 16 = some (.getfield 15, 5, 1) := rfl
theorem gRo_comesBefore_19 : fRo_comesBefore 19 = some (.iload_n 1, 0, 0) := rfl
theorem gRo_comesBefore_20 : fRo_comesBefore 20 = some (.iaload, 0, 0) := rfl
theorem gRo_comesBefore_21 : fRo_comesBefore 21 = some (.aload_n 0, 0, 0) := rfl
theorem gRo_comesBefore_22 : fRo_comesBefore 22 = some (.getfield 15, 5, 1) := rfl
theorem gRo_comesBefore_25 : fRo_comesBefore 25 = some (.iload_n 2, 0, 0) := rfl
theorem gRo_comesBefore_26 : fRo_comesBefore 26 = some (.iaload, 0, 0) := rfl
theorem gRo_comesBefore_27 : fRo_comesBefore 27 = some (.if_icmp .ge (7), 34, 0) := rfl
theorem gRo_comesBefore_30 : fRo_comesBefore 30 = some (.iconst 1, 0, 0) := rfl
theorem gRo_comesBefore_31 : fRo_comesBefore 31 = some (.goto (4), 35, 0) := rfl
theorem gRo_comesBefore_34 : fRo_comesBefore 34 = some (.iconst 0, 0, 0) := rfl
theorem gRo_comesBefore_35 : fRo_comesBefore 35 = some (.ireturn, 0, 0) := rfl
theorem gRo_comesBefore_36 : fRo_comesBefore 36 = some (.iconst 1, 0, 0) := rfl
theorem gRo_comesBefore_37 : fRo_comesBefore 37 = some (.istore_n 3, 0, 0) := rfl
theorem gRo_comesBefore_38 : fRo_comesBefore 38 = some (.iload_n 3, 0, 0) := rfl
theorem gRo_comesBefore_39 : fRo_comesBefore 39 = some (.aload_n 0, 0, 0) := rfl
theorem gRo_comesBefore_40 : fRo_comesBefore 40 = some (.getfield 9, 5, 0) := rfl
theorem gRo_comesBefore_43 : fRo_comesBefore 43 = some (.if_icmp .ge (53), 96, 0) := rfl
theorem gRo_comesBefore_46 : fRo_comesBefore 46 = some (.aload_n 0, 0, 0) := rfl
theorem gRo_comesBefore_47 : fRo_comesBefore 47 = some (.getfield 21, 5, 2) := rfl
theorem gRo_comesBefore_50 : fRo_comesBefore 50 = some (.iload_n 1, 0, 0) := rfl
theorem gRo_comesBefore_51 : fRo_comesBefore 51 = some (.aaload, 0, 0) := rfl
theorem gRo_comesBefore_52 : fRo_comesBefore 52 = some (.iload_n 3, 0, 0) := rfl
theorem gRo_comesBefore_53 : fRo_comesBefore 53 = some (.iaload, 0, 0) := rfl
theorem gRo_comesBefore_54 : fRo_comesBefore 54 = some (.aload_n 0, 0, 0) := rfl
theorem gRo_comesBefore_55 : fRo_comesBefore 55 = some (.getfield 21, 5, 2) := rfl
theorem gRo_comesBefore_58 : fRo_comesBefore 58 = some (.iload_n 2, 0, 0) := rfl
theorem gRo_comesBefore_59 : fRo_comesBefore 59 = some (.aaload, 0, 0) := rfl
theorem gRo_comesBefore_60 : fRo_comesBefore 60 = some (.iload_n 3, 0, 0) := rfl
theorem gRo_comesBefore_61 : fRo_comesBefore 61 = some (.iaload, 0, 0) := rfl
theorem gRo_comesBefore_62 : fRo_comesBefore 62 = some (.if_icmp .eq (28), 90, 0) := rfl
theorem gRo_comesBefore_65 : fRo_comesBefore 65 = some (.aload_n 0, 0, 0) := rfl
theorem gRo_comesBefore_66 : fRo_comesBefore 66 = some (.getfield 21, 5, 2) := rfl
theorem gRo_comesBefore_69 : fRo_comesBefore 69 = some (.iload_n 1, 0, 0) := rfl
theorem gRo_comesBefore_70 : fRo_comesBefore 70 = some (.aaload, 0, 0) := rfl
theorem gRo_comesBefore_71 : fRo_comesBefore 71 = some (.iload_n 3, 0, 0) := rfl
theorem gRo_comesBefore_72 : fRo_comesBefore 72 = some (.iaload, 0, 0) := rfl
theorem gRo_comesBefore_73 : fRo_comesBefore 73 = some (.aload_n 0, 0, 0) := rfl
theorem gRo_comesBefore_74 : fRo_comesBefore 74 = some (.getfield 21, 5, 2) := rfl
theorem gRo_comesBefore_77 : fRo_comesBefore 77 = some (.iload_n 2, 0, 0) := rfl
theorem gRo_comesBefore_78 : fRo_comesBefore 78 = some (.aaload, 0, 0) := rfl
theorem gRo_comesBefore_79 : fRo_comesBefore 79 = some (.iload_n 3, 0, 0) := rfl
theorem gRo_comesBefore_80 : fRo_comesBefore 80 = some (.iaload, 0, 0) := rfl
theorem gRo_comesBefore_81 : fRo_comesBefore 81 = some (.if_icmp .ge (7), 88, 0) := rfl
theorem gRo_comesBefore_84 : fRo_comesBefore 84 = some (.iconst 1, 0, 0) := rfl
theorem gRo_comesBefore_85 : fRo_comesBefore 85 = some (.goto (4), 89, 0) := rfl
theorem gRo_comesBefore_88 : fRo_comesBefore 88 = some (.iconst 0, 0, 0) := rfl
theorem gRo_comesBefore_89 : fRo_comesBefore 89 = some (.ireturn, 0, 0) := rfl
theorem gRo_comesBefore_90 : fRo_comesBefore 90 = some (.iinc 3 (1), 0, 0) := rfl
theorem gRo_comesBefore_93 : fRo_comesBefore 93 = some (.goto (-55), 38, 0) := rfl
theorem gRo_comesBefore_96 : fRo_comesBefore 96 = some (.iconst 0, 0, 0) := rfl
theorem gRo_comesBefore_97 : fRo_comesBefore 97 = some (.ireturn, 0, 0) := rfl
abbrev lRo_listNormals : List (Nat × Instr × Nat × Nat) := [(0, .aload_n 0, 0, 0), (1, .iconst 0, 0, 0), (2, .putfield 36, 5, 7), (5, .iconst 0, 0, 0), (6, .istore_n 1, 0, 0), (7, .iload_n 1, 0, 0), (8, .aload_n 0, 0, 0), (9, .getfield 9, 5, 0), (12, .if_icmp .ge (54), 66, 0), (15, .aload_n 0, 0, 0), (16, .getfield 36, 5, 7), (19, .istore_n 2, 0, 0), (20, .aload_n 0, 0, 0), (21, .aload_n 0, 0, 0), (22, .getfield 27, 5, 4), (25, .iload_n 1, 0, 0), (26, .iaload, 0, 0), (27, .invokevirtual 102, 115, 0), (30, .iconst 0, 0, 0), (31, .istore_n 3, 0, 0), (32, .iload_n 3, 0, 0), (33, .iload_n 2, 0, 0), (34, .if_icmp .ge (26), 60, 0), (37, .aload_n 0, 0, 0), (38, .aload_n 0, 0, 0), (39, .getfield 33, 5, 6), (42, .iload_n 3, 0, 0), (43, .iaload, 0, 0), (44, .aload_n 0, 0, 0), (45, .getfield 27, 5, 4), (48, .iload_n 1, 0, 0), (49, .iaload, 0, 0), (50, .iand, 0, 0), (51, .invokevirtual 102, 115, 0), (54, .iinc 3 (1), 0, 0), (57, .goto (-25), 32, 0), (60, .iinc 1 (1), 0, 0), (63, .goto (-56), 7, 0), (66, .return_, 0, 0)]
def fRo_listNormals : sx_F := sx_tab lRo_listNormals
theorem kRo_listNormals : sx_chk "ClassCharacters$Rows" (wy yRo_listNormals prog_7_method_9_code 4 none) 4 prog_7_method_9_code lRo_listNormals = true := by decide +kernel
theorem gRo_listNormals_0 : fRo_listNormals 0 = some (.aload_n 0, 0, 0) := rfl
theorem gRo_listNormals_1 : fRo_listNormals 1 = some (.iconst 0, 0, 0) := rfl
theorem gRo_listNormals_2 : fRo_listNormals 2 = some (.putfield 36, 5, 7) := rfl
theorem gRo_listNormals_5 : fRo_listNormals 5 = some (.iconst 0, 0, 0) := rfl
theorem gRo_listNormals_6 : fRo_listNormals 6 = some (.istore_n 1, 0, 0) := rfl
theorem gRo_listNormals_7 : fRo_listNormals 7 = some (.iload_n 1, 0, 0) := rfl
theorem gRo_listNormals_8 : fRo_listNormals 8 = some (.aload_n 0, 0, 0) := rfl
theorem gRo_listNormals_9 : fRo_listNormals 9 = some (.getfield 9, 5, 0) := rfl
theorem gRo_listNormals_12 : fRo_listNormals 12 = some (.if_icmp .ge (54), 66, 0) := rfl
theorem gRo_listNormals_15 : fRo_listNormals 15 = some (.aload_n 0, 0, 0) := rfl
theorem gRo_listNormals_16 : fRo_listNormals 16 = some (.getfield 36, 5, 7) := rfl
theorem gRo_listNormals_19 : fRo_listNormals 19 = some (.istore_n 2, 0, 0) := rfl
theorem gRo_listNormals_20 : fRo_listNormals 20 = some (.aload_n 0, 0, 0) := rfl
theorem gRo_listNormals_21 : fRo_listNormals 21 = some (.aload_n 0, 0, 0) := rfl
theorem gRo_listNormals_22 : fRo_listNormals 22 = some (.getfield 27, 5, 4) := rfl
theorem gRo_listNormals_25 : fRo_listNormals 25 = some (.iload_n 1, 0, 0) := rfl
theorem gRo_listNormals_26 : fRo_listNormals 26 = some (.iaload, 0, 0) := rfl
theorem gRo_listNormals_27 : fRo_listNormals 27 = some (.invokevirtual 102, 115, 0) := rfl
theorem gRo_listNormals_30 : fRo_listNormals 30 = some (.iconst 0, 0, 0) := rfl
theorem gRo_listNormals_31 : fRo_listNormals 31 = some (.istore_n 3, 0, 0) := rfl
theorem gRo_listNormals_32 : fRo_listNormals 32 = some (.iload_n 3, 0, 0) := rfl
theorem gRo_listNormals_33 : fRo_listNormals 33 = some (.iload_n 2, 0, 0) := rfl
theorem gRo_listNormals_34 : fRo_listNormals 34 = some (.if_icmp .ge (26), 60, 0) := rfl
theorem gRo_listNormals_37 : fRo_listNormals 37 = some (.aload_n 0, 0, 0) := rfl
theorem gRo_listNormals_38 : fRo_listNormals 38 = some (.aload_n 0, 0, 0) := rfl
theorem gRo_listNormals_39 : fRo_listNormals 39 = some (.getfield 33, 5, 6) := rfl
theorem gRo_listNormals_42 : fRo_listNormals 42 = some (.iload_n 3, 0, 0) := rfl
theorem gRo_listNormals_43 : fRo_listNormals 43 = some (.iaload, 0, 0) := rfl
theorem gRo_listNormals_44 : fRo_listNormals 44 = some (.aload_n 0, 0, 0) := rfl
theorem gRo_listNormals_45 : fRo_listNormals 45 = some (.getfield 27, 5, 4) := rfl
theorem gRo_listNormals_48 : fRo_listNormals 48 = some (.iload_n 1, 0, 0) := rfl
theorem gRo_listNormals_49 : fRo_listNormals 49 = some (.iaload, 0, 0) := rfl
theorem gRo_listNormals_50 : fRo_listNormals 50 = some (.iand, 0, 0) := rfl
theorem gRo_listNormals_51 : fRo_listNormals 51 = some (.invokevirtual 102, 115, 0) := rfl
theorem gRo_listNormals_54 : fRo_listNormals 54 = some (.iinc 3 (1), 0, 0) := rfl
theorem gRo_listNormals_57 : fRo_listNormals 57 = some (.goto (-25), 32, 0) := rfl
theorem gRo_listNormals_60 : fRo_listNormals 60 = some (.iinc 1 (1), 0, 0) := rfl
theorem gRo_listNormals_63 : fRo_listNormals 63 = some (.goto (-56), 7, 0) := rfl
theorem gRo_listNormals_66 : fRo_listNormals 66 = some (.return_, 0, 0) := rfl
abbrev lRo_includeNormal : List (Nat × Instr × Nat × Nat) := [(0, .iconst 0, 0, 0), (1, .istore_n 2, 0, 0), (2, .iload_n 2, 0, 0), (3, .aload_n 0, 0, 0), (4, .getfield 36, 5, 7), (7, .if_icmp .ge (20), 27, 0), (10, .aload_n 0, 0, 0), (11, .getfield 33, 5, 6), (14, .iload_n 2, 0, 0), (15, .iaload, 0, 0), (16, .iload_n 1, 0, 0), (17, .if_icmp .ne (4), 21, 0), (20, .return_, 0, 0), (21, .iinc 2 (1), 0, 0), (24, .goto (-22), 2, 0), (27, .aload_n 0, 0, 0), (28, .getfield 36, 5, 7), (31, .sipush (128), 0, 0), (34, .if_icmp .ge (23), 57, 0), (37, .aload_n 0, 0, 0), (38, .getfield 33, 5, 6), (41, .aload_n 0, 0, 0), (42, .getfield 36, 5, 7), (45, .iload_n 1, 0, 0), (46, .iastore, 0, 0), (47, .aload_n 0, 0, 0), (48, .dup, 0, 0), (49, .getfield 36, 5, 7), (52, .iconst 1, 0, 0), (53, .iadd, 0, 0), (54, .putfield 36, 5, 7), (57, .return_, 0, 0)]
def fRo_includeNormal : sx_F := sx_tab lRo_includeNormal
theorem kRo_includeNormal : sx_chk "ClassCharacters$Rows" (wy yRo_includeNormal prog_7_method_10_code 3 none) 3 prog_7_method_10_code lRo_includeNormal = true := by decide +kernel
theorem gRo_includeNormal_0 : fRo_includeNormal 0 = some (.iconst 0, 0, 0) := rfl
theorem gRo_includeNormal_1 : fRo_includeNormal 1 = some (.istore_n 2, 0, 0) := rfl
theorem gRo_includeNormal_2 : fRo_includeNormal 2 = some (.iload_n 2, 0, 0) := rfl
theorem gRo_includeNormal_3 : fRo_includeNormal 3 = some (.aload_n 0, 0, 0) := rfl
theorem gRo_includeNormal_4 : fRo_includeNormal 4 = some (.getfield 36, 5, 7) := rfl
theorem gRo_includeNormal_7 : fRo_includeNormal 7 = some (.if_icmp .ge (20), 27, 0) := rfl
theorem gRo_includeNormal_10 : fRo_includeNormal 10 = some (.aload_n 0, 0, 0) := rfl
theorem gRo_includeNormal_11 : fRo_includeNormal 11 = some (.getfield 33, 5, 6) := rfl
theorem gRo_includeNormal_14 : fRo_includeNormal 14 = some (.iload_n 2, 0, 0) := rfl
theorem gRo_includeNormal_15 : fRo_includeNormal 15 = some (.iaload, 0, 0) := rfl
theorem gRo_includeNormal_16 : fRo_includeNormal 16 = some (.iload_n 1, 0, 0) := rfl
theorem gRo_includeNormal_17 : fRo_includeNormal 17 = some (.if_icmp .ne (4), 21, 0) := rfl
theorem gRo_includeNormal_20 : fRo_includeNormal 20 = some (.return_, 0, 0) := rfl
theorem gRo_includeNormal_21 : fRo_includeNormal 21 = some (.iinc 2 (1), 0, 0) := rfl
theorem gRo_includeNormal_24 : fRo_includeNormal 24 = some (.goto (-22), 2, 0) := rfl
theorem gRo_includeNormal_27 : fRo_includeNormal 27 = some (.aload_n 0, 0, 0) := rfl
theorem gRo_includeNormal_28 : fRo_includeNormal 28 = some (.getfield 36, 5, 7) := rfl
theorem gRo_includeNormal_31 : fRo_includeNormal 31 = some (.sipush (128), 0, 0) := rfl
theorem gRo_includeNormal_34 : fRo_includeNormal 34 = some (.if_icmp .ge (23), 57, 0) := rfl
theorem gRo_includeNormal_37 : fRo_includeNormal 37 = some (.aload_n 0, 0, 0) := rfl
theorem gRo_includeNormal_38 : fRo_includeNormal 38 = some (.getfield 33, 5, 6) := rfl
theorem gRo_includeNormal_41 : fRo_includeNormal 41 = some (.aload_n 0, 0, 0) := rfl
theorem gRo_includeNormal_42 : fRo_includeNormal 42 = some (.getfield 36, 5, 7) := rfl
theorem gRo_includeNormal_45 : fRo_includeNormal 45 = some (.iload_n 1, 0, 0) := rfl
theorem gRo_includeNormal_46 : fRo_includeNormal 46 = some (.iastore, 0, 0) := rfl
theorem gRo_includeNormal_47 : fRo_includeNormal 47 = some (.aload_n 0, 0, 0) := rfl
theorem gRo_includeNormal_48 : fRo_includeNormal 48 = some (.dup, 0, 0) := rfl
theorem gRo_includeNormal_49 : fRo_includeNormal 49 = some (.getfield 36, 5, 7) := rfl
theorem gRo_includeNormal_52 : fRo_includeNormal 52 = some (.iconst 1, 0, 0) := rfl
theorem gRo_includeNormal_53 : fRo_includeNormal 53 = some (.iadd, 0, 0) := rfl
theorem gRo_includeNormal_54 : fRo_includeNormal 54 = some (.putfield 36, 5, 7) := rfl
theorem gRo_includeNormal_57 : fRo_includeNormal 57 = some (.return_, 0, 0) := rfl
abbrev lRo_timesOfRoot : List (Nat × Instr × Nat × Nat) := [(0, .aload 4, 0, 0), (2, .getfield 105, 2, 6), (5, .istore 6, 0, 0), (7, .aload 5, 0, 0), (9, .aload 5, 0, 0), (11, .getfield 108, 3, 1), (14, .iload 6, 0, 0), (16, .iload_n 3, 0, 0), (17, .isub, 0, 0), (18, .invokevirtual 111, 106, 0), (21, .istore 7, 0, 0), (23, .iconst 1, 0, 0), (24, .istore 8, 0, 0), (26, .iconst 0, 0, 0), (27, .istore 9, 0, 0), (29, .iconst 0, 0, 0), (30, .istore 10, 0, 0), (32, .iload 10, 0, 0), (34, .iload 6, 0, 0), (36, .if_icmp .ge (46), 82, 0), (39, .aload 5, 0, 0), (41, .iload 9, 0, 0), (43, .aload_n 0, 0, 0), (44, .getfield 21, 5, 2), (47, .iload_n 1, 0, 0), (48, .aaload, 0, 0), (49, .aload 4, 0, 0), (51, .iload_n 2, 0, 0), (52, .iload 10, 0, 0), (54, .invokevirtual 95, 88, 0), (57, .iaload, 0, 0), (58, .iload 8, 0, 0), (60, .invokevirtual 78, 102, 0), (63, .istore 9, 0, 0), (65, .aload 5, 0, 0), (67, .iload 8, 0, 0), (69, .iload 7, 0, 0), (71, .invokevirtual 86, 101, 0), (74, .istore 8, 0, 0), (76, .iinc 10 (1), 0, 0), (79, .goto (-47), 32, 0), (82, .aload 5, 0, 0), (84, .iload 9, 0, 0), (86, .iload 6, 0, 0), (88, .invokevirtual 68, 104, 0), (91, .ireturn, 0, 0)]
def fRo_timesOfRoot : sx_F := sx_tab lRo_timesOfRoot
theorem kRo_timesOfRoot : sx_chk "ClassCharacters$Rows" (wy yRo_timesOfRoot prog_7_method_11_code 11 (some .int)) 11 prog_7_method_11_code lRo_timesOfRoot = true := by decide +kernel
theorem gRo_timesOfRoot_0 : fRo_timesOfRoot 0 = some (.aload 4, 0, 0) := rfl
theorem gRo_timesOfRoot_2 : fRo_timesOfRoot 2 = some (.getfield 105, 2, 6) := rfl
theorem gRo_timesOfRoot_5 : fRo_timesOfRoot 5 = some (.istore 6, 0, 0) := rfl
theorem gRo_timesOfRoot_7 : fRo_timesOfRoot 7 = some (.aload 5, 0, 0) := rfl
theorem gRo_timesOfRoot_9 : fRo_timesOfRoot 9 = some (.aload 5, 0, 0) := rfl
theorem gRo_timesOfRoot_11 : fRo_timesOfRoot 11 = some (.getfield 108, 3, 1) := rfl
theorem gRo_timesOfRoot_14 : fRo_timesOfRoot 14 = some (.iload 6, 0, 0) := rfl
theorem gRo_timesOfRoot_16 : fRo_timesOfRoot 16 = some (.iload_n 3, 0, 0) := rfl
theorem gRo_timesOfRoot_17 : fRo_timesOfRoot 17 = some (.isub, 0, 0) := rfl
theorem gRo_timesOfRoot_18 : fRo_timesOfRoot 18 = some (.invokevirtual 111, 106, 0) := rfl
theorem gRo_timesOfRoot_21 : fRo_timesOfRoot 21 = some (.istore 7, 0, 0) := rfl
theorem gRo_timesOfRoot_23 : fRo_timesOfRoot 23 = some (.iconst 1, 0, 0) := rfl
theorem gRo_timesOfRoot_24 : fRo_timesOfRoot 24 = some (.istore 8, 0, 0) := rfl
theorem gRo_timesOfRoot_26 : fRo_timesOfRoot 26 = some (.iconst 0, 0, 0) := rfl
theorem gRo_timesOfRoot_27 : fRo_timesOfRoot 27 = some (.istore 9, 0, 0) := rfl
theorem gRo_timesOfRoot_29 : fRo_timesOfRoot 29 = some (.iconst 0, 0, 0) := rfl
theorem gRo_timesOfRoot_30 : fRo_timesOfRoot 30 = some (.istore 10, 0, 0) := rfl
theorem gRo_timesOfRoot_32 : fRo_timesOfRoot 32 = some (.iload 10, 0, 0) := rfl
theorem gRo_timesOfRoot_34 : fRo_timesOfRoot 34 = some (.iload 6, 0, 0) := rfl
theorem gRo_timesOfRoot_36 : fRo_timesOfRoot 36 = some (.if_icmp .ge (46), 82, 0) := rfl
theorem gRo_timesOfRoot_39 : fRo_timesOfRoot 39 = some (.aload 5, 0, 0) := rfl
theorem gRo_timesOfRoot_41 : fRo_timesOfRoot 41 = some (.iload 9, 0, 0) := rfl
theorem gRo_timesOfRoot_43 : fRo_timesOfRoot 43 = some (.aload_n 0, 0, 0) := rfl
theorem gRo_timesOfRoot_44 : fRo_timesOfRoot 44 = some (.getfield 21, 5, 2) := rfl
theorem gRo_timesOfRoot_47 : fRo_timesOfRoot 47 = some (.iload_n 1, 0, 0) := rfl
theorem gRo_timesOfRoot_48 : fRo_timesOfRoot 48 = some (.aaload, 0, 0) := rfl
theorem gRo_timesOfRoot_49 : fRo_timesOfRoot 49 = some (.aload 4, 0, 0) := rfl
theorem gRo_timesOfRoot_51 : fRo_timesOfRoot 51 = some (.iload_n 2, 0, 0) := rfl
theorem gRo_timesOfRoot_52 : fRo_timesOfRoot 52 = some (.iload 10, 0, 0) := rfl
theorem gRo_timesOfRoot_54 : fRo_timesOfRoot 54 = some (.invokevirtual 95, 88, 0) := rfl
theorem gRo_timesOfRoot_57 : fRo_timesOfRoot 57 = some (.iaload, 0, 0) := rfl
theorem gRo_timesOfRoot_58 : fRo_timesOfRoot 58 = some (.iload 8, 0, 0) := rfl
theorem gRo_timesOfRoot_60 : fRo_timesOfRoot 60 = some (.invokevirtual 78, 102, 0) := rfl
theorem gRo_timesOfRoot_63 : fRo_timesOfRoot 63 = some (.istore 9, 0, 0) := rfl
theorem gRo_timesOfRoot_65 : fRo_timesOfRoot 65 = some (.aload 5, 0, 0) := rfl
theorem gRo_timesOfRoot_67 : fRo_timesOfRoot 67 = some (.iload 8, 0, 0) := rfl
theorem gRo_timesOfRoot_69 : fRo_timesOfRoot 69 = some (.iload 7, 0, 0) := rfl
theorem gRo_timesOfRoot_71 : fRo_timesOfRoot 71 = some (.invokevirtual 86, 101, 0) := rfl
theorem gRo_timesOfRoot_74 : fRo_timesOfRoot 74 = some (.istore 8, 0, 0) := rfl
theorem gRo_timesOfRoot_76 : fRo_timesOfRoot 76 = some (.iinc 10 (1), 0, 0) := rfl
theorem gRo_timesOfRoot_79 : fRo_timesOfRoot 79 = some (.goto (-47), 32, 0) := rfl
theorem gRo_timesOfRoot_82 : fRo_timesOfRoot 82 = some (.aload 5, 0, 0) := rfl
theorem gRo_timesOfRoot_84 : fRo_timesOfRoot 84 = some (.iload 9, 0, 0) := rfl
theorem gRo_timesOfRoot_86 : fRo_timesOfRoot 86 = some (.iload 6, 0, 0) := rfl
theorem gRo_timesOfRoot_88 : fRo_timesOfRoot 88 = some (.invokevirtual 68, 104, 0) := rfl
theorem gRo_timesOfRoot_91 : fRo_timesOfRoot 91 = some (.ireturn, 0, 0) := rfl
end
section
abbrev lMo_image : List (Nat × Instr × Nat × Nat) := [(0, .iload_n 0, 0, 0), (1, .iconst 3, 0, 0), (2, .bipush (7), 0, 0), (4, .iload_n 1, 0, 0), (5, .isub, 0, 0), (6, .imul, 0, 0), (7, .ishr, 0, 0), (8, .bipush (7), 0, 0), (10, .iand, 0, 0), (11, .ireturn, 0, 0)]
def fMo_image : sx_F := sx_tab lMo_image
theorem kMo_image : sx_chk "ClassCharactersModel" (wy yMo_image prog_9_method_2_code 2 (some .int)) 2 prog_9_method_2_code lMo_image = true := by decide +kernel
theorem gMo_image_0 : fMo_image 0 = some (.iload_n 0, 0, 0) := rfl
theorem gMo_image_1 : fMo_image 1 = some (.iconst 3, 0, 0) := rfl
theorem gMo_image_2 : fMo_image 2 = some (.bipush (7), 0, 0) := rfl
theorem gMo_image_4 : fMo_image 4 = some (.iload_n 1, 0, 0) := rfl
theorem gMo_image_5 : fMo_image 5 = some (.isub, 0, 0) := rfl
theorem gMo_image_6 : fMo_image 6 = some (.imul, 0, 0) := rfl
theorem gMo_image_7 : fMo_image 7 = some (.ishr, 0, 0) := rfl
theorem gMo_image_8 : fMo_image 8 = some (.bipush (7), 0, 0) := rfl
theorem gMo_image_10 : fMo_image 10 = some (.iand, 0, 0) := rfl
theorem gMo_image_11 : fMo_image 11 = some (.ireturn, 0, 0) := rfl
abbrev lMo_product : List (Nat × Instr × Nat × Nat) := [(0, .iconst 0, 0, 0), (1, .istore_n 2, 0, 0), (2, .iconst 0, 0, 0), (3, .istore_n 3, 0, 0), (4, .iload_n 3, 0, 0), (5, .bipush (8), 0, 0), (7, .if_icmp .ge (28), 35, 0), (10, .iload_n 0, 0, 0), (11, .iload_n 3, 0, 0), (12, .invokestatic 40, 23, 0), (15, .istore 4, 0, 0), (17, .bipush (8), 0, 0), (19, .iload_n 2, 0, 0), (20, .imul, 0, 0), (21, .iload_n 1, 0, 0), (22, .iload 4, 0, 0), (24, .invokestatic 40, 23, 0), (27, .iadd, 0, 0), (28, .istore_n 2, 0, 0), (29, .iinc 3 (1), 0, 0), (32, .goto (-28), 4, 0), (35, .iload_n 2, 0, 0), (36, .ireturn, 0, 0)]
def fMo_product : sx_F := sx_tab lMo_product
theorem kMo_product : sx_chk "ClassCharactersModel" (wy yMo_product prog_9_method_3_code 5 (some .int)) 5 prog_9_method_3_code lMo_product = true := by decide +kernel
theorem gMo_product_0 : fMo_product 0 = some (.iconst 0, 0, 0) := rfl
theorem gMo_product_1 : fMo_product 1 = some (.istore_n 2, 0, 0) := rfl
theorem gMo_product_2 : fMo_product 2 = some (.iconst 0, 0, 0) := rfl
theorem gMo_product_3 : fMo_product 3 = some (.istore_n 3, 0, 0) := rfl
theorem gMo_product_4 : fMo_product 4 = some (.iload_n 3, 0, 0) := rfl
theorem gMo_product_5 : fMo_product 5 = some (.bipush (8), 0, 0) := rfl
theorem gMo_product_7 : fMo_product 7 = some (.if_icmp .ge (28), 35, 0) := rfl
theorem gMo_product_10 : fMo_product 10 = some (.iload_n 0, 0, 0) := rfl
theorem gMo_product_11 : fMo_product 11 = some (.iload_n 3, 0, 0) := rfl
theorem gMo_product_12 : fMo_product 12 = some (.invokestatic 40, 23, 0) := rfl
theorem gMo_product_15 : fMo_product 15 = some (.istore 4, 0, 0) := rfl
theorem gMo_product_17 : fMo_product 17 = some (.bipush (8), 0, 0) := rfl
theorem gMo_product_19 : fMo_product 19 = some (.iload_n 2, 0, 0) := rfl
theorem gMo_product_20 : fMo_product 20 = some (.imul, 0, 0) := rfl
theorem gMo_product_21 : fMo_product 21 = some (.iload_n 1, 0, 0) := rfl
theorem gMo_product_22 : fMo_product 22 = some (.iload 4, 0, 0) := rfl
theorem gMo_product_24 : fMo_product 24 = some (.invokestatic 40, 23, 0) := rfl
theorem gMo_product_27 : fMo_product 27 = some (.iadd, 0, 0) := rfl
theorem gMo_product_28 : fMo_product 28 = some (.istore_n 2, 0, 0) := rfl
theorem gMo_product_29 : fMo_product 29 = some (.iinc 3 (1), 0, 0) := rfl
theorem gMo_product_32 : fMo_product 32 = some (.goto (-28), 4, 0) := rfl
theorem gMo_product_35 : fMo_product 35 = some (.iload_n 2, 0, 0) := rfl
theorem gMo_product_36 : fMo_product 36 = some (.ireturn, 0, 0) := rfl
abbrev lMo_inverted : List (Nat × Instr × Nat × Nat) := [(0, .iconst 0, 0, 0), (1, .istore_n 1, 0, 0), (2, .iconst 0, 0, 0), (3, .istore_n 2, 0, 0), (4, .iload_n 2, 0, 0), (5, .bipush (8), 0, 0), (7, .if_icmp .ge (39), 46, 0), (10, .iconst 0, 0, 0), (11, .istore_n 3, 0, 0), (12, .iload_n 3, 0, 0), (13, .bipush (7), 0, 0), (15, .if_icmp .ge (18), 33, 0), (18, .iload_n 0, 0, 0), (19, .iload_n 3, 0, 0), (20, .invokestatic 40, 23, 0), (23, .iload_n 2, 0, 0), (24, .if_icmp .eq (9), 33, 0), (27, .iinc 3 (1), 0, 0), (30, .goto (-18), 12, 0), (33, .bipush (8), 0, 0), (35, .iload_n 1, 0, 0), (36, .imul, 0, 0), (37, .iload_n 3, 0, 0), (38, .iadd, 0, 0), (39, .istore_n 1, 0, 0), (40, .iinc 2 (1), 0, 0), (43, .goto (-39), 4, 0), (46, .iload_n 1, 0, 0), (47, .ireturn, 0, 0)]
def fMo_inverted : sx_F := sx_tab lMo_inverted
theorem kMo_inverted : sx_chk "ClassCharactersModel" (wy yMo_inverted prog_9_method_4_code 4 (some .int)) 4 prog_9_method_4_code lMo_inverted = true := by decide +kernel
theorem gMo_inverted_0 : fMo_inverted 0 = some (.iconst 0, 0, 0) := rfl
theorem gMo_inverted_1 : fMo_inverted 1 = some (.istore_n 1, 0, 0) := rfl
theorem gMo_inverted_2 : fMo_inverted 2 = some (.iconst 0, 0, 0) := rfl
theorem gMo_inverted_3 : fMo_inverted 3 = some (.istore_n 2, 0, 0) := rfl
theorem gMo_inverted_4 : fMo_inverted 4 = some (.iload_n 2, 0, 0) := rfl
theorem gMo_inverted_5 : fMo_inverted 5 = some (.bipush (8), 0, 0) := rfl
theorem gMo_inverted_7 : fMo_inverted 7 = some (.if_icmp .ge (39), 46, 0) := rfl
theorem gMo_inverted_10 : fMo_inverted 10 = some (.iconst 0, 0, 0) := rfl
theorem gMo_inverted_11 : fMo_inverted 11 = some (.istore_n 3, 0, 0) := rfl
theorem gMo_inverted_12 : fMo_inverted 12 = some (.iload_n 3, 0, 0) := rfl
theorem gMo_inverted_13 : fMo_inverted 13 = some (.bipush (7), 0, 0) := rfl
theorem gMo_inverted_15 : fMo_inverted 15 = some (.if_icmp .ge (18), 33, 0) := rfl
theorem gMo_inverted_18 : fMo_inverted 18 = some (.iload_n 0, 0, 0) := rfl
theorem gMo_inverted_19 : fMo_inverted 19 = some (.iload_n 3, 0, 0) := rfl
theorem gMo_inverted_20 : fMo_inverted 20 = some (.invokestatic 40, 23, 0) := rfl
theorem gMo_inverted_23 : fMo_inverted 23 = some (.iload_n 2, 0, 0) := rfl
theorem gMo_inverted_24 : fMo_inverted 24 = some (.if_icmp .eq (9), 33, 0) := rfl
theorem gMo_inverted_27 : fMo_inverted 27 = some (.iinc 3 (1), 0, 0) := rfl
theorem gMo_inverted_30 : fMo_inverted 30 = some (.goto (-18), 12, 0) := rfl
theorem gMo_inverted_33 : fMo_inverted 33 = some (.bipush (8), 0, 0) := rfl
theorem gMo_inverted_35 : fMo_inverted 35 = some (.iload_n 1, 0, 0) := rfl
theorem gMo_inverted_36 : fMo_inverted 36 = some (.imul, 0, 0) := rfl
theorem gMo_inverted_37 : fMo_inverted 37 = some (.iload_n 3, 0, 0) := rfl
theorem gMo_inverted_38 : fMo_inverted 38 = some (.iadd, 0, 0) := rfl
theorem gMo_inverted_39 : fMo_inverted 39 = some (.istore_n 1, 0, 0) := rfl
theorem gMo_inverted_40 : fMo_inverted 40 = some (.iinc 2 (1), 0, 0) := rfl
theorem gMo_inverted_43 : fMo_inverted 43 = some (.goto (-39), 4, 0) := rfl
theorem gMo_inverted_46 : fMo_inverted 46 = some (.iload_n 1, 0, 0) := rfl
theorem gMo_inverted_47 : fMo_inverted 47 = some (.ireturn, 0, 0) := rfl
abbrev lMo_isPermutation : List (Nat × Instr × Nat × Nat) := [(0, .iconst 0, 0, 0), (1, .istore_n 1, 0, 0), (2, .iconst 0, 0, 0), (3, .istore_n 2, 0, 0), (4, .iload_n 2, 0, 0), (5, .bipush (8), 0, 0), (7, .if_icmp .ge (19), 26, 0), (10, .iload_n 1, 0, 0), (11, .iconst 1, 0, 0), (12, .iload_n 0, 0, 0), (13, .iload_n 2, 0, 0), (14, .invokestatic 40, 23, 0), (17, .ishl, 0, 0), (18, .ior, 0, 0), (19, .istore_n 1, 0, 0), (20, .iinc 2 (1), 0, 0), (23, .goto (-19), 4, 0), (26, .iload_n 0, 0, 0), (27, .ifCond .lt (20), 47, 0), (30, .iload_n 0, 0, 0), (31, .ldc 44, 16777216, 0), (33, .if_icmp .ge (14), 47, 0), (36, .iload_n 1, 0, 0), (37, .sipush (255), 0, 0), (40, .if_icmp .ne (7), 47, 0), (43, .iconst 1, 0, 0), (44, .goto (4), 48, 0), (47, .iconst 0, 0, 0), (48, .ireturn, 0, 0)]
def fMo_isPermutation : sx_F := sx_tab lMo_isPermutation
theorem kMo_isPermutation : sx_chk "ClassCharactersModel" (wy yMo_isPermutation prog_9_method_5_code 3 (some .boolean)) 3 prog_9_method_5_code lMo_isPermutation = true := by decide +kernel
theorem gMo_isPermutation_0 : fMo_isPermutation 0 = some (.iconst 0, 0, 0) := rfl
theorem gMo_isPermutation_1 : fMo_isPermutation 1 = some (.istore_n 1, 0, 0) := rfl
theorem gMo_isPermutation_2 : fMo_isPermutation 2 = some (.iconst 0, 0, 0) := rfl
theorem gMo_isPermutation_3 : fMo_isPermutation 3 = some (.istore_n 2, 0, 0) := rfl
theorem gMo_isPermutation_4 : fMo_isPermutation 4 = some (.iload_n 2, 0, 0) := rfl
theorem gMo_isPermutation_5 : fMo_isPermutation 5 = some (.bipush (8), 0, 0) := rfl
theorem gMo_isPermutation_7 : fMo_isPermutation 7 = some (.if_icmp .ge (19), 26, 0) := rfl
theorem gMo_isPermutation_10 : fMo_isPermutation 10 = some (.iload_n 1, 0, 0) := rfl
theorem gMo_isPermutation_11 : fMo_isPermutation 11 = some (.iconst 1, 0, 0) := rfl
theorem gMo_isPermutation_12 : fMo_isPermutation 12 = some (.iload_n 0, 0, 0) := rfl
theorem gMo_isPermutation_13 : fMo_isPermutation 13 = some (.iload_n 2, 0, 0) := rfl
theorem gMo_isPermutation_14 : fMo_isPermutation 14 = some (.invokestatic 40, 23, 0) := rfl
theorem gMo_isPermutation_17 : fMo_isPermutation 17 = some (.ishl, 0, 0) := rfl
theorem gMo_isPermutation_18 : fMo_isPermutation 18 = some (.ior, 0, 0) := rfl
theorem gMo_isPermutation_19 : fMo_isPermutation 19 = some (.istore_n 1, 0, 0) := rfl
theorem gMo_isPermutation_20 : fMo_isPermutation 20 = some (.iinc 2 (1), 0, 0) := rfl
theorem gMo_isPermutation_23 : fMo_isPermutation 23 = some (.goto (-19), 4, 0) := rfl
theorem gMo_isPermutation_26 : fMo_isPermutation 26 = some (.iload_n 0, 0, 0) := rfl
theorem gMo_isPermutation_27 : fMo_isPermutation 27 = some (.ifCond .lt (20), 47, 0) := rfl
theorem gMo_isPermutation_30 : fMo_isPermutation 30 = some (.iload_n 0, 0, 0) := rfl
theorem gMo_isPermutation_31 : fMo_isPermutation 31 = some (.ldc 44, 16777216, 0) := rfl
theorem gMo_isPermutation_33 : fMo_isPermutation 33 = some (.if_icmp .ge (14), 47, 0) := rfl
theorem gMo_isPermutation_36 : fMo_isPermutation 36 = some (.iload_n 1, 0, 0) := rfl
theorem gMo_isPermutation_37 : fMo_isPermutation 37 = some (.sipush (255), 0, 0) := rfl
theorem gMo_isPermutation_40 : fMo_isPermutation 40 = some (.if_icmp .ne (7), 47, 0) := rfl
theorem gMo_isPermutation_43 : fMo_isPermutation 43 = some (.iconst 1, 0, 0) := rfl
theorem gMo_isPermutation_44 : fMo_isPermutation 44 = some (.goto (4), 48, 0) := rfl
theorem gMo_isPermutation_47 : fMo_isPermutation 47 = some (.iconst 0, 0, 0) := rfl
theorem gMo_isPermutation_48 : fMo_isPermutation 48 = some (.ireturn, 0, 0) := rfl
abbrev lMo_add : List (Nat × Instr × Nat × Nat) := [(0, .iload_n 1, 0, 0), (1, .invokestatic 45, 26, 0), (4, .ifCond .eq (11), 15, 0), (7, .aload_n 0, 0, 0), (8, .getfield 49, 6, 0), (11, .iconst 4, 0, 0), (12, .if_icmp .ne (5), 17, 0), (15, .iconst 0, 0, 0), (16, .ireturn, 0, 0), (17, .aload_n 0, 0, 0), (18, .getfield 7, 6, 1), (21, .aload_n 0, 0, 0), (22, .getfield 49, 6, 0), (25, .iload_n 1, 0, 0), (26, .iastore, 0, 0), (27, .aload_n 0, 0, 0), (28, .dup, 0, 0), (29, .getfield 49, 6, 0), (32, .iconst 1, 0, 0), (33, .iadd, 0, 0), (34, .putfield 49, 6, 0), (37, .aload_n 0, 0, 0), (38, .iconst 0, 0, 0), (39, .putfield 53, 106, 2), (42, .iconst 1, 0, 0), (43, .ireturn, 0, 0)]
def fMo_add : sx_F := sx_tab lMo_add
theorem kMo_add : sx_chk "ClassCharactersModel" (wy yMo_add prog_9_method_6_code 2 (some .boolean)) 2 prog_9_method_6_code lMo_add = true := by decide +kernel
theorem gMo_add_0 : fMo_add 0 = some (.iload_n 1, 0, 0) := rfl
theorem gMo_add_1 : fMo_add 1 = some (.invokestatic 45, 26, 0) := rfl
theorem gMo_add_4 : fMo_add 4 = some (.ifCond .eq (11), 15, 0) := rfl
theorem gMo_add_7 : fMo_add 7 = some (.aload_n 0, 0, 0) := rfl
theorem gMo_add_8 : fMo_add 8 = some (.getfield 49, 6, 0) := rfl
theorem gMo_add_11 : fMo_add 11 = some (.iconst 4, 0, 0) := rfl
theorem gMo_add_12 : fMo_add 12 = some (.if_icmp .ne (5), 17, 0) := rfl
theorem gMo_add_15 : fMo_add 15 = some (.iconst 0, 0, 0) := rfl
theorem gMo_add_16 : fMo_add 16 = some (.ireturn, 0, 0) := rfl
theorem gMo_add_17 : fMo_add 17 = some (.aload_n 0, 0, 0) := rfl
theorem gMo_add_18 : fMo_add 18 = some (.getfield 7, 6, 1) := rfl
theorem gMo_add_21 : fMo_add 21 = some (.aload_n 0, 0, 0) := rfl
theorem gMo_add_22 : fMo_add 22 = some (.getfield 49, 6, 0) := rfl
theorem gMo_add_25 : fMo_add 25 = some (.iload_n 1, 0, 0) := rfl
theorem gMo_add_26 : fMo_add 26 = some (.iastore, 0, 0) := rfl
theorem gMo_add_27 : fMo_add 27 = some (.aload_n 0, 0, 0) := rfl
theorem gMo_add_28 : fMo_add 28 = some (.dup, 0, 0) := rfl
theorem gMo_add_29 : fMo_add 29 = some (.getfield 49, 6, 0) := rfl
theorem gMo_add_32 : fMo_add 32 = some (.iconst 1, 0, 0) := rfl
theorem gMo_add_33 : fMo_add 33 = some (.iadd, 0, 0) := rfl
theorem gMo_add_34 : fMo_add 34 = some (.putfield 49, 6, 0) := rfl
theorem gMo_add_37 : fMo_add 37 = some (.aload_n 0, 0, 0) := rfl
theorem gMo_add_38 : fMo_add 38 = some (.iconst 0, 0, 0) := rfl
theorem gMo_add_39 : fMo_add 39 = some (.putfield 53, 106, 2) := rfl
theorem gMo_add_42 : fMo_add 42 = some (.iconst 1, 0, 0) := rfl
theorem gMo_add_43 : fMo_add 43 = some (.ireturn, 0, 0) := rfl
abbrev lMo_clear : List (Nat × Instr × Nat × Nat) := [(0, .aload_n 0, 0, 0), (1, .iconst 0, 0, 0), (2, .putfield 49, 6, 0), (5, .aload_n 0, 0, 0), (6, .iconst 0, 0, 0), (7, .putfield 53, 106, 2), (10, .return_, 0, 0)]
def fMo_clear : sx_F := sx_tab lMo_clear
theorem kMo_clear : sx_chk "ClassCharactersModel" (wy yMo_clear prog_9_method_7_code 1 none) 1 prog_9_method_7_code lMo_clear = true := by decide +kernel
theorem gMo_clear_0 : fMo_clear 0 = some (.aload_n 0, 0, 0) := rfl
theorem gMo_clear_1 : fMo_clear 1 = some (.iconst 0, 0, 0) := rfl
theorem gMo_clear_2 : fMo_clear 2 = some (.putfield 49, 6, 0) := rfl
theorem gMo_clear_5 : fMo_clear 5 = some (.aload_n 0, 0, 0) := rfl
theorem gMo_clear_6 : fMo_clear 6 = some (.iconst 0, 0, 0) := rfl
theorem gMo_clear_7 : fMo_clear 7 = some (.putfield 53, 106, 2) := rfl
theorem gMo_clear_10 : fMo_clear 10 = some (.return_, 0, 0) := rfl
abbrev lMo_find : List (Nat × Instr × Nat × Nat) := [(0, .iconst 0, 0, 0), (1, .istore_n 2, 0, 0), (2, .iload_n 2, 0, 0), (3, .aload_n 0, 0, 0), (4, .getfield 57, 6, 3), (7, .if_icmp .ge (21), 28, 0), (10, .aload_n 0, 0, 0), (11, .getfield 13, 6, 4), (14, .iload_n 2, 0, 0), (15, .iaload, 0, 0), (16, .iload_n 1, 0, 0), (17, .if_icmp .ne (5), 22, 0), (20, .iload_n 2, 0, 0), (21, .ireturn, 0, 0), (22, .iinc 2 (1), 0, 0), (25, .goto (-23), 2, 0), (28, .iconst (-1), 0, 0), (29, .ireturn, 0, 0)]
def fMo_find : sx_F := sx_tab lMo_find
theorem kMo_find : sx_chk "ClassCharactersModel" (wy yMo_find prog_9_method_8_code 3 (some .int)) 3 prog_9_method_8_code lMo_find = true := by decide +kernel
theorem gMo_find_0 : fMo_find 0 = some (.iconst 0, 0, 0) := rfl
theorem gMo_find_1 : fMo_find 1 = some (.istore_n 2, 0, 0) := rfl
theorem gMo_find_2 : fMo_find 2 = some (.iload_n 2, 0, 0) := rfl
theorem gMo_find_3 : fMo_find 3 = some (.aload_n 0, 0, 0) := rfl
theorem gMo_find_4 : fMo_find 4 = some (.getfield 57, 6, 3) := rfl
theorem gMo_find_7 : fMo_find 7 = some (.if_icmp .ge (21), 28, 0) := rfl
theorem gMo_find_10 : fMo_find 10 = some (.aload_n 0, 0, 0) := rfl
theorem gMo_find_11 : fMo_find 11 = some (.getfield 13, 6, 4) := rfl
theorem gMo_find_14 : fMo_find 14 = some (.iload_n 2, 0, 0) := rfl
theorem gMo_find_15 : fMo_find 15 = some (.iaload, 0, 0) := rfl
theorem gMo_find_16 : fMo_find 16 = some (.iload_n 1, 0, 0) := rfl
theorem gMo_find_17 : fMo_find 17 = some (.if_icmp .ne (5), 22, 0) := rfl
theorem gMo_find_20 : fMo_find 20 = some (.iload_n 2, 0, 0) := rfl
theorem gMo_find_21 : fMo_find 21 = some (.ireturn, 0, 0) := rfl
theorem gMo_find_22 : fMo_find 22 = some (.iinc 2 (1), 0, 0) := rfl
theorem gMo_find_25 : fMo_find 25 = some (.goto (-23), 2, 0) := rfl
theorem gMo_find_28 : fMo_find 28 = some (.iconst (-1), 0, 0) := rfl
theorem gMo_find_29 : fMo_find 29 = some (.ireturn, 0, 0) := rfl
abbrev lMo_close : List (Nat × Instr × Nat × Nat) := [(0, .aload_n 0, 0, 0), (1, .iconst 1, 0, 0), (2, .putfield 57, 6, 3), (5, .aload_n 0, 0, 0), (6, .getfield 13, 6, 4), (9, .iconst 0, 0, 0), (10, .ldc 60, 342391, 0), (12, .iastore, 0, 0), (13, .iconst 0, 0, 0), (14, .istore_n 1, 0, 0), (15, .iload_n 1, 0, 0), (16, .aload_n 0, 0, 0), (17, .getfield 57, 6, 3), (20, .if_icmp .ge (81), 101, 0), (23, .iconst 0, 0, 0), (24, .istore_n 2, 0, 0), (25, .iload_n 2, 0, 0), (26, .aload_n 0, 0, 0), (27, .getfield 49, 6, 0), (30, .if_icmp .ge (65), 95, 0), (33, .aload_n 0, 0, 0), (34, .getfield 13, 6, 4), (37, .iload_n 1, 0, 0), (38, .iaload, 0, 0), (39, .aload_n 0, 0, 0), (40, .getfield 7, 6, 1), (43, .iload_n 2, 0, 0), (44, .iaload, 0, 0), (45, .invokestatic 61, 24, 0), (48, .istore_n 3, 0, 0), (49, .aload_n 0, 0, 0), (50, .iload_n 3, 0, 0), (51, .invokevirtual 64, 29, 0), (54, .iconst (-1), 0, 0), (55, .if_icmp .ne (34), 89, 0), (58, .aload_n 0, 0, 0), (59, .getfield 57, 6, 3), (62, .bipush (120), 0, 0), (64, .if_icmp .ne (5), 69, 0), (67, .iconst 0, 0, 0), (68, .ireturn, 0, 0), (69, .aload_n 0, 0, 0), (70, .getfield 13, 6, 4), (73, .aload_n 0, 0, 0), (74, .getfield 57, 6, 3), (77, .iload_n 3, 0, 0), (78, .iastore, 0, 0), (79, .aload_n 0, 0, 0), (80, .dup, 0, 0), (81, .getfield 57, 6, 3), (84, .iconst 1, 0, 0), (85, .iadd, 0, 0), (86, .putfield 57, 6, 3), (89, .iinc 2 (1), 0, 0), (92, .goto (-67), 25, 0), (95, .iinc 1 (1), 0, 0), (98, .goto (-83), 15, 0), (101, .iconst 1, 0, 0), (102, .istore_n 1, 0, 0), (103, .iload_n 1, 0, 0), (104, .aload_n 0, 0, 0), (105, .getfield 57, 6, 3), (108, .if_icmp .ge (61), 169, 0), (111, .aload_n 0, 0, 0), (112, .getfield 13, 6, 4), (115, .iload_n 1, 0, 0), (116, .iaload, 0, 0), (117, .istore_n 2, 0, 0), (118, .iload_n 1, 0, 0), (119, .istore_n 3, 0, 0), (120, .iload_n 3, 0, 0), (121, .ifCond .le (35), 156, 0), (124, .aload_n 0, 0, 0), (125, .getfield 13, 6, 4), (128, .iload_n 3, 0, 0), (129, .iconst 1, 0, 0), (130, .isub, 0, 0), (131, .iaload, 0, 0), (132, .iload_n 2, 0, 0), (133, .if_icmp .le (23), 156, 0), (136, .aload_n 0, 0, 0), (137, .getfield 13, 6, 4), (140, .iload_n 3, 0, 0), (141, .aload_n 0, 0, 0), (142, .getfield 13, 6, 4), (145, .iload_n 3, 0, 0), (146, .iconst 1, 0, 0), (147, .isub, 0, 0), (148, .iaload, 0, 0), (149, .iastore, 0, 0), (150, .iinc 3 (-1), 0, 0), (153, .goto (-33), 120, 0), (156, .aload_n 0, 0, 0), (157, .getfield 13, 6, 4), (160, .iload_n 3, 0, 0), (161, .iload_n 2, 0, 0), (162, .iastore, 0, 0), (163, .iinc 1 (1), 0, 0), (166, .goto (-63), 103, 0), (169, .iconst 1, 0, 0), (170, .ireturn, 0, 0)]
def fMo_close : sx_F := sx_tab lMo_close
theorem kMo_close : sx_chk "ClassCharactersModel" (wy yMo_close prog_9_method_9_code 4 (some .boolean)) 4 prog_9_method_9_code lMo_close = true := by decide +kernel
theorem gMo_close_0 : fMo_close 0 = some (.aload_n 0, 0, 0) := rfl
theorem gMo_close_1 : fMo_close 1 = some (.iconst 1, 0, 0) := rfl
theorem gMo_close_2 : fMo_close 2 = some (.putfield 57, 6, 3) := rfl
theorem gMo_close_5 : fMo_close 5 = some (.aload_n 0, 0, 0) := rfl
theorem gMo_close_6 : fMo_close 6 = some (.getfield 13, 6, 4) := rfl
theorem gMo_close_9 : fMo_close 9 = some (.iconst 0, 0, 0) := rfl
theorem gMo_close_10 : fMo_close 10 = some (.ldc 60, 342391, 0) := rfl
theorem gMo_close_12 : fMo_close 12 = some (.iastore, 0, 0) := rfl
theorem gMo_close_13 : fMo_close 13 = some (.iconst 0, 0, 0) := rfl
theorem gMo_close_14 : fMo_close 14 = some (.istore_n 1, 0, 0) := rfl
theorem gMo_close_15 : fMo_close 15 = some (.iload_n 1, 0, 0) := rfl
theorem gMo_close_16 : fMo_close 16 = some (.aload_n 0, 0, 0) := rfl
theorem gMo_close_17 : fMo_close 17 = some (.getfield 57, 6, 3) := rfl
theorem gMo_close_20 : fMo_close 20 = some (.if_icmp .ge (81), 101, 0) := rfl
theorem gMo_close_23 : fMo_close 23 = some (.iconst 0, 0, 0) := rfl
theorem gMo_close_24 : fMo_close 24 = some (.istore_n 2, 0, 0) := rfl
theorem gMo_close_25 : fMo_close 25 = some (.iload_n 2, 0, 0) := rfl
theorem gMo_close_26 : fMo_close 26 = some (.aload_n 0, 0, 0) := rfl
theorem gMo_close_27 : fMo_close 27 = some (.getfield 49, 6, 0) := rfl
theorem gMo_close_30 : fMo_close 30 = some (.if_icmp .ge (65), 95, 0) := rfl
theorem gMo_close_33 : fMo_close 33 = some (.aload_n 0, 0, 0) := rfl
theorem gMo_close_34 : fMo_close 34 = some (.getfield 13, 6, 4) := rfl
theorem gMo_close_37 : fMo_close 37 = some (.iload_n 1, 0, 0) := rfl
theorem gMo_close_38 : fMo_close 38 = some (.iaload, 0, 0) := rfl
theorem gMo_close_39 : fMo_close 39 = some (.aload_n 0, 0, 0) := rfl
theorem gMo_close_40 : fMo_close 40 = some (.getfield 7, 6, 1) := rfl
theorem gMo_close_43 : fMo_close 43 = some (.iload_n 2, 0, 0) := rfl
theorem gMo_close_44 : fMo_close 44 = some (.iaload, 0, 0) := rfl
theorem gMo_close_45 : fMo_close 45 = some (.invokestatic 61, 24, 0) := rfl
theorem gMo_close_48 : fMo_close 48 = some (.istore_n 3, 0, 0) := rfl
theorem gMo_close_49 : fMo_close 49 = some (.aload_n 0, 0, 0) := rfl
theorem gMo_close_50 : fMo_close 50 = some (.iload_n 3, 0, 0) := rfl
theorem gMo_close_51 : fMo_close 51 = some (.invokevirtual 64, 29, 0) := rfl
theorem gMo_close_54 : fMo_close 54 = some (.iconst (-1), 0, 0) := rfl
theorem gMo_close_55 : fMo_close 55 = some (.if_icmp .ne (34), 89, 0) := rfl
theorem gMo_close_58 : fMo_close 58 = some (.aload_n 0, 0, 0) := rfl
theorem gMo_close_59 : fMo_close 59 = some (.getfield 57, 6, 3) := rfl
theorem gMo_close_62 : fMo_close 62 = some (.bipush (120), 0, 0) := rfl
theorem gMo_close_64 : fMo_close 64 = some (.if_icmp .ne (5), 69, 0) := rfl
theorem gMo_close_67 : fMo_close 67 = some (.iconst 0, 0, 0) := rfl
theorem gMo_close_68 : fMo_close 68 = some (.ireturn, 0, 0) := rfl
theorem gMo_close_69 : fMo_close 69 = some (.aload_n 0, 0, 0) := rfl
theorem gMo_close_70 : fMo_close 70 = some (.getfield 13, 6, 4) := rfl
theorem gMo_close_73 : fMo_close 73 = some (.aload_n 0, 0, 0) := rfl
theorem gMo_close_74 : fMo_close 74 = some (.getfield 57, 6, 3) := rfl
theorem gMo_close_77 : fMo_close 77 = some (.iload_n 3, 0, 0) := rfl
theorem gMo_close_78 : fMo_close 78 = some (.iastore, 0, 0) := rfl
theorem gMo_close_79 : fMo_close 79 = some (.aload_n 0, 0, 0) := rfl
theorem gMo_close_80 : fMo_close 80 = some (.dup, 0, 0) := rfl
theorem gMo_close_81 : fMo_close 81 = some (.getfield 57, 6, 3) := rfl
theorem gMo_close_84 : fMo_close 84 = some (.iconst 1, 0, 0) := rfl
theorem gMo_close_85 : fMo_close 85 = some (.iadd, 0, 0) := rfl
theorem gMo_close_86 : fMo_close 86 = some (.putfield 57, 6, 3) := rfl
theorem gMo_close_89 : fMo_close 89 = some (.iinc 2 (1), 0, 0) := rfl
theorem gMo_close_92 : fMo_close 92 = some (.goto (-67), 25, 0) := rfl
theorem gMo_close_95 : fMo_close 95 = some (.iinc 1 (1), 0, 0) := rfl
theorem gMo_close_98 : fMo_close 98 = some (.goto (-83), 15, 0) := rfl
theorem gMo_close_101 : fMo_close 101 = some (.iconst 1, 0, 0) := rfl
theorem gMo_close_102 : fMo_close 102 = some (.istore_n 1, 0, 0) := rfl
theorem gMo_close_103 : fMo_close 103 = some (.iload_n 1, 0, 0) := rfl
theorem gMo_close_104 : fMo_close 104 = some (.aload_n 0, 0, 0) := rfl
theorem gMo_close_105 : fMo_close 105 = some (.getfield 57, 6, 3) := rfl
theorem gMo_close_108 : fMo_close 108 = some (.if_icmp .ge (61), 169, 0) := rfl
theorem gMo_close_111 : fMo_close 111 = some (.aload_n 0, 0, 0) := rfl
theorem gMo_close_112 : fMo_close 112 = some (.getfield 13, 6, 4) := rfl
theorem gMo_close_115 : fMo_close 115 = some (.iload_n 1, 0, 0) := rfl
theorem gMo_close_116 : fMo_close 116 = some (.iaload, 0, 0) := rfl
theorem gMo_close_117 : fMo_close 117 = some (.istore_n 2, 0, 0) := rfl
theorem gMo_close_118 : fMo_close 118 = some (.iload_n 1, 0, 0) := rfl
theorem gMo_close_119 : fMo_close 119 = some (.istore_n 3, 0, 0) := rfl
theorem gMo_close_120 : fMo_close 120 = some (.iload_n 3, 0, 0) := rfl
theorem gMo_close_121 : fMo_close 121 = some (.ifCond .le (35), 156, 0) := rfl
theorem gMo_close_124 : fMo_close 124 = some (.aload_n 0, 0, 0) := rfl
theorem gMo_close_125 : fMo_close 125 = some (.getfield 13, 6, 4) := rfl
theorem gMo_close_128 : fMo_close 128 = some (.iload_n 3, 0, 0) := rfl
theorem gMo_close_129 : fMo_close 129 = some (.iconst 1, 0, 0) := rfl
theorem gMo_close_130 : fMo_close 130 = some (.isub, 0, 0) := rfl
theorem gMo_close_131 : fMo_close 131 = some (.iaload, 0, 0) := rfl
theorem gMo_close_132 : fMo_close 132 = some (.iload_n 2, 0, 0) := rfl
theorem gMo_close_133 : fMo_close 133 = some (.if_icmp .le (23), 156, 0) := rfl
theorem gMo_close_136 : fMo_close 136 = some (.aload_n 0, 0, 0) := rfl
theorem gMo_close_137 : fMo_close 137 = some (.getfield 13, 6, 4) := rfl
theorem gMo_close_140 : fMo_close 140 = some (.iload_n 3, 0, 0) := rfl
theorem gMo_close_141 : fMo_close 141 = some (.aload_n 0, 0, 0) := rfl
theorem gMo_close_142 : fMo_close 142 = some (.getfield 13, 6, 4) := rfl
theorem gMo_close_145 : fMo_close 145 = some (.iload_n 3, 0, 0) := rfl
theorem gMo_close_146 : fMo_close 146 = some (.iconst 1, 0, 0) := rfl
theorem gMo_close_147 : fMo_close 147 = some (.isub, 0, 0) := rfl
theorem gMo_close_148 : fMo_close 148 = some (.iaload, 0, 0) := rfl
theorem gMo_close_149 : fMo_close 149 = some (.iastore, 0, 0) := rfl
theorem gMo_close_150 : fMo_close 150 = some (.iinc 3 (-1), 0, 0) := rfl
theorem gMo_close_153 : fMo_close 153 = some (.goto (-33), 120, 0) := rfl
theorem gMo_close_156 : fMo_close 156 = some (.aload_n 0, 0, 0) := rfl
theorem gMo_close_157 : fMo_close 157 = some (.getfield 13, 6, 4) := rfl
theorem gMo_close_160 : fMo_close 160 = some (.iload_n 3, 0, 0) := rfl
theorem gMo_close_161 : fMo_close 161 = some (.iload_n 2, 0, 0) := rfl
theorem gMo_close_162 : fMo_close 162 = some (.iastore, 0, 0) := rfl
theorem gMo_close_163 : fMo_close 163 = some (.iinc 1 (1), 0, 0) := rfl
theorem gMo_close_166 : fMo_close 166 = some (.goto (-63), 103, 0) := rfl
theorem gMo_close_169 : fMo_close 169 = some (.iconst 1, 0, 0) := rfl
theorem gMo_close_170 : fMo_close 170 = some (.ireturn, 0, 0) := rfl
abbrev lMo_classify : List (Nat × Instr × Nat × Nat) := [(0, .aload_n 0, 0, 0), (1, .iconst 0, 0, 0), (2, .putfield 68, 6, 6), (5, .iconst 0, 0, 0), (6, .istore_n 1, 0, 0), (7, .iload_n 1, 0, 0), (8, .aload_n 0, 0, 0), (9, .getfield 57, 6, 3), (12, .if_icmp .ge (16), 28, 0), (15, .aload_n 0, 0, 0), (16, .getfield 16, 6, 5), (19, .iload_n 1, 0, 0), (20, .iconst (-1), 0, 0), (21, .iastore, 0, 0), (22, .iinc 1 (1), 0, 0), (25, .goto (-18), 7, 0), (28, .iconst 0, 0, 0), (29, .istore_n 1, 0, 0), (30, .iload_n 1, 0, 0), (31, .aload_n 0, 0, 0), (32, .getfield 57, 6, 3), (35, .if_icmp .ge (162), 197, 0), (38, .aload_n 0, 0, 0), (39, .getfield 16, 6, 5), (42, .iload_n 1, 0, 0), (43, .iaload, 0, 0), (44, .iconst (-1), 0, 0), (45, .if_icmp .eq (6), 51, 0), (48, .goto (143), 191, 0), (51, .aload_n 0, 0, 0), (52, .getfield 68, 6, 6), (55, .bipush (16), 0, 0), (57, .if_icmp .ne (5), 62, 0), (60, .iconst 0, 0, 0), (61, .ireturn, 0, 0), (62, .aload_n 0, 0, 0), (63, .getfield 22, 6, 8), (66, .aload_n 0, 0, 0), (67, .getfield 68, 6, 6), (70, .aload_n 0, 0, 0), (71, .getfield 13, 6, 4), (74, .iload_n 1, 0, 0), (75, .iaload, 0, 0), (76, .iastore, 0, 0), (77, .aload_n 0, 0, 0), (78, .getfield 19, 6, 7), (81, .aload_n 0, 0, 0), (82, .getfield 68, 6, 6), (85, .iconst 0, 0, 0), (86, .iastore, 0, 0), (87, .iconst 0, 0, 0), (88, .istore_n 2, 0, 0), (89, .iload_n 2, 0, 0), (90, .aload_n 0, 0, 0), (91, .getfield 57, 6, 3), (94, .if_icmp .ge (87), 181, 0), (97, .aload_n 0, 0, 0), (98, .getfield 13, 6, 4), (101, .iload_n 2, 0, 0), (102, .iaload, 0, 0), (103, .invokestatic 71, 25, 0), (106, .istore_n 3, 0, 0), (107, .iload_n 3, 0, 0), (108, .aload_n 0, 0, 0), (109, .getfield 13, 6, 4), (112, .iload_n 1, 0, 0), (113, .iaload, 0, 0), (114, .invokestatic 61, 24, 0), (117, .aload_n 0, 0, 0), (118, .getfield 13, 6, 4), (121, .iload_n 2, 0, 0), (122, .iaload, 0, 0), (123, .invokestatic 61, 24, 0), (126, .istore 4, 0, 0), (128, .aload_n 0, 0, 0), (129, .iload 4, 0, 0), (131, .invokevirtual 64, 29, 0), (134, .istore 5, 0, 0), (136, .aload_n 0, 0, 0), (137, .getfield 19, 6, 7), (140, .aload_n 0, 0, 0), (141, .getfield 68, 6, 6), (144, .dup2, 0, 0), (145, .iaload, 0, 0), (146, .aload_n 0, 0, 0), (147, .getfield 16, 6, 5), (150, .iload 5, 0, 0), (152, .iaload, 0, 0), (153, .iconst (-1), 0, 0), (154, .if_icmp .ne (7), 161, 0), (157, .iconst 1, 0, 0), (158, .goto (4), 162, 0), (161, .iconst 0, 0, 0), (162, .iadd, 0, 0), (163, .iastore, 0, 0), (164, .aload_n 0, 0, 0), (165, .getfield 16, 6, 5), (168, .iload 5, 0, 0), (170, .aload_n 0, 0, 0), (171, .getfield 68, 6, 6), (174, .iastore, 0, 0), (175, .iinc 2 (1), 0, 0), (178, .goto (-89), 89, 0), (181, .aload_n 0, 0, 0), (182, .dup, 0, 0), (183, .getfield 68, 6, 6), (186, .iconst 1, 0, 0), (187, .iadd, 0, 0), (188, .putfield 68, 6, 6), (191, .iinc 1 (1), 0, 0), (194, .goto (-164), 30, 0), (197, .iconst 1, 0, 0), (198, .ireturn, 0, 0)]
def fMo_classify : sx_F := sx_tab lMo_classify
theorem kMo_classify : sx_chk "ClassCharactersModel" (wy yMo_classify prog_9_method_10_code 6 (some .boolean)) 6 prog_9_method_10_code lMo_classify = true := by decide +kernel
theorem gMo_classify_0 : fMo_classify 0 = some (.aload_n 0, 0, 0) := rfl
theorem gMo_classify_1 : fMo_classify 1 = some (.iconst 0, 0, 0) := rfl
theorem gMo_classify_2 : fMo_classify 2 = some (.putfield 68, 6, 6) := rfl
theorem gMo_classify_5 : fMo_classify 5 = some (.iconst 0, 0, 0) := rfl
theorem gMo_classify_6 : fMo_classify 6 = some (.istore_n 1, 0, 0) := rfl
theorem gMo_classify_7 : fMo_classify 7 = some (.iload_n 1, 0, 0) := rfl
theorem gMo_classify_8 : fMo_classify 8 = some (.aload_n 0, 0, 0) := rfl
theorem gMo_classify_9 : fMo_classify 9 = some (.getfield 57, 6, 3) := rfl
theorem gMo_classify_12 : fMo_classify 12 = some (.if_icmp .ge (16), 28, 0) := rfl
theorem gMo_classify_15 : fMo_classify 15 = some (.aload_n 0, 0, 0) := rfl
theorem gMo_classify_16 : fMo_classify 16 = some (.getfield 16, 6, 5) := rfl
theorem gMo_classify_19 : fMo_classify 19 = some (.iload_n 1, 0, 0) := rfl
theorem gMo_classify_20 : fMo_classify 20 = some (.iconst (-1), 0, 0) := rfl
theorem gMo_classify_21 : fMo_classify 21 = some (.iastore, 0, 0) := rfl
theorem gMo_classify_22 : fMo_classify 22 = some (.iinc 1 (1), 0, 0) := rfl
theorem gMo_classify_25 : fMo_classify 25 = some (.goto (-18), 7, 0) := rfl
theorem gMo_classify_28 : fMo_classify 28 = some (.iconst 0, 0, 0) := rfl
theorem gMo_classify_29 : fMo_classify 29 = some (.istore_n 1, 0, 0) := rfl
theorem gMo_classify_30 : fMo_classify 30 = some (.iload_n 1, 0, 0) := rfl
theorem gMo_classify_31 : fMo_classify 31 = some (.aload_n 0, 0, 0) := rfl
theorem gMo_classify_32 : fMo_classify 32 = some (.getfield 57, 6, 3) := rfl
theorem gMo_classify_35 : fMo_classify 35 = some (.if_icmp .ge (162), 197, 0) := rfl
theorem gMo_classify_38 : fMo_classify 38 = some (.aload_n 0, 0, 0) := rfl
theorem gMo_classify_39 : fMo_classify 39 = some (.getfield 16, 6, 5) := rfl
theorem gMo_classify_42 : fMo_classify 42 = some (.iload_n 1, 0, 0) := rfl
theorem gMo_classify_43 : fMo_classify 43 = some (.iaload, 0, 0) := rfl
theorem gMo_classify_44 : fMo_classify 44 = some (.iconst (-1), 0, 0) := rfl
theorem gMo_classify_45 : fMo_classify 45 = some (.if_icmp .eq (6), 51, 0) := rfl
theorem gMo_classify_48 : fMo_classify 48 = some (.goto (143), 191, 0) := rfl
theorem gMo_classify_51 : fMo_classify 51 = some (.aload_n 0, 0, 0) := rfl
theorem gMo_classify_52 : fMo_classify 52 = some (.getfield 68, 6, 6) := rfl
theorem gMo_classify_55 : fMo_classify 55 = some (.bipush (16), 0, 0) := rfl
theorem gMo_classify_57 : fMo_classify 57 = some (.if_icmp .ne (5), 62, 0) := rfl
theorem gMo_classify_60 : fMo_classify 60 = some (.iconst 0, 0, 0) := rfl
theorem gMo_classify_61 : fMo_classify 61 = some (.ireturn, 0, 0) := rfl
theorem gMo_classify_62 : fMo_classify 62 = some (.aload_n 0, 0, 0) := rfl
theorem gMo_classify_63 : fMo_classify 63 = some (.getfield 22, 6, 8) := rfl
theorem gMo_classify_66 : fMo_classify 66 = some (.aload_n 0, 0, 0) := rfl
theorem gMo_classify_67 : fMo_classify 67 = some (.getfield 68, 6, 6) := rfl
theorem gMo_classify_70 : fMo_classify 70 = some (.aload_n 0, 0, 0) := rfl
theorem gMo_classify_71 : fMo_classify 71 = some (.getfield 13, 6, 4) := rfl
theorem gMo_classify_74 : fMo_classify 74 = some (.iload_n 1, 0, 0) := rfl
theorem gMo_classify_75 : fMo_classify 75 = some (.iaload, 0, 0) := rfl
theorem gMo_classify_76 : fMo_classify 76 = some (.iastore, 0, 0) := rfl
theorem gMo_classify_77 : fMo_classify 77 = some (.aload_n 0, 0, 0) := rfl
theorem gMo_classify_78 : fMo_classify 78 = some (.getfield 19, 6, 7) := rfl
theorem gMo_classify_81 : fMo_classify 81 = some (.aload_n 0, 0, 0) := rfl
theorem gMo_classify_82 : fMo_classify 82 = some (.getfield 68, 6, 6) := rfl
theorem gMo_classify_85 : fMo_classify 85 = some (.iconst 0, 0, 0) := rfl
theorem gMo_classify_86 : fMo_classify 86 = some (.iastore, 0, 0) := rfl
theorem gMo_classify_87 : fMo_classify 87 = some (.iconst 0, 0, 0) := rfl
theorem gMo_classify_88 : fMo_classify 88 = some (.istore_n 2, 0, 0) := rfl
theorem gMo_classify_89 : fMo_classify 89 = some (.iload_n 2, 0, 0) := rfl
theorem gMo_classify_90 : fMo_classify 90 = some (.aload_n 0, 0, 0) := rfl
theorem gMo_classify_91 : fMo_classify 91 = some (.getfield 57, 6, 3) := rfl
theorem gMo_classify_94 : fMo_classify 94 = some (.if_icmp .ge (87), 181, 0) := rfl
theorem gMo_classify_97 : fMo_classify 97 = some (.aload_n 0, 0, 0) := rfl
theorem gMo_classify_98 : fMo_classify 98 = some (.getfield 13, 6, 4) := rfl
theorem gMo_classify_101 : fMo_classify 101 = some (.iload_n 2, 0, 0) := rfl
theorem gMo_classify_102 : fMo_classify 102 = some (.iaload, 0, 0) := rfl
theorem gMo_classify_103 : fMo_classify 103 = some (.invokestatic 71, 25, 0) := rfl
theorem gMo_classify_106 : fMo_classify 106 = some (.istore_n 3, 0, 0) := rfl
theorem gMo_classify_107 : fMo_classify 107 = some (.iload_n 3, 0, 0) := rfl
theorem gMo_classify_108 : fMo_classify 108 = some (.aload_n 0, 0, 0) := rfl
theorem gMo_classify_109 : fMo_classify 109 = some (.getfield 13, 6, 4) := rfl
theorem gMo_classify_112 : fMo_classify 112 = some (.iload_n 1, 0, 0) := rfl
theorem gMo_classify_113 : fMo_classify 113 = some (.iaload, 0, 0) := rfl
theorem gMo_classify_114 : fMo_classify 114 = some (.invokestatic 61, 24, 0) := rfl
theorem gMo_classify_117 : fMo_classify 117 = some (.aload_n 0, 0, 0) := rfl
theorem gMo_classify_118 : fMo_classify 118 = some (.getfield 13, 6, 4) := rfl
theorem gMo_classify_121 : fMo_classify 121 = some (.iload_n 2, 0, 0) := rfl
theorem gMo_classify_122 : fMo_classify 122 = some (.iaload, 0, 0) := rfl
theorem gMo_classify_123 : fMo_classify 123 = some (.invokestatic 61, 24, 0) := rfl
theorem gMo_classify_126 : fMo_classify 126 = some (.istore 4, 0, 0) := rfl
theorem gMo_classify_128 : fMo_classify 128 = some (.aload_n 0, 0, 0) := rfl
theorem gMo_classify_129 : fMo_classify 129 = some (.iload 4, 0, 0) := rfl
theorem gMo_classify_131 : fMo_classify 131 = some (.invokevirtual 64, 29, 0) := rfl
theorem gMo_classify_134 : fMo_classify 134 = some (.istore 5, 0, 0) := rfl
theorem gMo_classify_136 : fMo_classify 136 = some (.aload_n 0, 0, 0) := rfl
theorem gMo_classify_137 : fMo_classify 137 = some (.getfield 19, 6, 7) := rfl
theorem gMo_classify_140 : fMo_classify 140 = some (.aload_n 0, 0, 0) := rfl
theorem gMo_classify_141 : fMo_classify 141 = some (.getfield 68, 6, 6) := rfl
theorem gMo_classify_144 : fMo_classify 144 = some (.dup2, 0, 0) := rfl
theorem gMo_classify_145 : fMo_classify 145 = some (.iaload, 0, 0) := rfl
theorem gMo_classify_146 : fMo_classify 146 = some (.aload_n 0, 0, 0) := rfl
theorem gMo_classify_147 : fMo_classify 147 = some (.getfield 16, 6, 5) := rfl
theorem gMo_classify_150 : fMo_classify 150 = some (.iload 5, 0, 0) := rfl
theorem gMo_classify_152 : fMo_classify 152 = some (.iaload, 0, 0) := rfl
theorem gMo_classify_153 : fMo_classify 153 = some (.iconst (-1), 0, 0) := rfl
theorem gMo_classify_154 : fMo_classify 154 = some (.if_icmp .ne (7), 161, 0) := rfl
theorem gMo_classify_157 : fMo_classify 157 = some (.iconst 1, 0, 0) := rfl
theorem gMo_classify_158 : fMo_classify 158 = some (.goto (4), 162, 0) := rfl
theorem gMo_classify_161 : fMo_classify 161 = some (.iconst 0, 0, 0) := rfl
theorem gMo_classify_162 : fMo_classify 162 = some (.iadd, 0, 0) := rfl
theorem gMo_classify_163 : fMo_classify 163 = some (.iastore, 0, 0) := rfl
theorem gMo_classify_164 : fMo_classify 164 = some (.aload_n 0, 0, 0) := rfl
theorem gMo_classify_165 : fMo_classify 165 = some (.getfield 16, 6, 5) := rfl
theorem gMo_classify_168 : fMo_classify 168 = some (.iload 5, 0, 0) := rfl
theorem gMo_classify_170 : fMo_classify 170 = some (.aload_n 0, 0, 0) := rfl
theorem gMo_classify_171 : fMo_classify 171 = some (.getfield 68, 6, 6) := rfl
theorem gMo_classify_174 : fMo_classify 174 = some (.iastore, 0, 0) := rfl
theorem gMo_classify_175 : fMo_classify 175 = some (.iinc 2 (1), 0, 0) := rfl
theorem gMo_classify_178 : fMo_classify 178 = some (.goto (-89), 89, 0) := rfl
theorem gMo_classify_181 : fMo_classify 181 = some (.aload_n 0, 0, 0) := rfl
theorem gMo_classify_182 : fMo_classify 182 = some (.dup, 0, 0) := rfl
theorem gMo_classify_183 : fMo_classify 183 = some (.getfield 68, 6, 6) := rfl
theorem gMo_classify_186 : fMo_classify 186 = some (.iconst 1, 0, 0) := rfl
theorem gMo_classify_187 : fMo_classify 187 = some (.iadd, 0, 0) := rfl
theorem gMo_classify_188 : fMo_classify 188 = some (.putfield 68, 6, 6) := rfl
theorem gMo_classify_191 : fMo_classify 191 = some (.iinc 1 (1), 0, 0) := rfl
theorem gMo_classify_194 : fMo_classify 194 = some (.goto (-164), 30, 0) := rfl
theorem gMo_classify_197 : fMo_classify 197 = some (.iconst 1, 0, 0) := rfl
theorem gMo_classify_198 : fMo_classify 198 = some (.ireturn, 0, 0) := rfl
abbrev lMo_count : List (Nat × Instr × Nat × Nat) := [(0, .iconst 0, 0, 0), (1, .istore_n 1, 0, 0), (2, .iload_n 1, 0, 0), (3, .sipush (4096), 0, 0), (6, .if_icmp .ge (16), 22, 0), (9, .aload_n 0, 0, 0), (10, .getfield 25, 6, 9), (13, .iload_n 1, 0, 0), (14, .iconst 0, 0, 0), (15, .iastore, 0, 0), (16, .iinc 1 (1), 0, 0), (19, .goto (-17), 2, 0), (22, .iconst 0, 0, 0), (23, .istore_n 1, 0, 0), (24, .iload_n 1, 0, 0), (25, .aload_n 0, 0, 0), (26, .getfield 68, 6, 6), (29, .if_icmp .ge (83), 112, 0), (32, .iconst 0, 0, 0), (33, .istore_n 2, 0, 0), (34, .iload_n 2, 0, 0), (35, .aload_n 0, 0, 0), (36, .getfield 57, 6, 3), (39, .if_icmp .ge (67), 106, 0), (42, .aload_n 0, 0, 0), (43, .getfield 13, 6, 4), (46, .iload_n 2, 0, 0), (47, .iaload, 0, 0), (48, .invokestatic 71, 25, 0), (51, .istore_n 3, 0, 0), (52, .iload_n 3, 0, 0), (53, .aload_n 0, 0, 0), (54, .getfield 22, 6, 8), (57, .iload_n 1, 0, 0), (58, .iaload, 0, 0), (59, .invokestatic 61, 24, 0), (62, .istore 4, 0, 0), (64, .aload_n 0, 0, 0), (65, .getfield 25, 6, 9), (68, .sipush (256), 0, 0), (71, .aload_n 0, 0, 0), (72, .getfield 16, 6, 5), (75, .iload_n 2, 0, 0), (76, .iaload, 0, 0), (77, .imul, 0, 0), (78, .bipush (16), 0, 0), (80, .aload_n 0, 0, 0), (81, .getfield 16, 6, 5), (84, .aload_n 0, 0, 0), (85, .iload 4, 0, 0), (87, .invokevirtual 64, 29, 0), (90, .iaload, 0, 0), (91, .imul, 0, 0), (92, .iadd, 0, 0), (93, .iload_n 1, 0, 0), (94, .iadd, 0, 0), (95, .dup2, 0, 0), (96, .iaload, 0, 0), (97, .iconst 1, 0, 0), (98, .iadd, 0, 0), (99, .iastore, 0, 0), (100, .iinc 2 (1), 0, 0), (103, .goto (-69), 34, 0), (106, .iinc 1 (1), 0, 0), (109, .goto (-85), 24, 0), (112, .return_, 0, 0)]
def fMo_count : sx_F := sx_tab lMo_count
theorem kMo_count : sx_chk "ClassCharactersModel" (wy yMo_count prog_9_method_11_code 5 none) 5 prog_9_method_11_code lMo_count = true := by decide +kernel
theorem gMo_count_0 : fMo_count 0 = some (.iconst 0, 0, 0) := rfl
theorem gMo_count_1 : fMo_count 1 = some (.istore_n 1, 0, 0) := rfl
theorem gMo_count_2 : fMo_count 2 = some (.iload_n 1, 0, 0) := rfl
theorem gMo_count_3 : fMo_count 3 = some (.sipush (4096), 0, 0) := rfl
theorem gMo_count_6 : fMo_count 6 = some (.if_icmp .ge (16), 22, 0) := rfl
theorem gMo_count_9 : fMo_count 9 = some (.aload_n 0, 0, 0) := rfl
theorem gMo_count_10 : fMo_count 10 = some (.getfield 25, 6, 9) := rfl
theorem gMo_count_13 : fMo_count 13 = some (.iload_n 1, 0, 0) := rfl
theorem gMo_count_14 : fMo_count 14 = some (.iconst 0, 0, 0) := rfl
theorem gMo_count_15 : fMo_count 15 = some (.iastore, 0, 0) := rfl
theorem gMo_count_16 : fMo_count 16 = some (.iinc 1 (1), 0, 0) := rfl
theorem gMo_count_19 : fMo_count 19 = some (.goto (-17), 2, 0) := rfl
theorem gMo_count_22 : fMo_count 22 = some (.iconst 0, 0, 0) := rfl
theorem gMo_count_23 : fMo_count 23 = some (.istore_n 1, 0, 0) := rfl
theorem gMo_count_24 : fMo_count 24 = some (.iload_n 1, 0, 0) := rfl
theorem gMo_count_25 : fMo_count 25 = some (.aload_n 0, 0, 0) := rfl
theorem gMo_count_26 : fMo_count 26 = some (.getfield 68, 6, 6) := rfl
theorem gMo_count_29 : fMo_count 29 = some (.if_icmp .ge (83), 112, 0) := rfl
theorem gMo_count_32 : fMo_count 32 = some (.iconst 0, 0, 0) := rfl
theorem gMo_count_33 : fMo_count 33 = some (.istore_n 2, 0, 0) := rfl
theorem gMo_count_34 : fMo_count 34 = some (.iload_n 2, 0, 0) := rfl
theorem gMo_count_35 : fMo_count 35 = some (.aload_n 0, 0, 0) := rfl
theorem gMo_count_36 : fMo_count 36 = some (.getfield 57, 6, 3) := rfl
theorem gMo_count_39 : fMo_count 39 = some (.if_icmp .ge (67), 106, 0) := rfl
theorem gMo_count_42 : fMo_count 42 = some (.aload_n 0, 0, 0) := rfl
theorem gMo_count_43 : fMo_count 43 = some (.getfield 13, 6, 4) := rfl
theorem gMo_count_46 : fMo_count 46 = some (.iload_n 2, 0, 0) := rfl
theorem gMo_count_47 : fMo_count 47 = some (.iaload, 0, 0) := rfl
theorem gMo_count_48 : fMo_count 48 = some (.invokestatic 71, 25, 0) := rfl
theorem gMo_count_51 : fMo_count 51 = some (.istore_n 3, 0, 0) := rfl
theorem gMo_count_52 : fMo_count 52 = some (.iload_n 3, 0, 0) := rfl
theorem gMo_count_53 : fMo_count 53 = some (.aload_n 0, 0, 0) := rfl
theorem gMo_count_54 : fMo_count 54 = some (.getfield 22, 6, 8) := rfl
theorem gMo_count_57 : fMo_count 57 = some (.iload_n 1, 0, 0) := rfl
theorem gMo_count_58 : fMo_count 58 = some (.iaload, 0, 0) := rfl
theorem gMo_count_59 : fMo_count 59 = some (.invokestatic 61, 24, 0) := rfl
theorem gMo_count_62 : fMo_count 62 = some (.istore 4, 0, 0) := rfl
theorem gMo_count_64 : fMo_count 64 = some (.aload_n 0, 0, 0) := rfl
theorem gMo_count_65 : fMo_count 65 = some (.getfield 25, 6, 9) := rfl
theorem gMo_count_68 : fMo_count 68 = some (.sipush (256), 0, 0) := rfl
theorem gMo_count_71 : fMo_count 71 = some (.aload_n 0, 0, 0) := rfl
theorem gMo_count_72 : fMo_count 72 = some (.getfield 16, 6, 5) := rfl
theorem gMo_count_75 : fMo_count 75 = some (.iload_n 2, 0, 0) := rfl
theorem gMo_count_76 : fMo_count 76 = some (.iaload, 0, 0) := rfl
theorem gMo_count_77 : fMo_count 77 = some (.imul, 0, 0) := rfl
theorem gMo_count_78 : fMo_count 78 = some (.bipush (16), 0, 0) := rfl
theorem gMo_count_80 : fMo_count 80 = some (.aload_n 0, 0, 0) := rfl
theorem gMo_count_81 : fMo_count 81 = some (.getfield 16, 6, 5) := rfl
theorem gMo_count_84 : fMo_count 84 = some (.aload_n 0, 0, 0) := rfl
theorem gMo_count_85 : fMo_count 85 = some (.iload 4, 0, 0) := rfl
theorem gMo_count_87 : fMo_count 87 = some (.invokevirtual 64, 29, 0) := rfl
theorem gMo_count_90 : fMo_count 90 = some (.iaload, 0, 0) := rfl
theorem gMo_count_91 : fMo_count 91 = some (.imul, 0, 0) := rfl
theorem gMo_count_92 : fMo_count 92 = some (.iadd, 0, 0) := rfl
theorem gMo_count_93 : fMo_count 93 = some (.iload_n 1, 0, 0) := rfl
theorem gMo_count_94 : fMo_count 94 = some (.iadd, 0, 0) := rfl
theorem gMo_count_95 : fMo_count 95 = some (.dup2, 0, 0) := rfl
theorem gMo_count_96 : fMo_count 96 = some (.iaload, 0, 0) := rfl
theorem gMo_count_97 : fMo_count 97 = some (.iconst 1, 0, 0) := rfl
theorem gMo_count_98 : fMo_count 98 = some (.iadd, 0, 0) := rfl
theorem gMo_count_99 : fMo_count 99 = some (.iastore, 0, 0) := rfl
theorem gMo_count_100 : fMo_count 100 = some (.iinc 2 (1), 0, 0) := rfl
theorem gMo_count_103 : fMo_count 103 = some (.goto (-69), 34, 0) := rfl
theorem gMo_count_106 : fMo_count 106 = some (.iinc 1 (1), 0, 0) := rfl
theorem gMo_count_109 : fMo_count 109 = some (.goto (-85), 24, 0) := rfl
theorem gMo_count_112 : fMo_count 112 = some (.return_, 0, 0) := rfl
abbrev lMo_powerOf : List (Nat × Instr × Nat × Nat) := [(0, .ldc 60, 342391, 0), (2, .istore_n 3, 0, 0), (3, .iconst 0, 0, 0), (4, .istore 4, 0, 0), (6, .iload 4, 0, 0), (8, .iload_n 2, 0, 0), (9, .if_icmp .ge (15), 24, 0), (12, .iload_n 3, 0, 0), (13, .iload_n 1, 0, 0), (14, .invokestatic 61, 24, 0), (17, .istore_n 3, 0, 0), (18, .iinc 4 (1), 0, 0), (21, .goto (-15), 6, 0), (24, .iload_n 3, 0, 0), (25, .ireturn, 0, 0)]
def fMo_powerOf : sx_F := sx_tab lMo_powerOf
theorem kMo_powerOf : sx_chk "ClassCharactersModel" (wy yMo_powerOf prog_9_method_12_code 5 (some .int)) 5 prog_9_method_12_code lMo_powerOf = true := by decide +kernel
theorem gMo_powerOf_0 : fMo_powerOf 0 = some (.ldc 60, 342391, 0) := rfl
theorem gMo_powerOf_2 : fMo_powerOf 2 = some (.istore_n 3, 0, 0) := rfl
theorem gMo_powerOf_3 : fMo_powerOf 3 = some (.iconst 0, 0, 0) := rfl
theorem gMo_powerOf_4 : fMo_powerOf 4 = some (.istore 4, 0, 0) := rfl
theorem gMo_powerOf_6 : fMo_powerOf 6 = some (.iload 4, 0, 0) := rfl
theorem gMo_powerOf_8 : fMo_powerOf 8 = some (.iload_n 2, 0, 0) := rfl
theorem gMo_powerOf_9 : fMo_powerOf 9 = some (.if_icmp .ge (15), 24, 0) := rfl
theorem gMo_powerOf_12 : fMo_powerOf 12 = some (.iload_n 3, 0, 0) := rfl
theorem gMo_powerOf_13 : fMo_powerOf 13 = some (.iload_n 1, 0, 0) := rfl
theorem gMo_powerOf_14 : fMo_powerOf 14 = some (.invokestatic 61, 24, 0) := rfl
theorem gMo_powerOf_17 : fMo_powerOf 17 = some (.istore_n 3, 0, 0) := rfl
theorem gMo_powerOf_18 : fMo_powerOf 18 = some (.iinc 4 (1), 0, 0) := rfl
theorem gMo_powerOf_21 : fMo_powerOf 21 = some (.goto (-15), 6, 0) := rfl
theorem gMo_powerOf_24 : fMo_powerOf 24 = some (.iload_n 3, 0, 0) := rfl
theorem gMo_powerOf_25 : fMo_powerOf 25 = some (.ireturn, 0, 0) := rfl
abbrev lMo_allAtOnce : List (Nat × Instr × Nat × Nat) := [(0, .iconst 1, 0, 0), (1, .istore_n 2, 0, 0), (2, .iconst 0, 0, 0), (3, .istore_n 3, 0, 0), (4, .iload_n 3, 0, 0), (5, .aload_n 0, 0, 0), (6, .getfield 68, 6, 6), (9, .if_icmp .ge (35), 44, 0), (12, .iload_n 2, 0, 0), (13, .ifCond .eq (23), 36, 0), (16, .aload_n 0, 0, 0), (17, .aload_n 0, 0, 0), (18, .getfield 22, 6, 8), (21, .iload_n 3, 0, 0), (22, .iaload, 0, 0), (23, .iload_n 1, 0, 0), (24, .invokevirtual 74, 33, 0), (27, .ldc 60, 342391, 0), (29, .if_icmp .ne (7), 36, 0), (32, .iconst 1, 0, 0), (33, .goto (4), 37, 0), (36, .iconst 0, 0, 0), (37, .istore_n 2, 0, 0), (38, .iinc 3 (1), 0, 0), (41, .goto (-37), 4, 0), (44, .iload_n 2, 0, 0), (45, .ireturn, 0, 0)]
def fMo_allAtOnce : sx_F := sx_tab lMo_allAtOnce
theorem kMo_allAtOnce : sx_chk "ClassCharactersModel" (wy yMo_allAtOnce prog_9_method_13_code 4 (some .boolean)) 4 prog_9_method_13_code lMo_allAtOnce = true := by decide +kernel
theorem gMo_allAtOnce_0 : fMo_allAtOnce 0 = some (.iconst 1, 0, 0) := rfl
theorem gMo_allAtOnce_1 : fMo_allAtOnce 1 = some (.istore_n 2, 0, 0) := rfl
theorem gMo_allAtOnce_2 : fMo_allAtOnce 2 = some (.iconst 0, 0, 0) := rfl
theorem gMo_allAtOnce_3 : fMo_allAtOnce 3 = some (.istore_n 3, 0, 0) := rfl
theorem gMo_allAtOnce_4 : fMo_allAtOnce 4 = some (.iload_n 3, 0, 0) := rfl
theorem gMo_allAtOnce_5 : fMo_allAtOnce 5 = some (.aload_n 0, 0, 0) := rfl
theorem gMo_allAtOnce_6 : fMo_allAtOnce 6 = some (.getfield 68, 6, 6) := rfl
theorem gMo_allAtOnce_9 : fMo_allAtOnce 9 = some (.if_icmp .ge (35), 44, 0) := rfl
theorem gMo_allAtOnce_12 : fMo_allAtOnce 12 = some (.iload_n 2, 0, 0) := rfl
theorem gMo_allAtOnce_13 : fMo_allAtOnce 13 = some (.ifCond .eq (23), 36, 0) := rfl
theorem gMo_allAtOnce_16 : fMo_allAtOnce 16 = some (.aload_n 0, 0, 0) := rfl
theorem gMo_allAtOnce_17 : fMo_allAtOnce 17 = some (.aload_n 0, 0, 0) := rfl
theorem gMo_allAtOnce_18 : fMo_allAtOnce 18 = some (.getfield 22, 6, 8) := rfl
theorem gMo_allAtOnce_21 : fMo_allAtOnce 21 = some (.iload_n 3, 0, 0) := rfl
theorem gMo_allAtOnce_22 : fMo_allAtOnce 22 = some (.iaload, 0, 0) := rfl
theorem gMo_allAtOnce_23 : fMo_allAtOnce 23 = some (.iload_n 1, 0, 0) := rfl
theorem gMo_allAtOnce_24 : fMo_allAtOnce 24 = some (.invokevirtual 74, 33, 0) := rfl
theorem gMo_allAtOnce_27 : fMo_allAtOnce 27 = some (.ldc 60, 342391, 0) := rfl
theorem gMo_allAtOnce_29 : fMo_allAtOnce 29 = some (.if_icmp .ne (7), 36, 0) := rfl
theorem gMo_allAtOnce_32 : fMo_allAtOnce 32 = some (.iconst 1, 0, 0) := rfl
theorem gMo_allAtOnce_33 : fMo_allAtOnce 33 = some (.goto (4), 37, 0) := rfl
theorem gMo_allAtOnce_36 : fMo_allAtOnce 36 = some (.iconst 0, 0, 0) := rfl
theorem gMo_allAtOnce_37 : fMo_allAtOnce 37 = some (.istore_n 2, 0, 0) := rfl
theorem gMo_allAtOnce_38 : fMo_allAtOnce 38 = some (.iinc 3 (1), 0, 0) := rfl
theorem gMo_allAtOnce_41 : fMo_allAtOnce 41 = some (.goto (-37), 4, 0) := rfl
theorem gMo_allAtOnce_44 : fMo_allAtOnce 44 = some (.iload_n 2, 0, 0) := rfl
theorem gMo_allAtOnce_45 : fMo_allAtOnce 45 = some (.ireturn, 0, 0) := rfl
abbrev lMo_isPrime : List (Nat × Instr × Nat × Nat) := [(0, .iload_n 0, 0, 0), (1, .iconst 1, 0, 0), (2, .if_icmp .le (7), 9, 0), (5, .iconst 1, 0, 0), (6, .goto (4), 10, 0), (9, .iconst 0, 0, 0), (10, .istore_n 1, 0, 0), (11, .iconst 2, 0, 0), (12, .istore_n 2, 0, 0), (13, .iload_n 2, 0, 0), (14, .iload_n 2, 0, 0), (15, .imul, 0, 0), (16, .iload_n 0, 0, 0), (17, .if_icmp .gt (25), 42, 0), (20, .iload_n 1, 0, 0), (21, .ifCond .eq (13), 34, 0), (24, .iload_n 0, 0, 0), (25, .iload_n 2, 0, 0), (26, .irem, 0, 0), (27, .ifCond .eq (7), 34, 0), (30, .iconst 1, 0, 0), (31, .goto (4), 35, 0), (34, .iconst 0, 0, 0), (35, .istore_n 1, 0, 0), (36, .iinc 2 (1), 0, 0), (39, .goto (-26), 13, 0), (42, .iload_n 1, 0, 0), (43, .ireturn, 0, 0)]
def fMo_isPrime : sx_F := sx_tab lMo_isPrime
theorem kMo_isPrime : sx_chk "ClassCharactersModel" (wy yMo_isPrime prog_9_method_14_code 3 (some .boolean)) 3 prog_9_method_14_code lMo_isPrime = true := by decide +kernel
theorem gMo_isPrime_0 : fMo_isPrime 0 = some (.iload_n 0, 0, 0) := rfl
theorem gMo_isPrime_1 : fMo_isPrime 1 = some (.iconst 1, 0, 0) := rfl
theorem gMo_isPrime_2 : fMo_isPrime 2 = some (.if_icmp .le (7), 9, 0) := rfl
theorem gMo_isPrime_5 : fMo_isPrime 5 = some (.iconst 1, 0, 0) := rfl
theorem gMo_isPrime_6 : fMo_isPrime 6 = some (.goto (4), 10, 0) := rfl
theorem gMo_isPrime_9 : fMo_isPrime 9 = some (.iconst 0, 0, 0) := rfl
theorem gMo_isPrime_10 : fMo_isPrime 10 = some (.istore_n 1, 0, 0) := rfl
theorem gMo_isPrime_11 : fMo_isPrime 11 = some (.iconst 2, 0, 0) := rfl
theorem gMo_isPrime_12 : fMo_isPrime 12 = some (.istore_n 2, 0, 0) := rfl
theorem gMo_isPrime_13 : fMo_isPrime 13 = some (.iload_n 2, 0, 0) := rfl
theorem gMo_isPrime_14 : fMo_isPrime 14 = some (.iload_n 2, 0, 0) := rfl
theorem gMo_isPrime_15 : fMo_isPrime 15 = some (.imul, 0, 0) := rfl
theorem gMo_isPrime_16 : fMo_isPrime 16 = some (.iload_n 0, 0, 0) := rfl
theorem gMo_isPrime_17 : fMo_isPrime 17 = some (.if_icmp .gt (25), 42, 0) := rfl
theorem gMo_isPrime_20 : fMo_isPrime 20 = some (.iload_n 1, 0, 0) := rfl
theorem gMo_isPrime_21 : fMo_isPrime 21 = some (.ifCond .eq (13), 34, 0) := rfl
theorem gMo_isPrime_24 : fMo_isPrime 24 = some (.iload_n 0, 0, 0) := rfl
theorem gMo_isPrime_25 : fMo_isPrime 25 = some (.iload_n 2, 0, 0) := rfl
theorem gMo_isPrime_26 : fMo_isPrime 26 = some (.irem, 0, 0) := rfl
theorem gMo_isPrime_27 : fMo_isPrime 27 = some (.ifCond .eq (7), 34, 0) := rfl
theorem gMo_isPrime_30 : fMo_isPrime 30 = some (.iconst 1, 0, 0) := rfl
theorem gMo_isPrime_31 : fMo_isPrime 31 = some (.goto (4), 35, 0) := rfl
theorem gMo_isPrime_34 : fMo_isPrime 34 = some (.iconst 0, 0, 0) := rfl
theorem gMo_isPrime_35 : fMo_isPrime 35 = some (.istore_n 1, 0, 0) := rfl
theorem gMo_isPrime_36 : fMo_isPrime 36 = some (.iinc 2 (1), 0, 0) := rfl
theorem gMo_isPrime_39 : fMo_isPrime 39 = some (.goto (-26), 13, 0) := rfl
theorem gMo_isPrime_42 : fMo_isPrime 42 = some (.iload_n 1, 0, 0) := rfl
theorem gMo_isPrime_43 : fMo_isPrime 43 = some (.ireturn, 0, 0) := rfl
abbrev lMo_numbers : List (Nat × Instr × Nat × Nat) := [(0, .aload_n 0, 0, 0), (1, .iconst 1, 0, 0), (2, .putfield 77, 6, 10), (5, .aload_n 0, 0, 0), (6, .getfield 77, 6, 10), (9, .sipush (840), 0, 0), (12, .if_icmp .ge (27), 39, 0), (15, .aload_n 0, 0, 0), (16, .aload_n 0, 0, 0), (17, .getfield 77, 6, 10), (20, .invokevirtual 80, 34, 0), (23, .ifCond .ne (16), 39, 0), (26, .aload_n 0, 0, 0), (27, .dup, 0, 0), (28, .getfield 77, 6, 10), (31, .iconst 1, 0, 0), (32, .iadd, 0, 0), (33, .putfield 77, 6, 10), (36, .goto (-31), 5, 0), (39, .aload_n 0, 0, 0), (40, .iconst 2, 0, 0), (41, .putfield 83, 6, 11), (44, .aload_n 0, 0, 0), (45, .getfield 83, 6, 11), (48, .sipush (10000), 0, 0), (51, .if_icmp .ge (58), 109, 0), (54, .aload_n 0, 0, 0), (55, .getfield 83, 6, 11), (58, .invokestatic 86, 35, 0), (61, .ifCond .eq (35), 96, 0), (64, .aload_n 0, 0, 0), (65, .getfield 83, 6, 11), (68, .aload_n 0, 0, 0), (69, .getfield 83, 6, 11), (72, .imul, 0, 0), (73, .iconst 4, 0, 0), (74, .aload_n 0, 0, 0), (75, .getfield 57, 6, 3), (78, .imul, 0, 0), (79, .if_icmp .le (17), 96, 0), (82, .aload_n 0, 0, 0), (83, .getfield 83, 6, 11), (86, .iconst 1, 0, 0), (87, .isub, 0, 0), (88, .aload_n 0, 0, 0), (89, .getfield 77, 6, 10), (92, .irem, 0, 0), (93, .ifCond .eq (16), 109, 0), (96, .aload_n 0, 0, 0), (97, .dup, 0, 0), (98, .getfield 83, 6, 11), (101, .iconst 1, 0, 0), (102, .iadd, 0, 0), (103, .putfield 83, 6, 11), (106, .goto (-62), 44, 0), (109, .aload_n 0, 0, 0), (110, .iconst 1, 0, 0), (111, .putfield 89, 6, 12), (114, .aload_n 0, 0, 0), (115, .getfield 89, 6, 12), (118, .aload_n 0, 0, 0), (119, .getfield 83, 6, 11), (122, .if_icmp .ge (27), 149, 0), (125, .aload_n 0, 0, 0), (126, .aload_n 0, 0, 0), (127, .getfield 89, 6, 12), (130, .invokevirtual 92, 37, 0), (133, .ifCond .ne (16), 149, 0), (136, .aload_n 0, 0, 0), (137, .dup, 0, 0), (138, .getfield 89, 6, 12), (141, .iconst 1, 0, 0), (142, .iadd, 0, 0), (143, .putfield 89, 6, 12), (146, .goto (-32), 114, 0), (149, .return_, 0, 0)]
def fMo_numbers : sx_F := sx_tab lMo_numbers
theorem kMo_numbers : sx_chk "ClassCharactersModel" (wy yMo_numbers prog_9_method_15_code 1 none) 1 prog_9_method_15_code lMo_numbers = true := by decide +kernel
theorem gMo_numbers_0 : fMo_numbers 0 = some (.aload_n 0, 0, 0) := rfl
theorem gMo_numbers_1 : fMo_numbers 1 = some (.iconst 1, 0, 0) := rfl
theorem gMo_numbers_2 : fMo_numbers 2 = some (.putfield 77, 6, 10) := rfl
theorem gMo_numbers_5 : fMo_numbers 5 = some (.aload_n 0, 0, 0) := rfl
theorem gMo_numbers_6 : fMo_numbers 6 = some (.getfield 77, 6, 10) := rfl
theorem gMo_numbers_9 : fMo_numbers 9 = some (.sipush (840), 0, 0) := rfl
theorem gMo_numbers_12 : fMo_numbers 12 = some (.if_icmp .ge (27), 39, 0) := rfl
theorem gMo_numbers_15 : fMo_numbers 15 = some (.aload_n 0, 0, 0) := rfl
theorem gMo_numbers_16 : fMo_numbers 16 = some (.aload_n 0, 0, 0) := rfl
theorem gMo_numbers_17 : fMo_numbers 17 = some (.getfield 77, 6, 10) := rfl
theorem gMo_numbers_20 : fMo_numbers 20 = some (.invokevirtual 80, 34, 0) := rfl
theorem gMo_numbers_23 : fMo_numbers 23 = some (.ifCond .ne (16), 39, 0) := rfl
theorem gMo_numbers_26 : fMo_numbers 26 = some (.aload_n 0, 0, 0) := rfl
theorem gMo_numbers_27 : fMo_numbers 27 = some (.dup, 0, 0) := rfl
theorem gMo_numbers_28 : fMo_numbers 28 = some (.getfield 77, 6, 10) := rfl
theorem gMo_numbers_31 : fMo_numbers 31 = some (.iconst 1, 0, 0) := rfl
theorem gMo_numbers_32 : fMo_numbers 32 = some (.iadd, 0, 0) := rfl
theorem gMo_numbers_33 : fMo_numbers 33 = some (.putfield 77, 6, 10) := rfl
theorem gMo_numbers_36 : fMo_numbers 36 = some (.goto (-31), 5, 0) := rfl
theorem gMo_numbers_39 : fMo_numbers 39 = some (.aload_n 0, 0, 0) := rfl
theorem gMo_numbers_40 : fMo_numbers 40 = some (.iconst 2, 0, 0) := rfl
theorem gMo_numbers_41 : fMo_numbers 41 = some (.putfield 83, 6, 11) := rfl
theorem gMo_numbers_44 : fMo_numbers 44 = some (.aload_n 0, 0, 0) := rfl
theorem gMo_numbers_45 : fMo_numbers 45 = some (.getfield 83, 6, 11) := rfl
theorem gMo_numbers_48 : fMo_numbers 48 = some (.sipush (10000), 0, 0) := rfl
theorem gMo_numbers_51 : fMo_numbers 51 = some (.if_icmp .ge (58), 109, 0) := rfl
theorem gMo_numbers_54 : fMo_numbers 54 = some (.aload_n 0, 0, 0) := rfl
theorem gMo_numbers_55 : fMo_numbers 55 = some (.getfield 83, 6, 11) := rfl
theorem gMo_numbers_58 : fMo_numbers 58 = some (.invokestatic 86, 35, 0) := rfl
theorem gMo_numbers_61 : fMo_numbers 61 = some (.ifCond .eq (35), 96, 0) := rfl
theorem gMo_numbers_64 : fMo_numbers 64 = some (.aload_n 0, 0, 0) := rfl
theorem gMo_numbers_65 : fMo_numbers 65 = some (.getfield 83, 6, 11) := rfl
theorem gMo_numbers_68 : fMo_numbers 68 = some (.aload_n 0, 0, 0) := rfl
theorem gMo_numbers_69 : fMo_numbers 69 = some (.getfield 83, 6, 11) := rfl
theorem gMo_numbers_72 : fMo_numbers 72 = some (.imul, 0, 0) := rfl
theorem gMo_numbers_73 : fMo_numbers 73 = some (.iconst 4, 0, 0) := rfl
theorem gMo_numbers_74 : fMo_numbers 74 = some (.aload_n 0, 0, 0) := rfl
theorem gMo_numbers_75 : fMo_numbers 75 = some (.getfield 57, 6, 3) := rfl
theorem gMo_numbers_78 : fMo_numbers 78 = some (.imul, 0, 0) := rfl
theorem gMo_numbers_79 : fMo_numbers 79 = some (.if_icmp .le (17), 96, 0) := rfl
theorem gMo_numbers_82 : fMo_numbers 82 = some (.aload_n 0, 0, 0) := rfl
theorem gMo_numbers_83 : fMo_numbers 83 = some (.getfield 83, 6, 11) := rfl
theorem gMo_numbers_86 : fMo_numbers 86 = some (.iconst 1, 0, 0) := rfl
theorem gMo_numbers_87 : fMo_numbers 87 = some (.isub, 0, 0) := rfl
theorem gMo_numbers_88 : fMo_numbers 88 = some (.aload_n 0, 0, 0) := rfl
theorem gMo_numbers_89 : fMo_numbers 89 = some (.getfield 77, 6, 10) := rfl
theorem gMo_numbers_92 : fMo_numbers 92 = some (.irem, 0, 0) := rfl
theorem gMo_numbers_93 : fMo_numbers 93 = some (.ifCond .eq (16), 109, 0) := rfl
theorem gMo_numbers_96 : fMo_numbers 96 = some (.aload_n 0, 0, 0) := rfl
theorem gMo_numbers_97 : fMo_numbers 97 = some (.dup, 0, 0) := rfl
theorem gMo_numbers_98 : fMo_numbers 98 = some (.getfield 83, 6, 11) := rfl
theorem gMo_numbers_101 : fMo_numbers 101 = some (.iconst 1, 0, 0) := rfl
theorem gMo_numbers_102 : fMo_numbers 102 = some (.iadd, 0, 0) := rfl
theorem gMo_numbers_103 : fMo_numbers 103 = some (.putfield 83, 6, 11) := rfl
theorem gMo_numbers_106 : fMo_numbers 106 = some (.goto (-62), 44, 0) := rfl
theorem gMo_numbers_109 : fMo_numbers 109 = some (.aload_n 0, 0, 0) := rfl
theorem gMo_numbers_110 : fMo_numbers 110 = some (.iconst 1, 0, 0) := rfl
theorem gMo_numbers_111 : fMo_numbers 111 = some (.putfield 89, 6, 12) := rfl
theorem gMo_numbers_114 : fMo_numbers 114 = some (.aload_n 0, 0, 0) := rfl
theorem gMo_numbers_115 : fMo_numbers 115 = some (.getfield 89, 6, 12) := rfl
theorem gMo_numbers_118 : fMo_numbers 118 = some (.aload_n 0, 0, 0) := rfl
theorem gMo_numbers_119 : fMo_numbers 119 = some (.getfield 83, 6, 11) := rfl
theorem gMo_numbers_122 : fMo_numbers 122 = some (.if_icmp .ge (27), 149, 0) := rfl
theorem gMo_numbers_125 : fMo_numbers 125 = some (.aload_n 0, 0, 0) := rfl
theorem gMo_numbers_126 : fMo_numbers 126 = some (.aload_n 0, 0, 0) := rfl
theorem gMo_numbers_127 : fMo_numbers 127 = some (.getfield 89, 6, 12) := rfl
theorem gMo_numbers_130 : fMo_numbers 130 = some (.invokevirtual 92, 37, 0) := rfl
theorem gMo_numbers_133 : fMo_numbers 133 = some (.ifCond .ne (16), 149, 0) := rfl
theorem gMo_numbers_136 : fMo_numbers 136 = some (.aload_n 0, 0, 0) := rfl
theorem gMo_numbers_137 : fMo_numbers 137 = some (.dup, 0, 0) := rfl
theorem gMo_numbers_138 : fMo_numbers 138 = some (.getfield 89, 6, 12) := rfl
theorem gMo_numbers_141 : fMo_numbers 141 = some (.iconst 1, 0, 0) := rfl
theorem gMo_numbers_142 : fMo_numbers 142 = some (.iadd, 0, 0) := rfl
theorem gMo_numbers_143 : fMo_numbers 143 = some (.putfield 89, 6, 12) := rfl
theorem gMo_numbers_146 : fMo_numbers 146 = some (.goto (-32), 114, 0) := rfl
theorem gMo_numbers_149 : fMo_numbers 149 = some (.return_, 0, 0) := rfl
abbrev lMo_isRoot : List (Nat × Instr × Nat × Nat) := [(0, .iconst 1, 0, 0), (1, .istore_n 2, 0, 0), (2, .iconst 0, 0, 0), (3, .istore_n 3, 0, 0), (4, .iconst 1, 0, 0), (5, .istore 4, 0, 0), (7, .iload 4, 0, 0), (9, .aload_n 0, 0, 0), (10, .getfield 77, 6, 10), (13, .if_icmp .gt (42), 55, 0), (16, .iload_n 2, 0, 0), (17, .iload_n 1, 0, 0), (18, .imul, 0, 0), (19, .aload_n 0, 0, 0), (20, .getfield 83, 6, 11), (23, .irem, 0, 0), (24, .istore_n 2, 0, 0), (25, .iload_n 3, 0, 0), (26, .ifCond .ne (17), 43, 0), (29, .iload_n 2, 0, 0), (30, .iconst 1, 0, 0), (31, .if_icmp .ne (16), 47, 0), (34, .iload 4, 0, 0), (36, .aload_n 0, 0, 0), (37, .getfield 77, 6, 10), (40, .if_icmp .ge (7), 47, 0), (43, .iconst 1, 0, 0), (44, .goto (4), 48, 0), (47, .iconst 0, 0, 0), (48, .istore_n 3, 0, 0), (49, .iinc 4 (1), 0, 0), (52, .goto (-45), 7, 0), (55, .iload_n 2, 0, 0), (56, .iconst 1, 0, 0), (57, .if_icmp .ne (11), 68, 0), (60, .iload_n 3, 0, 0), (61, .ifCond .ne (7), 68, 0), (64, .iconst 1, 0, 0), (65, .goto (4), 69, 0), (68, .iconst 0, 0, 0), (69, .ireturn, 0, 0)]
def fMo_isRoot : sx_F := sx_tab lMo_isRoot
theorem kMo_isRoot : sx_chk "ClassCharactersModel" (wy yMo_isRoot prog_9_method_16_code 5 (some .boolean)) 5 prog_9_method_16_code lMo_isRoot = true := by decide +kernel
theorem gMo_isRoot_0 : fMo_isRoot 0 = some (.iconst 1, 0, 0) := rfl
theorem gMo_isRoot_1 : fMo_isRoot 1 = some (.istore_n 2, 0, 0) := rfl
theorem gMo_isRoot_2 : fMo_isRoot 2 = some (.iconst 0, 0, 0) := rfl
theorem gMo_isRoot_3 : fMo_isRoot 3 = some (.istore_n 3, 0, 0) := rfl
theorem gMo_isRoot_4 : fMo_isRoot 4 = some (.iconst 1, 0, 0) := rfl
theorem gMo_isRoot_5 : fMo_isRoot 5 = some (.istore 4, 0, 0) := rfl
theorem gMo_isRoot_7 : fMo_isRoot 7 = some (.iload 4, 0, 0) := rfl
theorem gMo_isRoot_9 : fMo_isRoot 9 = some (.aload_n 0, 0, 0) := rfl
theorem gMo_isRoot_10 : fMo_isRoot 10 = some (.getfield 77, 6, 10) := rfl
theorem gMo_isRoot_13 : fMo_isRoot 13 = some (.if_icmp .gt (42), 55, 0) := rfl
theorem gMo_isRoot_16 : fMo_isRoot 16 = some (.iload_n 2, 0, 0) := rfl
theorem gMo_isRoot_17 : fMo_isRoot 17 = some (.iload_n 1, 0, 0) := rfl
theorem gMo_isRoot_18 : fMo_isRoot 18 = some (.imul, 0, 0) := rfl
theorem gMo_isRoot_19 : fMo_isRoot 19 = some (.aload_n 0, 0, 0) := rfl
theorem gMo_isRoot_20 : fMo_isRoot 20 = some (.getfield 83, 6, 11) := rfl
theorem gMo_isRoot_23 : fMo_isRoot 23 = some (.irem, 0, 0) := rfl
theorem gMo_isRoot_24 : fMo_isRoot 24 = some (.istore_n 2, 0, 0) := rfl
theorem gMo_isRoot_25 : fMo_isRoot 25 = some (.iload_n 3, 0, 0) := rfl
theorem gMo_isRoot_26 : fMo_isRoot 26 = some (.ifCond .ne (17), 43, 0) := rfl
theorem gMo_isRoot_29 : fMo_isRoot 29 = some (.iload_n 2, 0, 0) := rfl
theorem gMo_isRoot_30 : fMo_isRoot 30 = some (.iconst 1, 0, 0) := rfl
theorem gMo_isRoot_31 : fMo_isRoot 31 = some (.if_icmp .ne (16), 47, 0) := rfl
theorem gMo_isRoot_34 : fMo_isRoot 34 = some (.iload 4, 0, 0) := rfl
theorem gMo_isRoot_36 : fMo_isRoot 36 = some (.aload_n 0, 0, 0) := rfl
theorem gMo_isRoot_37 : fMo_isRoot 37 = some (.getfield 77, 6, 10) := rfl
theorem gMo_isRoot_40 : fMo_isRoot 40 = some (.if_icmp .ge (7), 47, 0) := rfl
theorem gMo_isRoot_43 : fMo_isRoot 43 = some (.iconst 1, 0, 0) := rfl
theorem gMo_isRoot_44 : fMo_isRoot 44 = some (.goto (4), 48, 0) := rfl
theorem gMo_isRoot_47 : fMo_isRoot 47 = some (.iconst 0, 0, 0) := rfl
theorem gMo_isRoot_48 : fMo_isRoot 48 = some (.istore_n 3, 0, 0) := rfl
theorem gMo_isRoot_49 : fMo_isRoot 49 = some (.iinc 4 (1), 0, 0) := rfl
theorem gMo_isRoot_52 : fMo_isRoot 52 = some (.goto (-45), 7, 0) := rfl
theorem gMo_isRoot_55 : fMo_isRoot 55 = some (.iload_n 2, 0, 0) := rfl
theorem gMo_isRoot_56 : fMo_isRoot 56 = some (.iconst 1, 0, 0) := rfl
theorem gMo_isRoot_57 : fMo_isRoot 57 = some (.if_icmp .ne (11), 68, 0) := rfl
theorem gMo_isRoot_60 : fMo_isRoot 60 = some (.iload_n 3, 0, 0) := rfl
theorem gMo_isRoot_61 : fMo_isRoot 61 = some (.ifCond .ne (7), 68, 0) := rfl
theorem gMo_isRoot_64 : fMo_isRoot 64 = some (.iconst 1, 0, 0) := rfl
theorem gMo_isRoot_65 : fMo_isRoot 65 = some (.goto (4), 69, 0) := rfl
theorem gMo_isRoot_68 : fMo_isRoot 68 = some (.iconst 0, 0, 0) := rfl
theorem gMo_isRoot_69 : fMo_isRoot 69 = some (.ireturn, 0, 0) := rfl
abbrev lMo_mod : List (Nat × Instr × Nat × Nat) := [(0, .iload_n 1, 0, 0), (1, .aload_n 0, 0, 0), (2, .getfield 83, 6, 11), (5, .irem, 0, 0), (6, .istore_n 2, 0, 0), (7, .iload_n 2, 0, 0), (8, .ifCond .ge (12), 20, 0), (11, .iload_n 2, 0, 0), (12, .aload_n 0, 0, 0), (13, .getfield 83, 6, 11), (16, .iadd, 0, 0), (17, .goto (4), 21, 0), (20, .iload_n 2, 0, 0), (21, .ireturn, 0, 0)]
def fMo_mod : sx_F := sx_tab lMo_mod
theorem kMo_mod : sx_chk "ClassCharactersModel" (wy yMo_mod prog_9_method_17_code 3 (some .int)) 3 prog_9_method_17_code lMo_mod = true := by decide +kernel
theorem gMo_mod_0 : fMo_mod 0 = some (.iload_n 1, 0, 0) := rfl
theorem gMo_mod_1 : fMo_mod 1 = some (.aload_n 0, 0, 0) := rfl
theorem gMo_mod_2 : fMo_mod 2 = some (.getfield 83, 6, 11) := rfl
theorem gMo_mod_5 : fMo_mod 5 = some (.irem, 0, 0) := rfl
theorem gMo_mod_6 : fMo_mod 6 = some (.istore_n 2, 0, 0) := rfl
theorem gMo_mod_7 : fMo_mod 7 = some (.iload_n 2, 0, 0) := rfl
theorem gMo_mod_8 : fMo_mod 8 = some (.ifCond .ge (12), 20, 0) := rfl
theorem gMo_mod_11 : fMo_mod 11 = some (.iload_n 2, 0, 0) := rfl
theorem gMo_mod_12 : fMo_mod 12 = some (.aload_n 0, 0, 0) := rfl
theorem gMo_mod_13 : fMo_mod 13 = some (.getfield 83, 6, 11) := rfl
theorem gMo_mod_16 : fMo_mod 16 = some (.iadd, 0, 0) := rfl
theorem gMo_mod_17 : fMo_mod 17 = some (.goto (4), 21, 0) := rfl
theorem gMo_mod_20 : fMo_mod 20 = some (.iload_n 2, 0, 0) := rfl
theorem gMo_mod_21 : fMo_mod 21 = some (.ireturn, 0, 0) := rfl
abbrev lMo_raised : List (Nat × Instr × Nat × Nat) := [(0, .iconst 1, 0, 0), (1, .istore_n 3, 0, 0), (2, .iconst 0, 0, 0), (3, .istore 4, 0, 0), (5, .iload 4, 0, 0), (7, .iload_n 2, 0, 0), (8, .if_icmp .ge (18), 26, 0), (11, .iload_n 3, 0, 0), (12, .iload_n 1, 0, 0), (13, .imul, 0, 0), (14, .aload_n 0, 0, 0), (15, .getfield 83, 6, 11), (18, .irem, 0, 0), (19, .istore_n 3, 0, 0), (20, .iinc 4 (1), 0, 0), (23, .goto (-18), 5, 0), (26, .iload_n 3, 0, 0), (27, .ireturn, 0, 0)]
def fMo_raised : sx_F := sx_tab lMo_raised
theorem kMo_raised : sx_chk "ClassCharactersModel" (wy yMo_raised prog_9_method_18_code 5 (some .int)) 5 prog_9_method_18_code lMo_raised = true := by decide +kernel
theorem gMo_raised_0 : fMo_raised 0 = some (.iconst 1, 0, 0) := rfl
theorem gMo_raised_1 : fMo_raised 1 = some (.istore_n 3, 0, 0) := rfl
theorem gMo_raised_2 : fMo_raised 2 = some (.iconst 0, 0, 0) := rfl
theorem gMo_raised_3 : fMo_raised 3 = some (.istore 4, 0, 0) := rfl
theorem gMo_raised_5 : fMo_raised 5 = some (.iload 4, 0, 0) := rfl
theorem gMo_raised_7 : fMo_raised 7 = some (.iload_n 2, 0, 0) := rfl
theorem gMo_raised_8 : fMo_raised 8 = some (.if_icmp .ge (18), 26, 0) := rfl
theorem gMo_raised_11 : fMo_raised 11 = some (.iload_n 3, 0, 0) := rfl
theorem gMo_raised_12 : fMo_raised 12 = some (.iload_n 1, 0, 0) := rfl
theorem gMo_raised_13 : fMo_raised 13 = some (.imul, 0, 0) := rfl
theorem gMo_raised_14 : fMo_raised 14 = some (.aload_n 0, 0, 0) := rfl
theorem gMo_raised_15 : fMo_raised 15 = some (.getfield 83, 6, 11) := rfl
theorem gMo_raised_18 : fMo_raised 18 = some (.irem, 0, 0) := rfl
theorem gMo_raised_19 : fMo_raised 19 = some (.istore_n 3, 0, 0) := rfl
theorem gMo_raised_20 : fMo_raised 20 = some (.iinc 4 (1), 0, 0) := rfl
theorem gMo_raised_23 : fMo_raised 23 = some (.goto (-18), 5, 0) := rfl
theorem gMo_raised_26 : fMo_raised 26 = some (.iload_n 3, 0, 0) := rfl
theorem gMo_raised_27 : fMo_raised 27 = some (.ireturn, 0, 0) := rfl
abbrev lMo_over : List (Nat × Instr × Nat × Nat) := [(0, .aload_n 0, 0, 0), (1, .iload_n 1, 0, 0), (2, .invokevirtual 95, 38, 0), (5, .aload_n 0, 0, 0), (6, .aload_n 0, 0, 0), (7, .iload_n 2, 0, 0), (8, .invokevirtual 95, 38, 0), (11, .aload_n 0, 0, 0), (12, .getfield 83, 6, 11), (15, .iconst 2, 0, 0), (16, .isub, 0, 0), (17, .invokevirtual 98, 39, 0), (20, .imul, 0, 0), (21, .aload_n 0, 0, 0), (22, .getfield 83, 6, 11), (25, .irem, 0, 0), (26, .ireturn, 0, 0)]
def fMo_over : sx_F := sx_tab lMo_over
theorem kMo_over : sx_chk "ClassCharactersModel" (wy yMo_over prog_9_method_19_code 3 (some .int)) 3 prog_9_method_19_code lMo_over = true := by decide +kernel
theorem gMo_over_0 : fMo_over 0 = some (.aload_n 0, 0, 0) := rfl
theorem gMo_over_1 : fMo_over 1 = some (.iload_n 1, 0, 0) := rfl
theorem gMo_over_2 : fMo_over 2 = some (.invokevirtual 95, 38, 0) := rfl
theorem gMo_over_5 : fMo_over 5 = some (.aload_n 0, 0, 0) := rfl
theorem gMo_over_6 : fMo_over 6 = some (.aload_n 0, 0, 0) := rfl
theorem gMo_over_7 : fMo_over 7 = some (.iload_n 2, 0, 0) := rfl
theorem gMo_over_8 : fMo_over 8 = some (.invokevirtual 95, 38, 0) := rfl
theorem gMo_over_11 : fMo_over 11 = some (.aload_n 0, 0, 0) := rfl
theorem gMo_over_12 : fMo_over 12 = some (.getfield 83, 6, 11) := rfl
theorem gMo_over_15 : fMo_over 15 = some (.iconst 2, 0, 0) := rfl
theorem gMo_over_16 : fMo_over 16 = some (.isub, 0, 0) := rfl
theorem gMo_over_17 : fMo_over 17 = some (.invokevirtual 98, 39, 0) := rfl
theorem gMo_over_20 : fMo_over 20 = some (.imul, 0, 0) := rfl
theorem gMo_over_21 : fMo_over 21 = some (.aload_n 0, 0, 0) := rfl
theorem gMo_over_22 : fMo_over 22 = some (.getfield 83, 6, 11) := rfl
theorem gMo_over_25 : fMo_over 25 = some (.irem, 0, 0) := rfl
theorem gMo_over_26 : fMo_over 26 = some (.ireturn, 0, 0) := rfl
abbrev lMo_multiply : List (Nat × Instr × Nat × Nat) := [(0, .iconst 0, 0, 0), (1, .istore 4, 0, 0), (3, .iload 4, 0, 0), (5, .bipush (16), 0, 0), (7, .if_icmp .ge (148), 155, 0), (10, .iconst 0, 0, 0), (11, .istore 5, 0, 0), (13, .iconst 0, 0, 0), (14, .istore 6, 0, 0), (16, .iload 6, 0, 0), (18, .aload_n 0, 0, 0), (19, .getfield 68, 6, 6), (22, .if_icmp .ge (113), 135, 0), (25, .iconst 0, 0, 0), (26, .istore 7, 0, 0), (28, .iconst 0, 0, 0), (29, .istore 8, 0, 0), (31, .iload 8, 0, 0), (33, .aload_n 0, 0, 0), (34, .getfield 68, 6, 6), (37, .if_icmp .ge (67), 104, 0), (40, .aload_n 0, 0, 0), (41, .getfield 28, 6, 13), (44, .bipush (16), 0, 0), (46, .iload_n 2, 0, 0), (47, .imul, 0, 0), (48, .iload 6, 0, 0), (50, .iadd, 0, 0), (51, .iaload, 0, 0), (52, .ifCond .eq (52), 104, 0), (55, .iload 7, 0, 0), (57, .aload_n 0, 0, 0), (58, .getfield 28, 6, 13), (61, .bipush (16), 0, 0), (63, .iload_n 3, 0, 0), (64, .imul, 0, 0), (65, .iload 8, 0, 0), (67, .iadd, 0, 0), (68, .iaload, 0, 0), (69, .aload_n 0, 0, 0), (70, .getfield 25, 6, 9), (73, .sipush (256), 0, 0), (76, .iload 6, 0, 0), (78, .imul, 0, 0), (79, .bipush (16), 0, 0), (81, .iload 8, 0, 0), (83, .imul, 0, 0), (84, .iadd, 0, 0), (85, .iload 4, 0, 0), (87, .iadd, 0, 0), (88, .iaload, 0, 0), (89, .imul, 0, 0), (90, .iadd, 0, 0), (91, .aload_n 0, 0, 0), (92, .getfield 83, 6, 11), (95, .irem, 0, 0), (96, .istore 7, 0, 0), (98, .iinc 8 (1), 0, 0), (101, .goto (-70), 31, 0), (104, .iload 5, 0, 0), (106, .aload_n 0, 0, 0), (107, .getfield 28, 6, 13), (110, .bipush (16), 0, 0), (112, .iload_n 2, 0, 0), (113, .imul, 0, 0), (114, .iload 6, 0, 0), (116, .iadd, 0, 0), (117, .iaload, 0, 0), (118, .iload 7, 0, 0), (120, .imul, 0, 0), (121, .iadd, 0, 0), (122, .aload_n 0, 0, 0), (123, .getfield 83, 6, 11), (126, .irem, 0, 0), (127, .istore 5, 0, 0), (129, .iinc 6 (1), 0, 0), (132, .goto (-116), 16, 0), (135, .aload_n 0, 0, 0), (136, .getfield 28, 6, 13), (139, .bipush (16), 0, 0), (141, .iload_n 1, 0, 0), (142, .imul, 0, 0), (143, .iload 4, 0, 0), (145, .iadd, 0, 0), (146, .iload 5, 0, 0), (148, .iastore, 0, 0), (149, .iinc 4 (1), 0, 0), (152, .goto (-149), 3, 0), (155, .return_, 0, 0)]
def fMo_multiply : sx_F := sx_tab lMo_multiply
theorem kMo_multiply : sx_chk "ClassCharactersModel" (wy yMo_multiply prog_9_method_20_code 9 none) 9 prog_9_method_20_code lMo_multiply = true := by decide +kernel
theorem gMo_multiply_0 : fMo_multiply 0 = some (.iconst 0, 0, 0) := rfl
theorem gMo_multiply_1 : fMo_multiply 1 = some (.istore 4, 0, 0) := rfl
theorem gMo_multiply_3 : fMo_multiply 3 = some (.iload 4, 0, 0) := rfl
theorem gMo_multiply_5 : fMo_multiply 5 = some (.bipush (16), 0, 0) := rfl
theorem gMo_multiply_7 : fMo_multiply 7 = some (.if_icmp .ge (148), 155, 0) := rfl
theorem gMo_multiply_10 : fMo_multiply 10 = some (.iconst 0, 0, 0) := rfl
theorem gMo_multiply_11 : fMo_multiply 11 = some (.istore 5, 0, 0) := rfl
theorem gMo_multiply_13 : fMo_multiply 13 = some (.iconst 0, 0, 0) := rfl
theorem gMo_multiply_14 : fMo_multiply 14 = some (.istore 6, 0, 0) := rfl
theorem gMo_multiply_16 : fMo_multiply 16 = some (.iload 6, 0, 0) := rfl
theorem gMo_multiply_18 : fMo_multiply 18 = some (.aload_n 0, 0, 0) := rfl
theorem gMo_multiply_19 : fMo_multiply 19 = some (.getfield 68, 6, 6) := rfl
theorem gMo_multiply_22 : fMo_multiply 22 = some (.if_icmp .ge (113), 135, 0) := rfl
theorem gMo_multiply_25 : fMo_multiply 25 = some (.iconst 0, 0, 0) := rfl
theorem gMo_multiply_26 : fMo_multiply 26 = some (.istore 7, 0, 0) := rfl
theorem gMo_multiply_28 : fMo_multiply 28 = some (.iconst 0, 0, 0) := rfl
theorem gMo_multiply_29 : fMo_multiply 29 = some (.istore 8, 0, 0) := rfl
theorem gMo_multiply_31 : fMo_multiply 31 = some (.iload 8, 0, 0) := rfl
theorem gMo_multiply_33 : fMo_multiply 33 = some (.aload_n 0, 0, 0) := rfl
theorem gMo_multiply_34 : fMo_multiply 34 = some (.getfield 68, 6, 6) := rfl
theorem gMo_multiply_37 : fMo_multiply 37 = some (.if_icmp .ge (67), 104, 0) := rfl
theorem gMo_multiply_40 : fMo_multiply 40 = some (.aload_n 0, 0, 0) := rfl
theorem gMo_multiply_41 : fMo_multiply 41 = some (.getfield 28, 6, 13) := rfl
theorem gMo_multiply_44 : fMo_multiply 44 = some (.bipush (16), 0, 0) := rfl
theorem gMo_multiply_46 : fMo_multiply 46 = some (.iload_n 2, 0, 0) := rfl
theorem gMo_multiply_47 : fMo_multiply 47 = some (.imul, 0, 0) := rfl
theorem gMo_multiply_48 : fMo_multiply 48 = some (.iload 6, 0, 0) := rfl
theorem gMo_multiply_50 : fMo_multiply 50 = some (.iadd, 0, 0) := rfl
theorem gMo_multiply_51 : fMo_multiply 51 = some (.iaload, 0, 0) := rfl
theorem gMo_multiply_52 : fMo_multiply 52 = some (.ifCond .eq (52), 104, 0) := rfl
theorem gMo_multiply_55 : fMo_multiply 55 = some (.iload 7, 0, 0) := rfl
theorem gMo_multiply_57 : fMo_multiply 57 = some (.aload_n 0, 0, 0) := rfl
theorem gMo_multiply_58 : fMo_multiply 58 = some (.getfield 28, 6, 13) := rfl
theorem gMo_multiply_61 : fMo_multiply 61 = some (.bipush (16), 0, 0) := rfl
theorem gMo_multiply_63 : fMo_multiply 63 = some (.iload_n 3, 0, 0) := rfl
theorem gMo_multiply_64 : fMo_multiply 64 = some (.imul, 0, 0) := rfl
theorem gMo_multiply_65 : fMo_multiply 65 = some (.iload 8, 0, 0) := rfl
theorem gMo_multiply_67 : fMo_multiply 67 = some (.iadd, 0, 0) := rfl
theorem gMo_multiply_68 : fMo_multiply 68 = some (.iaload, 0, 0) := rfl
theorem gMo_multiply_69 : fMo_multiply 69 = some (.aload_n 0, 0, 0) := rfl
theorem gMo_multiply_70 : fMo_multiply 70 = some (.getfield 25, 6, 9) := rfl
theorem gMo_multiply_73 : fMo_multiply 73 = some (.sipush (256), 0, 0) := rfl
theorem gMo_multiply_76 : fMo_multiply 76 = some (.iload 6, 0, 0) := rfl
theorem gMo_multiply_78 : fMo_multiply 78 = some (.imul, 0, 0) := rfl
theorem gMo_multiply_79 : fMo_multiply 79 = some (.bipush (16), 0, 0) := rfl
theorem gMo_multiply_81 : fMo_multiply 81 = some (.iload 8, 0, 0) := rfl
theorem gMo_multiply_83 : fMo_multiply 83 = some (.imul, 0, 0) := rfl
theorem gMo_multiply_84 : fMo_multiply 84 = some (.iadd, 0, 0) := rfl
theorem gMo_multiply_85 : fMo_multiply 85 = some (.iload 4, 0, 0) := rfl
theorem gMo_multiply_87 : fMo_multiply 87 = some (.iadd, 0, 0) := rfl
theorem gMo_multiply_88 : fMo_multiply 88 = some (.iaload, 0, 0) := rfl
theorem gMo_multiply_89 : fMo_multiply 89 = some (.imul, 0, 0) := rfl
theorem gMo_multiply_90 : fMo_multiply 90 = some (.iadd, 0, 0) := rfl
theorem gMo_multiply_91 : fMo_multiply 91 = some (.aload_n 0, 0, 0) := rfl
theorem gMo_multiply_92 : fMo_multiply 92 = some (.getfield 83, 6, 11) := rfl
theorem gMo_multiply_95 : fMo_multiply 95 = some (.irem, 0, 0) := rfl
theorem gMo_multiply_96 : fMo_multiply 96 = some (.istore 7, 0, 0) := rfl
theorem gMo_multiply_98 : fMo_multiply 98 = some (.iinc 8 (1), 0, 0) := rfl
theorem gMo_multiply_101 : fMo_multiply 101 = some (.goto (-70), 31, 0) := rfl
theorem gMo_multiply_104 : fMo_multiply 104 = some (.iload 5, 0, 0) := rfl
theorem gMo_multiply_106 : fMo_multiply 106 = some (.aload_n 0, 0, 0) := rfl
theorem gMo_multiply_107 : fMo_multiply 107 = some (.getfield 28, 6, 13) := rfl
theorem gMo_multiply_110 : fMo_multiply 110 = some (.bipush (16), 0, 0) := rfl
theorem gMo_multiply_112 : fMo_multiply 112 = some (.iload_n 2, 0, 0) := rfl
theorem gMo_multiply_113 : fMo_multiply 113 = some (.imul, 0, 0) := rfl
theorem gMo_multiply_114 : fMo_multiply 114 = some (.iload 6, 0, 0) := rfl
theorem gMo_multiply_116 : fMo_multiply 116 = some (.iadd, 0, 0) := rfl
theorem gMo_multiply_117 : fMo_multiply 117 = some (.iaload, 0, 0) := rfl
theorem gMo_multiply_118 : fMo_multiply 118 = some (.iload 7, 0, 0) := rfl
theorem gMo_multiply_120 : fMo_multiply 120 = some (.imul, 0, 0) := rfl
theorem gMo_multiply_121 : fMo_multiply 121 = some (.iadd, 0, 0) := rfl
theorem gMo_multiply_122 : fMo_multiply 122 = some (.aload_n 0, 0, 0) := rfl
theorem gMo_multiply_123 : fMo_multiply 123 = some (.getfield 83, 6, 11) := rfl
theorem gMo_multiply_126 : fMo_multiply 126 = some (.irem, 0, 0) := rfl
theorem gMo_multiply_127 : fMo_multiply 127 = some (.istore 5, 0, 0) := rfl
theorem gMo_multiply_129 : fMo_multiply 129 = some (.iinc 6 (1), 0, 0) := rfl
theorem gMo_multiply_132 : fMo_multiply 132 = some (.goto (-116), 16, 0) := rfl
theorem gMo_multiply_135 : fMo_multiply 135 = some (.aload_n 0, 0, 0) := rfl
theorem gMo_multiply_136 : fMo_multiply 136 = some (.getfield 28, 6, 13) := rfl
theorem gMo_multiply_139 : fMo_multiply 139 = some (.bipush (16), 0, 0) := rfl
theorem gMo_multiply_141 : fMo_multiply 141 = some (.iload_n 1, 0, 0) := rfl
theorem gMo_multiply_142 : fMo_multiply 142 = some (.imul, 0, 0) := rfl
theorem gMo_multiply_143 : fMo_multiply 143 = some (.iload 4, 0, 0) := rfl
theorem gMo_multiply_145 : fMo_multiply 145 = some (.iadd, 0, 0) := rfl
theorem gMo_multiply_146 : fMo_multiply 146 = some (.iload 5, 0, 0) := rfl
theorem gMo_multiply_148 : fMo_multiply 148 = some (.iastore, 0, 0) := rfl
theorem gMo_multiply_149 : fMo_multiply 149 = some (.iinc 4 (1), 0, 0) := rfl
theorem gMo_multiply_152 : fMo_multiply 152 = some (.goto (-149), 3, 0) := rfl
theorem gMo_multiply_155 : fMo_multiply 155 = some (.return_, 0, 0) := rfl
abbrev lMo_copy : List (Nat × Instr × Nat × Nat) := [(0, .iconst 0, 0, 0), (1, .istore_n 3, 0, 0), (2, .iload_n 3, 0, 0), (3, .bipush (16), 0, 0), (5, .if_icmp .ge (31), 36, 0), (8, .aload_n 0, 0, 0), (9, .getfield 28, 6, 13), (12, .bipush (16), 0, 0), (14, .iload_n 1, 0, 0), (15, .imul, 0, 0), (16, .iload_n 3, 0, 0), (17, .iadd, 0, 0), (18, .aload_n 0, 0, 0), (19, .getfield 28, 6, 13), (22, .bipush (16), 0, 0), (24, .iload_n 2, 0, 0), (25, .imul, 0, 0), (26, .iload_n 3, 0, 0), (27, .iadd, 0, 0), (28, .iaload, 0, 0), (29, .iastore, 0, 0), (30, .iinc 3 (1), 0, 0), (33, .goto (-31), 2, 0), (36, .return_, 0, 0)]
def fMo_copy : sx_F := sx_tab lMo_copy
theorem kMo_copy : sx_chk "ClassCharactersModel" (wy yMo_copy prog_9_method_21_code 4 none) 4 prog_9_method_21_code lMo_copy = true := by decide +kernel
theorem gMo_copy_0 : fMo_copy 0 = some (.iconst 0, 0, 0) := rfl
theorem gMo_copy_1 : fMo_copy 1 = some (.istore_n 3, 0, 0) := rfl
theorem gMo_copy_2 : fMo_copy 2 = some (.iload_n 3, 0, 0) := rfl
theorem gMo_copy_3 : fMo_copy 3 = some (.bipush (16), 0, 0) := rfl
theorem gMo_copy_5 : fMo_copy 5 = some (.if_icmp .ge (31), 36, 0) := rfl
theorem gMo_copy_8 : fMo_copy 8 = some (.aload_n 0, 0, 0) := rfl
theorem gMo_copy_9 : fMo_copy 9 = some (.getfield 28, 6, 13) := rfl
theorem gMo_copy_12 : fMo_copy 12 = some (.bipush (16), 0, 0) := rfl
theorem gMo_copy_14 : fMo_copy 14 = some (.iload_n 1, 0, 0) := rfl
theorem gMo_copy_15 : fMo_copy 15 = some (.imul, 0, 0) := rfl
theorem gMo_copy_16 : fMo_copy 16 = some (.iload_n 3, 0, 0) := rfl
theorem gMo_copy_17 : fMo_copy 17 = some (.iadd, 0, 0) := rfl
theorem gMo_copy_18 : fMo_copy 18 = some (.aload_n 0, 0, 0) := rfl
theorem gMo_copy_19 : fMo_copy 19 = some (.getfield 28, 6, 13) := rfl
theorem gMo_copy_22 : fMo_copy 22 = some (.bipush (16), 0, 0) := rfl
theorem gMo_copy_24 : fMo_copy 24 = some (.iload_n 2, 0, 0) := rfl
theorem gMo_copy_25 : fMo_copy 25 = some (.imul, 0, 0) := rfl
theorem gMo_copy_26 : fMo_copy 26 = some (.iload_n 3, 0, 0) := rfl
theorem gMo_copy_27 : fMo_copy 27 = some (.iadd, 0, 0) := rfl
theorem gMo_copy_28 : fMo_copy 28 = some (.iaload, 0, 0) := rfl
theorem gMo_copy_29 : fMo_copy 29 = some (.iastore, 0, 0) := rfl
theorem gMo_copy_30 : fMo_copy 30 = some (.iinc 3 (1), 0, 0) := rfl
theorem gMo_copy_33 : fMo_copy 33 = some (.goto (-31), 2, 0) := rfl
theorem gMo_copy_36 : fMo_copy 36 = some (.return_, 0, 0) := rfl
abbrev lMo_fermat : List (Nat × Instr × Nat × Nat) := [(0, .aload_n 0, 0, 0), (1, .bipush (33), 0, 0), (3, .bipush (34), 0, 0), (5, .invokevirtual 101, 42, 0), (8, .iconst 0, 0, 0), (9, .istore_n 1, 0, 0), (10, .aload_n 0, 0, 0), (11, .getfield 83, 6, 11), (14, .iconst 1, 0, 0), (15, .isub, 0, 0), (16, .istore_n 2, 0, 0), (17, .iload_n 2, 0, 0), (18, .ifCond .le (70), 88, 0), (21, .iload_n 2, 0, 0), (22, .iconst 2, 0, 0), (23, .irem, 0, 0), (24, .iconst 1, 0, 0), (25, .if_icmp .ne (38), 63, 0), (28, .iload_n 1, 0, 0), (29, .ifCond .eq (24), 53, 0), (32, .aload_n 0, 0, 0), (33, .bipush (32), 0, 0), (35, .bipush (35), 0, 0), (37, .bipush (33), 0, 0), (39, .invokevirtual 105, 41, 0), (42, .aload_n 0, 0, 0), (43, .bipush (35), 0, 0), (45, .bipush (32), 0, 0), (47, .invokevirtual 101, 42, 0), (50, .goto (11), 61, 0), (53, .aload_n 0, 0, 0), (54, .bipush (35), 0, 0), (56, .bipush (33), 0, 0), (58, .invokevirtual 101, 42, 0), (61, .iconst 1, 0, 0), (62, .istore_n 1, 0, 0), (63, .aload_n 0, 0, 0), (64, .bipush (32), 0, 0), (66, .bipush (33), 0, 0), (68, .bipush (33), 0, 0), (70, .invokevirtual 105, 41, 0), (73, .aload_n 0, 0, 0), (74, .bipush (33), 0, 0), (76, .bipush (32), 0, 0), (78, .invokevirtual 101, 42, 0), (81, .iload_n 2, 0, 0), (82, .iconst 2, 0, 0), (83, .idiv, 0, 0), (84, .istore_n 2, 0, 0), (85, .goto (-68), 17, 0), (88, .return_, 0, 0)]
def fMo_fermat : sx_F := sx_tab lMo_fermat
theorem kMo_fermat : sx_chk "ClassCharactersModel" (wy yMo_fermat prog_9_method_22_code 3 none) 3 prog_9_method_22_code lMo_fermat = true := by decide +kernel
theorem gMo_fermat_0 : fMo_fermat 0 = some (.aload_n 0, 0, 0) := rfl
theorem gMo_fermat_1 : fMo_fermat 1 = some (.bipush (33), 0, 0) := rfl
theorem gMo_fermat_3 : fMo_fermat 3 = some (.bipush (34), 0, 0) := rfl
theorem gMo_fermat_5 : fMo_fermat 5 = some (.invokevirtual 101, 42, 0) := rfl
theorem gMo_fermat_8 : fMo_fermat 8 = some (.iconst 0, 0, 0) := rfl
theorem gMo_fermat_9 : fMo_fermat 9 = some (.istore_n 1, 0, 0) := rfl
theorem gMo_fermat_10 : fMo_fermat 10 = some (.aload_n 0, 0, 0) := rfl
theorem gMo_fermat_11 : fMo_fermat 11 = some (.getfield 83, 6, 11) := rfl
theorem gMo_fermat_14 : fMo_fermat 14 = some (.iconst 1, 0, 0) := rfl
theorem gMo_fermat_15 : fMo_fermat 15 = some (.isub, 0, 0) := rfl
theorem gMo_fermat_16 : fMo_fermat 16 = some (.istore_n 2, 0, 0) := rfl
theorem gMo_fermat_17 : fMo_fermat 17 = some (.iload_n 2, 0, 0) := rfl
theorem gMo_fermat_18 : fMo_fermat 18 = some (.ifCond .le (70), 88, 0) := rfl
theorem gMo_fermat_21 : fMo_fermat 21 = some (.iload_n 2, 0, 0) := rfl
theorem gMo_fermat_22 : fMo_fermat 22 = some (.iconst 2, 0, 0) := rfl
theorem gMo_fermat_23 : fMo_fermat 23 = some (.irem, 0, 0) := rfl
theorem gMo_fermat_24 : fMo_fermat 24 = some (.iconst 1, 0, 0) := rfl
theorem gMo_fermat_25 : fMo_fermat 25 = some (.if_icmp .ne (38), 63, 0) := rfl
theorem gMo_fermat_28 : fMo_fermat 28 = some (.iload_n 1, 0, 0) := rfl
theorem gMo_fermat_29 : fMo_fermat 29 = some (.ifCond .eq (24), 53, 0) := rfl
theorem gMo_fermat_32 : fMo_fermat 32 = some (.aload_n 0, 0, 0) := rfl
theorem gMo_fermat_33 : fMo_fermat 33 = some (.bipush (32), 0, 0) := rfl
theorem gMo_fermat_35 : fMo_fermat 35 = some (.bipush (35), 0, 0) := rfl
theorem gMo_fermat_37 : fMo_fermat 37 = some (.bipush (33), 0, 0) := rfl
theorem gMo_fermat_39 : fMo_fermat 39 = some (.invokevirtual 105, 41, 0) := rfl
theorem gMo_fermat_42 : fMo_fermat 42 = some (.aload_n 0, 0, 0) := rfl
theorem gMo_fermat_43 : fMo_fermat 43 = some (.bipush (35), 0, 0) := rfl
theorem gMo_fermat_45 : fMo_fermat 45 = some (.bipush (32), 0, 0) := rfl
theorem gMo_fermat_47 : fMo_fermat 47 = some (.invokevirtual 101, 42, 0) := rfl
theorem gMo_fermat_50 : fMo_fermat 50 = some (.goto (11), 61, 0) := rfl
theorem gMo_fermat_53 : fMo_fermat 53 = some (.aload_n 0, 0, 0) := rfl
theorem gMo_fermat_54 : fMo_fermat 54 = some (.bipush (35), 0, 0) := rfl
theorem gMo_fermat_56 : fMo_fermat 56 = some (.bipush (33), 0, 0) := rfl
theorem gMo_fermat_58 : fMo_fermat 58 = some (.invokevirtual 101, 42, 0) := rfl
theorem gMo_fermat_61 : fMo_fermat 61 = some (.iconst 1, 0, 0) := rfl
theorem gMo_fermat_62 : fMo_fermat 62 = some (.istore_n 1, 0, 0) := rfl
theorem gMo_fermat_63 : fMo_fermat 63 = some (.aload_n 0, 0, 0) := rfl
theorem gMo_fermat_64 : fMo_fermat 64 = some (.bipush (32), 0, 0) := rfl
theorem gMo_fermat_66 : fMo_fermat 66 = some (.bipush (33), 0, 0) := rfl
theorem gMo_fermat_68 : fMo_fermat 68 = some (.bipush (33), 0, 0) := rfl
theorem gMo_fermat_70 : fMo_fermat 70 = some (.invokevirtual 105, 41, 0) := rfl
theorem gMo_fermat_73 : fMo_fermat 73 = some (.aload_n 0, 0, 0) := rfl
theorem gMo_fermat_74 : fMo_fermat 74 = some (.bipush (33), 0, 0) := rfl
theorem gMo_fermat_76 : fMo_fermat 76 = some (.bipush (32), 0, 0) := rfl
theorem gMo_fermat_78 : fMo_fermat 78 = some (.invokevirtual 101, 42, 0) := rfl
theorem gMo_fermat_81 : fMo_fermat 81 = some (.iload_n 2, 0, 0) := rfl
theorem gMo_fermat_82 : fMo_fermat 82 = some (.iconst 2, 0, 0) := rfl
theorem gMo_fermat_83 : fMo_fermat 83 = some (.idiv, 0, 0) := rfl
theorem gMo_fermat_84 : fMo_fermat 84 = some (.istore_n 2, 0, 0) := rfl
theorem gMo_fermat_85 : fMo_fermat 85 = some (.goto (-68), 17, 0) := rfl
theorem gMo_fermat_88 : fMo_fermat 88 = some (.return_, 0, 0) := rfl
abbrev lMo_ratio : List (Nat × Instr × Nat × Nat) := [(0, .iconst 0, 0, 0), (1, .istore_n 3, 0, 0), (2, .iload_n 3, 0, 0), (3, .bipush (16), 0, 0), (5, .if_icmp .ge (29), 34, 0), (8, .aload_n 0, 0, 0), (9, .getfield 28, 6, 13), (12, .sipush (544), 0, 0), (15, .iload_n 3, 0, 0), (16, .iadd, 0, 0), (17, .iload_n 3, 0, 0), (18, .iload_n 1, 0, 0), (19, .if_icmp .ne (7), 26, 0), (22, .iconst 1, 0, 0), (23, .goto (4), 27, 0), (26, .iconst 0, 0, 0), (27, .iastore, 0, 0), (28, .iinc 3 (1), 0, 0), (31, .goto (-29), 2, 0), (34, .aload_n 0, 0, 0), (35, .bipush (36), 0, 0), (37, .bipush (34), 0, 0), (39, .iload_n 2, 0, 0), (40, .invokevirtual 105, 41, 0), (43, .iconst 0, 0, 0), (44, .istore_n 3, 0, 0), (45, .aload_n 0, 0, 0), (46, .getfield 28, 6, 13), (49, .bipush (16), 0, 0), (51, .iload_n 2, 0, 0), (52, .imul, 0, 0), (53, .iload_n 3, 0, 0), (54, .iadd, 0, 0), (55, .iaload, 0, 0), (56, .ifCond .ne (9), 65, 0), (59, .iinc 3 (1), 0, 0), (62, .goto (-17), 45, 0), (65, .aload_n 0, 0, 0), (66, .aload_n 0, 0, 0), (67, .getfield 28, 6, 13), (70, .sipush (576), 0, 0), (73, .iload_n 3, 0, 0), (74, .iadd, 0, 0), (75, .iaload, 0, 0), (76, .aload_n 0, 0, 0), (77, .getfield 28, 6, 13), (80, .bipush (16), 0, 0), (82, .iload_n 2, 0, 0), (83, .imul, 0, 0), (84, .iload_n 3, 0, 0), (85, .iadd, 0, 0), (86, .iaload, 0, 0), (87, .invokevirtual 109, 40, 0), (90, .istore 4, 0, 0), (92, .iconst 1, 0, 0), (93, .istore 5, 0, 0), (95, .iconst 0, 0, 0), (96, .istore 6, 0, 0), (98, .iload 6, 0, 0), (100, .aload_n 0, 0, 0), (101, .getfield 68, 6, 6), (104, .if_icmp .ge (55), 159, 0), (107, .iload 5, 0, 0), (109, .ifCond .eq (41), 150, 0), (112, .aload_n 0, 0, 0), (113, .getfield 28, 6, 13), (116, .sipush (576), 0, 0), (119, .iload 6, 0, 0), (121, .iadd, 0, 0), (122, .iaload, 0, 0), (123, .iload 4, 0, 0), (125, .aload_n 0, 0, 0), (126, .getfield 28, 6, 13), (129, .bipush (16), 0, 0), (131, .iload_n 2, 0, 0), (132, .imul, 0, 0), (133, .iload 6, 0, 0), (135, .iadd, 0, 0), (136, .iaload, 0, 0), (137, .imul, 0, 0), (138, .aload_n 0, 0, 0), (139, .getfield 83, 6, 11), (142, .irem, 0, 0), (143, .if_icmp .ne (7), 150, 0), (146, .iconst 1, 0, 0), (147, .goto (4), 151, 0), (150, .iconst 0, 0, 0), (151, .istore 5, 0, 0), (153, .iinc 6 (1), 0, 0), (156, .goto (-58), 98, 0), (159, .iload 5, 0, 0), (161, .ifCond .eq (8), 169, 0), (164, .iload 4, 0, 0), (166, .goto (4), 170, 0), (169, .iconst (-1), 0, 0), (170, .ireturn, 0, 0)]
def fMo_ratio : sx_F := sx_tab lMo_ratio
theorem kMo_ratio : sx_chk "ClassCharactersModel" (wy yMo_ratio prog_9_method_23_code 7 (some .int)) 7 prog_9_method_23_code lMo_ratio = true := by decide +kernel
theorem gMo_ratio_0 : fMo_ratio 0 = some (.iconst 0, 0, 0) := rfl
theorem gMo_ratio_1 : fMo_ratio 1 = some (.istore_n 3, 0, 0) := rfl
theorem gMo_ratio_2 : fMo_ratio 2 = some (.iload_n 3, 0, 0) := rfl
theorem gMo_ratio_3 : fMo_ratio 3 = some (.bipush (16), 0, 0) := rfl
theorem gMo_ratio_5 : fMo_ratio 5 = some (.if_icmp .ge (29), 34, 0) := rfl
theorem gMo_ratio_8 : fMo_ratio 8 = some (.aload_n 0, 0, 0) := rfl
theorem gMo_ratio_9 : fMo_ratio 9 = some (.getfield 28, 6, 13) := rfl
theorem gMo_ratio_12 : fMo_ratio 12 = some (.sipush (544), 0, 0) := rfl
theorem gMo_ratio_15 : fMo_ratio 15 = some (.iload_n 3, 0, 0) := rfl
theorem gMo_ratio_16 : fMo_ratio 16 = some (.iadd, 0, 0) := rfl
theorem gMo_ratio_17 : fMo_ratio 17 = some (.iload_n 3, 0, 0) := rfl
theorem gMo_ratio_18 : fMo_ratio 18 = some (.iload_n 1, 0, 0) := rfl
theorem gMo_ratio_19 : fMo_ratio 19 = some (.if_icmp .ne (7), 26, 0) := rfl
theorem gMo_ratio_22 : fMo_ratio 22 = some (.iconst 1, 0, 0) := rfl
theorem gMo_ratio_23 : fMo_ratio 23 = some (.goto (4), 27, 0) := rfl
theorem gMo_ratio_26 : fMo_ratio 26 = some (.iconst 0, 0, 0) := rfl
theorem gMo_ratio_27 : fMo_ratio 27 = some (.iastore, 0, 0) := rfl
theorem gMo_ratio_28 : fMo_ratio 28 = some (.iinc 3 (1), 0, 0) := rfl
theorem gMo_ratio_31 : fMo_ratio 31 = some (.goto (-29), 2, 0) := rfl
theorem gMo_ratio_34 : fMo_ratio 34 = some (.aload_n 0, 0, 0) := rfl
theorem gMo_ratio_35 : fMo_ratio 35 = some (.bipush (36), 0, 0) := rfl
theorem gMo_ratio_37 : fMo_ratio 37 = some (.bipush (34), 0, 0) := rfl
theorem gMo_ratio_39 : fMo_ratio 39 = some (.iload_n 2, 0, 0) := rfl
theorem gMo_ratio_40 : fMo_ratio 40 = some (.invokevirtual 105, 41, 0) := rfl
theorem gMo_ratio_43 : fMo_ratio 43 = some (.iconst 0, 0, 0) := rfl
theorem gMo_ratio_44 : fMo_ratio 44 = some (.istore_n 3, 0, 0) := rfl
theorem gMo_ratio_45 : fMo_ratio 45 = some (.aload_n 0, 0, 0) := rfl
theorem gMo_ratio_46 : fMo_ratio 46 = some (.getfield 28, 6, 13) := rfl
theorem gMo_ratio_49 : fMo_ratio 49 = some (.bipush (16), 0, 0) := rfl
theorem gMo_ratio_51 : fMo_ratio 51 = some (.iload_n 2, 0, 0) := rfl
theorem gMo_ratio_52 : fMo_ratio 52 = some (.imul, 0, 0) := rfl
theorem gMo_ratio_53 : fMo_ratio 53 = some (.iload_n 3, 0, 0) := rfl
theorem gMo_ratio_54 : fMo_ratio 54 = some (.iadd, 0, 0) := rfl
theorem gMo_ratio_55 : fMo_ratio 55 = some (.iaload, 0, 0) := rfl
theorem gMo_ratio_56 : fMo_ratio 56 = some (.ifCond .ne (9), 65, 0) := rfl
theorem gMo_ratio_59 : fMo_ratio 59 = some (.iinc 3 (1), 0, 0) := rfl
theorem gMo_ratio_62 : fMo_ratio 62 = some (.goto (-17), 45, 0) := rfl
theorem gMo_ratio_65 : fMo_ratio 65 = some (.aload_n 0, 0, 0) := rfl
theorem gMo_ratio_66 : fMo_ratio 66 = some (.aload_n 0, 0, 0) := rfl
theorem gMo_ratio_67 : fMo_ratio 67 = some (.getfield 28, 6, 13) := rfl
theorem gMo_ratio_70 : fMo_ratio 70 = some (.sipush (576), 0, 0) := rfl
theorem gMo_ratio_73 : fMo_ratio 73 = some (.iload_n 3, 0, 0) := rfl
theorem gMo_ratio_74 : fMo_ratio 74 = some (.iadd, 0, 0) := rfl
theorem gMo_ratio_75 : fMo_ratio 75 = some (.iaload, 0, 0) := rfl
theorem gMo_ratio_76 : fMo_ratio 76 = some (.aload_n 0, 0, 0) := rfl
theorem gMo_ratio_77 : fMo_ratio 77 = some (.getfield 28, 6, 13) := rfl
theorem gMo_ratio_80 : fMo_ratio 80 = some (.bipush (16), 0, 0) := rfl
theorem gMo_ratio_82 : fMo_ratio 82 = some (.iload_n 2, 0, 0) := rfl
theorem gMo_ratio_83 : fMo_ratio 83 = some (.imul, 0, 0) := rfl
theorem gMo_ratio_84 : fMo_ratio 84 = some (.iload_n 3, 0, 0) := rfl
theorem gMo_ratio_85 : fMo_ratio 85 = some (.iadd, 0, 0) := rfl
theorem gMo_ratio_86 : fMo_ratio 86 = some (.iaload, 0, 0) := rfl
theorem gMo_ratio_87 : fMo_ratio 87 = some (.invokevirtual 109, 40, 0) := rfl
theorem gMo_ratio_90 : fMo_ratio 90 = some (.istore 4, 0, 0) := rfl
theorem gMo_ratio_92 : fMo_ratio 92 = some (.iconst 1, 0, 0) := rfl
theorem gMo_ratio_93 : fMo_ratio 93 = some (.istore 5, 0, 0) := rfl
theorem gMo_ratio_95 : fMo_ratio 95 = some (.iconst 0, 0, 0) := rfl
theorem gMo_ratio_96 : fMo_ratio 96 = some (.istore 6, 0, 0) := rfl
theorem gMo_ratio_98 : fMo_ratio 98 = some (.iload 6, 0, 0) := rfl
theorem gMo_ratio_100 : fMo_ratio 100 = some (.aload_n 0, 0, 0) := rfl
theorem gMo_ratio_101 : fMo_ratio 101 = some (.getfield 68, 6, 6) := rfl
theorem gMo_ratio_104 : fMo_ratio 104 = some (.if_icmp .ge (55), 159, 0) := rfl
theorem gMo_ratio_107 : fMo_ratio 107 = some (.iload 5, 0, 0) := rfl
theorem gMo_ratio_109 : fMo_ratio 109 = some (.ifCond .eq (41), 150, 0) := rfl
theorem gMo_ratio_112 : fMo_ratio 112 = some (.aload_n 0, 0, 0) := rfl
theorem gMo_ratio_113 : fMo_ratio 113 = some (.getfield 28, 6, 13) := rfl
theorem gMo_ratio_116 : fMo_ratio 116 = some (.sipush (576), 0, 0) := rfl
theorem gMo_ratio_119 : fMo_ratio 119 = some (.iload 6, 0, 0) := rfl
theorem gMo_ratio_121 : fMo_ratio 121 = some (.iadd, 0, 0) := rfl
theorem gMo_ratio_122 : fMo_ratio 122 = some (.iaload, 0, 0) := rfl
theorem gMo_ratio_123 : fMo_ratio 123 = some (.iload 4, 0, 0) := rfl
theorem gMo_ratio_125 : fMo_ratio 125 = some (.aload_n 0, 0, 0) := rfl
theorem gMo_ratio_126 : fMo_ratio 126 = some (.getfield 28, 6, 13) := rfl
theorem gMo_ratio_129 : fMo_ratio 129 = some (.bipush (16), 0, 0) := rfl
theorem gMo_ratio_131 : fMo_ratio 131 = some (.iload_n 2, 0, 0) := rfl
theorem gMo_ratio_132 : fMo_ratio 132 = some (.imul, 0, 0) := rfl
theorem gMo_ratio_133 : fMo_ratio 133 = some (.iload 6, 0, 0) := rfl
theorem gMo_ratio_135 : fMo_ratio 135 = some (.iadd, 0, 0) := rfl
theorem gMo_ratio_136 : fMo_ratio 136 = some (.iaload, 0, 0) := rfl
theorem gMo_ratio_137 : fMo_ratio 137 = some (.imul, 0, 0) := rfl
theorem gMo_ratio_138 : fMo_ratio 138 = some (.aload_n 0, 0, 0) := rfl
theorem gMo_ratio_139 : fMo_ratio 139 = some (.getfield 83, 6, 11) := rfl
theorem gMo_ratio_142 : fMo_ratio 142 = some (.irem, 0, 0) := rfl
theorem gMo_ratio_143 : fMo_ratio 143 = some (.if_icmp .ne (7), 150, 0) := rfl
theorem gMo_ratio_146 : fMo_ratio 146 = some (.iconst 1, 0, 0) := rfl
theorem gMo_ratio_147 : fMo_ratio 147 = some (.goto (4), 151, 0) := rfl
theorem gMo_ratio_150 : fMo_ratio 150 = some (.iconst 0, 0, 0) := rfl
theorem gMo_ratio_151 : fMo_ratio 151 = some (.istore 5, 0, 0) := rfl
theorem gMo_ratio_153 : fMo_ratio 153 = some (.iinc 6 (1), 0, 0) := rfl
theorem gMo_ratio_156 : fMo_ratio 156 = some (.goto (-58), 98, 0) := rfl
theorem gMo_ratio_159 : fMo_ratio 159 = some (.iload 5, 0, 0) := rfl
theorem gMo_ratio_161 : fMo_ratio 161 = some (.ifCond .eq (8), 169, 0) := rfl
theorem gMo_ratio_164 : fMo_ratio 164 = some (.iload 4, 0, 0) := rfl
theorem gMo_ratio_166 : fMo_ratio 166 = some (.goto (4), 170, 0) := rfl
theorem gMo_ratio_169 : fMo_ratio 169 = some (.iconst (-1), 0, 0) := rfl
theorem gMo_ratio_170 : fMo_ratio 170 = some (.ireturn, 0, 0) := rfl
abbrev lMo_split : List (Nat × Instr × Nat × Nat) := [(0, .aload_n 0, 0, 0), (1, .iload_n 1, 0, 0), (2, .iload_n 2, 0, 0), (3, .invokevirtual 112, 44, 0), (6, .iconst (-1), 0, 0), (7, .if_icmp .eq (4), 11, 0), (10, .return_, 0, 0), (11, .iconst 0, 0, 0), (12, .istore_n 3, 0, 0), (13, .iconst 0, 0, 0), (14, .istore 4, 0, 0), (16, .iload 4, 0, 0), (18, .aload_n 0, 0, 0), (19, .getfield 83, 6, 11), (22, .if_icmp .ge (204), 226, 0), (25, .iconst 0, 0, 0), (26, .istore 5, 0, 0), (28, .iload 5, 0, 0), (30, .bipush (16), 0, 0), (32, .if_icmp .ge (51), 83, 0), (35, .aload_n 0, 0, 0), (36, .getfield 28, 6, 13), (39, .sipush (544), 0, 0), (42, .iload 5, 0, 0), (44, .iadd, 0, 0), (45, .aload_n 0, 0, 0), (46, .aload_n 0, 0, 0), (47, .getfield 28, 6, 13), (50, .sipush (576), 0, 0), (53, .iload 5, 0, 0), (55, .iadd, 0, 0), (56, .iaload, 0, 0), (57, .iload 4, 0, 0), (59, .aload_n 0, 0, 0), (60, .getfield 28, 6, 13), (63, .bipush (16), 0, 0), (65, .iload_n 2, 0, 0), (66, .imul, 0, 0), (67, .iload 5, 0, 0), (69, .iadd, 0, 0), (70, .iaload, 0, 0), (71, .imul, 0, 0), (72, .isub, 0, 0), (73, .invokevirtual 95, 38, 0), (76, .iastore, 0, 0), (77, .iinc 5 (1), 0, 0), (80, .goto (-52), 28, 0), (83, .aload_n 0, 0, 0), (84, .invokevirtual 115, 43, 0), (87, .iconst 0, 0, 0), (88, .istore 5, 0, 0), (90, .iconst 0, 0, 0), (91, .istore 6, 0, 0), (93, .iload 6, 0, 0), (95, .bipush (16), 0, 0), (97, .if_icmp .ge (47), 144, 0), (100, .iload 5, 0, 0), (102, .ifCond .ne (29), 131, 0), (105, .aload_n 0, 0, 0), (106, .getfield 28, 6, 13), (109, .bipush (16), 0, 0), (111, .iload_n 2, 0, 0), (112, .imul, 0, 0), (113, .iload 6, 0, 0), (115, .iadd, 0, 0), (116, .iaload, 0, 0), (117, .aload_n 0, 0, 0), (118, .getfield 28, 6, 13), (121, .sipush (560), 0, 0), (124, .iload 6, 0, 0), (126, .iadd, 0, 0), (127, .iaload, 0, 0), (128, .if_icmp .eq (7), 135, 0), (131, .iconst 1, 0, 0), (132, .goto (4), 136, 0), (135, .iconst 0, 0, 0), (136, .istore 5, 0, 0), (138, .iinc 6 (1), 0, 0), (141, .goto (-48), 93, 0), (144, .iload 5, 0, 0), (146, .ifCond .eq (74), 220, 0), (149, .iload_n 3, 0, 0), (150, .bipush (16), 0, 0), (152, .if_icmp .ne (6), 158, 0), (155, .goto (65), 220, 0), (158, .iconst 0, 0, 0), (159, .istore 6, 0, 0), (161, .iload 6, 0, 0), (163, .bipush (16), 0, 0), (165, .if_icmp .ge (52), 217, 0), (168, .aload_n 0, 0, 0), (169, .getfield 28, 6, 13), (172, .bipush (16), 0, 0), (174, .bipush (16), 0, 0), (176, .iload_n 3, 0, 0), (177, .iadd, 0, 0), (178, .imul, 0, 0), (179, .iload 6, 0, 0), (181, .iadd, 0, 0), (182, .aload_n 0, 0, 0), (183, .aload_n 0, 0, 0), (184, .getfield 28, 6, 13), (187, .bipush (16), 0, 0), (189, .iload_n 2, 0, 0), (190, .imul, 0, 0), (191, .iload 6, 0, 0), (193, .iadd, 0, 0), (194, .iaload, 0, 0), (195, .aload_n 0, 0, 0), (196, .getfield 28, 6, 13), (199, .sipush (560), 0, 0), (202, .iload 6, 0, 0), (204, .iadd, 0, 0), (205, .iaload, 0, 0), (206, .isub, 0, 0), (207, .invokevirtual 95, 38, 0), (210, .iastore, 0, 0), (211, .iinc 6 (1), 0, 0), (214, .goto (-53), 161, 0), (217, .iinc 3 (1), 0, 0), (220, .iinc 4 (1), 0, 0), (223, .goto (-207), 16, 0), (226, .aload_n 0, 0, 0), (227, .iload_n 2, 0, 0), (228, .bipush (16), 0, 0), (230, .invokevirtual 101, 42, 0), (233, .iconst 1, 0, 0), (234, .istore 4, 0, 0), (236, .iload 4, 0, 0), (238, .iload_n 3, 0, 0), (239, .if_icmp .ge (32), 271, 0), (242, .aload_n 0, 0, 0), (243, .aload_n 0, 0, 0), (244, .getfield 118, 6, 14), (247, .bipush (16), 0, 0), (249, .iload 4, 0, 0), (251, .iadd, 0, 0), (252, .invokevirtual 101, 42, 0), (255, .aload_n 0, 0, 0), (256, .dup, 0, 0), (257, .getfield 118, 6, 14), (260, .iconst 1, 0, 0), (261, .iadd, 0, 0), (262, .putfield 118, 6, 14), (265, .iinc 4 (1), 0, 0), (268, .goto (-32), 236, 0), (271, .return_, 0, 0)]
def fMo_split : sx_F := sx_tab lMo_split
theorem kMo_split : sx_chk "ClassCharactersModel" (wy yMo_split prog_9_method_24_code 7 none) 7 prog_9_method_24_code lMo_split = true := by decide +kernel
theorem gMo_split_0 : fMo_split 0 = some (.aload_n 0, 0, 0) := rfl
theorem gMo_split_1 : fMo_split 1 = some (.iload_n 1, 0, 0) := rfl
theorem gMo_split_2 : fMo_split 2 = some (.iload_n 2, 0, 0) := rfl
theorem gMo_split_3 : fMo_split 3 = some (.invokevirtual 112, 44, 0) := rfl
theorem gMo_split_6 : fMo_split 6 = some (.iconst (-1), 0, 0) := rfl
theorem gMo_split_7 : fMo_split 7 = some (.if_icmp .eq (4), 11, 0) := rfl
theorem gMo_split_10 : fMo_split 10 = some (.return_, 0, 0) := rfl
theorem gMo_split_11 : fMo_split 11 = some (.iconst 0, 0, 0) := rfl
theorem gMo_split_12 : fMo_split 12 = some (.istore_n 3, 0, 0) := rfl
theorem gMo_split_13 : fMo_split 13 = some (.iconst 0, 0, 0) := rfl
theorem gMo_split_14 : fMo_split 14 = some (.istore 4, 0, 0) := rfl
theorem gMo_split_16 : fMo_split 16 = some (.iload 4, 0, 0) := rfl
theorem gMo_split_18 : fMo_split 18 = some (.aload_n 0, 0, 0) := rfl
theorem gMo_split_19 : fMo_split 19 = some (.getfield 83, 6, 11) := rfl
theorem gMo_split_22 : fMo_split 22 = some (.if_icmp .ge (204), 226, 0) := rfl
theorem gMo_split_25 : fMo_split 25 = some (.iconst 0, 0, 0) := rfl
theorem gMo_split_26 : fMo_split 26 = some (.istore 5, 0, 0) := rfl
theorem gMo_split_28 : fMo_split 28 = some (.iload 5, 0, 0) := rfl
theorem gMo_split_30 : fMo_split 30 = some (.bipush (16), 0, 0) := rfl
theorem gMo_split_32 : fMo_split 32 = some (.if_icmp .ge (51), 83, 0) := rfl
theorem gMo_split_35 : fMo_split 35 = some (.aload_n 0, 0, 0) := rfl
theorem gMo_split_36 : fMo_split 36 = some (.getfield 28, 6, 13) := rfl
theorem gMo_split_39 : fMo_split 39 = some (.sipush (544), 0, 0) := rfl
theorem gMo_split_42 : fMo_split 42 = some (.iload 5, 0, 0) := rfl
theorem gMo_split_44 : fMo_split 44 = some (.iadd, 0, 0) := rfl
theorem gMo_split_45 : fMo_split 45 = some (.aload_n 0, 0, 0) := rfl
theorem gMo_split_46 : fMo_split 46 = some (.aload_n 0, 0, 0) := rfl
theorem gMo_split_47 : fMo_split 47 = some (.getfield 28, 6, 13) := rfl
theorem gMo_split_50 : fMo_split 50 = some (.sipush (576), 0, 0) := rfl
theorem gMo_split_53 : fMo_split 53 = some (.iload 5, 0, 0) := rfl
theorem gMo_split_55 : fMo_split 55 = some (.iadd, 0, 0) := rfl
theorem gMo_split_56 : fMo_split 56 = some (.iaload, 0, 0) := rfl
theorem gMo_split_57 : fMo_split 57 = some (.iload 4, 0, 0) := rfl
theorem gMo_split_59 : fMo_split 59 = some (.aload_n 0, 0, 0) := rfl
theorem gMo_split_60 : fMo_split 60 = some (.getfield 28, 6, 13) := rfl
theorem gMo_split_63 : fMo_split 63 = some (.bipush (16), 0, 0) := rfl
theorem gMo_split_65 : fMo_split 65 = some (.iload_n 2, 0, 0) := rfl
theorem gMo_split_66 : fMo_split 66 = some (.imul, 0, 0) := rfl
theorem gMo_split_67 : fMo_split 67 = some (.iload 5, 0, 0) := rfl
theorem gMo_split_69 : fMo_split 69 = some (.iadd, 0, 0) := rfl
theorem gMo_split_70 : fMo_split 70 = some (.iaload, 0, 0) := rfl
theorem gMo_split_71 : fMo_split 71 = some (.imul, 0, 0) := rfl
theorem gMo_split_72 : fMo_split 72 = some (.isub, 0, 0) := rfl
theorem gMo_split_73 : fMo_split 73 = some (.invokevirtual 95, 38, 0) := rfl
theorem gMo_split_76 : fMo_split 76 = some (.iastore, 0, 0) := rfl
theorem gMo_split_77 : fMo_split 77 = some (.iinc 5 (1), 0, 0) := rfl
theorem gMo_split_80 : fMo_split 80 = some (.goto (-52), 28, 0) := rfl
theorem gMo_split_83 : fMo_split 83 = some (.aload_n 0, 0, 0) := rfl
theorem gMo_split_84 : fMo_split 84 = some (.invokevirtual 115, 43, 0) := rfl
theorem gMo_split_87 : fMo_split 87 = some (.iconst 0, 0, 0) := rfl
theorem gMo_split_88 : fMo_split 88 = some (.istore 5, 0, 0) := rfl
theorem gMo_split_90 : fMo_split 90 = some (.iconst 0, 0, 0) := rfl
theorem gMo_split_91 : fMo_split 91 = some (.istore 6, 0, 0) := rfl
theorem gMo_split_93 : fMo_split 93 = some (.iload 6, 0, 0) := rfl
theorem gMo_split_95 : fMo_split 95 = some (.bipush (16), 0, 0) := rfl
theorem gMo_split_97 : fMo_split 97 = some (.if_icmp .ge (47), 144, 0) := rfl
theorem gMo_split_100 : fMo_split 100 = some (.iload 5, 0, 0) := rfl
theorem gMo_split_102 : fMo_split 102 = some (.ifCond .ne (29), 131, 0) := rfl
theorem gMo_split_105 : fMo_split 105 = some (.aload_n 0, 0, 0) := rfl
theorem gMo_split_106 : fMo_split 106 = some (.getfield 28, 6, 13) := rfl
theorem gMo_split_109 : fMo_split 109 = some (.bipush (16), 0, 0) := rfl
theorem gMo_split_111 : fMo_split 111 = some (.iload_n 2, 0, 0) := rfl
theorem gMo_split_112 : fMo_split 112 = some (.imul, 0, 0) := rfl
theorem gMo_split_113 : fMo_split 113 = some (.iload 6, 0, 0) := rfl
theorem gMo_split_115 : fMo_split 115 = some (.iadd, 0, 0) := rfl
theorem gMo_split_116 : fMo_split 116 = some (.iaload, 0, 0) := rfl
theorem gMo_split_117 : fMo_split 117 = some (.aload_n 0, 0, 0) := rfl
theorem gMo_split_118 : fMo_split 118 = some (.getfield 28, 6, 13) := rfl
theorem gMo_split_121 : fMo_split 121 = some (.sipush (560), 0, 0) := rfl
theorem gMo_split_124 : fMo_split 124 = some (.iload 6, 0, 0) := rfl
theorem gMo_split_126 : fMo_split 126 = some (.iadd, 0, 0) := rfl
theorem gMo_split_127 : fMo_split 127 = some (.iaload, 0, 0) := rfl
theorem gMo_split_128 : fMo_split 128 = some (.if_icmp .eq (7), 135, 0) := rfl
theorem gMo_split_131 : fMo_split 131 = some (.iconst 1, 0, 0) := rfl
theorem gMo_split_132 : fMo_split 132 = some (.goto (4), 136, 0) := rfl
theorem gMo_split_135 : fMo_split 135 = some (.iconst 0, 0, 0) := rfl
theorem gMo_split_136 : fMo_split 136 = some (.istore 5, 0, 0) := rfl
theorem gMo_split_138 : fMo_split 138 = some (.iinc 6 (1), 0, 0) := rfl
theorem gMo_split_141 : fMo_split 141 = some (.goto (-48), 93, 0) := rfl
theorem gMo_split_144 : fMo_split 144 = some (.iload 5, 0, 0) := rfl
theorem gMo_split_146 : fMo_split 146 = some (.ifCond .eq (74), 220, 0) := rfl
theorem gMo_split_149 : fMo_split 149 = some (.iload_n 3, 0, 0) := rfl
theorem gMo_split_150 : fMo_split 150 = some (.bipush (16), 0, 0) := rfl
theorem gMo_split_152 : fMo_split 152 = some (.if_icmp .ne (6), 158, 0) := rfl
theorem gMo_split_155 : fMo_split 155 = some (.goto (65), 220, 0) := rfl
theorem gMo_split_158 : fMo_split 158 = some (.iconst 0, 0, 0) := rfl
theorem gMo_split_159 : fMo_split 159 = some (.istore 6, 0, 0) := rfl
theorem gMo_split_161 : fMo_split 161 = some (.iload 6, 0, 0) := rfl
theorem gMo_split_163 : fMo_split 163 = some (.bipush (16), 0, 0) := rfl
theorem gMo_split_165 : fMo_split 165 = some (.if_icmp .ge (52), 217, 0) := rfl
theorem gMo_split_168 : fMo_split 168 = some (.aload_n 0, 0, 0) := rfl
theorem gMo_split_169 : fMo_split 169 = some (.getfield 28, 6, 13) := rfl
theorem gMo_split_172 : fMo_split 172 = some (.bipush (16), 0, 0) := rfl
theorem gMo_split_174 : fMo_split 174 = some (.bipush (16), 0, 0) := rfl
theorem gMo_split_176 : fMo_split 176 = some (.iload_n 3, 0, 0) := rfl
theorem gMo_split_177 : fMo_split 177 = some (.iadd, 0, 0) := rfl
theorem gMo_split_178 : fMo_split 178 = some (.imul, 0, 0) := rfl
theorem gMo_split_179 : fMo_split 179 = some (.iload 6, 0, 0) := rfl
theorem gMo_split_181 : fMo_split 181 = some (.iadd, 0, 0) := rfl
theorem gMo_split_182 : fMo_split 182 = some (.aload_n 0, 0, 0) := rfl
theorem gMo_split_183 : fMo_split 183 = some (.aload_n 0, 0, 0) := rfl
theorem gMo_split_184 : fMo_split 184 = some (.getfield 28, 6, 13) := rfl
theorem gMo_split_187 : fMo_split 187 = some (.bipush (16), 0, 0) := rfl
theorem gMo_split_189 : fMo_split 189 = some (.iload_n 2, 0, 0) := rfl
theorem gMo_split_190 : fMo_split 190 = some (.imul, 0, 0) := rfl
theorem gMo_split_191 : fMo_split 191 = some (.iload 6, 0, 0) := rfl
theorem gMo_split_193 : fMo_split 193 = some (.iadd, 0, 0) := rfl
theorem gMo_split_194 : fMo_split 194 = some (.iaload, 0, 0) := rfl
theorem gMo_split_195 : fMo_split 195 = some (.aload_n 0, 0, 0) := rfl
theorem gMo_split_196 : fMo_split 196 = some (.getfield 28, 6, 13) := rfl
theorem gMo_split_199 : fMo_split 199 = some (.sipush (560), 0, 0) := rfl
theorem gMo_split_202 : fMo_split 202 = some (.iload 6, 0, 0) := rfl
theorem gMo_split_204 : fMo_split 204 = some (.iadd, 0, 0) := rfl
theorem gMo_split_205 : fMo_split 205 = some (.iaload, 0, 0) := rfl
theorem gMo_split_206 : fMo_split 206 = some (.isub, 0, 0) := rfl
theorem gMo_split_207 : fMo_split 207 = some (.invokevirtual 95, 38, 0) := rfl
theorem gMo_split_210 : fMo_split 210 = some (.iastore, 0, 0) := rfl
theorem gMo_split_211 : fMo_split 211 = some (.iinc 6 (1), 0, 0) := rfl
theorem gMo_split_214 : fMo_split 214 = some (.goto (-53), 161, 0) := rfl
theorem gMo_split_217 : fMo_split 217 = some (.iinc 3 (1), 0, 0) := rfl
theorem gMo_split_220 : fMo_split 220 = some (.iinc 4 (1), 0, 0) := rfl
theorem gMo_split_223 : fMo_split 223 = some (.goto (-207), 16, 0) := rfl
theorem gMo_split_226 : fMo_split 226 = some (.aload_n 0, 0, 0) := rfl
theorem gMo_split_227 : fMo_split 227 = some (.iload_n 2, 0, 0) := rfl
theorem gMo_split_228 : fMo_split 228 = some (.bipush (16), 0, 0) := rfl
theorem gMo_split_230 : fMo_split 230 = some (.invokevirtual 101, 42, 0) := rfl
theorem gMo_split_233 : fMo_split 233 = some (.iconst 1, 0, 0) := rfl
theorem gMo_split_234 : fMo_split 234 = some (.istore 4, 0, 0) := rfl
theorem gMo_split_236 : fMo_split 236 = some (.iload 4, 0, 0) := rfl
theorem gMo_split_238 : fMo_split 238 = some (.iload_n 3, 0, 0) := rfl
theorem gMo_split_239 : fMo_split 239 = some (.if_icmp .ge (32), 271, 0) := rfl
theorem gMo_split_242 : fMo_split 242 = some (.aload_n 0, 0, 0) := rfl
theorem gMo_split_243 : fMo_split 243 = some (.aload_n 0, 0, 0) := rfl
theorem gMo_split_244 : fMo_split 244 = some (.getfield 118, 6, 14) := rfl
theorem gMo_split_247 : fMo_split 247 = some (.bipush (16), 0, 0) := rfl
theorem gMo_split_249 : fMo_split 249 = some (.iload 4, 0, 0) := rfl
theorem gMo_split_251 : fMo_split 251 = some (.iadd, 0, 0) := rfl
theorem gMo_split_252 : fMo_split 252 = some (.invokevirtual 101, 42, 0) := rfl
theorem gMo_split_255 : fMo_split 255 = some (.aload_n 0, 0, 0) := rfl
theorem gMo_split_256 : fMo_split 256 = some (.dup, 0, 0) := rfl
theorem gMo_split_257 : fMo_split 257 = some (.getfield 118, 6, 14) := rfl
theorem gMo_split_260 : fMo_split 260 = some (.iconst 1, 0, 0) := rfl
theorem gMo_split_261 : fMo_split 261 = some (.iadd, 0, 0) := rfl
theorem gMo_split_262 : fMo_split 262 = some (.putfield 118, 6, 14) := rfl
theorem gMo_split_265 : fMo_split 265 = some (.iinc 4 (1), 0, 0) := rfl
theorem gMo_split_268 : fMo_split 268 = some (.goto (-32), 236, 0) := rfl
theorem gMo_split_271 : fMo_split 271 = some (.return_, 0, 0) := rfl
abbrev lMo_takeApart : List (Nat × Instr × Nat × Nat) := [(0, .iconst 0, 0, 0), (1, .istore_n 1, 0, 0), (2, .iload_n 1, 0, 0), (3, .bipush (16), 0, 0), (5, .if_icmp .ge (24), 29, 0), (8, .aload_n 0, 0, 0), (9, .getfield 28, 6, 13), (12, .iload_n 1, 0, 0), (13, .iload_n 1, 0, 0), (14, .ifCond .ne (7), 21, 0), (17, .iconst 1, 0, 0), (18, .goto (4), 22, 0), (21, .iconst 0, 0, 0), (22, .iastore, 0, 0), (23, .iinc 1 (1), 0, 0), (26, .goto (-24), 2, 0), (29, .aload_n 0, 0, 0), (30, .iconst 1, 0, 0), (31, .putfield 118, 6, 14), (34, .iconst 1, 0, 0), (35, .istore_n 1, 0, 0), (36, .iload_n 1, 0, 0), (37, .aload_n 0, 0, 0), (38, .getfield 68, 6, 6), (41, .if_icmp .ge (33), 74, 0), (44, .aload_n 0, 0, 0), (45, .getfield 118, 6, 14), (48, .istore_n 2, 0, 0), (49, .iconst 0, 0, 0), (50, .istore_n 3, 0, 0), (51, .iload_n 3, 0, 0), (52, .iload_n 2, 0, 0), (53, .if_icmp .ge (15), 68, 0), (56, .aload_n 0, 0, 0), (57, .iload_n 1, 0, 0), (58, .iload_n 3, 0, 0), (59, .invokevirtual 121, 45, 0), (62, .iinc 3 (1), 0, 0), (65, .goto (-14), 51, 0), (68, .iinc 1 (1), 0, 0), (71, .goto (-35), 36, 0), (74, .return_, 0, 0)]
def fMo_takeApart : sx_F := sx_tab lMo_takeApart
theorem kMo_takeApart : sx_chk "ClassCharactersModel" (wy yMo_takeApart prog_9_method_25_code 4 none) 4 prog_9_method_25_code lMo_takeApart = true := by decide +kernel
theorem gMo_takeApart_0 : fMo_takeApart 0 = some (.iconst 0, 0, 0) := rfl
theorem gMo_takeApart_1 : fMo_takeApart 1 = some (.istore_n 1, 0, 0) := rfl
theorem gMo_takeApart_2 : fMo_takeApart 2 = some (.iload_n 1, 0, 0) := rfl
theorem gMo_takeApart_3 : fMo_takeApart 3 = some (.bipush (16), 0, 0) := rfl
theorem gMo_takeApart_5 : fMo_takeApart 5 = some (.if_icmp .ge (24), 29, 0) := rfl
theorem gMo_takeApart_8 : fMo_takeApart 8 = some (.aload_n 0, 0, 0) := rfl
theorem gMo_takeApart_9 : fMo_takeApart 9 = some (.getfield 28, 6, 13) := rfl
theorem gMo_takeApart_12 : fMo_takeApart 12 = some (.iload_n 1, 0, 0) := rfl
theorem gMo_takeApart_13 : fMo_takeApart 13 = some (.iload_n 1, 0, 0) := rfl
theorem gMo_takeApart_14 : fMo_takeApart 14 = some (.ifCond .ne (7), 21, 0) := rfl
theorem gMo_takeApart_17 : fMo_takeApart 17 = some (.iconst 1, 0, 0) := rfl
theorem gMo_takeApart_18 : fMo_takeApart 18 = some (.goto (4), 22, 0) := rfl
theorem gMo_takeApart_21 : fMo_takeApart 21 = some (.iconst 0, 0, 0) := rfl
theorem gMo_takeApart_22 : fMo_takeApart 22 = some (.iastore, 0, 0) := rfl
theorem gMo_takeApart_23 : fMo_takeApart 23 = some (.iinc 1 (1), 0, 0) := rfl
theorem gMo_takeApart_26 : fMo_takeApart 26 = some (.goto (-24), 2, 0) := rfl
theorem gMo_takeApart_29 : fMo_takeApart 29 = some (.aload_n 0, 0, 0) := rfl
theorem gMo_takeApart_30 : fMo_takeApart 30 = some (.iconst 1, 0, 0) := rfl
theorem gMo_takeApart_31 : fMo_takeApart 31 = some (.putfield 118, 6, 14) := rfl
theorem gMo_takeApart_34 : fMo_takeApart 34 = some (.iconst 1, 0, 0) := rfl
theorem gMo_takeApart_35 : fMo_takeApart 35 = some (.istore_n 1, 0, 0) := rfl
theorem gMo_takeApart_36 : fMo_takeApart 36 = some (.iload_n 1, 0, 0) := rfl
theorem gMo_takeApart_37 : fMo_takeApart 37 = some (.aload_n 0, 0, 0) := rfl
theorem gMo_takeApart_38 : fMo_takeApart 38 = some (.getfield 68, 6, 6) := rfl
theorem gMo_takeApart_41 : fMo_takeApart 41 = some (.if_icmp .ge (33), 74, 0) := rfl
theorem gMo_takeApart_44 : fMo_takeApart 44 = some (.aload_n 0, 0, 0) := rfl
theorem gMo_takeApart_45 : fMo_takeApart 45 = some (.getfield 118, 6, 14) := rfl
theorem gMo_takeApart_48 : fMo_takeApart 48 = some (.istore_n 2, 0, 0) := rfl
theorem gMo_takeApart_49 : fMo_takeApart 49 = some (.iconst 0, 0, 0) := rfl
theorem gMo_takeApart_50 : fMo_takeApart 50 = some (.istore_n 3, 0, 0) := rfl
theorem gMo_takeApart_51 : fMo_takeApart 51 = some (.iload_n 3, 0, 0) := rfl
theorem gMo_takeApart_52 : fMo_takeApart 52 = some (.iload_n 2, 0, 0) := rfl
theorem gMo_takeApart_53 : fMo_takeApart 53 = some (.if_icmp .ge (15), 68, 0) := rfl
theorem gMo_takeApart_56 : fMo_takeApart 56 = some (.aload_n 0, 0, 0) := rfl
theorem gMo_takeApart_57 : fMo_takeApart 57 = some (.iload_n 1, 0, 0) := rfl
theorem gMo_takeApart_58 : fMo_takeApart 58 = some (.iload_n 3, 0, 0) := rfl
theorem gMo_takeApart_59 : fMo_takeApart 59 = some (.invokevirtual 121, 45, 0) := rfl
theorem gMo_takeApart_62 : fMo_takeApart 62 = some (.iinc 3 (1), 0, 0) := rfl
theorem gMo_takeApart_65 : fMo_takeApart 65 = some (.goto (-14), 51, 0) := rfl
theorem gMo_takeApart_68 : fMo_takeApart 68 = some (.iinc 1 (1), 0, 0) := rfl
theorem gMo_takeApart_71 : fMo_takeApart 71 = some (.goto (-35), 36, 0) := rfl
theorem gMo_takeApart_74 : fMo_takeApart 74 = some (.return_, 0, 0) := rfl
end
section
abbrev lMo_inverseOf : List (Nat × Instr × Nat × Nat) := [(0, .aload_n 0, 0, 0), (1, .getfield 22, 6, 8), (4, .iload_n 1, 0, 0), (5, .iaload, 0, 0), (6, .invokestatic 71, 25, 0), (9, .istore_n 2, 0, 0), (10, .aload_n 0, 0, 0), (11, .getfield 16, 6, 5), (14, .aload_n 0, 0, 0), (15, .iload_n 2, 0, 0), (16, .invokevirtual 64, 29, 0), (19, .iaload, 0, 0), (20, .ireturn, 0, 0)]
def fMo_inverseOf : sx_F := sx_tab lMo_inverseOf
theorem kMo_inverseOf : sx_chk "ClassCharactersModel" (wy yMo_inverseOf prog_9_method_26_code 3 (some .int)) 3 prog_9_method_26_code lMo_inverseOf = true := by decide +kernel
theorem gMo_inverseOf_0 : fMo_inverseOf 0 = some (.aload_n 0, 0, 0) := rfl
theorem gMo_inverseOf_1 : fMo_inverseOf 1 = some (.getfield 22, 6, 8) := rfl
theorem gMo_inverseOf_4 : fMo_inverseOf 4 = some (.iload_n 1, 0, 0) := rfl
theorem gMo_inverseOf_5 : fMo_inverseOf 5 = some (.iaload, 0, 0) := rfl
theorem gMo_inverseOf_6 : fMo_inverseOf 6 = some (.invokestatic 71, 25, 0) := rfl
theorem gMo_inverseOf_9 : fMo_inverseOf 9 = some (.istore_n 2, 0, 0) := rfl
theorem gMo_inverseOf_10 : fMo_inverseOf 10 = some (.aload_n 0, 0, 0) := rfl
theorem gMo_inverseOf_11 : fMo_inverseOf 11 = some (.getfield 16, 6, 5) := rfl
theorem gMo_inverseOf_14 : fMo_inverseOf 14 = some (.aload_n 0, 0, 0) := rfl
theorem gMo_inverseOf_15 : fMo_inverseOf 15 = some (.iload_n 2, 0, 0) := rfl
theorem gMo_inverseOf_16 : fMo_inverseOf 16 = some (.invokevirtual 64, 29, 0) := rfl
theorem gMo_inverseOf_19 : fMo_inverseOf 19 = some (.iaload, 0, 0) := rfl
theorem gMo_inverseOf_20 : fMo_inverseOf 20 = some (.ireturn, 0, 0) := rfl
abbrev lMo_makeRow : List (Nat × Instr × Nat × Nat) := [(0, .iconst 0, 0, 0), (1, .istore_n 2, 0, 0), (2, .iconst 0, 0, 0), (3, .istore_n 3, 0, 0), (4, .iload_n 3, 0, 0), (5, .aload_n 0, 0, 0), (6, .getfield 68, 6, 6), (9, .if_icmp .ge (25), 34, 0), (12, .aload_n 0, 0, 0), (13, .getfield 28, 6, 13), (16, .sipush (256), 0, 0), (19, .iload_n 3, 0, 0), (20, .iadd, 0, 0), (21, .aload_n 0, 0, 0), (22, .iload_n 3, 0, 0), (23, .iload_n 1, 0, 0), (24, .invokevirtual 112, 44, 0), (27, .iastore, 0, 0), (28, .iinc 3 (1), 0, 0), (31, .goto (-27), 4, 0), (34, .iconst 0, 0, 0), (35, .istore_n 3, 0, 0), (36, .iload_n 3, 0, 0), (37, .aload_n 0, 0, 0), (38, .getfield 68, 6, 6), (41, .if_icmp .ge (61), 102, 0), (44, .aload_n 0, 0, 0), (45, .getfield 28, 6, 13), (48, .sipush (256), 0, 0), (51, .iload_n 3, 0, 0), (52, .iadd, 0, 0), (53, .iaload, 0, 0), (54, .aload_n 0, 0, 0), (55, .getfield 28, 6, 13), (58, .sipush (256), 0, 0), (61, .aload_n 0, 0, 0), (62, .iload_n 3, 0, 0), (63, .invokevirtual 124, 47, 0), (66, .iadd, 0, 0), (67, .iaload, 0, 0), (68, .imul, 0, 0), (69, .aload_n 0, 0, 0), (70, .getfield 83, 6, 11), (73, .irem, 0, 0), (74, .istore 4, 0, 0), (76, .iload_n 2, 0, 0), (77, .aload_n 0, 0, 0), (78, .iload 4, 0, 0), (80, .aload_n 0, 0, 0), (81, .getfield 19, 6, 7), (84, .iload_n 3, 0, 0), (85, .iaload, 0, 0), (86, .invokevirtual 109, 40, 0), (89, .iadd, 0, 0), (90, .aload_n 0, 0, 0), (91, .getfield 83, 6, 11), (94, .irem, 0, 0), (95, .istore_n 2, 0, 0), (96, .iinc 3 (1), 0, 0), (99, .goto (-63), 36, 0), (102, .iconst 1, 0, 0), (103, .istore_n 3, 0, 0), (104, .iload_n 3, 0, 0), (105, .aload_n 0, 0, 0), (106, .getfield 83, 6, 11), (109, .if_icmp .ge (36), 145, 0), (112, .iload_n 3, 0, 0), (113, .iload_n 3, 0, 0), (114, .imul, 0, 0), (115, .aload_n 0, 0, 0), (116, .getfield 83, 6, 11), (119, .irem, 0, 0), (120, .iload_n 2, 0, 0), (121, .imul, 0, 0), (122, .aload_n 0, 0, 0), (123, .getfield 83, 6, 11), (126, .irem, 0, 0), (127, .aload_n 0, 0, 0), (128, .getfield 57, 6, 3), (131, .aload_n 0, 0, 0), (132, .getfield 83, 6, 11), (135, .irem, 0, 0), (136, .if_icmp .eq (9), 145, 0), (139, .iinc 3 (1), 0, 0), (142, .goto (-38), 104, 0), (145, .aload_n 0, 0, 0), (146, .getfield 31, 6, 15), (149, .iload_n 1, 0, 0), (150, .iload_n 3, 0, 0), (151, .iastore, 0, 0), (152, .iconst 0, 0, 0), (153, .istore 4, 0, 0), (155, .iload 4, 0, 0), (157, .aload_n 0, 0, 0), (158, .getfield 68, 6, 6), (161, .if_icmp .ge (54), 215, 0), (164, .iload_n 3, 0, 0), (165, .aload_n 0, 0, 0), (166, .getfield 28, 6, 13), (169, .sipush (256), 0, 0), (172, .iload 4, 0, 0), (174, .iadd, 0, 0), (175, .iaload, 0, 0), (176, .imul, 0, 0), (177, .aload_n 0, 0, 0), (178, .getfield 83, 6, 11), (181, .irem, 0, 0), (182, .istore 5, 0, 0), (184, .aload_n 0, 0, 0), (185, .getfield 34, 6, 16), (188, .bipush (16), 0, 0), (190, .iload_n 1, 0, 0), (191, .imul, 0, 0), (192, .iload 4, 0, 0), (194, .iadd, 0, 0), (195, .aload_n 0, 0, 0), (196, .iload 5, 0, 0), (198, .aload_n 0, 0, 0), (199, .getfield 19, 6, 7), (202, .iload 4, 0, 0), (204, .iaload, 0, 0), (205, .invokevirtual 109, 40, 0), (208, .iastore, 0, 0), (209, .iinc 4 (1), 0, 0), (212, .goto (-57), 155, 0), (215, .return_, 0, 0)]
def fMo_makeRow : sx_F := sx_tab lMo_makeRow
theorem kMo_makeRow : sx_chk "ClassCharactersModel" (wy yMo_makeRow prog_9_method_27_code 6 none) 6 prog_9_method_27_code lMo_makeRow = true := by decide +kernel
theorem gMo_makeRow_0 : fMo_makeRow 0 = some (.iconst 0, 0, 0) := rfl
theorem gMo_makeRow_1 : fMo_makeRow 1 = some (.istore_n 2, 0, 0) := rfl
theorem gMo_makeRow_2 : fMo_makeRow 2 = some (.iconst 0, 0, 0) := rfl
theorem gMo_makeRow_3 : fMo_makeRow 3 = some (.istore_n 3, 0, 0) := rfl
theorem gMo_makeRow_4 : fMo_makeRow 4 = some (.iload_n 3, 0, 0) := rfl
theorem gMo_makeRow_5 : fMo_makeRow 5 = some (.aload_n 0, 0, 0) := rfl
theorem gMo_makeRow_6 : fMo_makeRow 6 = some (.getfield 68, 6, 6) := rfl
theorem gMo_makeRow_9 : fMo_makeRow 9 = some (.if_icmp .ge (25), 34, 0) := rfl
theorem gMo_makeRow_12 : fMo_makeRow 12 = some (.aload_n 0, 0, 0) := rfl
theorem gMo_makeRow_13 : fMo_makeRow 13 = some (.getfield 28, 6, 13) := rfl
theorem gMo_makeRow_16 : fMo_makeRow 16 = some (.sipush (256), 0, 0) := rfl
theorem gMo_makeRow_19 : fMo_makeRow 19 = some (.iload_n 3, 0, 0) := rfl
theorem gMo_makeRow_20 : fMo_makeRow 20 = some (.iadd, 0, 0) := rfl
theorem gMo_makeRow_21 : fMo_makeRow 21 = some (.aload_n 0, 0, 0) := rfl
theorem gMo_makeRow_22 : fMo_makeRow 22 = some (.iload_n 3, 0, 0) := rfl
theorem gMo_makeRow_23 : fMo_makeRow 23 = some (.iload_n 1, 0, 0) := rfl
theorem gMo_makeRow_24 : fMo_makeRow 24 = some (.invokevirtual 112, 44, 0) := rfl
theorem gMo_makeRow_27 : fMo_makeRow 27 = some (.iastore, 0, 0) := rfl
theorem gMo_makeRow_28 : fMo_makeRow 28 = some (.iinc 3 (1), 0, 0) := rfl
theorem gMo_makeRow_31 : fMo_makeRow 31 = some (.goto (-27), 4, 0) := rfl
theorem gMo_makeRow_34 : fMo_makeRow 34 = some (.iconst 0, 0, 0) := rfl
theorem gMo_makeRow_35 : fMo_makeRow 35 = some (.istore_n 3, 0, 0) := rfl
theorem gMo_makeRow_36 : fMo_makeRow 36 = some (.iload_n 3, 0, 0) := rfl
theorem gMo_makeRow_37 : fMo_makeRow 37 = some (.aload_n 0, 0, 0) := rfl
theorem gMo_makeRow_38 : fMo_makeRow 38 = some (.getfield 68, 6, 6) := rfl
theorem gMo_makeRow_41 : fMo_makeRow 41 = some (.if_icmp .ge (61), 102, 0) := rfl
theorem gMo_makeRow_44 : fMo_makeRow 44 = some (.aload_n 0, 0, 0) := rfl
theorem gMo_makeRow_45 : fMo_makeRow 45 = some (.getfield 28, 6, 13) := rfl
theorem gMo_makeRow_48 : fMo_makeRow 48 = some (.sipush (256), 0, 0) := rfl
theorem gMo_makeRow_51 : fMo_makeRow 51 = some (.iload_n 3, 0, 0) := rfl
theorem gMo_makeRow_52 : fMo_makeRow 52 = some (.iadd, 0, 0) := rfl
theorem gMo_makeRow_53 : fMo_makeRow 53 = some (.iaload, 0, 0) := rfl
theorem gMo_makeRow_54 : fMo_makeRow 54 = some (.aload_n 0, 0, 0) := rfl
theorem gMo_makeRow_55 : fMo_makeRow 55 = some (.getfield 28, 6, 13) := rfl
theorem gMo_makeRow_58 : fMo_makeRow 58 = some (.sipush (256), 0, 0) := rfl
theorem gMo_makeRow_61 : fMo_makeRow 61 = some (.aload_n 0, 0, 0) := rfl
theorem gMo_makeRow_62 : fMo_makeRow 62 = some (.iload_n 3, 0, 0) := rfl
theorem gMo_makeRow_63 : fMo_makeRow 63 = some (.invokevirtual 124, 47, 0) := rfl
theorem gMo_makeRow_66 : fMo_makeRow 66 = some (.iadd, 0, 0) := rfl
theorem gMo_makeRow_67 : fMo_makeRow 67 = some (.iaload, 0, 0) := rfl
theorem gMo_makeRow_68 : fMo_makeRow 68 = some (.imul, 0, 0) := rfl
theorem gMo_makeRow_69 : fMo_makeRow 69 = some (.aload_n 0, 0, 0) := rfl
theorem gMo_makeRow_70 : fMo_makeRow 70 = some (.getfield 83, 6, 11) := rfl
theorem gMo_makeRow_73 : fMo_makeRow 73 = some (.irem, 0, 0) := rfl
theorem gMo_makeRow_74 : fMo_makeRow 74 = some (.istore 4, 0, 0) := rfl
theorem gMo_makeRow_76 : fMo_makeRow 76 = some (.iload_n 2, 0, 0) := rfl
theorem gMo_makeRow_77 : fMo_makeRow 77 = some (.aload_n 0, 0, 0) := rfl
theorem gMo_makeRow_78 : fMo_makeRow 78 = some (.iload 4, 0, 0) := rfl
theorem gMo_makeRow_80 : fMo_makeRow 80 = some (.aload_n 0, 0, 0) := rfl
theorem gMo_makeRow_81 : fMo_makeRow 81 = some (.getfield 19, 6, 7) := rfl
theorem gMo_makeRow_84 : fMo_makeRow 84 = some (.iload_n 3, 0, 0) := rfl
theorem gMo_makeRow_85 : fMo_makeRow 85 = some (.iaload, 0, 0) := rfl
theorem gMo_makeRow_86 : fMo_makeRow 86 = some (.invokevirtual 109, 40, 0) := rfl
theorem gMo_makeRow_89 : fMo_makeRow 89 = some (.iadd, 0, 0) := rfl
theorem gMo_makeRow_90 : fMo_makeRow 90 = some (.aload_n 0, 0, 0) := rfl
theorem gMo_makeRow_91 : fMo_makeRow 91 = some (.getfield 83, 6, 11) := rfl
theorem gMo_makeRow_94 : fMo_makeRow 94 = some (.irem, 0, 0) := rfl
theorem gMo_makeRow_95 : fMo_makeRow 95 = some (.istore_n 2, 0, 0) := rfl
theorem gMo_makeRow_96 : fMo_makeRow 96 = some (.iinc 3 (1), 0, 0) := rfl
theorem gMo_makeRow_99 : fMo_makeRow 99 = some (.goto (-63), 36, 0) := rfl
theorem gMo_makeRow_102 : fMo_makeRow 102 = some (.iconst 1, 0, 0) := rfl
theorem gMo_makeRow_103 : fMo_makeRow 103 = some (.istore_n 3, 0, 0) := rfl
theorem gMo_makeRow_104 : fMo_makeRow 104 = some (.iload_n 3, 0, 0) := rfl
theorem gMo_makeRow_105 : fMo_makeRow 105 = some (.aload_n 0, 0, 0) := rfl
theorem gMo_makeRow_106 : fMo_makeRow 106 = some (.getfield 83, 6, 11) := rfl
theorem gMo_makeRow_109 : fMo_makeRow 109 = some (.if_icmp .ge (36), 145, 0) := rfl
theorem gMo_makeRow_112 : fMo_makeRow 112 = some (.iload_n 3, 0, 0) := rfl
theorem gMo_makeRow_113 : fMo_makeRow 113 = some (.iload_n 3, 0, 0) := rfl
theorem gMo_makeRow_114 : fMo_makeRow 114 = some (.imul, 0, 0) := rfl
theorem gMo_makeRow_115 : fMo_makeRow 115 = some (.aload_n 0, 0, 0) := rfl
theorem gMo_makeRow_116 : fMo_makeRow 116 = some (.getfield 83, 6, 11) := rfl
theorem gMo_makeRow_119 : fMo_makeRow 119 = some (.irem, 0, 0) := rfl
theorem gMo_makeRow_120 : fMo_makeRow 120 = some (.iload_n 2, 0, 0) := rfl
theorem gMo_makeRow_121 : fMo_makeRow 121 = some (.imul, 0, 0) := rfl
theorem gMo_makeRow_122 : fMo_makeRow 122 = some (.aload_n 0, 0, 0) := rfl
theorem gMo_makeRow_123 : fMo_makeRow 123 = some (.getfield 83, 6, 11) := rfl
theorem gMo_makeRow_126 : fMo_makeRow 126 = some (.irem, 0, 0) := rfl
theorem gMo_makeRow_127 : fMo_makeRow 127 = some (.aload_n 0, 0, 0) := rfl
theorem gMo_makeRow_128 : fMo_makeRow 128 = some (.getfield 57, 6, 3) := rfl
theorem gMo_makeRow_131 : fMo_makeRow 131 = some (.aload_n 0, 0, 0) := rfl
theorem gMo_makeRow_132 : fMo_makeRow 132 = some (.getfield 83, 6, 11) := rfl
theorem gMo_makeRow_135 : fMo_makeRow 135 = some (.irem, 0, 0) := rfl
theorem gMo_makeRow_136 : fMo_makeRow 136 = some (.if_icmp .eq (9), 145, 0) := rfl
theorem gMo_makeRow_139 : fMo_makeRow 139 = some (.iinc 3 (1), 0, 0) := rfl
theorem gMo_makeRow_142 : fMo_makeRow 142 = some (.goto (-38), 104, 0) := rfl
theorem gMo_makeRow_145 : fMo_makeRow 145 = some (.aload_n 0, 0, 0) := rfl
theorem gMo_makeRow_146 : fMo_makeRow 146 = some (.getfield 31, 6, 15) := rfl
theorem gMo_makeRow_149 : fMo_makeRow 149 = some (.iload_n 1, 0, 0) := rfl
theorem gMo_makeRow_150 : fMo_makeRow 150 = some (.iload_n 3, 0, 0) := rfl
theorem gMo_makeRow_151 : fMo_makeRow 151 = some (.iastore, 0, 0) := rfl
theorem gMo_makeRow_152 : fMo_makeRow 152 = some (.iconst 0, 0, 0) := rfl
theorem gMo_makeRow_153 : fMo_makeRow 153 = some (.istore 4, 0, 0) := rfl
theorem gMo_makeRow_155 : fMo_makeRow 155 = some (.iload 4, 0, 0) := rfl
theorem gMo_makeRow_157 : fMo_makeRow 157 = some (.aload_n 0, 0, 0) := rfl
theorem gMo_makeRow_158 : fMo_makeRow 158 = some (.getfield 68, 6, 6) := rfl
theorem gMo_makeRow_161 : fMo_makeRow 161 = some (.if_icmp .ge (54), 215, 0) := rfl
theorem gMo_makeRow_164 : fMo_makeRow 164 = some (.iload_n 3, 0, 0) := rfl
theorem gMo_makeRow_165 : fMo_makeRow 165 = some (.aload_n 0, 0, 0) := rfl
theorem gMo_makeRow_166 : fMo_makeRow 166 = some (.getfield 28, 6, 13) := rfl
theorem gMo_makeRow_169 : fMo_makeRow 169 = some (.sipush (256), 0, 0) := rfl
theorem gMo_makeRow_172 : fMo_makeRow 172 = some (.iload 4, 0, 0) := rfl
theorem gMo_makeRow_174 : fMo_makeRow 174 = some (.iadd, 0, 0) := rfl
theorem gMo_makeRow_175 : fMo_makeRow 175 = some (.iaload, 0, 0) := rfl
theorem gMo_makeRow_176 : fMo_makeRow 176 = some (.imul, 0, 0) := rfl
theorem gMo_makeRow_177 : fMo_makeRow 177 = some (.aload_n 0, 0, 0) := rfl
theorem gMo_makeRow_178 : fMo_makeRow 178 = some (.getfield 83, 6, 11) := rfl
theorem gMo_makeRow_181 : fMo_makeRow 181 = some (.irem, 0, 0) := rfl
theorem gMo_makeRow_182 : fMo_makeRow 182 = some (.istore 5, 0, 0) := rfl
theorem gMo_makeRow_184 : fMo_makeRow 184 = some (.aload_n 0, 0, 0) := rfl
theorem gMo_makeRow_185 : fMo_makeRow 185 = some (.getfield 34, 6, 16) := rfl
theorem gMo_makeRow_188 : fMo_makeRow 188 = some (.bipush (16), 0, 0) := rfl
theorem gMo_makeRow_190 : fMo_makeRow 190 = some (.iload_n 1, 0, 0) := rfl
theorem gMo_makeRow_191 : fMo_makeRow 191 = some (.imul, 0, 0) := rfl
theorem gMo_makeRow_192 : fMo_makeRow 192 = some (.iload 4, 0, 0) := rfl
theorem gMo_makeRow_194 : fMo_makeRow 194 = some (.iadd, 0, 0) := rfl
theorem gMo_makeRow_195 : fMo_makeRow 195 = some (.aload_n 0, 0, 0) := rfl
theorem gMo_makeRow_196 : fMo_makeRow 196 = some (.iload 5, 0, 0) := rfl
theorem gMo_makeRow_198 : fMo_makeRow 198 = some (.aload_n 0, 0, 0) := rfl
theorem gMo_makeRow_199 : fMo_makeRow 199 = some (.getfield 19, 6, 7) := rfl
theorem gMo_makeRow_202 : fMo_makeRow 202 = some (.iload 4, 0, 0) := rfl
theorem gMo_makeRow_204 : fMo_makeRow 204 = some (.iaload, 0, 0) := rfl
theorem gMo_makeRow_205 : fMo_makeRow 205 = some (.invokevirtual 109, 40, 0) := rfl
theorem gMo_makeRow_208 : fMo_makeRow 208 = some (.iastore, 0, 0) := rfl
theorem gMo_makeRow_209 : fMo_makeRow 209 = some (.iinc 4 (1), 0, 0) := rfl
theorem gMo_makeRow_212 : fMo_makeRow 212 = some (.goto (-57), 155, 0) := rfl
theorem gMo_makeRow_215 : fMo_makeRow 215 = some (.return_, 0, 0) := rfl
abbrev lMo_comesBefore : List (Nat × Instr × Nat × Nat) := [(0, .aload_n 0, 0, 0), (1, .getfield 31, 6, 15), (4, .iload_n 1, 0, 0), (5, .iaload, 0, 0), (6, .aload_n 0, 0, 0), (7, .getfield 31, 6, 15), (10, .iload_n 2, 0, 0), (11, .iaload, 0, 0), (12, .if_icmp .eq (24), 36, 0), (15, .aload_n 0, 0, 0), (16, .getfield 31, 6, 15), (19, .iload_n 1, 0, 0), (20, .iaload, 0, 0), (21, .aload_n 0, 0, 0), (22, .getfield 31, 6, 15), (25, .iload_n 2, 0, 0), (26, .iaload, 0, 0), (27, .if_icmp .ge (7), 34, 0), (30, .iconst 1, 0, 0), (31, .goto (4), 35, 0), (34, .iconst 0, 0, 0), (35, .ireturn, 0, 0), (36, .iconst 1, 0, 0), (37, .istore_n 3, 0, 0), (38, .iload_n 3, 0, 0), (39, .aload_n 0, 0, 0), (40, .getfield 68, 6, 6), (43, .if_icmp .ge (65), 108, 0), (46, .aload_n 0, 0, 0), (47, .getfield 34, 6, 16), (50, .bipush (16), 0, 0), (52, .iload_n 1, 0, 0), (53, .imul, 0, 0), (54, .iload_n 3, 0, 0), (55, .iadd, 0, 0), (56, .iaload, 0, 0), (57, .aload_n 0, 0, 0), (58, .getfield 34, 6, 16), (61, .bipush (16), 0, 0), (63, .iload_n 2, 0, 0), (64, .imul, 0, 0), (65, .iload_n 3, 0, 0), (66, .iadd, 0, 0), (67, .iaload, 0, 0), (68, .if_icmp .eq (34), 102, 0), (71, .aload_n 0, 0, 0), (72, .getfield 34, 6, 16), (75, .bipush (16), 0, 0), (77, .iload_n 1, 0, 0), (78, .imul, 0, 0), (79, .iload_n 3, 0, 0), (80, .iadd, 0, 0), (81, .iaload, 0, 0), (82, .aload_n 0, 0, 0), (83, .getfield 34, 6, 16), (86, .bipush (16), 0, 0), (88, .iload_n 2, 0, 0), (89, .imul, 0, 0), (90, .iload_n 3, 0, 0), (91, .iadd, 0, 0), (92, .iaload, 0, 0), (93, .if_icmp .ge (7), 100, 0), (96, .iconst 1, 0, 0), (97, .goto (4), 101, 0), (100, .iconst 0, 0, 0), (101, .ireturn, 0, 0), (102, .iinc 3 (1), 0, 0), (105, .goto (-67), 38, 0), (108, .iconst 0, 0, 0), (109, .ireturn, 0, 0)]
def fMo_comesBefore : sx_F := sx_tab lMo_comesBefore
theorem kMo_comesBefore : sx_chk "ClassCharactersModel" (wy yMo_comesBefore prog_9_method_28_code 4 (some .boolean)) 4 prog_9_method_28_code lMo_comesBefore = true := by decide +kernel
theorem gMo_comesBefore_0 : fMo_comesBefore 0 = some (.aload_n 0, 0, 0) := rfl
theorem gMo_comesBefore_1 : fMo_comesBefore 1 = some (.getfield 31, 6, 15) := rfl
theorem gMo_comesBefore_4 : fMo_comesBefore 4 = some (.iload_n 1, 0, 0) := rfl
theorem gMo_comesBefore_5 : fMo_comesBefore 5 = some (.iaload, 0, 0) := rfl
theorem gMo_comesBefore_6 : fMo_comesBefore 6 = some (.aload_n 0, 0, 0) := rfl
theorem gMo_comesBefore_7 : fMo_comesBefore 7 = some (.getfield 31, 6, 15) := rfl
theorem gMo_comesBefore_10 : fMo_comesBefore 10 = some (.iload_n 2, 0, 0) := rfl
theorem gMo_comesBefore_11 : fMo_comesBefore 11 = some (.iaload, 0, 0) := rfl
theorem gMo_comesBefore_12 : fMo_comesBefore 12 = some (.if_icmp .eq (24), 36, 0) := rfl
theorem gMo_comesBefore_15 : fMo_comesBefore 15 = some (.aload_n 0, 0, 0) := rfl
theorem gMo_comesBefore_16 : fMo_comesBefore 16 = some (.getfield 31, 6, 15) := rfl
theorem gMo_comesBefore_19 : fMo_comesBefore 19 = some (.iload_n 1, 0, 0) := rfl
theorem gMo_comesBefore_20 : fMo_comesBefore 20 = some (.iaload, 0, 0) := rfl
theorem gMo_comesBefore_21 : fMo_comesBefore 21 = some (.aload_n 0, 0, 0) := rfl
theorem gMo_comesBefore_22 : fMo_comesBefore 22 = some (.getfield 31, 6, 15) := rfl
theorem gMo_comesBefore_25 : fMo_comesBefore 25 = some (.iload_n 2, 0, 0) := rfl
theorem gMo_comesBefore_26 : fMo_comesBefore 26 = some (.iaload, 0, 0) := rfl
theorem gMo_comesBefore_27 : fMo_comesBefore 27 = some (.if_icmp .ge (7), 34, 0) := rfl
theorem gMo_comesBefore_30 : fMo_comesBefore 30 = some (.iconst 1, 0, 0) := rfl
theorem gMo_comesBefore_31 : fMo_comesBefore 31 = some (.goto (4), 35, 0) := rfl
theorem gMo_comesBefore_34 : fMo_comesBefore 34 = some (.iconst 0, 0, 0) := rfl
theorem gMo_comesBefore_35 : fMo_comesBefore 35 = some (.ireturn, 0, 0) := rfl
theorem gMo_comesBefore_36 : fMo_comesBefore 36 = some (.iconst 1, 0, 0) := rfl
theorem gMo_comesBefore_37 : fMo_comesBefore 37 = some (.istore_n 3, 0, 0) := rfl
theorem gMo_comesBefore_38 : fMo_comesBefore 38 = some (.iload_n 3, 0, 0) := rfl
theorem gMo_comesBefore_39 : fMo_comesBefore 39 = some (.aload_n 0, 0, 0) := rfl
theorem gMo_comesBefore_40 : fMo_comesBefore 40 = some (.getfield 68, 6, 6) := rfl
theorem gMo_comesBefore_43 : fMo_comesBefore 43 = some (.if_icmp .ge (65), 108, 0) := rfl
theorem gMo_comesBefore_46 : fMo_comesBefore 46 = some (.aload_n 0, 0, 0) := rfl
theorem gMo_comesBefore_47 : fMo_comesBefore 47 = some (.getfield 34, 6, 16) := rfl
theorem gMo_comesBefore_50 : fMo_comesBefore 50 = some (.bipush (16), 0, 0) := rfl
theorem gMo_comesBefore_52 : fMo_comesBefore 52 = some (.iload_n 1, 0, 0) := rfl
theorem gMo_comesBefore_53 : fMo_comesBefore 53 = some (.imul, 0, 0) := rfl
theorem gMo_comesBefore_54 : fMo_comesBefore 54 = some (.iload_n 3, 0, 0) := rfl
theorem gMo_comesBefore_55 : fMo_comesBefore 55 = some (.iadd, 0, 0) := rfl
theorem gMo_comesBefore_56 : fMo_comesBefore 56 = some (.iaload, 0, 0) := rfl
theorem gMo_comesBefore_57 : fMo_comesBefore 57 = some (.aload_n 0, 0, 0) := rfl
theorem gMo_comesBefore_58 : fMo_comesBefore 58 = some (.getfield 34, 6, 16) := rfl
theorem gMo_comesBefore_61 : fMo_comesBefore 61 = some (.bipush (16), 0, 0) := rfl
theorem gMo_comesBefore_63 : fMo_comesBefore 63 = some (.iload_n 2, 0, 0) := rfl
theorem gMo_comesBefore_64 : fMo_comesBefore 64 = some (.imul, 0, 0) := rfl
theorem gMo_comesBefore_65 : fMo_comesBefore 65 = some (.iload_n 3, 0, 0) := rfl
theorem gMo_comesBefore_66 : fMo_comesBefore 66 = some (.iadd, 0, 0) := rfl
theorem gMo_comesBefore_67 : fMo_comesBefore 67 = some (.iaload, 0, 0) := rfl
theorem gMo_comesBefore_68 : fMo_comesBefore 68 = some (.if_icmp .eq (34), 102, 0) := rfl
theorem gMo_comesBefore_71 : fMo_comesBefore 71 = some (.aload_n 0, 0, 0) := rfl
theorem gMo_comesBefore_72 : fMo_comesBefore 72 = some (.getfield 34, 6, 16) := rfl
theorem gMo_comesBefore_75 : fMo_comesBefore 75 = some (.bipush (16), 0, 0) := rfl
theorem gMo_comesBefore_77 : fMo_comesBefore 77 = some (.iload_n 1, 0, 0) := rfl
theorem gMo_comesBefore_78 : fMo_comesBefore 78 = some (.imul, 0, 0) := rfl
theorem gMo_comesBefore_79 : fMo_comesBefore 79 = some (.iload_n 3, 0, 0) := rfl
theorem gMo_comesBefore_80 : fMo_comesBefore 80 = some (.iadd, 0, 0) := rfl
theorem gMo_comesBefore_81 : fMo_comesBefore 81 = some (.iaload, 0, 0) := rfl
theorem gMo_comesBefore_82 : fMo_comesBefore 82 = some (.aload_n 0, 0, 0) := rfl
theorem gMo_comesBefore_83 : fMo_comesBefore 83 = some (.getfield 34, 6, 16) := rfl
theorem gMo_comesBefore_86 : fMo_comesBefore 86 = some (.bipush (16), 0, 0) := rfl
theorem gMo_comesBefore_88 : fMo_comesBefore 88 = some (.iload_n 2, 0, 0) := rfl
theorem gMo_comesBefore_89 : fMo_comesBefore 89 = some (.imul, 0, 0) := rfl
theorem gMo_comesBefore_90 : fMo_comesBefore 90 = some (.iload_n 3, 0, 0) := rfl
theorem gMo_comesBefore_91 : fMo_comesBefore 91 = some (.iadd, 0, 0) := rfl
theorem gMo_comesBefore_92 : fMo_comesBefore 92 = some (.iaload, 0, 0) := rfl
theorem gMo_comesBefore_93 : fMo_comesBefore 93 = some (.if_icmp .ge (7), 100, 0) := rfl
theorem gMo_comesBefore_96 : fMo_comesBefore 96 = some (.iconst 1, 0, 0) := rfl
theorem gMo_comesBefore_97 : fMo_comesBefore 97 = some (.goto (4), 101, 0) := rfl
theorem gMo_comesBefore_100 : fMo_comesBefore 100 = some (.iconst 0, 0, 0) := rfl
theorem gMo_comesBefore_101 : fMo_comesBefore 101 = some (.ireturn, 0, 0) := rfl
theorem gMo_comesBefore_102 : fMo_comesBefore 102 = some (.iinc 3 (1), 0, 0) := rfl
theorem gMo_comesBefore_105 : fMo_comesBefore 105 = some (.goto (-67), 38, 0) := rfl
theorem gMo_comesBefore_108 : fMo_comesBefore 108 = some (.iconst 0, 0, 0) := rfl
theorem gMo_comesBefore_109 : fMo_comesBefore 109 = some (.ireturn, 0, 0) := rfl
abbrev lMo_exchange : List (Nat × Instr × Nat × Nat) := [(0, .aload_n 0, 0, 0), (1, .getfield 31, 6, 15), (4, .iload_n 1, 0, 0), (5, .iaload, 0, 0), (6, .istore_n 3, 0, 0), (7, .aload_n 0, 0, 0), (8, .getfield 31, 6, 15), (11, .iload_n 1, 0, 0), (12, .aload_n 0, 0, 0), (13, .getfield 31, 6, 15), (16, .iload_n 2, 0, 0), (17, .iaload, 0, 0), (18, .iastore, 0, 0), (19, .aload_n 0, 0, 0), (20, .getfield 31, 6, 15), (23, .iload_n 2, 0, 0), (24, .iload_n 3, 0, 0), (25, .iastore, 0, 0), (26, .iconst 0, 0, 0), (27, .istore 4, 0, 0), (29, .iload 4, 0, 0), (31, .bipush (16), 0, 0), (33, .if_icmp .ge (61), 94, 0), (36, .aload_n 0, 0, 0), (37, .getfield 34, 6, 16), (40, .bipush (16), 0, 0), (42, .iload_n 1, 0, 0), (43, .imul, 0, 0), (44, .iload 4, 0, 0), (46, .iadd, 0, 0), (47, .iaload, 0, 0), (48, .istore 5, 0, 0), (50, .aload_n 0, 0, 0), (51, .getfield 34, 6, 16), (54, .bipush (16), 0, 0), (56, .iload_n 1, 0, 0), (57, .imul, 0, 0), (58, .iload 4, 0, 0), (60, .iadd, 0, 0), (61, .aload_n 0, 0, 0), (62, .getfield 34, 6, 16), (65, .bipush (16), 0, 0), (67, .iload_n 2, 0, 0), (68, .imul, 0, 0), (69, .iload 4, 0, 0), (71, .iadd, 0, 0), (72, .iaload, 0, 0), (73, .iastore, 0, 0), (74, .aload_n 0, 0, 0), (75, .getfield 34, 6, 16), (78, .bipush (16), 0, 0), (80, .iload_n 2, 0, 0), (81, .imul, 0, 0), (82, .iload 4, 0, 0), (84, .iadd, 0, 0), (85, .iload 5, 0, 0), (87, .iastore, 0, 0), (88, .iinc 4 (1), 0, 0), (91, .goto (-62), 29, 0), (94, .return_, 0, 0)]
def fMo_exchange : sx_F := sx_tab lMo_exchange
theorem kMo_exchange : sx_chk "ClassCharactersModel" (wy yMo_exchange prog_9_method_29_code 6 none) 6 prog_9_method_29_code lMo_exchange = true := by decide +kernel
theorem gMo_exchange_0 : fMo_exchange 0 = some (.aload_n 0, 0, 0) := rfl
theorem gMo_exchange_1 : fMo_exchange 1 = some (.getfield 31, 6, 15) := rfl
theorem gMo_exchange_4 : fMo_exchange 4 = some (.iload_n 1, 0, 0) := rfl
theorem gMo_exchange_5 : fMo_exchange 5 = some (.iaload, 0, 0) := rfl
theorem gMo_exchange_6 : fMo_exchange 6 = some (.istore_n 3, 0, 0) := rfl
theorem gMo_exchange_7 : fMo_exchange 7 = some (.aload_n 0, 0, 0) := rfl
theorem gMo_exchange_8 : fMo_exchange 8 = some (.getfield 31, 6, 15) := rfl
theorem gMo_exchange_11 : fMo_exchange 11 = some (.iload_n 1, 0, 0) := rfl
theorem gMo_exchange_12 : fMo_exchange 12 = some (.aload_n 0, 0, 0) := rfl
theorem gMo_exchange_13 : fMo_exchange 13 = some (.getfield 31, 6, 15) := rfl
theorem gMo_exchange_16 : fMo_exchange 16 = some (.iload_n 2, 0, 0) := rfl
theorem gMo_exchange_17 : fMo_exchange 17 = some (.iaload, 0, 0) := rfl
theorem gMo_exchange_18 : fMo_exchange 18 = some (.iastore, 0, 0) := rfl
theorem gMo_exchange_19 : fMo_exchange 19 = some (.aload_n 0, 0, 0) := rfl
theorem gMo_exchange_20 : fMo_exchange 20 = some (.getfield 31, 6, 15) := rfl
theorem gMo_exchange_23 : fMo_exchange 23 = some (.iload_n 2, 0, 0) := rfl
theorem gMo_exchange_24 : fMo_exchange 24 = some (.iload_n 3, 0, 0) := rfl
theorem gMo_exchange_25 : fMo_exchange 25 = some (.iastore, 0, 0) := rfl
theorem gMo_exchange_26 : fMo_exchange 26 = some (.iconst 0, 0, 0) := rfl
theorem gMo_exchange_27 : fMo_exchange 27 = some (.istore 4, 0, 0) := rfl
theorem gMo_exchange_29 : fMo_exchange 29 = some (.iload 4, 0, 0) := rfl
theorem gMo_exchange_31 : fMo_exchange 31 = some (.bipush (16), 0, 0) := rfl
theorem gMo_exchange_33 : fMo_exchange 33 = some (.if_icmp .ge (61), 94, 0) := rfl
theorem gMo_exchange_36 : fMo_exchange 36 = some (.aload_n 0, 0, 0) := rfl
theorem gMo_exchange_37 : fMo_exchange 37 = some (.getfield 34, 6, 16) := rfl
theorem gMo_exchange_40 : fMo_exchange 40 = some (.bipush (16), 0, 0) := rfl
theorem gMo_exchange_42 : fMo_exchange 42 = some (.iload_n 1, 0, 0) := rfl
theorem gMo_exchange_43 : fMo_exchange 43 = some (.imul, 0, 0) := rfl
theorem gMo_exchange_44 : fMo_exchange 44 = some (.iload 4, 0, 0) := rfl
theorem gMo_exchange_46 : fMo_exchange 46 = some (.iadd, 0, 0) := rfl
theorem gMo_exchange_47 : fMo_exchange 47 = some (.iaload, 0, 0) := rfl
theorem gMo_exchange_48 : fMo_exchange 48 = some (.istore 5, 0, 0) := rfl
theorem gMo_exchange_50 : fMo_exchange 50 = some (.aload_n 0, 0, 0) := rfl
theorem gMo_exchange_51 : fMo_exchange 51 = some (.getfield 34, 6, 16) := rfl
theorem gMo_exchange_54 : fMo_exchange 54 = some (.bipush (16), 0, 0) := rfl
theorem gMo_exchange_56 : fMo_exchange 56 = some (.iload_n 1, 0, 0) := rfl
theorem gMo_exchange_57 : fMo_exchange 57 = some (.imul, 0, 0) := rfl
theorem gMo_exchange_58 : fMo_exchange 58 = some (.iload 4, 0, 0) := rfl
theorem gMo_exchange_60 : fMo_exchange 60 = some (.iadd, 0, 0) := rfl
theorem gMo_exchange_61 : fMo_exchange 61 = some (.aload_n 0, 0, 0) := rfl
theorem gMo_exchange_62 : fMo_exchange 62 = some (.getfield 34, 6, 16) := rfl
theorem gMo_exchange_65 : fMo_exchange 65 = some (.bipush (16), 0, 0) := rfl
theorem gMo_exchange_67 : fMo_exchange 67 = some (.iload_n 2, 0, 0) := rfl
theorem gMo_exchange_68 : fMo_exchange 68 = some (.imul, 0, 0) := rfl
theorem gMo_exchange_69 : fMo_exchange 69 = some (.iload 4, 0, 0) := rfl
theorem gMo_exchange_71 : fMo_exchange 71 = some (.iadd, 0, 0) := rfl
theorem gMo_exchange_72 : fMo_exchange 72 = some (.iaload, 0, 0) := rfl
theorem gMo_exchange_73 : fMo_exchange 73 = some (.iastore, 0, 0) := rfl
theorem gMo_exchange_74 : fMo_exchange 74 = some (.aload_n 0, 0, 0) := rfl
theorem gMo_exchange_75 : fMo_exchange 75 = some (.getfield 34, 6, 16) := rfl
theorem gMo_exchange_78 : fMo_exchange 78 = some (.bipush (16), 0, 0) := rfl
theorem gMo_exchange_80 : fMo_exchange 80 = some (.iload_n 2, 0, 0) := rfl
theorem gMo_exchange_81 : fMo_exchange 81 = some (.imul, 0, 0) := rfl
theorem gMo_exchange_82 : fMo_exchange 82 = some (.iload 4, 0, 0) := rfl
theorem gMo_exchange_84 : fMo_exchange 84 = some (.iadd, 0, 0) := rfl
theorem gMo_exchange_85 : fMo_exchange 85 = some (.iload 5, 0, 0) := rfl
theorem gMo_exchange_87 : fMo_exchange 87 = some (.iastore, 0, 0) := rfl
theorem gMo_exchange_88 : fMo_exchange 88 = some (.iinc 4 (1), 0, 0) := rfl
theorem gMo_exchange_91 : fMo_exchange 91 = some (.goto (-62), 29, 0) := rfl
theorem gMo_exchange_94 : fMo_exchange 94 = some (.return_, 0, 0) := rfl
abbrev lMo_build : List (Nat × Instr × Nat × Nat) := [(0, .aload_n 0, 0, 0), (1, .iconst 0, 0, 0), (2, .putfield 53, 106, 2), (5, .aload_n 0, 0, 0), (6, .invokevirtual 127, 30, 0), (9, .ifCond .ne (5), 14, 0), (12, .iconst 1, 0, 0), (13, .ireturn, 0, 0), (14, .aload_n 0, 0, 0), (15, .invokevirtual 131, 31, 0), (18, .ifCond .ne (5), 23, 0), (21, .iconst 2, 0, 0), (22, .ireturn, 0, 0), (23, .aload_n 0, 0, 0), (24, .invokevirtual 134, 32, 0), (27, .aload_n 0, 0, 0), (28, .invokevirtual 137, 36, 0), (31, .aload_n 0, 0, 0), (32, .invokevirtual 140, 46, 0), (35, .iconst 0, 0, 0), (36, .istore_n 1, 0, 0), (37, .iload_n 1, 0, 0), (38, .aload_n 0, 0, 0), (39, .getfield 68, 6, 6), (42, .if_icmp .ge (14), 56, 0), (45, .aload_n 0, 0, 0), (46, .iload_n 1, 0, 0), (47, .invokevirtual 143, 48, 0), (50, .iinc 1 (1), 0, 0), (53, .goto (-16), 37, 0), (56, .iconst 0, 0, 0), (57, .istore_n 1, 0, 0), (58, .iload_n 1, 0, 0), (59, .aload_n 0, 0, 0), (60, .getfield 68, 6, 6), (63, .if_icmp .ge (42), 105, 0), (66, .iload_n 1, 0, 0), (67, .iconst 1, 0, 0), (68, .iadd, 0, 0), (69, .istore_n 2, 0, 0), (70, .iload_n 2, 0, 0), (71, .aload_n 0, 0, 0), (72, .getfield 68, 6, 6), (75, .if_icmp .ge (24), 99, 0), (78, .aload_n 0, 0, 0), (79, .iload_n 2, 0, 0), (80, .iload_n 1, 0, 0), (81, .invokevirtual 147, 49, 0), (84, .ifCond .eq (9), 93, 0), (87, .aload_n 0, 0, 0), (88, .iload_n 1, 0, 0), (89, .iload_n 2, 0, 0), (90, .invokevirtual 151, 50, 0), (93, .iinc 2 (1), 0, 0), (96, .goto (-26), 70, 0), (99, .iinc 1 (1), 0, 0), (102, .goto (-44), 58, 0), (105, .aload_n 0, 0, 0), (106, .iconst 1, 0, 0), (107, .putfield 53, 106, 2), (110, .iconst 0, 0, 0), (111, .ireturn, 0, 0)]
def fMo_build : sx_F := sx_tab lMo_build
theorem kMo_build : sx_chk "ClassCharactersModel" (wy yMo_build prog_9_method_30_code 3 (some .int)) 3 prog_9_method_30_code lMo_build = true := by decide +kernel
theorem gMo_build_0 : fMo_build 0 = some (.aload_n 0, 0, 0) := rfl
theorem gMo_build_1 : fMo_build 1 = some (.iconst 0, 0, 0) := rfl
theorem gMo_build_2 : fMo_build 2 = some (.putfield 53, 106, 2) := rfl
theorem gMo_build_5 : fMo_build 5 = some (.aload_n 0, 0, 0) := rfl
theorem gMo_build_6 : fMo_build 6 = some (.invokevirtual 127, 30, 0) := rfl
theorem gMo_build_9 : fMo_build 9 = some (.ifCond .ne (5), 14, 0) := rfl
theorem gMo_build_12 : fMo_build 12 = some (.iconst 1, 0, 0) := rfl
theorem gMo_build_13 : fMo_build 13 = some (.ireturn, 0, 0) := rfl
theorem gMo_build_14 : fMo_build 14 = some (.aload_n 0, 0, 0) := rfl
theorem gMo_build_15 : fMo_build 15 = some (.invokevirtual 131, 31, 0) := rfl
theorem gMo_build_18 : fMo_build 18 = some (.ifCond .ne (5), 23, 0) := rfl
theorem gMo_build_21 : fMo_build 21 = some (.iconst 2, 0, 0) := rfl
theorem gMo_build_22 : fMo_build 22 = some (.ireturn, 0, 0) := rfl
theorem gMo_build_23 : fMo_build 23 = some (.aload_n 0, 0, 0) := rfl
theorem gMo_build_24 : fMo_build 24 = some (.invokevirtual 134, 32, 0) := rfl
theorem gMo_build_27 : fMo_build 27 = some (.aload_n 0, 0, 0) := rfl
theorem gMo_build_28 : fMo_build 28 = some (.invokevirtual 137, 36, 0) := rfl
theorem gMo_build_31 : fMo_build 31 = some (.aload_n 0, 0, 0) := rfl
theorem gMo_build_32 : fMo_build 32 = some (.invokevirtual 140, 46, 0) := rfl
theorem gMo_build_35 : fMo_build 35 = some (.iconst 0, 0, 0) := rfl
theorem gMo_build_36 : fMo_build 36 = some (.istore_n 1, 0, 0) := rfl
theorem gMo_build_37 : fMo_build 37 = some (.iload_n 1, 0, 0) := rfl
theorem gMo_build_38 : fMo_build 38 = some (.aload_n 0, 0, 0) := rfl
theorem gMo_build_39 : fMo_build 39 = some (.getfield 68, 6, 6) := rfl
theorem gMo_build_42 : fMo_build 42 = some (.if_icmp .ge (14), 56, 0) := rfl
theorem gMo_build_45 : fMo_build 45 = some (.aload_n 0, 0, 0) := rfl
theorem gMo_build_46 : fMo_build 46 = some (.iload_n 1, 0, 0) := rfl
theorem gMo_build_47 : fMo_build 47 = some (.invokevirtual 143, 48, 0) := rfl
theorem gMo_build_50 : fMo_build 50 = some (.iinc 1 (1), 0, 0) := rfl
theorem gMo_build_53 : fMo_build 53 = some (.goto (-16), 37, 0) := rfl
theorem gMo_build_56 : fMo_build 56 = some (.iconst 0, 0, 0) := rfl
theorem gMo_build_57 : fMo_build 57 = some (.istore_n 1, 0, 0) := rfl
theorem gMo_build_58 : fMo_build 58 = some (.iload_n 1, 0, 0) := rfl
theorem gMo_build_59 : fMo_build 59 = some (.aload_n 0, 0, 0) := rfl
theorem gMo_build_60 : fMo_build 60 = some (.getfield 68, 6, 6) := rfl
theorem gMo_build_63 : fMo_build 63 = some (.if_icmp .ge (42), 105, 0) := rfl
theorem gMo_build_66 : fMo_build 66 = some (.iload_n 1, 0, 0) := rfl
theorem gMo_build_67 : fMo_build 67 = some (.iconst 1, 0, 0) := rfl
theorem gMo_build_68 : fMo_build 68 = some (.iadd, 0, 0) := rfl
theorem gMo_build_69 : fMo_build 69 = some (.istore_n 2, 0, 0) := rfl
theorem gMo_build_70 : fMo_build 70 = some (.iload_n 2, 0, 0) := rfl
theorem gMo_build_71 : fMo_build 71 = some (.aload_n 0, 0, 0) := rfl
theorem gMo_build_72 : fMo_build 72 = some (.getfield 68, 6, 6) := rfl
theorem gMo_build_75 : fMo_build 75 = some (.if_icmp .ge (24), 99, 0) := rfl
theorem gMo_build_78 : fMo_build 78 = some (.aload_n 0, 0, 0) := rfl
theorem gMo_build_79 : fMo_build 79 = some (.iload_n 2, 0, 0) := rfl
theorem gMo_build_80 : fMo_build 80 = some (.iload_n 1, 0, 0) := rfl
theorem gMo_build_81 : fMo_build 81 = some (.invokevirtual 147, 49, 0) := rfl
theorem gMo_build_84 : fMo_build 84 = some (.ifCond .eq (9), 93, 0) := rfl
theorem gMo_build_87 : fMo_build 87 = some (.aload_n 0, 0, 0) := rfl
theorem gMo_build_88 : fMo_build 88 = some (.iload_n 1, 0, 0) := rfl
theorem gMo_build_89 : fMo_build 89 = some (.iload_n 2, 0, 0) := rfl
theorem gMo_build_90 : fMo_build 90 = some (.invokevirtual 151, 50, 0) := rfl
theorem gMo_build_93 : fMo_build 93 = some (.iinc 2 (1), 0, 0) := rfl
theorem gMo_build_96 : fMo_build 96 = some (.goto (-26), 70, 0) := rfl
theorem gMo_build_99 : fMo_build 99 = some (.iinc 1 (1), 0, 0) := rfl
theorem gMo_build_102 : fMo_build 102 = some (.goto (-44), 58, 0) := rfl
theorem gMo_build_105 : fMo_build 105 = some (.aload_n 0, 0, 0) := rfl
theorem gMo_build_106 : fMo_build 106 = some (.iconst 1, 0, 0) := rfl
theorem gMo_build_107 : fMo_build 107 = some (.putfield 53, 106, 2) := rfl
theorem gMo_build_110 : fMo_build 110 = some (.iconst 0, 0, 0) := rfl
theorem gMo_build_111 : fMo_build 111 = some (.ireturn, 0, 0) := rfl
abbrev lMo_isClass : List (Nat × Instr × Nat × Nat) := [(0, .aload_n 0, 0, 0), (1, .getfield 53, 6, 2), (4, .ifCond .eq (19), 23, 0), (7, .iload_n 1, 0, 0), (8, .ifCond .lt (15), 23, 0), (11, .iload_n 1, 0, 0), (12, .aload_n 0, 0, 0), (13, .getfield 68, 6, 6), (16, .if_icmp .ge (7), 23, 0), (19, .iconst 1, 0, 0), (20, .goto (4), 24, 0), (23, .iconst 0, 0, 0), (24, .ireturn, 0, 0)]
def fMo_isClass : sx_F := sx_tab lMo_isClass
theorem kMo_isClass : sx_chk "ClassCharactersModel" (wy yMo_isClass prog_9_method_31_code 2 (some .boolean)) 2 prog_9_method_31_code lMo_isClass = true := by decide +kernel
theorem gMo_isClass_0 : fMo_isClass 0 = some (.aload_n 0, 0, 0) := rfl
theorem gMo_isClass_1 : fMo_isClass 1 = some (.getfield 53, 6, 2) := rfl
theorem gMo_isClass_4 : fMo_isClass 4 = some (.ifCond .eq (19), 23, 0) := rfl
theorem gMo_isClass_7 : fMo_isClass 7 = some (.iload_n 1, 0, 0) := rfl
theorem gMo_isClass_8 : fMo_isClass 8 = some (.ifCond .lt (15), 23, 0) := rfl
theorem gMo_isClass_11 : fMo_isClass 11 = some (.iload_n 1, 0, 0) := rfl
theorem gMo_isClass_12 : fMo_isClass 12 = some (.aload_n 0, 0, 0) := rfl
theorem gMo_isClass_13 : fMo_isClass 13 = some (.getfield 68, 6, 6) := rfl
theorem gMo_isClass_16 : fMo_isClass 16 = some (.if_icmp .ge (7), 23, 0) := rfl
theorem gMo_isClass_19 : fMo_isClass 19 = some (.iconst 1, 0, 0) := rfl
theorem gMo_isClass_20 : fMo_isClass 20 = some (.goto (4), 24, 0) := rfl
theorem gMo_isClass_23 : fMo_isClass 23 = some (.iconst 0, 0, 0) := rfl
theorem gMo_isClass_24 : fMo_isClass 24 = some (.ireturn, 0, 0) := rfl
abbrev lMo_order : List (Nat × Instr × Nat × Nat) := [(0, .aload_n 0, 0, 0), (1, .getfield 53, 6, 2), (4, .ifCond .eq (10), 14, 0), (7, .aload_n 0, 0, 0), (8, .getfield 57, 6, 3), (11, .goto (4), 15, 0), (14, .iconst 0, 0, 0), (15, .ireturn, 0, 0)]
def fMo_order : sx_F := sx_tab lMo_order
theorem kMo_order : sx_chk "ClassCharactersModel" (wy yMo_order prog_9_method_32_code 1 (some .int)) 1 prog_9_method_32_code lMo_order = true := by decide +kernel
theorem gMo_order_0 : fMo_order 0 = some (.aload_n 0, 0, 0) := rfl
theorem gMo_order_1 : fMo_order 1 = some (.getfield 53, 6, 2) := rfl
theorem gMo_order_4 : fMo_order 4 = some (.ifCond .eq (10), 14, 0) := rfl
theorem gMo_order_7 : fMo_order 7 = some (.aload_n 0, 0, 0) := rfl
theorem gMo_order_8 : fMo_order 8 = some (.getfield 57, 6, 3) := rfl
theorem gMo_order_11 : fMo_order 11 = some (.goto (4), 15, 0) := rfl
theorem gMo_order_14 : fMo_order 14 = some (.iconst 0, 0, 0) := rfl
theorem gMo_order_15 : fMo_order 15 = some (.ireturn, 0, 0) := rfl
abbrev lMo_element : List (Nat × Instr × Nat × Nat) := [(0, .aload_n 0, 0, 0), (1, .getfield 53, 6, 2), (4, .ifCond .eq (24), 28, 0), (7, .iload_n 1, 0, 0), (8, .ifCond .lt (20), 28, 0), (11, .iload_n 1, 0, 0), (12, .aload_n 0, 0, 0), (13, .getfield 57, 6, 3), (16, .if_icmp .ge (12), 28, 0), (19, .aload_n 0, 0, 0), (20, .getfield 13, 6, 4), (23, .iload_n 1, 0, 0), (24, .iaload, 0, 0), (25, .goto (4), 29, 0), (28, .iconst (-1), 0, 0), (29, .ireturn, 0, 0)]
def fMo_element : sx_F := sx_tab lMo_element
theorem kMo_element : sx_chk "ClassCharactersModel" (wy yMo_element prog_9_method_33_code 2 (some .int)) 2 prog_9_method_33_code lMo_element = true := by decide +kernel
theorem gMo_element_0 : fMo_element 0 = some (.aload_n 0, 0, 0) := rfl
theorem gMo_element_1 : fMo_element 1 = some (.getfield 53, 6, 2) := rfl
theorem gMo_element_4 : fMo_element 4 = some (.ifCond .eq (24), 28, 0) := rfl
theorem gMo_element_7 : fMo_element 7 = some (.iload_n 1, 0, 0) := rfl
theorem gMo_element_8 : fMo_element 8 = some (.ifCond .lt (20), 28, 0) := rfl
theorem gMo_element_11 : fMo_element 11 = some (.iload_n 1, 0, 0) := rfl
theorem gMo_element_12 : fMo_element 12 = some (.aload_n 0, 0, 0) := rfl
theorem gMo_element_13 : fMo_element 13 = some (.getfield 57, 6, 3) := rfl
theorem gMo_element_16 : fMo_element 16 = some (.if_icmp .ge (12), 28, 0) := rfl
theorem gMo_element_19 : fMo_element 19 = some (.aload_n 0, 0, 0) := rfl
theorem gMo_element_20 : fMo_element 20 = some (.getfield 13, 6, 4) := rfl
theorem gMo_element_23 : fMo_element 23 = some (.iload_n 1, 0, 0) := rfl
theorem gMo_element_24 : fMo_element 24 = some (.iaload, 0, 0) := rfl
theorem gMo_element_25 : fMo_element 25 = some (.goto (4), 29, 0) := rfl
theorem gMo_element_28 : fMo_element 28 = some (.iconst (-1), 0, 0) := rfl
theorem gMo_element_29 : fMo_element 29 = some (.ireturn, 0, 0) := rfl
abbrev lMo_classOf : List (Nat × Instr × Nat × Nat) := [(0, .aload_n 0, 0, 0), (1, .getfield 53, 6, 2), (4, .ifCond .eq (11), 15, 0), (7, .aload_n 0, 0, 0), (8, .iload_n 1, 0, 0), (9, .invokevirtual 64, 29, 0), (12, .goto (4), 16, 0), (15, .iconst (-1), 0, 0), (16, .istore_n 2, 0, 0), (17, .iload_n 2, 0, 0), (18, .iconst (-1), 0, 0), (19, .if_icmp .ne (7), 26, 0), (22, .iconst (-1), 0, 0), (23, .goto (9), 32, 0), (26, .aload_n 0, 0, 0), (27, .getfield 16, 6, 5), (30, .iload_n 2, 0, 0), (31, .iaload, 0, 0), (32, .ireturn, 0, 0)]
def fMo_classOf : sx_F := sx_tab lMo_classOf
theorem kMo_classOf : sx_chk "ClassCharactersModel" (wy yMo_classOf prog_9_method_34_code 3 (some .int)) 3 prog_9_method_34_code lMo_classOf = true := by decide +kernel
theorem gMo_classOf_0 : fMo_classOf 0 = some (.aload_n 0, 0, 0) := rfl
theorem gMo_classOf_1 : fMo_classOf 1 = some (.getfield 53, 6, 2) := rfl
theorem gMo_classOf_4 : fMo_classOf 4 = some (.ifCond .eq (11), 15, 0) := rfl
theorem gMo_classOf_7 : fMo_classOf 7 = some (.aload_n 0, 0, 0) := rfl
theorem gMo_classOf_8 : fMo_classOf 8 = some (.iload_n 1, 0, 0) := rfl
theorem gMo_classOf_9 : fMo_classOf 9 = some (.invokevirtual 64, 29, 0) := rfl
theorem gMo_classOf_12 : fMo_classOf 12 = some (.goto (4), 16, 0) := rfl
theorem gMo_classOf_15 : fMo_classOf 15 = some (.iconst (-1), 0, 0) := rfl
theorem gMo_classOf_16 : fMo_classOf 16 = some (.istore_n 2, 0, 0) := rfl
theorem gMo_classOf_17 : fMo_classOf 17 = some (.iload_n 2, 0, 0) := rfl
theorem gMo_classOf_18 : fMo_classOf 18 = some (.iconst (-1), 0, 0) := rfl
theorem gMo_classOf_19 : fMo_classOf 19 = some (.if_icmp .ne (7), 26, 0) := rfl
theorem gMo_classOf_22 : fMo_classOf 22 = some (.iconst (-1), 0, 0) := rfl
theorem gMo_classOf_23 : fMo_classOf 23 = some (.goto (9), 32, 0) := rfl
theorem gMo_classOf_26 : fMo_classOf 26 = some (.aload_n 0, 0, 0) := rfl
theorem gMo_classOf_27 : fMo_classOf 27 = some (.getfield 16, 6, 5) := rfl
theorem gMo_classOf_30 : fMo_classOf 30 = some (.iload_n 2, 0, 0) := rfl
theorem gMo_classOf_31 : fMo_classOf 31 = some (.iaload, 0, 0) := rfl
theorem gMo_classOf_32 : fMo_classOf 32 = some (.ireturn, 0, 0) := rfl
abbrev lMo_classes : List (Nat × Instr × Nat × Nat) := [(0, .aload_n 0, 0, 0), (1, .getfield 53, 6, 2), (4, .ifCond .eq (10), 14, 0), (7, .aload_n 0, 0, 0), (8, .getfield 68, 6, 6), (11, .goto (4), 15, 0), (14, .iconst 0, 0, 0), (15, .ireturn, 0, 0)]
def fMo_classes : sx_F := sx_tab lMo_classes
theorem kMo_classes : sx_chk "ClassCharactersModel" (wy yMo_classes prog_9_method_35_code 1 (some .int)) 1 prog_9_method_35_code lMo_classes = true := by decide +kernel
theorem gMo_classes_0 : fMo_classes 0 = some (.aload_n 0, 0, 0) := rfl
theorem gMo_classes_1 : fMo_classes 1 = some (.getfield 53, 6, 2) := rfl
theorem gMo_classes_4 : fMo_classes 4 = some (.ifCond .eq (10), 14, 0) := rfl
theorem gMo_classes_7 : fMo_classes 7 = some (.aload_n 0, 0, 0) := rfl
theorem gMo_classes_8 : fMo_classes 8 = some (.getfield 68, 6, 6) := rfl
theorem gMo_classes_11 : fMo_classes 11 = some (.goto (4), 15, 0) := rfl
theorem gMo_classes_14 : fMo_classes 14 = some (.iconst 0, 0, 0) := rfl
theorem gMo_classes_15 : fMo_classes 15 = some (.ireturn, 0, 0) := rfl
abbrev lMo_size : List (Nat × Instr × Nat × Nat) := [(0, .aload_n 0, 0, 0), (1, .iload_n 1, 0, 0), (2, .invokevirtual 154, 52, 0), (5, .ifCond .eq (12), 17, 0), (8, .aload_n 0, 0, 0), (9, .getfield 19, 6, 7), (12, .iload_n 1, 0, 0), (13, .iaload, 0, 0), (14, .goto (4), 18, 0), (17, .iconst 0, 0, 0), (18, .ireturn, 0, 0)]
def fMo_size : sx_F := sx_tab lMo_size
theorem kMo_size : sx_chk "ClassCharactersModel" (wy yMo_size prog_9_method_36_code 2 (some .int)) 2 prog_9_method_36_code lMo_size = true := by decide +kernel
theorem gMo_size_0 : fMo_size 0 = some (.aload_n 0, 0, 0) := rfl
theorem gMo_size_1 : fMo_size 1 = some (.iload_n 1, 0, 0) := rfl
theorem gMo_size_2 : fMo_size 2 = some (.invokevirtual 154, 52, 0) := rfl
theorem gMo_size_5 : fMo_size 5 = some (.ifCond .eq (12), 17, 0) := rfl
theorem gMo_size_8 : fMo_size 8 = some (.aload_n 0, 0, 0) := rfl
theorem gMo_size_9 : fMo_size 9 = some (.getfield 19, 6, 7) := rfl
theorem gMo_size_12 : fMo_size 12 = some (.iload_n 1, 0, 0) := rfl
theorem gMo_size_13 : fMo_size 13 = some (.iaload, 0, 0) := rfl
theorem gMo_size_14 : fMo_size 14 = some (.goto (4), 18, 0) := rfl
theorem gMo_size_17 : fMo_size 17 = some (.iconst 0, 0, 0) := rfl
theorem gMo_size_18 : fMo_size 18 = some (.ireturn, 0, 0) := rfl
abbrev lMo_least : List (Nat × Instr × Nat × Nat) := [(0, .aload_n 0, 0, 0), (1, .iload_n 1, 0, 0), (2, .invokevirtual 154, 52, 0), (5, .ifCond .eq (12), 17, 0), (8, .aload_n 0, 0, 0), (9, .getfield 22, 6, 8), (12, .iload_n 1, 0, 0), (13, .iaload, 0, 0), (14, .goto (4), 18, 0), (17, .iconst (-1), 0, 0), (18, .ireturn, 0, 0)]
def fMo_least : sx_F := sx_tab lMo_least
theorem kMo_least : sx_chk "ClassCharactersModel" (wy yMo_least prog_9_method_37_code 2 (some .int)) 2 prog_9_method_37_code lMo_least = true := by decide +kernel
theorem gMo_least_0 : fMo_least 0 = some (.aload_n 0, 0, 0) := rfl
theorem gMo_least_1 : fMo_least 1 = some (.iload_n 1, 0, 0) := rfl
theorem gMo_least_2 : fMo_least 2 = some (.invokevirtual 154, 52, 0) := rfl
theorem gMo_least_5 : fMo_least 5 = some (.ifCond .eq (12), 17, 0) := rfl
theorem gMo_least_8 : fMo_least 8 = some (.aload_n 0, 0, 0) := rfl
theorem gMo_least_9 : fMo_least 9 = some (.getfield 22, 6, 8) := rfl
theorem gMo_least_12 : fMo_least 12 = some (.iload_n 1, 0, 0) := rfl
theorem gMo_least_13 : fMo_least 13 = some (.iaload, 0, 0) := rfl
theorem gMo_least_14 : fMo_least 14 = some (.goto (4), 18, 0) := rfl
theorem gMo_least_17 : fMo_least 17 = some (.iconst (-1), 0, 0) := rfl
theorem gMo_least_18 : fMo_least 18 = some (.ireturn, 0, 0) := rfl
abbrev lMo_power : List (Nat × Instr × Nat × Nat) := [(0, .aload_n 0, 0, 0), (1, .iload_n 1, 0, 0), (2, .invokevirtual 154, 52, 0), (5, .ifCond .eq (14), 19, 0), (8, .iload_n 2, 0, 0), (9, .ifCond .lt (10), 19, 0), (12, .iload_n 2, 0, 0), (13, .sipush (1000), 0, 0), (16, .if_icmp .le (5), 21, 0), (19, .iconst (-1), 0, 0), (20, .ireturn, 0, 0), (21, .aload_n 0, 0, 0), (22, .aload_n 0, 0, 0), (23, .getfield 22, 6, 8), (26, .iload_n 1, 0, 0), (27, .iaload, 0, 0), (28, .iload_n 2, 0, 0), (29, .invokevirtual 74, 33, 0), (32, .istore_n 3, 0, 0), (33, .aload_n 0, 0, 0), (34, .getfield 16, 6, 5), (37, .aload_n 0, 0, 0), (38, .iload_n 3, 0, 0), (39, .invokevirtual 64, 29, 0), (42, .iaload, 0, 0), (43, .ireturn, 0, 0)]
def fMo_power : sx_F := sx_tab lMo_power
theorem kMo_power : sx_chk "ClassCharactersModel" (wy yMo_power prog_9_method_38_code 4 (some .int)) 4 prog_9_method_38_code lMo_power = true := by decide +kernel
theorem gMo_power_0 : fMo_power 0 = some (.aload_n 0, 0, 0) := rfl
theorem gMo_power_1 : fMo_power 1 = some (.iload_n 1, 0, 0) := rfl
theorem gMo_power_2 : fMo_power 2 = some (.invokevirtual 154, 52, 0) := rfl
theorem gMo_power_5 : fMo_power 5 = some (.ifCond .eq (14), 19, 0) := rfl
theorem gMo_power_8 : fMo_power 8 = some (.iload_n 2, 0, 0) := rfl
theorem gMo_power_9 : fMo_power 9 = some (.ifCond .lt (10), 19, 0) := rfl
theorem gMo_power_12 : fMo_power 12 = some (.iload_n 2, 0, 0) := rfl
theorem gMo_power_13 : fMo_power 13 = some (.sipush (1000), 0, 0) := rfl
theorem gMo_power_16 : fMo_power 16 = some (.if_icmp .le (5), 21, 0) := rfl
theorem gMo_power_19 : fMo_power 19 = some (.iconst (-1), 0, 0) := rfl
theorem gMo_power_20 : fMo_power 20 = some (.ireturn, 0, 0) := rfl
theorem gMo_power_21 : fMo_power 21 = some (.aload_n 0, 0, 0) := rfl
theorem gMo_power_22 : fMo_power 22 = some (.aload_n 0, 0, 0) := rfl
theorem gMo_power_23 : fMo_power 23 = some (.getfield 22, 6, 8) := rfl
theorem gMo_power_26 : fMo_power 26 = some (.iload_n 1, 0, 0) := rfl
theorem gMo_power_27 : fMo_power 27 = some (.iaload, 0, 0) := rfl
theorem gMo_power_28 : fMo_power 28 = some (.iload_n 2, 0, 0) := rfl
theorem gMo_power_29 : fMo_power 29 = some (.invokevirtual 74, 33, 0) := rfl
theorem gMo_power_32 : fMo_power 32 = some (.istore_n 3, 0, 0) := rfl
theorem gMo_power_33 : fMo_power 33 = some (.aload_n 0, 0, 0) := rfl
theorem gMo_power_34 : fMo_power 34 = some (.getfield 16, 6, 5) := rfl
theorem gMo_power_37 : fMo_power 37 = some (.aload_n 0, 0, 0) := rfl
theorem gMo_power_38 : fMo_power 38 = some (.iload_n 3, 0, 0) := rfl
theorem gMo_power_39 : fMo_power 39 = some (.invokevirtual 64, 29, 0) := rfl
theorem gMo_power_42 : fMo_power 42 = some (.iaload, 0, 0) := rfl
theorem gMo_power_43 : fMo_power 43 = some (.ireturn, 0, 0) := rfl
abbrev lMo_constant : List (Nat × Instr × Nat × Nat) := [(0, .aload_n 0, 0, 0), (1, .iload_n 1, 0, 0), (2, .invokevirtual 154, 52, 0), (5, .ifCond .eq (39), 44, 0), (8, .aload_n 0, 0, 0), (9, .iload_n 2, 0, 0), (10, .invokevirtual 154, 52, 0), (13, .ifCond .eq (31), 44, 0), (16, .aload_n 0, 0, 0), (17, .iload_n 3, 0, 0), (18, .invokevirtual 154, 52, 0), (21, .ifCond .eq (23), 44, 0), (24, .aload_n 0, 0, 0), (25, .getfield 25, 6, 9), (28, .sipush (256), 0, 0), (31, .iload_n 1, 0, 0), (32, .imul, 0, 0), (33, .bipush (16), 0, 0), (35, .iload_n 2, 0, 0), (36, .imul, 0, 0), (37, .iadd, 0, 0), (38, .iload_n 3, 0, 0), (39, .iadd, 0, 0), (40, .iaload, 0, 0), (41, .goto (4), 45, 0), (44, .iconst (-1), 0, 0), (45, .ireturn, 0, 0)]
def fMo_constant : sx_F := sx_tab lMo_constant
theorem kMo_constant : sx_chk "ClassCharactersModel" (wy yMo_constant prog_9_method_39_code 4 (some .int)) 4 prog_9_method_39_code lMo_constant = true := by decide +kernel
theorem gMo_constant_0 : fMo_constant 0 = some (.aload_n 0, 0, 0) := rfl
theorem gMo_constant_1 : fMo_constant 1 = some (.iload_n 1, 0, 0) := rfl
theorem gMo_constant_2 : fMo_constant 2 = some (.invokevirtual 154, 52, 0) := rfl
theorem gMo_constant_5 : fMo_constant 5 = some (.ifCond .eq (39), 44, 0) := rfl
theorem gMo_constant_8 : fMo_constant 8 = some (.aload_n 0, 0, 0) := rfl
theorem gMo_constant_9 : fMo_constant 9 = some (.iload_n 2, 0, 0) := rfl
theorem gMo_constant_10 : fMo_constant 10 = some (.invokevirtual 154, 52, 0) := rfl
theorem gMo_constant_13 : fMo_constant 13 = some (.ifCond .eq (31), 44, 0) := rfl
theorem gMo_constant_16 : fMo_constant 16 = some (.aload_n 0, 0, 0) := rfl
theorem gMo_constant_17 : fMo_constant 17 = some (.iload_n 3, 0, 0) := rfl
theorem gMo_constant_18 : fMo_constant 18 = some (.invokevirtual 154, 52, 0) := rfl
theorem gMo_constant_21 : fMo_constant 21 = some (.ifCond .eq (23), 44, 0) := rfl
theorem gMo_constant_24 : fMo_constant 24 = some (.aload_n 0, 0, 0) := rfl
theorem gMo_constant_25 : fMo_constant 25 = some (.getfield 25, 6, 9) := rfl
theorem gMo_constant_28 : fMo_constant 28 = some (.sipush (256), 0, 0) := rfl
theorem gMo_constant_31 : fMo_constant 31 = some (.iload_n 1, 0, 0) := rfl
theorem gMo_constant_32 : fMo_constant 32 = some (.imul, 0, 0) := rfl
theorem gMo_constant_33 : fMo_constant 33 = some (.bipush (16), 0, 0) := rfl
theorem gMo_constant_35 : fMo_constant 35 = some (.iload_n 2, 0, 0) := rfl
theorem gMo_constant_36 : fMo_constant 36 = some (.imul, 0, 0) := rfl
theorem gMo_constant_37 : fMo_constant 37 = some (.iadd, 0, 0) := rfl
theorem gMo_constant_38 : fMo_constant 38 = some (.iload_n 3, 0, 0) := rfl
theorem gMo_constant_39 : fMo_constant 39 = some (.iadd, 0, 0) := rfl
theorem gMo_constant_40 : fMo_constant 40 = some (.iaload, 0, 0) := rfl
theorem gMo_constant_41 : fMo_constant 41 = some (.goto (4), 45, 0) := rfl
theorem gMo_constant_44 : fMo_constant 44 = some (.iconst (-1), 0, 0) := rfl
theorem gMo_constant_45 : fMo_constant 45 = some (.ireturn, 0, 0) := rfl
abbrev lMo_exponent : List (Nat × Instr × Nat × Nat) := [(0, .aload_n 0, 0, 0), (1, .getfield 53, 6, 2), (4, .ifCond .eq (10), 14, 0), (7, .aload_n 0, 0, 0), (8, .getfield 77, 6, 10), (11, .goto (4), 15, 0), (14, .iconst 0, 0, 0), (15, .ireturn, 0, 0)]
def fMo_exponent : sx_F := sx_tab lMo_exponent
theorem kMo_exponent : sx_chk "ClassCharactersModel" (wy yMo_exponent prog_9_method_40_code 1 (some .int)) 1 prog_9_method_40_code lMo_exponent = true := by decide +kernel
theorem gMo_exponent_0 : fMo_exponent 0 = some (.aload_n 0, 0, 0) := rfl
theorem gMo_exponent_1 : fMo_exponent 1 = some (.getfield 53, 6, 2) := rfl
theorem gMo_exponent_4 : fMo_exponent 4 = some (.ifCond .eq (10), 14, 0) := rfl
theorem gMo_exponent_7 : fMo_exponent 7 = some (.aload_n 0, 0, 0) := rfl
theorem gMo_exponent_8 : fMo_exponent 8 = some (.getfield 77, 6, 10) := rfl
theorem gMo_exponent_11 : fMo_exponent 11 = some (.goto (4), 15, 0) := rfl
theorem gMo_exponent_14 : fMo_exponent 14 = some (.iconst 0, 0, 0) := rfl
theorem gMo_exponent_15 : fMo_exponent 15 = some (.ireturn, 0, 0) := rfl
abbrev lMo_prime : List (Nat × Instr × Nat × Nat) := [(0, .aload_n 0, 0, 0), (1, .getfield 53, 6, 2), (4, .ifCond .eq (10), 14, 0), (7, .aload_n 0, 0, 0), (8, .getfield 83, 6, 11), (11, .goto (4), 15, 0), (14, .iconst 0, 0, 0), (15, .ireturn, 0, 0)]
def fMo_prime : sx_F := sx_tab lMo_prime
theorem kMo_prime : sx_chk "ClassCharactersModel" (wy yMo_prime prog_9_method_41_code 1 (some .int)) 1 prog_9_method_41_code lMo_prime = true := by decide +kernel
theorem gMo_prime_0 : fMo_prime 0 = some (.aload_n 0, 0, 0) := rfl
theorem gMo_prime_1 : fMo_prime 1 = some (.getfield 53, 6, 2) := rfl
theorem gMo_prime_4 : fMo_prime 4 = some (.ifCond .eq (10), 14, 0) := rfl
theorem gMo_prime_7 : fMo_prime 7 = some (.aload_n 0, 0, 0) := rfl
theorem gMo_prime_8 : fMo_prime 8 = some (.getfield 83, 6, 11) := rfl
theorem gMo_prime_11 : fMo_prime 11 = some (.goto (4), 15, 0) := rfl
theorem gMo_prime_14 : fMo_prime 14 = some (.iconst 0, 0, 0) := rfl
theorem gMo_prime_15 : fMo_prime 15 = some (.ireturn, 0, 0) := rfl
abbrev lMo_root : List (Nat × Instr × Nat × Nat) := [(0, .aload_n 0, 0, 0), (1, .getfield 53, 6, 2), (4, .ifCond .eq (10), 14, 0), (7, .aload_n 0, 0, 0), (8, .getfield 89, 6, 12), (11, .goto (4), 15, 0), (14, .iconst 0, 0, 0), (15, .ireturn, 0, 0)]
def fMo_root : sx_F := sx_tab lMo_root
theorem kMo_root : sx_chk "ClassCharactersModel" (wy yMo_root prog_9_method_42_code 1 (some .int)) 1 prog_9_method_42_code lMo_root = true := by decide +kernel
theorem gMo_root_0 : fMo_root 0 = some (.aload_n 0, 0, 0) := rfl
theorem gMo_root_1 : fMo_root 1 = some (.getfield 53, 6, 2) := rfl
theorem gMo_root_4 : fMo_root 4 = some (.ifCond .eq (10), 14, 0) := rfl
theorem gMo_root_7 : fMo_root 7 = some (.aload_n 0, 0, 0) := rfl
theorem gMo_root_8 : fMo_root 8 = some (.getfield 89, 6, 12) := rfl
theorem gMo_root_11 : fMo_root 11 = some (.goto (4), 15, 0) := rfl
theorem gMo_root_14 : fMo_root 14 = some (.iconst 0, 0, 0) := rfl
theorem gMo_root_15 : fMo_root 15 = some (.ireturn, 0, 0) := rfl
abbrev lMo_degree : List (Nat × Instr × Nat × Nat) := [(0, .aload_n 0, 0, 0), (1, .iload_n 1, 0, 0), (2, .invokevirtual 154, 52, 0), (5, .ifCond .eq (12), 17, 0), (8, .aload_n 0, 0, 0), (9, .getfield 31, 6, 15), (12, .iload_n 1, 0, 0), (13, .iaload, 0, 0), (14, .goto (4), 18, 0), (17, .iconst 0, 0, 0), (18, .ireturn, 0, 0)]
def fMo_degree : sx_F := sx_tab lMo_degree
theorem kMo_degree : sx_chk "ClassCharactersModel" (wy yMo_degree prog_9_method_43_code 2 (some .int)) 2 prog_9_method_43_code lMo_degree = true := by decide +kernel
theorem gMo_degree_0 : fMo_degree 0 = some (.aload_n 0, 0, 0) := rfl
theorem gMo_degree_1 : fMo_degree 1 = some (.iload_n 1, 0, 0) := rfl
theorem gMo_degree_2 : fMo_degree 2 = some (.invokevirtual 154, 52, 0) := rfl
theorem gMo_degree_5 : fMo_degree 5 = some (.ifCond .eq (12), 17, 0) := rfl
theorem gMo_degree_8 : fMo_degree 8 = some (.aload_n 0, 0, 0) := rfl
theorem gMo_degree_9 : fMo_degree 9 = some (.getfield 31, 6, 15) := rfl
theorem gMo_degree_12 : fMo_degree 12 = some (.iload_n 1, 0, 0) := rfl
theorem gMo_degree_13 : fMo_degree 13 = some (.iaload, 0, 0) := rfl
theorem gMo_degree_14 : fMo_degree 14 = some (.goto (4), 18, 0) := rfl
theorem gMo_degree_17 : fMo_degree 17 = some (.iconst 0, 0, 0) := rfl
theorem gMo_degree_18 : fMo_degree 18 = some (.ireturn, 0, 0) := rfl
abbrev lMo_value : List (Nat × Instr × Nat × Nat) := [(0, .aload_n 0, 0, 0), (1, .iload_n 1, 0, 0), (2, .invokevirtual 154, 52, 0), (5, .ifCond .eq (25), 30, 0), (8, .aload_n 0, 0, 0), (9, .iload_n 2, 0, 0), (10, .invokevirtual 154, 52, 0), (13, .ifCond .eq (17), 30, 0), (16, .aload_n 0, 0, 0), (17, .getfield 34, 6, 16), (20, .bipush (16), 0, 0), (22, .iload_n 1, 0, 0), (23, .imul, 0, 0), (24, .iload_n 2, 0, 0), (25, .iadd, 0, 0), (26, .iaload, 0, 0), (27, .goto (4), 31, 0), (30, .iconst (-1), 0, 0), (31, .ireturn, 0, 0)]
def fMo_value : sx_F := sx_tab lMo_value
theorem kMo_value : sx_chk "ClassCharactersModel" (wy yMo_value prog_9_method_44_code 3 (some .int)) 3 prog_9_method_44_code lMo_value = true := by decide +kernel
theorem gMo_value_0 : fMo_value 0 = some (.aload_n 0, 0, 0) := rfl
theorem gMo_value_1 : fMo_value 1 = some (.iload_n 1, 0, 0) := rfl
theorem gMo_value_2 : fMo_value 2 = some (.invokevirtual 154, 52, 0) := rfl
theorem gMo_value_5 : fMo_value 5 = some (.ifCond .eq (25), 30, 0) := rfl
theorem gMo_value_8 : fMo_value 8 = some (.aload_n 0, 0, 0) := rfl
theorem gMo_value_9 : fMo_value 9 = some (.iload_n 2, 0, 0) := rfl
theorem gMo_value_10 : fMo_value 10 = some (.invokevirtual 154, 52, 0) := rfl
theorem gMo_value_13 : fMo_value 13 = some (.ifCond .eq (17), 30, 0) := rfl
theorem gMo_value_16 : fMo_value 16 = some (.aload_n 0, 0, 0) := rfl
theorem gMo_value_17 : fMo_value 17 = some (.getfield 34, 6, 16) := rfl
theorem gMo_value_20 : fMo_value 20 = some (.bipush (16), 0, 0) := rfl
theorem gMo_value_22 : fMo_value 22 = some (.iload_n 1, 0, 0) := rfl
theorem gMo_value_23 : fMo_value 23 = some (.imul, 0, 0) := rfl
theorem gMo_value_24 : fMo_value 24 = some (.iload_n 2, 0, 0) := rfl
theorem gMo_value_25 : fMo_value 25 = some (.iadd, 0, 0) := rfl
theorem gMo_value_26 : fMo_value 26 = some (.iaload, 0, 0) := rfl
theorem gMo_value_27 : fMo_value 27 = some (.goto (4), 31, 0) := rfl
theorem gMo_value_30 : fMo_value 30 = some (.iconst (-1), 0, 0) := rfl
theorem gMo_value_31 : fMo_value 31 = some (.ireturn, 0, 0) := rfl
abbrev lMo_multiplicity : List (Nat × Instr × Nat × Nat) := [(0, .aload_n 0, 0, 0), (1, .iload_n 1, 0, 0), (2, .invokevirtual 154, 52, 0), (5, .ifCond .eq (23), 28, 0), (8, .aload_n 0, 0, 0), (9, .iload_n 2, 0, 0), (10, .invokevirtual 154, 52, 0), (13, .ifCond .eq (15), 28, 0), (16, .iload_n 3, 0, 0), (17, .ifCond .lt (11), 28, 0), (20, .iload_n 3, 0, 0), (21, .aload_n 0, 0, 0), (22, .getfield 77, 6, 10), (25, .if_icmp .lt (5), 30, 0), (28, .iconst (-1), 0, 0), (29, .ireturn, 0, 0), (30, .aload_n 0, 0, 0), (31, .iconst 1, 0, 0), (32, .aload_n 0, 0, 0), (33, .aload_n 0, 0, 0), (34, .getfield 89, 6, 12), (37, .iload_n 3, 0, 0), (38, .invokevirtual 98, 39, 0), (41, .invokevirtual 109, 40, 0), (44, .istore 4, 0, 0), (46, .iconst 0, 0, 0), (47, .istore 5, 0, 0), (49, .iconst 1, 0, 0), (50, .istore 6, 0, 0), (52, .ldc 60, 342391, 0), (54, .istore 7, 0, 0), (56, .iconst 0, 0, 0), (57, .istore 8, 0, 0), (59, .iload 8, 0, 0), (61, .aload_n 0, 0, 0), (62, .getfield 77, 6, 10), (65, .if_icmp .ge (68), 133, 0), (68, .iload 5, 0, 0), (70, .aload_n 0, 0, 0), (71, .getfield 34, 6, 16), (74, .bipush (16), 0, 0), (76, .iload_n 1, 0, 0), (77, .imul, 0, 0), (78, .aload_n 0, 0, 0), (79, .getfield 16, 6, 5), (82, .aload_n 0, 0, 0), (83, .iload 7, 0, 0), (85, .invokevirtual 64, 29, 0), (88, .iaload, 0, 0), (89, .iadd, 0, 0), (90, .iaload, 0, 0), (91, .iload 6, 0, 0), (93, .imul, 0, 0), (94, .iadd, 0, 0), (95, .aload_n 0, 0, 0), (96, .getfield 83, 6, 11), (99, .irem, 0, 0), (100, .istore 5, 0, 0), (102, .iload 6, 0, 0), (104, .iload 4, 0, 0), (106, .imul, 0, 0), (107, .aload_n 0, 0, 0), (108, .getfield 83, 6, 11), (111, .irem, 0, 0), (112, .istore 6, 0, 0), (114, .iload 7, 0, 0), (116, .aload_n 0, 0, 0), (117, .getfield 22, 6, 8), (120, .iload_n 2, 0, 0), (121, .iaload, 0, 0), (122, .invokestatic 61, 24, 0), (125, .istore 7, 0, 0), (127, .iinc 8 (1), 0, 0), (130, .goto (-71), 59, 0), (133, .aload_n 0, 0, 0), (134, .iload 5, 0, 0), (136, .aload_n 0, 0, 0), (137, .getfield 77, 6, 10), (140, .invokevirtual 109, 40, 0), (143, .ireturn, 0, 0)]
def fMo_multiplicity : sx_F := sx_tab lMo_multiplicity
theorem kMo_multiplicity : sx_chk "ClassCharactersModel" (wy yMo_multiplicity prog_9_method_45_code 9 (some .int)) 9 prog_9_method_45_code lMo_multiplicity = true := by decide +kernel
theorem gMo_multiplicity_0 : fMo_multiplicity 0 = some (.aload_n 0, 0, 0) := rfl
theorem gMo_multiplicity_1 : fMo_multiplicity 1 = some (.iload_n 1, 0, 0) := rfl
theorem gMo_multiplicity_2 : fMo_multiplicity 2 = some (.invokevirtual 154, 52, 0) := rfl
theorem gMo_multiplicity_5 : fMo_multiplicity 5 = some (.ifCond .eq (23), 28, 0) := rfl
theorem gMo_multiplicity_8 : fMo_multiplicity 8 = some (.aload_n 0, 0, 0) := rfl
theorem gMo_multiplicity_9 : fMo_multiplicity 9 = some (.iload_n 2, 0, 0) := rfl
theorem gMo_multiplicity_10 : fMo_multiplicity 10 = some (.invokevirtual 154, 52, 0) := rfl
theorem gMo_multiplicity_13 : fMo_multiplicity 13 = some (.ifCond .eq (15), 28, 0) := rfl
theorem gMo_multiplicity_16 : fMo_multiplicity 16 = some (.iload_n 3, 0, 0) := rfl
theorem gMo_multiplicity_17 : fMo_multiplicity 17 = some (.ifCond .lt (11), 28, 0) := rfl
theorem gMo_multiplicity_20 : fMo_multiplicity 20 = some (.iload_n 3, 0, 0) := rfl
theorem gMo_multiplicity_21 : fMo_multiplicity 21 = some (.aload_n 0, 0, 0) := rfl
theorem gMo_multiplicity_22 : fMo_multiplicity 22 = some (.getfield 77, 6, 10) := rfl
theorem gMo_multiplicity_25 : fMo_multiplicity 25 = some (.if_icmp .lt (5), 30, 0) := rfl
theorem gMo_multiplicity_28 : fMo_multiplicity 28 = some (.iconst (-1), 0, 0) := rfl
theorem gMo_multiplicity_29 : fMo_multiplicity 29 = some (.ireturn, 0, 0) := rfl
theorem gMo_multiplicity_30 : fMo_multiplicity 30 = some (.aload_n 0, 0, 0) := rfl
theorem gMo_multiplicity_31 : fMo_multiplicity 31 = some (.iconst 1, 0, 0) := rfl
theorem gMo_multiplicity_32 : fMo_multiplicity 32 = some (.aload_n 0, 0, 0) := rfl
theorem gMo_multiplicity_33 : fMo_multiplicity 33 = some (.aload_n 0, 0, 0) := rfl
theorem gMo_multiplicity_34 : fMo_multiplicity 34 = some (.getfield 89, 6, 12) := rfl
theorem gMo_multiplicity_37 : fMo_multiplicity 37 = some (.iload_n 3, 0, 0) := rfl
theorem gMo_multiplicity_38 : fMo_multiplicity 38 = some (.invokevirtual 98, 39, 0) := rfl
theorem gMo_multiplicity_41 : fMo_multiplicity 41 = some (.invokevirtual 109, 40, 0) := rfl
theorem gMo_multiplicity_44 : fMo_multiplicity 44 = some (.istore 4, 0, 0) := rfl
theorem gMo_multiplicity_46 : fMo_multiplicity 46 = some (.iconst 0, 0, 0) := rfl
theorem gMo_multiplicity_47 : fMo_multiplicity 47 = some (.istore 5, 0, 0) := rfl
theorem gMo_multiplicity_49 : fMo_multiplicity 49 = some (.iconst 1, 0, 0) := rfl
theorem gMo_multiplicity_50 : fMo_multiplicity 50 = some (.istore 6, 0, 0) := rfl
theorem gMo_multiplicity_52 : fMo_multiplicity 52 = some (.ldc 60, 342391, 0) := rfl
theorem gMo_multiplicity_54 : fMo_multiplicity 54 = some (.istore 7, 0, 0) := rfl
theorem gMo_multiplicity_56 : fMo_multiplicity 56 = some (.iconst 0, 0, 0) := rfl
theorem gMo_multiplicity_57 : fMo_multiplicity 57 = some (.istore 8, 0, 0) := rfl
theorem gMo_multiplicity_59 : fMo_multiplicity 59 = some (.iload 8, 0, 0) := rfl
theorem gMo_multiplicity_61 : fMo_multiplicity 61 = some (.aload_n 0, 0, 0) := rfl
theorem gMo_multiplicity_62 : fMo_multiplicity 62 = some (.getfield 77, 6, 10) := rfl
theorem gMo_multiplicity_65 : fMo_multiplicity 65 = some (.if_icmp .ge (68), 133, 0) := rfl
theorem gMo_multiplicity_68 : fMo_multiplicity 68 = some (.iload 5, 0, 0) := rfl
theorem gMo_multiplicity_70 : fMo_multiplicity 70 = some (.aload_n 0, 0, 0) := rfl
theorem gMo_multiplicity_71 : fMo_multiplicity 71 = some (.getfield 34, 6, 16) := rfl
theorem gMo_multiplicity_74 : fMo_multiplicity 74 = some (.bipush (16), 0, 0) := rfl
theorem gMo_multiplicity_76 : fMo_multiplicity 76 = some (.iload_n 1, 0, 0) := rfl
theorem gMo_multiplicity_77 : fMo_multiplicity 77 = some (.imul, 0, 0) := rfl
theorem gMo_multiplicity_78 : fMo_multiplicity 78 = some (.aload_n 0, 0, 0) := rfl
theorem gMo_multiplicity_79 : fMo_multiplicity 79 = some (.getfield 16, 6, 5) := rfl
theorem gMo_multiplicity_82 : fMo_multiplicity 82 = some (.aload_n 0, 0, 0) := rfl
theorem gMo_multiplicity_83 : fMo_multiplicity 83 = some (.iload 7, 0, 0) := rfl
theorem gMo_multiplicity_85 : fMo_multiplicity 85 = some (.invokevirtual 64, 29, 0) := rfl
theorem gMo_multiplicity_88 : fMo_multiplicity 88 = some (.iaload, 0, 0) := rfl
theorem gMo_multiplicity_89 : fMo_multiplicity 89 = some (.iadd, 0, 0) := rfl
theorem gMo_multiplicity_90 : fMo_multiplicity 90 = some (.iaload, 0, 0) := rfl
theorem gMo_multiplicity_91 : fMo_multiplicity 91 = some (.iload 6, 0, 0) := rfl
theorem gMo_multiplicity_93 : fMo_multiplicity 93 = some (.imul, 0, 0) := rfl
theorem gMo_multiplicity_94 : fMo_multiplicity 94 = some (.iadd, 0, 0) := rfl
theorem gMo_multiplicity_95 : fMo_multiplicity 95 = some (.aload_n 0, 0, 0) := rfl
theorem gMo_multiplicity_96 : fMo_multiplicity 96 = some (.getfield 83, 6, 11) := rfl
theorem gMo_multiplicity_99 : fMo_multiplicity 99 = some (.irem, 0, 0) := rfl
theorem gMo_multiplicity_100 : fMo_multiplicity 100 = some (.istore 5, 0, 0) := rfl
theorem gMo_multiplicity_102 : fMo_multiplicity 102 = some (.iload 6, 0, 0) := rfl
theorem gMo_multiplicity_104 : fMo_multiplicity 104 = some (.iload 4, 0, 0) := rfl
theorem gMo_multiplicity_106 : fMo_multiplicity 106 = some (.imul, 0, 0) := rfl
theorem gMo_multiplicity_107 : fMo_multiplicity 107 = some (.aload_n 0, 0, 0) := rfl
theorem gMo_multiplicity_108 : fMo_multiplicity 108 = some (.getfield 83, 6, 11) := rfl
theorem gMo_multiplicity_111 : fMo_multiplicity 111 = some (.irem, 0, 0) := rfl
theorem gMo_multiplicity_112 : fMo_multiplicity 112 = some (.istore 6, 0, 0) := rfl
theorem gMo_multiplicity_114 : fMo_multiplicity 114 = some (.iload 7, 0, 0) := rfl
theorem gMo_multiplicity_116 : fMo_multiplicity 116 = some (.aload_n 0, 0, 0) := rfl
theorem gMo_multiplicity_117 : fMo_multiplicity 117 = some (.getfield 22, 6, 8) := rfl
theorem gMo_multiplicity_120 : fMo_multiplicity 120 = some (.iload_n 2, 0, 0) := rfl
theorem gMo_multiplicity_121 : fMo_multiplicity 121 = some (.iaload, 0, 0) := rfl
theorem gMo_multiplicity_122 : fMo_multiplicity 122 = some (.invokestatic 61, 24, 0) := rfl
theorem gMo_multiplicity_125 : fMo_multiplicity 125 = some (.istore 7, 0, 0) := rfl
theorem gMo_multiplicity_127 : fMo_multiplicity 127 = some (.iinc 8 (1), 0, 0) := rfl
theorem gMo_multiplicity_130 : fMo_multiplicity 130 = some (.goto (-71), 59, 0) := rfl
theorem gMo_multiplicity_133 : fMo_multiplicity 133 = some (.aload_n 0, 0, 0) := rfl
theorem gMo_multiplicity_134 : fMo_multiplicity 134 = some (.iload 5, 0, 0) := rfl
theorem gMo_multiplicity_136 : fMo_multiplicity 136 = some (.aload_n 0, 0, 0) := rfl
theorem gMo_multiplicity_137 : fMo_multiplicity 137 = some (.getfield 77, 6, 10) := rfl
theorem gMo_multiplicity_140 : fMo_multiplicity 140 = some (.invokevirtual 109, 40, 0) := rfl
theorem gMo_multiplicity_143 : fMo_multiplicity 143 = some (.ireturn, 0, 0) := rfl
abbrev lMo_indicator : List (Nat × Instr × Nat × Nat) := [(0, .aload_n 0, 0, 0), (1, .iload_n 1, 0, 0), (2, .invokevirtual 154, 52, 0), (5, .ifCond .ne (5), 10, 0), (8, .iconst 0, 0, 0), (9, .ireturn, 0, 0), (10, .iconst 0, 0, 0), (11, .istore_n 2, 0, 0), (12, .iconst 0, 0, 0), (13, .istore_n 3, 0, 0), (14, .iload_n 3, 0, 0), (15, .aload_n 0, 0, 0), (16, .getfield 68, 6, 6), (19, .if_icmp .ge (40), 59, 0), (22, .iload_n 2, 0, 0), (23, .aload_n 0, 0, 0), (24, .getfield 19, 6, 7), (27, .iload_n 3, 0, 0), (28, .iaload, 0, 0), (29, .aload_n 0, 0, 0), (30, .getfield 34, 6, 16), (33, .bipush (16), 0, 0), (35, .iload_n 1, 0, 0), (36, .imul, 0, 0), (37, .aload_n 0, 0, 0), (38, .iload_n 3, 0, 0), (39, .iconst 2, 0, 0), (40, .invokevirtual 157, 59, 0), (43, .iadd, 0, 0), (44, .iaload, 0, 0), (45, .imul, 0, 0), (46, .iadd, 0, 0), (47, .aload_n 0, 0, 0), (48, .getfield 83, 6, 11), (51, .irem, 0, 0), (52, .istore_n 2, 0, 0), (53, .iinc 3 (1), 0, 0), (56, .goto (-42), 14, 0), (59, .aload_n 0, 0, 0), (60, .iload_n 2, 0, 0), (61, .aload_n 0, 0, 0), (62, .getfield 57, 6, 3), (65, .invokevirtual 109, 40, 0), (68, .istore_n 3, 0, 0), (69, .iload_n 3, 0, 0), (70, .aload_n 0, 0, 0), (71, .getfield 83, 6, 11), (74, .iconst 1, 0, 0), (75, .isub, 0, 0), (76, .if_icmp .ne (7), 83, 0), (79, .iconst (-1), 0, 0), (80, .goto (4), 84, 0), (83, .iload_n 3, 0, 0), (84, .ireturn, 0, 0)]
def fMo_indicator : sx_F := sx_tab lMo_indicator
theorem kMo_indicator : sx_chk "ClassCharactersModel" (wy yMo_indicator prog_9_method_46_code 4 (some .int)) 4 prog_9_method_46_code lMo_indicator = true := by decide +kernel
theorem gMo_indicator_0 : fMo_indicator 0 = some (.aload_n 0, 0, 0) := rfl
theorem gMo_indicator_1 : fMo_indicator 1 = some (.iload_n 1, 0, 0) := rfl
theorem gMo_indicator_2 : fMo_indicator 2 = some (.invokevirtual 154, 52, 0) := rfl
theorem gMo_indicator_5 : fMo_indicator 5 = some (.ifCond .ne (5), 10, 0) := rfl
theorem gMo_indicator_8 : fMo_indicator 8 = some (.iconst 0, 0, 0) := rfl
theorem gMo_indicator_9 : fMo_indicator 9 = some (.ireturn, 0, 0) := rfl
theorem gMo_indicator_10 : fMo_indicator 10 = some (.iconst 0, 0, 0) := rfl
theorem gMo_indicator_11 : fMo_indicator 11 = some (.istore_n 2, 0, 0) := rfl
theorem gMo_indicator_12 : fMo_indicator 12 = some (.iconst 0, 0, 0) := rfl
theorem gMo_indicator_13 : fMo_indicator 13 = some (.istore_n 3, 0, 0) := rfl
theorem gMo_indicator_14 : fMo_indicator 14 = some (.iload_n 3, 0, 0) := rfl
theorem gMo_indicator_15 : fMo_indicator 15 = some (.aload_n 0, 0, 0) := rfl
theorem gMo_indicator_16 : fMo_indicator 16 = some (.getfield 68, 6, 6) := rfl
theorem gMo_indicator_19 : fMo_indicator 19 = some (.if_icmp .ge (40), 59, 0) := rfl
theorem gMo_indicator_22 : fMo_indicator 22 = some (.iload_n 2, 0, 0) := rfl
theorem gMo_indicator_23 : fMo_indicator 23 = some (.aload_n 0, 0, 0) := rfl
theorem gMo_indicator_24 : fMo_indicator 24 = some (.getfield 19, 6, 7) := rfl
theorem gMo_indicator_27 : fMo_indicator 27 = some (.iload_n 3, 0, 0) := rfl
theorem gMo_indicator_28 : fMo_indicator 28 = some (.iaload, 0, 0) := rfl
theorem gMo_indicator_29 : fMo_indicator 29 = some (.aload_n 0, 0, 0) := rfl
theorem gMo_indicator_30 : fMo_indicator 30 = some (.getfield 34, 6, 16) := rfl
theorem gMo_indicator_33 : fMo_indicator 33 = some (.bipush (16), 0, 0) := rfl
theorem gMo_indicator_35 : fMo_indicator 35 = some (.iload_n 1, 0, 0) := rfl
theorem gMo_indicator_36 : fMo_indicator 36 = some (.imul, 0, 0) := rfl
theorem gMo_indicator_37 : fMo_indicator 37 = some (.aload_n 0, 0, 0) := rfl
theorem gMo_indicator_38 : fMo_indicator 38 = some (.iload_n 3, 0, 0) := rfl
theorem gMo_indicator_39 : fMo_indicator 39 = some (.iconst 2, 0, 0) := rfl
theorem gMo_indicator_40 : fMo_indicator 40 = some (.invokevirtual 157, 59, 0) := rfl
theorem gMo_indicator_43 : fMo_indicator 43 = some (.iadd, 0, 0) := rfl
theorem gMo_indicator_44 : fMo_indicator 44 = some (.iaload, 0, 0) := rfl
theorem gMo_indicator_45 : fMo_indicator 45 = some (.imul, 0, 0) := rfl
theorem gMo_indicator_46 : fMo_indicator 46 = some (.iadd, 0, 0) := rfl
theorem gMo_indicator_47 : fMo_indicator 47 = some (.aload_n 0, 0, 0) := rfl
theorem gMo_indicator_48 : fMo_indicator 48 = some (.getfield 83, 6, 11) := rfl
theorem gMo_indicator_51 : fMo_indicator 51 = some (.irem, 0, 0) := rfl
theorem gMo_indicator_52 : fMo_indicator 52 = some (.istore_n 2, 0, 0) := rfl
theorem gMo_indicator_53 : fMo_indicator 53 = some (.iinc 3 (1), 0, 0) := rfl
theorem gMo_indicator_56 : fMo_indicator 56 = some (.goto (-42), 14, 0) := rfl
theorem gMo_indicator_59 : fMo_indicator 59 = some (.aload_n 0, 0, 0) := rfl
theorem gMo_indicator_60 : fMo_indicator 60 = some (.iload_n 2, 0, 0) := rfl
theorem gMo_indicator_61 : fMo_indicator 61 = some (.aload_n 0, 0, 0) := rfl
theorem gMo_indicator_62 : fMo_indicator 62 = some (.getfield 57, 6, 3) := rfl
theorem gMo_indicator_65 : fMo_indicator 65 = some (.invokevirtual 109, 40, 0) := rfl
theorem gMo_indicator_68 : fMo_indicator 68 = some (.istore_n 3, 0, 0) := rfl
theorem gMo_indicator_69 : fMo_indicator 69 = some (.iload_n 3, 0, 0) := rfl
theorem gMo_indicator_70 : fMo_indicator 70 = some (.aload_n 0, 0, 0) := rfl
theorem gMo_indicator_71 : fMo_indicator 71 = some (.getfield 83, 6, 11) := rfl
theorem gMo_indicator_74 : fMo_indicator 74 = some (.iconst 1, 0, 0) := rfl
theorem gMo_indicator_75 : fMo_indicator 75 = some (.isub, 0, 0) := rfl
theorem gMo_indicator_76 : fMo_indicator 76 = some (.if_icmp .ne (7), 83, 0) := rfl
theorem gMo_indicator_79 : fMo_indicator 79 = some (.iconst (-1), 0, 0) := rfl
theorem gMo_indicator_80 : fMo_indicator 80 = some (.goto (4), 84, 0) := rfl
theorem gMo_indicator_83 : fMo_indicator 83 = some (.iload_n 3, 0, 0) := rfl
theorem gMo_indicator_84 : fMo_indicator 84 = some (.ireturn, 0, 0) := rfl
abbrev lMo_kernel : List (Nat × Instr × Nat × Nat) := [(0, .iconst 0, 0, 0), (1, .istore_n 2, 0, 0), (2, .iconst 0, 0, 0), (3, .istore_n 3, 0, 0), (4, .iload_n 3, 0, 0), (5, .aload_n 0, 0, 0), (6, .getfield 68, 6, 6), (9, .if_icmp .ge (47), 56, 0), (12, .aload_n 0, 0, 0), (13, .iload_n 1, 0, 0), (14, .invokevirtual 154, 52, 0), (17, .ifCond .eq (39), 56, 0), (20, .iload_n 2, 0, 0), (21, .aload_n 0, 0, 0), (22, .getfield 34, 6, 16), (25, .bipush (16), 0, 0), (27, .iload_n 1, 0, 0), (28, .imul, 0, 0), (29, .iload_n 3, 0, 0), (30, .iadd, 0, 0), (31, .iaload, 0, 0), (32, .aload_n 0, 0, 0), (33, .getfield 31, 6, 15), (36, .iload_n 1, 0, 0), (37, .iaload, 0, 0), (38, .if_icmp .ne (9), 47, 0), (41, .iconst 1, 0, 0), (42, .iload_n 3, 0, 0), (43, .ishl, 0, 0), (44, .goto (4), 48, 0), (47, .iconst 0, 0, 0), (48, .iadd, 0, 0), (49, .istore_n 2, 0, 0), (50, .iinc 3 (1), 0, 0), (53, .goto (-49), 4, 0), (56, .iload_n 2, 0, 0), (57, .ireturn, 0, 0)]
def fMo_kernel : sx_F := sx_tab lMo_kernel
theorem kMo_kernel : sx_chk "ClassCharactersModel" (wy yMo_kernel prog_9_method_47_code 4 (some .int)) 4 prog_9_method_47_code lMo_kernel = true := by decide +kernel
theorem gMo_kernel_0 : fMo_kernel 0 = some (.iconst 0, 0, 0) := rfl
theorem gMo_kernel_1 : fMo_kernel 1 = some (.istore_n 2, 0, 0) := rfl
theorem gMo_kernel_2 : fMo_kernel 2 = some (.iconst 0, 0, 0) := rfl
theorem gMo_kernel_3 : fMo_kernel 3 = some (.istore_n 3, 0, 0) := rfl
theorem gMo_kernel_4 : fMo_kernel 4 = some (.iload_n 3, 0, 0) := rfl
theorem gMo_kernel_5 : fMo_kernel 5 = some (.aload_n 0, 0, 0) := rfl
theorem gMo_kernel_6 : fMo_kernel 6 = some (.getfield 68, 6, 6) := rfl
theorem gMo_kernel_9 : fMo_kernel 9 = some (.if_icmp .ge (47), 56, 0) := rfl
theorem gMo_kernel_12 : fMo_kernel 12 = some (.aload_n 0, 0, 0) := rfl
theorem gMo_kernel_13 : fMo_kernel 13 = some (.iload_n 1, 0, 0) := rfl
theorem gMo_kernel_14 : fMo_kernel 14 = some (.invokevirtual 154, 52, 0) := rfl
theorem gMo_kernel_17 : fMo_kernel 17 = some (.ifCond .eq (39), 56, 0) := rfl
theorem gMo_kernel_20 : fMo_kernel 20 = some (.iload_n 2, 0, 0) := rfl
theorem gMo_kernel_21 : fMo_kernel 21 = some (.aload_n 0, 0, 0) := rfl
theorem gMo_kernel_22 : fMo_kernel 22 = some (.getfield 34, 6, 16) := rfl
theorem gMo_kernel_25 : fMo_kernel 25 = some (.bipush (16), 0, 0) := rfl
theorem gMo_kernel_27 : fMo_kernel 27 = some (.iload_n 1, 0, 0) := rfl
theorem gMo_kernel_28 : fMo_kernel 28 = some (.imul, 0, 0) := rfl
theorem gMo_kernel_29 : fMo_kernel 29 = some (.iload_n 3, 0, 0) := rfl
theorem gMo_kernel_30 : fMo_kernel 30 = some (.iadd, 0, 0) := rfl
theorem gMo_kernel_31 : fMo_kernel 31 = some (.iaload, 0, 0) := rfl
theorem gMo_kernel_32 : fMo_kernel 32 = some (.aload_n 0, 0, 0) := rfl
theorem gMo_kernel_33 : fMo_kernel 33 = some (.getfield 31, 6, 15) := rfl
theorem gMo_kernel_36 : fMo_kernel 36 = some (.iload_n 1, 0, 0) := rfl
theorem gMo_kernel_37 : fMo_kernel 37 = some (.iaload, 0, 0) := rfl
theorem gMo_kernel_38 : fMo_kernel 38 = some (.if_icmp .ne (9), 47, 0) := rfl
theorem gMo_kernel_41 : fMo_kernel 41 = some (.iconst 1, 0, 0) := rfl
theorem gMo_kernel_42 : fMo_kernel 42 = some (.iload_n 3, 0, 0) := rfl
theorem gMo_kernel_43 : fMo_kernel 43 = some (.ishl, 0, 0) := rfl
theorem gMo_kernel_44 : fMo_kernel 44 = some (.goto (4), 48, 0) := rfl
theorem gMo_kernel_47 : fMo_kernel 47 = some (.iconst 0, 0, 0) := rfl
theorem gMo_kernel_48 : fMo_kernel 48 = some (.iadd, 0, 0) := rfl
theorem gMo_kernel_49 : fMo_kernel 49 = some (.istore_n 2, 0, 0) := rfl
theorem gMo_kernel_50 : fMo_kernel 50 = some (.iinc 3 (1), 0, 0) := rfl
theorem gMo_kernel_53 : fMo_kernel 53 = some (.goto (-49), 4, 0) := rfl
theorem gMo_kernel_56 : fMo_kernel 56 = some (.iload_n 2, 0, 0) := rfl
theorem gMo_kernel_57 : fMo_kernel 57 = some (.ireturn, 0, 0) := rfl
abbrev lMo_insert : List (Nat × Instr × Nat × Nat) := [(0, .iconst 0, 0, 0), (1, .istore_n 3, 0, 0), (2, .iload_n 3, 0, 0), (3, .iload_n 2, 0, 0), (4, .if_icmp .ge (21), 25, 0), (7, .aload_n 0, 0, 0), (8, .getfield 37, 6, 17), (11, .iload_n 3, 0, 0), (12, .iaload, 0, 0), (13, .iload_n 1, 0, 0), (14, .if_icmp .ne (5), 19, 0), (17, .iload_n 2, 0, 0), (18, .ireturn, 0, 0), (19, .iinc 3 (1), 0, 0), (22, .goto (-20), 2, 0), (25, .aload_n 0, 0, 0), (26, .getfield 37, 6, 17), (29, .iload_n 2, 0, 0), (30, .iload_n 1, 0, 0), (31, .iastore, 0, 0), (32, .iload_n 2, 0, 0), (33, .iconst 1, 0, 0), (34, .iadd, 0, 0), (35, .ireturn, 0, 0)]
def fMo_insert : sx_F := sx_tab lMo_insert
theorem kMo_insert : sx_chk "ClassCharactersModel" (wy yMo_insert prog_9_method_48_code 4 (some .int)) 4 prog_9_method_48_code lMo_insert = true := by decide +kernel
theorem gMo_insert_0 : fMo_insert 0 = some (.iconst 0, 0, 0) := rfl
theorem gMo_insert_1 : fMo_insert 1 = some (.istore_n 3, 0, 0) := rfl
theorem gMo_insert_2 : fMo_insert 2 = some (.iload_n 3, 0, 0) := rfl
theorem gMo_insert_3 : fMo_insert 3 = some (.iload_n 2, 0, 0) := rfl
theorem gMo_insert_4 : fMo_insert 4 = some (.if_icmp .ge (21), 25, 0) := rfl
theorem gMo_insert_7 : fMo_insert 7 = some (.aload_n 0, 0, 0) := rfl
theorem gMo_insert_8 : fMo_insert 8 = some (.getfield 37, 6, 17) := rfl
theorem gMo_insert_11 : fMo_insert 11 = some (.iload_n 3, 0, 0) := rfl
theorem gMo_insert_12 : fMo_insert 12 = some (.iaload, 0, 0) := rfl
theorem gMo_insert_13 : fMo_insert 13 = some (.iload_n 1, 0, 0) := rfl
theorem gMo_insert_14 : fMo_insert 14 = some (.if_icmp .ne (5), 19, 0) := rfl
theorem gMo_insert_17 : fMo_insert 17 = some (.iload_n 2, 0, 0) := rfl
theorem gMo_insert_18 : fMo_insert 18 = some (.ireturn, 0, 0) := rfl
theorem gMo_insert_19 : fMo_insert 19 = some (.iinc 3 (1), 0, 0) := rfl
theorem gMo_insert_22 : fMo_insert 22 = some (.goto (-20), 2, 0) := rfl
theorem gMo_insert_25 : fMo_insert 25 = some (.aload_n 0, 0, 0) := rfl
theorem gMo_insert_26 : fMo_insert 26 = some (.getfield 37, 6, 17) := rfl
theorem gMo_insert_29 : fMo_insert 29 = some (.iload_n 2, 0, 0) := rfl
theorem gMo_insert_30 : fMo_insert 30 = some (.iload_n 1, 0, 0) := rfl
theorem gMo_insert_31 : fMo_insert 31 = some (.iastore, 0, 0) := rfl
theorem gMo_insert_32 : fMo_insert 32 = some (.iload_n 2, 0, 0) := rfl
theorem gMo_insert_33 : fMo_insert 33 = some (.iconst 1, 0, 0) := rfl
theorem gMo_insert_34 : fMo_insert 34 = some (.iadd, 0, 0) := rfl
theorem gMo_insert_35 : fMo_insert 35 = some (.ireturn, 0, 0) := rfl
abbrev lMo_normals : List (Nat × Instr × Nat × Nat) := [(0, .aload_n 0, 0, 0), (1, .getfield 53, 6, 2), (4, .ifCond .ne (5), 9, 0), (7, .iconst 0, 0, 0), (8, .ireturn, 0, 0), (9, .iconst 0, 0, 0), (10, .istore_n 1, 0, 0), (11, .iconst 0, 0, 0), (12, .istore_n 2, 0, 0), (13, .iload_n 2, 0, 0), (14, .aload_n 0, 0, 0), (15, .getfield 68, 6, 6), (18, .if_icmp .ge (20), 38, 0), (21, .aload_n 0, 0, 0), (22, .aload_n 0, 0, 0), (23, .iload_n 2, 0, 0), (24, .invokevirtual 160, 68, 0), (27, .iload_n 1, 0, 0), (28, .invokevirtual 163, 69, 0), (31, .istore_n 1, 0, 0), (32, .iinc 2 (1), 0, 0), (35, .goto (-22), 13, 0), (38, .iconst 0, 0, 0), (39, .istore_n 2, 0, 0), (40, .iload_n 2, 0, 0), (41, .iload_n 1, 0, 0), (42, .if_icmp .ge (55), 97, 0), (45, .iload_n 1, 0, 0), (46, .sipush (190), 0, 0), (49, .if_icmp .ge (48), 97, 0), (52, .iconst 0, 0, 0), (53, .istore_n 3, 0, 0), (54, .iload_n 3, 0, 0), (55, .iload_n 2, 0, 0), (56, .if_icmp .ge (35), 91, 0), (59, .iload_n 1, 0, 0), (60, .sipush (190), 0, 0), (63, .if_icmp .ge (28), 91, 0), (66, .aload_n 0, 0, 0), (67, .aload_n 0, 0, 0), (68, .getfield 37, 6, 17), (71, .iload_n 2, 0, 0), (72, .iaload, 0, 0), (73, .aload_n 0, 0, 0), (74, .getfield 37, 6, 17), (77, .iload_n 3, 0, 0), (78, .iaload, 0, 0), (79, .iand, 0, 0), (80, .iload_n 1, 0, 0), (81, .invokevirtual 163, 69, 0), (84, .istore_n 1, 0, 0), (85, .iinc 3 (1), 0, 0), (88, .goto (-34), 54, 0), (91, .iinc 2 (1), 0, 0), (94, .goto (-54), 40, 0), (97, .iload_n 1, 0, 0), (98, .ireturn, 0, 0)]
def fMo_normals : sx_F := sx_tab lMo_normals
theorem kMo_normals : sx_chk "ClassCharactersModel" (wy yMo_normals prog_9_method_49_code 4 (some .int)) 4 prog_9_method_49_code lMo_normals = true := by decide +kernel
theorem gMo_normals_0 : fMo_normals 0 = some (.aload_n 0, 0, 0) := rfl
theorem gMo_normals_1 : fMo_normals 1 = some (.getfield 53, 6, 2) := rfl
theorem gMo_normals_4 : fMo_normals 4 = some (.ifCond .ne (5), 9, 0) := rfl
theorem gMo_normals_7 : fMo_normals 7 = some (.iconst 0, 0, 0) := rfl
theorem gMo_normals_8 : fMo_normals 8 = some (.ireturn, 0, 0) := rfl
theorem gMo_normals_9 : fMo_normals 9 = some (.iconst 0, 0, 0) := rfl
theorem gMo_normals_10 : fMo_normals 10 = some (.istore_n 1, 0, 0) := rfl
theorem gMo_normals_11 : fMo_normals 11 = some (.iconst 0, 0, 0) := rfl
theorem gMo_normals_12 : fMo_normals 12 = some (.istore_n 2, 0, 0) := rfl
theorem gMo_normals_13 : fMo_normals 13 = some (.iload_n 2, 0, 0) := rfl
theorem gMo_normals_14 : fMo_normals 14 = some (.aload_n 0, 0, 0) := rfl
theorem gMo_normals_15 : fMo_normals 15 = some (.getfield 68, 6, 6) := rfl
theorem gMo_normals_18 : fMo_normals 18 = some (.if_icmp .ge (20), 38, 0) := rfl
theorem gMo_normals_21 : fMo_normals 21 = some (.aload_n 0, 0, 0) := rfl
theorem gMo_normals_22 : fMo_normals 22 = some (.aload_n 0, 0, 0) := rfl
theorem gMo_normals_23 : fMo_normals 23 = some (.iload_n 2, 0, 0) := rfl
theorem gMo_normals_24 : fMo_normals 24 = some (.invokevirtual 160, 68, 0) := rfl
theorem gMo_normals_27 : fMo_normals 27 = some (.iload_n 1, 0, 0) := rfl
theorem gMo_normals_28 : fMo_normals 28 = some (.invokevirtual 163, 69, 0) := rfl
theorem gMo_normals_31 : fMo_normals 31 = some (.istore_n 1, 0, 0) := rfl
theorem gMo_normals_32 : fMo_normals 32 = some (.iinc 2 (1), 0, 0) := rfl
theorem gMo_normals_35 : fMo_normals 35 = some (.goto (-22), 13, 0) := rfl
theorem gMo_normals_38 : fMo_normals 38 = some (.iconst 0, 0, 0) := rfl
theorem gMo_normals_39 : fMo_normals 39 = some (.istore_n 2, 0, 0) := rfl
theorem gMo_normals_40 : fMo_normals 40 = some (.iload_n 2, 0, 0) := rfl
theorem gMo_normals_41 : fMo_normals 41 = some (.iload_n 1, 0, 0) := rfl
theorem gMo_normals_42 : fMo_normals 42 = some (.if_icmp .ge (55), 97, 0) := rfl
theorem gMo_normals_45 : fMo_normals 45 = some (.iload_n 1, 0, 0) := rfl
theorem gMo_normals_46 : fMo_normals 46 = some (.sipush (190), 0, 0) := rfl
theorem gMo_normals_49 : fMo_normals 49 = some (.if_icmp .ge (48), 97, 0) := rfl
theorem gMo_normals_52 : fMo_normals 52 = some (.iconst 0, 0, 0) := rfl
theorem gMo_normals_53 : fMo_normals 53 = some (.istore_n 3, 0, 0) := rfl
theorem gMo_normals_54 : fMo_normals 54 = some (.iload_n 3, 0, 0) := rfl
theorem gMo_normals_55 : fMo_normals 55 = some (.iload_n 2, 0, 0) := rfl
theorem gMo_normals_56 : fMo_normals 56 = some (.if_icmp .ge (35), 91, 0) := rfl
theorem gMo_normals_59 : fMo_normals 59 = some (.iload_n 1, 0, 0) := rfl
theorem gMo_normals_60 : fMo_normals 60 = some (.sipush (190), 0, 0) := rfl
theorem gMo_normals_63 : fMo_normals 63 = some (.if_icmp .ge (28), 91, 0) := rfl
theorem gMo_normals_66 : fMo_normals 66 = some (.aload_n 0, 0, 0) := rfl
theorem gMo_normals_67 : fMo_normals 67 = some (.aload_n 0, 0, 0) := rfl
theorem gMo_normals_68 : fMo_normals 68 = some (.getfield 37, 6, 17) := rfl
theorem gMo_normals_71 : fMo_normals 71 = some (.iload_n 2, 0, 0) := rfl
theorem gMo_normals_72 : fMo_normals 72 = some (.iaload, 0, 0) := rfl
theorem gMo_normals_73 : fMo_normals 73 = some (.aload_n 0, 0, 0) := rfl
theorem gMo_normals_74 : fMo_normals 74 = some (.getfield 37, 6, 17) := rfl
theorem gMo_normals_77 : fMo_normals 77 = some (.iload_n 3, 0, 0) := rfl
theorem gMo_normals_78 : fMo_normals 78 = some (.iaload, 0, 0) := rfl
theorem gMo_normals_79 : fMo_normals 79 = some (.iand, 0, 0) := rfl
theorem gMo_normals_80 : fMo_normals 80 = some (.iload_n 1, 0, 0) := rfl
theorem gMo_normals_81 : fMo_normals 81 = some (.invokevirtual 163, 69, 0) := rfl
theorem gMo_normals_84 : fMo_normals 84 = some (.istore_n 1, 0, 0) := rfl
theorem gMo_normals_85 : fMo_normals 85 = some (.iinc 3 (1), 0, 0) := rfl
theorem gMo_normals_88 : fMo_normals 88 = some (.goto (-34), 54, 0) := rfl
theorem gMo_normals_91 : fMo_normals 91 = some (.iinc 2 (1), 0, 0) := rfl
theorem gMo_normals_94 : fMo_normals 94 = some (.goto (-54), 40, 0) := rfl
theorem gMo_normals_97 : fMo_normals 97 = some (.iload_n 1, 0, 0) := rfl
theorem gMo_normals_98 : fMo_normals 98 = some (.ireturn, 0, 0) := rfl
end
section
-- the instructions' conditions as equations
section SE
variable {B : Nat} {cs : Nat → sx_S} {Rt : Option sx_V → sx_M → Prop} {h : Nat × Nat} {pc : Nat} {L : List (Option sx_V)} {st r : List sx_V} {w : sx_M} {K : sx_K} {x y : Int32} {a b d : sx_V} {q : Nat × Nat}
theorem se_iconst {v : Int} : sx_1 B cs Rt (.iconst v) h pc L st w K = K (pc + 1) L (.inl (Int32.ofInt v) :: st) w := rfl
theorem se_bipush {v : Int} : sx_1 B cs Rt (.bipush v) h pc L st w K = K (pc + 2) L (.inl (Int8.ofInt v).toInt32 :: st) w := rfl
theorem se_sipush {v : Int} : sx_1 B cs Rt (.sipush v) h pc L st w K = K (pc + 3) L (.inl (Int16.ofInt v).toInt32 :: st) w := rfl
theorem se_ldc {v : Nat} {j : Nat} {i : Nat} : sx_1 B cs Rt (.ldc v) (i, j) pc L st w K = K (pc + 2) L (.inl (nI i) :: st) w := rfl
theorem se_iload_n {k : Fin 4} : sx_1 B cs Rt (.iload_n k) h pc L st w K = sx_ldi L k.val (fun x => K (pc + 1) L (.inl x :: st) w) := rfl
theorem se_iload {k : Nat} : sx_1 B cs Rt (.iload k) h pc L st w K = sx_ldi L k (fun x => K (pc + 2) L (.inl x :: st) w) := rfl
theorem se_aload_n {k : Fin 4} : sx_1 B cs Rt (.aload_n k) h pc L st w K = sx_lda L k.val (fun a => K (pc + 1) L (.inr a :: st) w) := rfl
theorem se_aload {k : Nat} : sx_1 B cs Rt (.aload k) h pc L st w K = sx_lda L k (fun a => K (pc + 2) L (.inr a :: st) w) := rfl
theorem se_istore_n {k : Fin 4} : sx_1 B cs Rt (.istore_n k) h pc L (.inl x :: r) w K = K (pc + 1) (L.set k.val (some (.inl x))) r w := rfl
theorem se_istore {k : Nat} : sx_1 B cs Rt (.istore k) h pc L (.inl x :: r) w K = K (pc + 2) (L.set k (some (.inl x))) r w := rfl
theorem se_astore_n {k : Fin 4} : sx_1 B cs Rt (.astore_n k) h pc L (.inr q :: r) w K = K (pc + 1) (L.set k.val (some (.inr q))) r w := rfl
theorem se_astore {k : Nat} : sx_1 B cs Rt (.astore k) h pc L (.inr q :: r) w K = K (pc + 2) (L.set k (some (.inr q))) r w := rfl
theorem se_iinc {k : Nat} {n : Int} : sx_1 B cs Rt (.iinc k n) h pc L st w K = sx_ldi L k (fun x => K (pc + 3) (L.set k (some (.inl (x + Int32.ofInt n)))) st w) := rfl
theorem se_iadd : sx_1 B cs Rt .iadd h pc L (.inl y :: .inl x :: r) w K = K (pc + 1) L (.inl (x + y) :: r) w := rfl
theorem se_isub : sx_1 B cs Rt .isub h pc L (.inl y :: .inl x :: r) w K = K (pc + 1) L (.inl (x - y) :: r) w := rfl
theorem se_imul : sx_1 B cs Rt .imul h pc L (.inl y :: .inl x :: r) w K = K (pc + 1) L (.inl (x * y) :: r) w := rfl
theorem se_idiv : sx_1 B cs Rt .idiv h pc L (.inl y :: .inl x :: r) w K = (¬ y = 0 ∧ K (pc + 1) L (.inl (x / y) :: r) w) := rfl
theorem se_irem : sx_1 B cs Rt .irem h pc L (.inl y :: .inl x :: r) w K = (¬ y = 0 ∧ K (pc + 1) L (.inl (x - x / y * y) :: r) w) := rfl
theorem se_iand : sx_1 B cs Rt .iand h pc L (.inl y :: .inl x :: r) w K = K (pc + 1) L (.inl (x &&& y) :: r) w := rfl
theorem se_ior : sx_1 B cs Rt .ior h pc L (.inl y :: .inl x :: r) w K = K (pc + 1) L (.inl (x ||| y) :: r) w := rfl
theorem se_ixor : sx_1 B cs Rt .ixor h pc L (.inl y :: .inl x :: r) w K = K (pc + 1) L (.inl (x ^^^ y) :: r) w := rfl
theorem se_ishl : sx_1 B cs Rt .ishl h pc L (.inl y :: .inl x :: r) w K = K (pc + 1) L (.inl (x <<< (y &&& 31)) :: r) w := rfl
theorem se_ishr : sx_1 B cs Rt .ishr h pc L (.inl y :: .inl x :: r) w K = K (pc + 1) L (.inl (x >>> (y &&& 31)) :: r) w := rfl
theorem se_ineg : sx_1 B cs Rt .ineg h pc L (.inl x :: r) w K = K (pc + 1) L (.inl (-x) :: r) w := rfl
theorem se_dup : sx_1 B cs Rt .dup h pc L (a :: r) w K = K (pc + 1) L (a :: a :: r) w := rfl
theorem se_dup_x1 : sx_1 B cs Rt .dup_x1 h pc L (a :: b :: r) w K = K (pc + 1) L (a :: b :: a :: r) w := rfl
theorem se_dup_x2 : sx_1 B cs Rt .dup_x2 h pc L (a :: b :: d :: r) w K = K (pc + 1) L (a :: b :: d :: a :: r) w := rfl
theorem se_dup2 : sx_1 B cs Rt .dup2 h pc L (a :: b :: r) w K = K (pc + 1) L (a :: b :: a :: b :: r) w := rfl
theorem se_pop : sx_1 B cs Rt .pop h pc L (a :: r) w K = K (pc + 1) L r w := rfl
theorem se_if {c : ClassFile.Cond} {o : Int} {t j : Nat} : sx_1 B cs Rt (.ifCond c o) (t, j) pc L (.inl x :: r) w K = sx_if c x 0 (K t L r w) (K (pc + 3) L r w) := rfl
theorem se_icmp {c : ClassFile.Cond} {o : Int} {t j : Nat} : sx_1 B cs Rt (.if_icmp c o) (t, j) pc L (.inl y :: .inl x :: r) w K = sx_if c x y (K t L r w) (K (pc + 3) L r w) := rfl
theorem se_goto {o : Int} {t j : Nat} : sx_1 B cs Rt (.goto o) (t, j) pc L st w K = K t L st w := rfl
theorem se_get {i : Nat} : sx_1 B cs Rt (.getfield i) h pc L (.inr q :: r) w K = sx_gf B h w q (fun v => K (pc + 3) L (v :: r) w) := rfl
theorem se_put {i : Nat} : sx_1 B cs Rt (.putfield i) h pc L (.inl x :: .inr q :: r) w K = sx_pf B h w q x (fun w' => K (pc + 3) L r w') := rfl
theorem se_iald : sx_1 B cs Rt .iaload h pc L (.inl x :: .inr q :: r) w K = sx_ga B w q x (fun v => K (pc + 1) L (.inl v :: r) w) := rfl
theorem se_iast : sx_1 B cs Rt .iastore h pc L (.inl y :: .inl x :: .inr q :: r) w K = sx_pa B w q x y (fun w' => K (pc + 1) L r w') := rfl
theorem se_aald : sx_1 B cs Rt .aaload h pc L (.inl x :: .inr q :: r) w K = sx_gr B w q x (fun v => K (pc + 1) L (v :: r) w) := rfl
theorem se_alen : sx_1 B cs Rt .arraylength h pc L (.inr q :: r) w K = sx_al B w q (fun v => K (pc + 1) L (.inl v :: r) w) := rfl
theorem se_cs {i j t : Nat} : sx_1 B cs Rt (.invokestatic i) (t, j) pc L st w K = sx_call (cs t) pc L st w K := rfl
theorem se_cv {i j t : Nat} : sx_1 B cs Rt (.invokevirtual i) (t, j) pc L st w K = sx_call (cs t) pc L st w K := rfl
theorem se_iret : sx_1 B cs Rt .ireturn h pc L [.inl x] w K = Rt (some (.inl x)) w := rfl
theorem se_vret : sx_1 B cs Rt .return_ h pc L [] w K = Rt none w := rfl
end SE
theorem se_eq {x y : Int32} {a b : Prop} : sx_if .eq x y a b = ((x = y → a) ∧ (¬ x = y → b)) := rfl
theorem se_ne {x y : Int32} {a b : Prop} : sx_if .ne x y a b = ((¬ x = y → a) ∧ (x = y → b)) := rfl
theorem se_lt {x y : Int32} {a b : Prop} : sx_if .lt x y a b = ((x < y → a) ∧ (¬ x < y → b)) := rfl
theorem se_ge {x y : Int32} {a b : Prop} : sx_if .ge x y a b = ((y ≤ x → a) ∧ (¬ y ≤ x → b)) := rfl
theorem se_gt {x y : Int32} {a b : Prop} : sx_if .gt x y a b = ((y < x → a) ∧ (¬ y < x → b)) := rfl
theorem se_le {x y : Int32} {a b : Prop} : sx_if .le x y a b = ((x ≤ y → a) ∧ (¬ x ≤ y → b)) := rfl
theorem se_ldi0 {v : Int32} {L : List (Option sx_V)} {k : Int32 → Prop} : sx_ldi (some (.inl v) :: L) 0 k = k v := rfl
theorem se_ldiS {a : Option sx_V} {L : List (Option sx_V)} {n : Nat} {k : Int32 → Prop} : sx_ldi (a :: L) (n + 1) k = sx_ldi L n k := rfl
theorem se_lda0 {v : Nat × Nat} {L : List (Option sx_V)} {k : Nat × Nat → Prop} : sx_lda (some (.inr v) :: L) 0 k = k v := rfl
theorem se_ldaS {a : Option sx_V} {L : List (Option sx_V)} {n : Nat} {k : Nat × Nat → Prop} : sx_lda (a :: L) (n + 1) k = sx_lda L n k := rfl
theorem se_go {B : Nat} {cs : Nat → sx_S} {Rt : Option sx_V → sx_M → Prop} {F : sx_F} {cut : Nat → Bool} {Z : sx_K} {n pc : Nat} {L : List (Option sx_V)} {st : List sx_V} {w : sx_M} : sx_go B cs Rt F cut Z (n + 1) pc L st w = (match F pc with
    | some i => sx_1 B cs Rt i.1 i.2 pc L st w (fun pc' L' st' w' => if cut pc' = true then Z pc' L' st' w' else sx_go B cs Rt F cut Z n pc' L' st' w')
    | none => False) := rfl
-- a method without calls; the shape of a contract
abbrev sM (l : Launch) (D : va_G) (E : sx_E) (B : Nat) (A : Nat → Prop) (y : MethodName) (cc : ByteArray) (nL : Nat) (ret : Option FieldType) (fr lo : Nat) (As : List sx_V) (w : sx_M) (post : Option sx_V → sx_M → Prop) : Prop :=
  Met l y (wy y cc nL ret) ({ frames := fr, cells := 0, slots := 0, locals := lo }) (sx_Pc wn E B D kinds A As w) (sx_Qc E B D kinds A post) 0 0 A
theorem sx_m0 {l : Launch} {D : va_G} {E : sx_E} {B : Nat} {A : Nat → Prop} {y : MethodName} {cc : ByteArray} {nL : Nat} {ret : Option FieldType} {fr lo : Nat} {As : List sx_V} {w : sx_M} {post : Option sx_V → sx_M → Prop} {ls : List (Nat × Instr × Nat × Nat)} {cs : Nat → sx_S}
    (hy : plainFor y = true) (hk : sx_chk y.cls (wy y cc nL ret) nL cc ls = true)
    (hC : ∀ (pc : Nat) (i : Instr × Nat × Nat), sx_tab ls pc = some i → sx_isC i.1 = true → sx_Cal l y.cls (wy y cc nL ret) wn ({ frames := fr, cells := 0, slots := 0, locals := lo }) D kinds A E B nL cc i.1 (cs i.2.1))
    (hlen : As.length ≤ nL) (hret : sx_rt ret post) (body : ∀ Z : sx_K, sx_Cl B cs post (sx_tab ls) Z → Z 0 (As.map some ++ List.replicate (nL - As.length) none) [] w) : sM l D E B A y cc nL ret fr lo As w post :=
  sx_method hostC hy rfl kinds_ok (wt_kinds _ _ _ _) (sx_chk_ok hk) hC hlen hret body
-- no call in a list
theorem sx_nc {ls : List (Nat × Instr × Nat × Nat)} (h : ls.all (fun q => !sx_isC q.2.1) = true) {P : Prop} (pc : Nat) (i : Instr × Nat × Nat) (hF : sx_tab ls pc = some i) (hi : sx_isC i.1 = true) : P := by
  have h1 := List.all_eq_true.mp h _ (sx_tab_mem hF)
  rw [hi] at h1
  cases h1
abbrev noCalls : Nat → sx_S := fun _ => (0, fun _ _ _ => False)
end
section
-- one instruction at a time, under a Z that is closed under the method's instructions
section ZS
variable {B : Nat} {cs : Nat → sx_S} {Rt : Option sx_V → sx_M → Prop} {F : sx_F} {Z : sx_K} {h : Nat × Nat} {pc : Nat} {L : List (Option sx_V)} {st r : List sx_V} {w : sx_M} {x y : Int32} {a b d : sx_V} {q : Nat × Nat}
theorem z_of (hZ : sx_Cl B cs Rt F Z) {i : Instr × Nat × Nat} (hF : F pc = some i) (hv : sx_1 B cs Rt i.1 i.2 pc L st w Z) : Z pc L st w := hZ Z (fun _ _ _ _ h => h) pc i L st w hF hv
theorem z_iconst (hZ : sx_Cl B cs Rt F Z) {v : Int} (hF : F pc = some (.iconst v, h)) (x : Int32) (hx : Int32.ofInt v = x) (k : Z (pc + 1) L (.inl x :: st) w) : Z pc L st w := z_of hZ hF (by subst hx; exact k)
theorem z_bipush (hZ : sx_Cl B cs Rt F Z) {v : Int} (hF : F pc = some (.bipush v, h)) (x : Int32) (hx : (Int8.ofInt v).toInt32 = x) (k : Z (pc + 2) L (.inl x :: st) w) : Z pc L st w := z_of hZ hF (by subst hx; exact k)
theorem z_sipush (hZ : sx_Cl B cs Rt F Z) {v : Int} (hF : F pc = some (.sipush v, h)) (x : Int32) (hx : (Int16.ofInt v).toInt32 = x) (k : Z (pc + 3) L (.inl x :: st) w) : Z pc L st w := z_of hZ hF (by subst hx; exact k)
theorem z_ldc (hZ : sx_Cl B cs Rt F Z) {v i j : Nat} (hF : F pc = some (.ldc v, i, j)) (k : Z (pc + 2) L (.inl (nI i) :: st) w) : Z pc L st w := z_of hZ hF k
theorem z_iload_n (hZ : sx_Cl B cs Rt F Z) {n : Fin 4} (hF : F pc = some (.iload_n n, h)) (hl : L[n.val]? = some (some (.inl x))) (k : Z (pc + 1) L (.inl x :: st) w) : Z pc L st w := z_of hZ hF (by show sx_ldi L n.val _; unfold sx_ldi; rw [hl]; exact k)
theorem z_iload (hZ : sx_Cl B cs Rt F Z) {n : Nat} (hF : F pc = some (.iload n, h)) (hl : L[n]? = some (some (.inl x))) (k : Z (pc + 2) L (.inl x :: st) w) : Z pc L st w := z_of hZ hF (by show sx_ldi L n _; unfold sx_ldi; rw [hl]; exact k)
theorem z_aload_n (hZ : sx_Cl B cs Rt F Z) {n : Fin 4} (hF : F pc = some (.aload_n n, h)) (hl : L[n.val]? = some (some (.inr q))) (k : Z (pc + 1) L (.inr q :: st) w) : Z pc L st w := z_of hZ hF (by show sx_lda L n.val _; unfold sx_lda; rw [hl]; exact k)
theorem z_aload (hZ : sx_Cl B cs Rt F Z) {n : Nat} (hF : F pc = some (.aload n, h)) (hl : L[n]? = some (some (.inr q))) (k : Z (pc + 2) L (.inr q :: st) w) : Z pc L st w := z_of hZ hF (by show sx_lda L n _; unfold sx_lda; rw [hl]; exact k)
theorem z_istore_n (hZ : sx_Cl B cs Rt F Z) {n : Fin 4} (hF : F pc = some (.istore_n n, h)) {L' : List (Option sx_V)} (hl : L.set n.val (some (.inl x)) = L') (k : Z (pc + 1) L' r w) : Z pc L (.inl x :: r) w := z_of hZ hF (by subst hl; exact k)
theorem z_istore (hZ : sx_Cl B cs Rt F Z) {n : Nat} (hF : F pc = some (.istore n, h)) {L' : List (Option sx_V)} (hl : L.set n (some (.inl x)) = L') (k : Z (pc + 2) L' r w) : Z pc L (.inl x :: r) w := z_of hZ hF (by subst hl; exact k)
theorem z_astore_n (hZ : sx_Cl B cs Rt F Z) {n : Fin 4} (hF : F pc = some (.astore_n n, h)) {L' : List (Option sx_V)} (hl : L.set n.val (some (.inr q)) = L') (k : Z (pc + 1) L' r w) : Z pc L (.inr q :: r) w := z_of hZ hF (by subst hl; exact k)
theorem z_astore (hZ : sx_Cl B cs Rt F Z) {n : Nat} (hF : F pc = some (.astore n, h)) {L' : List (Option sx_V)} (hl : L.set n (some (.inr q)) = L') (k : Z (pc + 2) L' r w) : Z pc L (.inr q :: r) w := z_of hZ hF (by subst hl; exact k)
theorem z_iinc (hZ : sx_Cl B cs Rt F Z) {n : Nat} {v : Int} (hF : F pc = some (.iinc n v, h)) (hl : L[n]? = some (some (.inl x))) (y : Int32) (hy : x + Int32.ofInt v = y) {L' : List (Option sx_V)} (hl' : L.set n (some (.inl y)) = L') (k : Z (pc + 3) L' st w) : Z pc L st w := z_of hZ hF (by subst hy; subst hl'; show sx_ldi L n _; unfold sx_ldi; rw [hl]; exact k)
theorem z_iadd (hZ : sx_Cl B cs Rt F Z) (hF : F pc = some (.iadd, h)) (z : Int32) (hz : x + y = z) (k : Z (pc + 1) L (.inl z :: r) w) : Z pc L (.inl y :: .inl x :: r) w := z_of hZ hF (by subst hz; exact k)
theorem z_isub (hZ : sx_Cl B cs Rt F Z) (hF : F pc = some (.isub, h)) (z : Int32) (hz : x - y = z) (k : Z (pc + 1) L (.inl z :: r) w) : Z pc L (.inl y :: .inl x :: r) w := z_of hZ hF (by subst hz; exact k)
theorem z_imul (hZ : sx_Cl B cs Rt F Z) (hF : F pc = some (.imul, h)) (z : Int32) (hz : x * y = z) (k : Z (pc + 1) L (.inl z :: r) w) : Z pc L (.inl y :: .inl x :: r) w := z_of hZ hF (by subst hz; exact k)
theorem z_idiv (hZ : sx_Cl B cs Rt F Z) (hF : F pc = some (.idiv, h)) (hn : ¬ y = 0) (z : Int32) (hz : x / y = z) (k : Z (pc + 1) L (.inl z :: r) w) : Z pc L (.inl y :: .inl x :: r) w := z_of hZ hF (by subst hz; exact ⟨hn, k⟩)
theorem z_irem (hZ : sx_Cl B cs Rt F Z) (hF : F pc = some (.irem, h)) (hn : ¬ y = 0) (z : Int32) (hz : x - x / y * y = z) (k : Z (pc + 1) L (.inl z :: r) w) : Z pc L (.inl y :: .inl x :: r) w := z_of hZ hF (by subst hz; exact ⟨hn, k⟩)
theorem z_iand (hZ : sx_Cl B cs Rt F Z) (hF : F pc = some (.iand, h)) (z : Int32) (hz : x &&& y = z) (k : Z (pc + 1) L (.inl z :: r) w) : Z pc L (.inl y :: .inl x :: r) w := z_of hZ hF (by subst hz; exact k)
theorem z_ior (hZ : sx_Cl B cs Rt F Z) (hF : F pc = some (.ior, h)) (z : Int32) (hz : x ||| y = z) (k : Z (pc + 1) L (.inl z :: r) w) : Z pc L (.inl y :: .inl x :: r) w := z_of hZ hF (by subst hz; exact k)
theorem z_ixor (hZ : sx_Cl B cs Rt F Z) (hF : F pc = some (.ixor, h)) (z : Int32) (hz : x ^^^ y = z) (k : Z (pc + 1) L (.inl z :: r) w) : Z pc L (.inl y :: .inl x :: r) w := z_of hZ hF (by subst hz; exact k)
theorem z_ishl (hZ : sx_Cl B cs Rt F Z) (hF : F pc = some (.ishl, h)) (z : Int32) (hz : x <<< (y &&& 31) = z) (k : Z (pc + 1) L (.inl z :: r) w) : Z pc L (.inl y :: .inl x :: r) w := z_of hZ hF (by subst hz; exact k)
theorem z_ishr (hZ : sx_Cl B cs Rt F Z) (hF : F pc = some (.ishr, h)) (z : Int32) (hz : x >>> (y &&& 31) = z) (k : Z (pc + 1) L (.inl z :: r) w) : Z pc L (.inl y :: .inl x :: r) w := z_of hZ hF (by subst hz; exact k)
theorem z_ineg (hZ : sx_Cl B cs Rt F Z) (hF : F pc = some (.ineg, h)) (z : Int32) (hz : -x = z) (k : Z (pc + 1) L (.inl z :: r) w) : Z pc L (.inl x :: r) w := z_of hZ hF (by subst hz; exact k)
theorem z_dup (hZ : sx_Cl B cs Rt F Z) (hF : F pc = some (.dup, h)) (k : Z (pc + 1) L (a :: a :: r) w) : Z pc L (a :: r) w := z_of hZ hF k
theorem z_dup_x1 (hZ : sx_Cl B cs Rt F Z) (hF : F pc = some (.dup_x1, h)) (k : Z (pc + 1) L (a :: b :: a :: r) w) : Z pc L (a :: b :: r) w := z_of hZ hF k
theorem z_dup_x2 (hZ : sx_Cl B cs Rt F Z) (hF : F pc = some (.dup_x2, h)) (k : Z (pc + 1) L (a :: b :: d :: a :: r) w) : Z pc L (a :: b :: d :: r) w := z_of hZ hF k
theorem z_dup2 (hZ : sx_Cl B cs Rt F Z) (hF : F pc = some (.dup2, h)) (k : Z (pc + 1) L (a :: b :: a :: b :: r) w) : Z pc L (a :: b :: r) w := z_of hZ hF k
theorem z_pop (hZ : sx_Cl B cs Rt F Z) (hF : F pc = some (.pop, h)) (k : Z (pc + 1) L r w) : Z pc L (a :: r) w := z_of hZ hF k
theorem z_ifeq (hZ : sx_Cl B cs Rt F Z) {o : Int} {t j : Nat} (hF : F pc = some (.ifCond .eq o, t, j)) (kt : x = 0 → Z t L r w) (kf : ¬ x = 0 → Z (pc + 3) L r w) : Z pc L (.inl x :: r) w := z_of hZ hF ⟨kt, kf⟩
theorem z_ifne (hZ : sx_Cl B cs Rt F Z) {o : Int} {t j : Nat} (hF : F pc = some (.ifCond .ne o, t, j)) (kt : ¬ x = 0 → Z t L r w) (kf : x = 0 → Z (pc + 3) L r w) : Z pc L (.inl x :: r) w := z_of hZ hF ⟨kt, kf⟩
theorem z_iflt (hZ : sx_Cl B cs Rt F Z) {o : Int} {t j : Nat} (hF : F pc = some (.ifCond .lt o, t, j)) (kt : x < 0 → Z t L r w) (kf : ¬ x < 0 → Z (pc + 3) L r w) : Z pc L (.inl x :: r) w := z_of hZ hF ⟨kt, kf⟩
theorem z_ifge (hZ : sx_Cl B cs Rt F Z) {o : Int} {t j : Nat} (hF : F pc = some (.ifCond .ge o, t, j)) (kt : 0 ≤ x → Z t L r w) (kf : ¬ 0 ≤ x → Z (pc + 3) L r w) : Z pc L (.inl x :: r) w := z_of hZ hF ⟨kt, kf⟩
theorem z_ifgt (hZ : sx_Cl B cs Rt F Z) {o : Int} {t j : Nat} (hF : F pc = some (.ifCond .gt o, t, j)) (kt : 0 < x → Z t L r w) (kf : ¬ 0 < x → Z (pc + 3) L r w) : Z pc L (.inl x :: r) w := z_of hZ hF ⟨kt, kf⟩
theorem z_ifle (hZ : sx_Cl B cs Rt F Z) {o : Int} {t j : Nat} (hF : F pc = some (.ifCond .le o, t, j)) (kt : x ≤ 0 → Z t L r w) (kf : ¬ x ≤ 0 → Z (pc + 3) L r w) : Z pc L (.inl x :: r) w := z_of hZ hF ⟨kt, kf⟩
theorem z_cmpeq (hZ : sx_Cl B cs Rt F Z) {o : Int} {t j : Nat} (hF : F pc = some (.if_icmp .eq o, t, j)) (kt : x = y → Z t L r w) (kf : ¬ x = y → Z (pc + 3) L r w) : Z pc L (.inl y :: .inl x :: r) w := z_of hZ hF ⟨kt, kf⟩
theorem z_cmpne (hZ : sx_Cl B cs Rt F Z) {o : Int} {t j : Nat} (hF : F pc = some (.if_icmp .ne o, t, j)) (kt : ¬ x = y → Z t L r w) (kf : x = y → Z (pc + 3) L r w) : Z pc L (.inl y :: .inl x :: r) w := z_of hZ hF ⟨kt, kf⟩
theorem z_cmplt (hZ : sx_Cl B cs Rt F Z) {o : Int} {t j : Nat} (hF : F pc = some (.if_icmp .lt o, t, j)) (kt : x < y → Z t L r w) (kf : ¬ x < y → Z (pc + 3) L r w) : Z pc L (.inl y :: .inl x :: r) w := z_of hZ hF ⟨kt, kf⟩
theorem z_cmpge (hZ : sx_Cl B cs Rt F Z) {o : Int} {t j : Nat} (hF : F pc = some (.if_icmp .ge o, t, j)) (kt : y ≤ x → Z t L r w) (kf : ¬ y ≤ x → Z (pc + 3) L r w) : Z pc L (.inl y :: .inl x :: r) w := z_of hZ hF ⟨kt, kf⟩
theorem z_cmpgt (hZ : sx_Cl B cs Rt F Z) {o : Int} {t j : Nat} (hF : F pc = some (.if_icmp .gt o, t, j)) (kt : y < x → Z t L r w) (kf : ¬ y < x → Z (pc + 3) L r w) : Z pc L (.inl y :: .inl x :: r) w := z_of hZ hF ⟨kt, kf⟩
theorem z_cmple (hZ : sx_Cl B cs Rt F Z) {o : Int} {t j : Nat} (hF : F pc = some (.if_icmp .le o, t, j)) (kt : x ≤ y → Z t L r w) (kf : ¬ x ≤ y → Z (pc + 3) L r w) : Z pc L (.inl y :: .inl x :: r) w := z_of hZ hF ⟨kt, kf⟩
theorem z_goto (hZ : sx_Cl B cs Rt F Z) {o : Int} {t j : Nat} (hF : F pc = some (.goto o, t, j)) (k : Z t L st w) : Z pc L st w := z_of hZ hF k
theorem z_get (hZ : sx_Cl B cs Rt F Z) {i ci kf n : Nat} (hF : F pc = some (.getfield i, ci, kf)) {fs : List sx_V} (hn : n < B) (hw : w n = .inr (.inr (ci, fs))) {v : sx_V} (hv : fs[kf]? = some v) (k : Z (pc + 3) L (v :: r) w) : Z pc L (.inr (n, 0) :: r) w := z_of hZ hF (by show sx_gf B (ci, kf) w (n, 0) _; simp only [sx_gf, hw, hv]; exact ⟨hn, trivial, k⟩)
theorem z_put (hZ : sx_Cl B cs Rt F Z) {i ci kf n : Nat} (hF : F pc = some (.putfield i, ci, kf)) {fs : List sx_V} (hn : n < B) (hw : w n = .inr (.inr (ci % 100, fs))) (hb : ci < 100 ∨ x = 0 ∨ x = 1) (hv : kf < fs.length) (k : Z (pc + 3) L r (va_up w n (.inr (.inr (ci % 100, fs.set kf (.inl x)))))) : Z pc L (.inl x :: .inr (n, 0) :: r) w := z_of hZ hF (by show sx_pf B (ci, kf) w (n, 0) x _; simp only [sx_pf, hw]; exact ⟨hn, trivial, hb, hv, k⟩)
theorem z_iald (hZ : sx_Cl B cs Rt F Z) (hF : F pc = some (.iaload, h)) {n N : Nat} {f : Nat → Int32} (hn : n < B) (hw : w n = .inl (N, f)) (hi : vp_in x N) (k : Z (pc + 1) L (.inl (f x.toNatClampNeg) :: r) w) : Z pc L (.inl x :: .inr (n, 0) :: r) w := z_of hZ hF (by show sx_ga B w (n, 0) x (fun v => Z (pc + 1) L (.inl v :: r) w); simp only [sx_ga, hw]; exact ⟨hn, hi, k⟩)
theorem z_ialg (hZ : sx_Cl B cs Rt F Z) (hF : F pc = some (.iaload, h)) {n N M j : Nat} {f : Nat → Nat → Int32} (hn : n < B) (hw : w n = .inr (.inl (N, M, f))) (hj : j < N) (hi : vp_in x M) (k : Z (pc + 1) L (.inl (f j x.toNatClampNeg) :: r) w) : Z pc L (.inl x :: .inr (n, j + 1) :: r) w := z_of hZ hF (by show sx_ga B w (n, j + 1) x (fun v => Z (pc + 1) L (.inl v :: r) w); simp only [sx_ga, hw]; exact ⟨hn, hj, hi, k⟩)
theorem z_iast (hZ : sx_Cl B cs Rt F Z) (hF : F pc = some (.iastore, h)) {n N : Nat} {f : Nat → Int32} (hn : n < B) (hw : w n = .inl (N, f)) (hi : vp_in x N) (k : Z (pc + 1) L r (va_up w n (.inl (N, upd f x.toNatClampNeg y)))) : Z pc L (.inl y :: .inl x :: .inr (n, 0) :: r) w := z_of hZ hF (by show sx_pa B w (n, 0) x y _; simp only [sx_pa, hw]; exact ⟨hn, hi, k⟩)
theorem z_iasg (hZ : sx_Cl B cs Rt F Z) (hF : F pc = some (.iastore, h)) {n N M j : Nat} {f : Nat → Nat → Int32} (hn : n < B) (hw : w n = .inr (.inl (N, M, f))) (hj : j < N) (hi : vp_in x M) (k : Z (pc + 1) L r (va_up w n (.inr (.inl (N, M, va_up f j (upd (f j) x.toNatClampNeg y)))))) : Z pc L (.inl y :: .inl x :: .inr (n, j + 1) :: r) w := z_of hZ hF (by show sx_pa B w (n, j + 1) x y _; simp only [sx_pa, hw]; exact ⟨hn, hj, hi, k⟩)
theorem z_aald (hZ : sx_Cl B cs Rt F Z) (hF : F pc = some (.aaload, h)) {n N M : Nat} {f : Nat → Nat → Int32} (hn : n < B) (hw : w n = .inr (.inl (N, M, f))) (hi : vp_in x N) (k : Z (pc + 1) L (.inr (n, x.toNatClampNeg + 1) :: r) w) : Z pc L (.inl x :: .inr (n, 0) :: r) w := z_of hZ hF (by show sx_gr B w (n, 0) x (fun v => Z (pc + 1) L (v :: r) w); simp only [sx_gr, hw]; exact ⟨hn, hi, k⟩)
theorem z_alen (hZ : sx_Cl B cs Rt F Z) (hF : F pc = some (.arraylength, h)) {n N : Nat} {f : Nat → Int32} (hn : n < B) (hw : w n = .inl (N, f)) (k : Z (pc + 1) L (.inl (nI N) :: r) w) : Z pc L (.inr (n, 0) :: r) w := z_of hZ hF (by show sx_al B w (n, 0) (fun v => Z (pc + 1) L (.inl v :: r) w); simp only [sx_al, hw]; exact ⟨hn, k⟩)
theorem z_cs (hZ : sx_Cl B cs Rt F Z) {i j t : Nat} (hF : F pc = some (.invokestatic i, t, j)) {S : sx_S} (hS : cs t = S) {As : List sx_V} (hA : (st.take S.1).reverse = As) (h1 : S.1 ≤ st.length) (h2 : (st.drop S.1).length ≤ 8) {Q : Option sx_V → sx_M → Prop} (hp : S.2 As w Q) (k : ∀ (r : Option sx_V) (w' : sx_M), Q r w' → Z (pc + 3) L (r.toList ++ st.drop S.1) w') : Z pc L st w := z_of hZ hF (by subst hS; subst hA; exact ⟨h1, h2, _, hp, k⟩)
theorem z_cv (hZ : sx_Cl B cs Rt F Z) {i j t : Nat} (hF : F pc = some (.invokevirtual i, t, j)) {S : sx_S} (hS : cs t = S) {As : List sx_V} (hA : (st.take S.1).reverse = As) (h1 : S.1 ≤ st.length) (h2 : (st.drop S.1).length ≤ 8) {Q : Option sx_V → sx_M → Prop} (hp : S.2 As w Q) (k : ∀ (r : Option sx_V) (w' : sx_M), Q r w' → Z (pc + 3) L (r.toList ++ st.drop S.1) w') : Z pc L st w := z_of hZ hF (by subst hS; subst hA; exact ⟨h1, h2, _, hp, k⟩)
theorem z_iret (hZ : sx_Cl B cs Rt F Z) (hF : F pc = some (.ireturn, h)) (k : Rt (some (.inl x)) w) : Z pc L [.inl x] w := z_of hZ hF k
theorem z_vret (hZ : sx_Cl B cs Rt F Z) (hF : F pc = some (.return_, h)) (k : Rt none w) : Z pc L [] w := z_of hZ hF k
end ZS
end
section
-- pure: a free action of a cycle of d steps on a finite set: d divides its size
def fa_it {α : Type} (f : α → α) : Nat → α → α
  | 0, x => x
  | n + 1, x => fa_it f n (f x)
theorem fa_succ {α : Type} (f : α → α) : ∀ (n : Nat) (x : α), fa_it f (n + 1) x = f (fa_it f n x)
  | 0, _ => rfl
  | n + 1, x => fa_succ f n (f x)
theorem fa_add {α : Type} (f : α → α) (m : Nat) : ∀ (n : Nat) (x : α), fa_it f (m + n) x = fa_it f m (fa_it f n x)
  | 0, _ => rfl
  | n + 1, x => fa_add f m n (f x)
theorem fa_mul {α : Type} (f : α → α) {d : Nat} {x : α} (h : fa_it f d x = x) : ∀ k : Nat, fa_it f (d * k) x = x
  | 0 => rfl
  | k + 1 => by rw [Nat.mul_succ, fa_add, h, fa_mul f h k]
theorem fa_gcd {α : Type} (f : α → α) (x : α) : ∀ (a b : Nat), fa_it f a x = x → fa_it f b x = x → fa_it f (Nat.gcd a b) x = x := by
  intro a b
  induction a, b using Nat.gcd.induction with
  | H0 n => intro _ h; rw [Nat.gcd_zero_left]; exact h
  | H1 m n hm ih =>
    intro h1 h2
    rw [Nat.gcd_rec]
    refine ih ?_ h1
    have h3 : n = n % m + m * (n / m) := (Nat.mod_add_div n m).symm
    rw [h3, fa_add, fa_mul f h1] at h2
    exact h2
theorem fa_div {α : Type} [DecidableEq α] (f : α → α) (d : Nat) (hd : 0 < d) : ∀ (N : Nat) (X : List α), X.length ≤ N → X.Nodup → (∀ x, x ∈ X → f x ∈ X) → (∀ x, x ∈ X → fa_it f d x = x) → (∀ x, x ∈ X → ∀ j, 0 < j → j < d → fa_it f j x ≠ x) → d ∣ X.length := by
  intro N
  induction N with
  | zero =>
    intro X h _ _ _ _
    rw [Nat.le_zero.mp h]
    exact Nat.dvd_zero d
  | succ N ih =>
    intro X hlen hnd hf hid hfree
    cases X with
    | nil => exact Nat.dvd_zero d
    | cons x X' =>
      generalize hX : x :: X' = X at *
      have hx : x ∈ X := by rw [← hX]; exact List.mem_cons_self
      have hin : ∀ j, fa_it f j x ∈ X := by
        intro j
        induction j with
        | zero => exact hx
        | succ j ihj => rw [fa_succ]; exact hf _ ihj
      have hOnd : ((List.range d).map (fun j => fa_it f j x)).Nodup := by
        refine List.pairwise_map.mpr (List.Pairwise.imp_of_mem (fun {a b} ha hb hab => ?_) List.pairwise_lt_range)
        intro he
        have hb' : b < d := List.mem_range.mp hb
        have h1 : fa_it f (d - a) (fa_it f a x) = x := by rw [← fa_add, Nat.sub_add_cancel (by omega)]; exact hid x hx
        rw [he, ← fa_add, show d - a + b = b - a + d by omega, fa_add, hid x hx] at h1
        exact hfree x hx (b - a) (by omega) (by omega) h1
      generalize hO : (List.range d).map (fun j => fa_it f j x) = O at hOnd
      have hOm : ∀ y, y ∈ O ↔ ∃ j, j < d ∧ fa_it f j x = y := by
        intro y
        rw [← hO, List.mem_map]
        constructor
        · rintro ⟨j, h1, h2⟩; exact ⟨j, List.mem_range.mp h1, h2⟩
        · rintro ⟨j, h1, h2⟩; exact ⟨j, List.mem_range.mpr h1, h2⟩
      have hOf : ∀ y, y ∈ O → f y ∈ O := by
        intro y hy
        obtain ⟨j, h1, h2⟩ := (hOm y).mp hy
        by_cases h3 : j + 1 < d
        · exact (hOm _).mpr ⟨j + 1, h3, by rw [fa_succ, h2]⟩
        · refine (hOm _).mpr ⟨0, hd, ?_⟩
          have h4 : j + 1 = d := by omega
          have h5 := hid x hx
          rw [← h4, fa_succ, h2] at h5
          rw [h5]; rfl
      have hOi : ∀ (j : Nat) (y : α), y ∈ O → fa_it f j y ∈ O := by
        intro j
        induction j with
        | zero => intro y hy; exact hy
        | succ j ihj => intro y hy; exact ihj _ (hOf y hy)
      have hsplit := List.length_eq_countP_add_countP (fun y => decide (y ∈ O)) (l := X)
      have h1 : List.countP (fun y => decide (y ∈ O)) X = d := by
        rw [List.countP_eq_length_filter]
        have hp : (X.filter (fun y => decide (y ∈ O))).Perm O := by
          refine (List.perm_ext_iff_of_nodup (hnd.sublist List.filter_sublist) hOnd).mpr fun a => ?_
          rw [List.mem_filter]
          constructor
          · intro h; exact of_decide_eq_true h.2
          · intro h
            obtain ⟨j, _, h2⟩ := (hOm a).mp h
            exact ⟨h2 ▸ hin j, decide_eq_true h⟩
        rw [hp.length_eq, ← hO, List.length_map, List.length_range]
      have h2 : d ∣ List.countP (fun y => decide ¬ (decide (y ∈ O)) = true) X := by
        rw [List.countP_eq_length_filter]
        refine ih _ ?_ (hnd.sublist List.filter_sublist) ?_ ?_ ?_
        · rw [← List.countP_eq_length_filter]; omega
        · intro y hy
          rw [List.mem_filter] at hy ⊢
          refine ⟨hf y hy.1, ?_⟩
          have hy2 := hy.2
          simp at hy2 ⊢
          intro h9
          apply hy2
          have h10 := hOi (d - 1) _ h9
          have h11 : fa_it f (d - 1) (f y) = fa_it f d y := by
            rw [show d = (d - 1) + 1 by omega]; rfl
          rw [h11, hid y hy.1] at h10
          exact h10
        · intro y hy; exact hid y (List.mem_filter.mp hy).1
        · intro y hy; exact hfree y (List.mem_filter.mp hy).1
      rw [hsplit, h1]
      exact Nat.dvd_add (Nat.dvd_refl d) h2
-- tuples
def tp_all {α : Type} (C : List α) : Nat → List (List α)
  | 0 => [[]]
  | m + 1 => (tp_all C m).flatMap (fun t => C.map (fun g => g :: t))
theorem tp_mem {α : Type} (C : List α) : ∀ (m : Nat) (t : List α), t ∈ tp_all C m ↔ t.length = m ∧ ∀ g, g ∈ t → g ∈ C
  | 0, t => by
    simp only [tp_all, List.mem_singleton]
    constructor
    · rintro rfl; simp
    · rintro ⟨h, _⟩; exact List.eq_nil_of_length_eq_zero h
  | m + 1, t => by
    simp only [tp_all, List.mem_flatMap, List.mem_map, tp_mem C m]
    constructor
    · rintro ⟨t', ⟨h1, h2⟩, g, hg, rfl⟩
      refine ⟨by rw [List.length_cons, h1], fun x hx => ?_⟩
      rcases List.mem_cons.mp hx with rfl | hx
      · exact hg
      · exact h2 x hx
    · rintro ⟨h1, h2⟩
      cases t with
      | nil => simp at h1
      | cons g t' => exact ⟨t', ⟨by simpa using h1, fun x hx => h2 x (List.mem_cons_of_mem _ hx)⟩, g, h2 g List.mem_cons_self, rfl⟩
theorem tp_nodup {α : Type} (C : List α) (hC : C.Nodup) : ∀ m : Nat, (tp_all C m).Nodup
  | 0 => by simp [tp_all]
  | m + 1 => by
    refine List.pairwise_flatMap.mpr ⟨fun t _ => ?_, ?_⟩
    · refine List.pairwise_map.mpr (List.Pairwise.imp (fun {a b} hab he => hab ?_) hC)
      exact (List.cons.inj he).1
    · refine List.Pairwise.imp (fun {t t'} hne x hx y hy he => hne ?_) (tp_nodup C hC m)
      obtain ⟨g, _, rfl⟩ := List.mem_map.mp hx
      obtain ⟨g', _, rfl⟩ := List.mem_map.mp hy
      exact (List.cons.inj he).2
def tp_rot {α : Type} : List α → List α
  | [] => []
  | g :: t => t ++ [g]
theorem tp_rot_it {α : Type} : ∀ (a b : List α), fa_it tp_rot a.length (a ++ b) = b ++ a
  | [], b => by simp [fa_it]
  | g :: a, b => by
    have h := tp_rot_it a (b ++ [g])
    simp only [List.length_cons, fa_it, List.cons_append, tp_rot]
    rw [List.append_assoc, h, List.append_assoc]
    rfl
theorem tp_rot_all {α : Type} (t : List α) : fa_it tp_rot t.length t = t := by
  have h := tp_rot_it t []
  simpa using h
theorem tp_rot_len {α : Type} (t : List α) : (tp_rot t).length = t.length := by
  cases t <;> simp [tp_rot]
theorem tp_rot_mem {α : Type} (t : List α) (x : α) : x ∈ tp_rot t ↔ x ∈ t := by
  cases t with
  | nil => simp [tp_rot]
  | cons g t => simp [tp_rot, or_comm]
theorem tp_rot_1 {α : Type} : ∀ (g : α) (t : List α), tp_rot (g :: t) = g :: t → ∀ x, x ∈ t → x = g
  | g, [], _, x, hx => by simp at hx
  | g, h :: t, e, x, hx => by
    have e1 : h :: (t ++ [g]) = g :: h :: t := e
    obtain ⟨rfl, e2⟩ := List.cons.inj e1
    have e3 : tp_rot (h :: t) = h :: t := e2
    rcases List.mem_cons.mp hx with rfl | hx
    · rfl
    · exact tp_rot_1 h t e3 x hx
-- p prime: a tuple of p places that comes back after fewer steps is constant
theorem tp_free {α : Type} {p : Nat} (hp : ∀ m, m ∣ p → m = 1 ∨ m = p) {t : List α} (ht : t.length = p) {j : Nat} (h0 : 0 < j) (hj : j < p) (h : fa_it tp_rot j t = t) : tp_rot t = t := by
  have h1 := fa_gcd tp_rot t j p h (by rw [← ht]; exact tp_rot_all t)
  rcases hp _ (Nat.gcd_dvd_right j p) with e | e
  · rw [e] at h1; exact h1
  · exfalso
    have := Nat.gcd_le_left p h0
    omega
-- tuples over C with a property that turning keeps: modulo p only the constant ones count
theorem tp_cong0 {α : Type} [DecidableEq α] {C : List α} (hC : C.Nodup) {p : Nat} (hp1 : 1 < p) (hp : ∀ m, m ∣ p → m = 1 ∨ m = p) (P : List α → Bool)
    (hP : ∀ t : List α, (∀ g, g ∈ t → g ∈ C) → P (tp_rot t) = P t) :
    (p : Int) ∣ ((tp_all C p).countP P : Int) - (C.countP (fun g => P (List.replicate p g)) : Int) := by
  have hin : ∀ t, t ∈ tp_all C p → ∀ g, g ∈ t → g ∈ C := fun t ht g hg => ((tp_mem C p t).mp ht).2 g hg
  have hnd := tp_nodup C hC p
  -- the ones that move
  have h1 : p ∣ ((tp_all C p).filter (fun t => P t && !decide (tp_rot t = t))).length := by
    refine fa_div tp_rot p (by omega) _ _ (Nat.le_refl _) (hnd.sublist List.filter_sublist) (fun t ht => ?_) (fun t ht => ?_) (fun t ht j hj hjp he => ?_)
    · rw [List.mem_filter] at ht ⊢
      have ht1 := (tp_mem C p t).mp ht.1
      refine ⟨(tp_mem C p _).mpr ⟨by rw [tp_rot_len]; exact ht1.1, fun g hg => ht1.2 g ((tp_rot_mem t g).mp hg)⟩, ?_⟩
      have ht2 := ht.2
      rw [Bool.and_eq_true] at ht2 ⊢
      refine ⟨by rw [hP t (hin t ht.1)]; exact ht2.1, ?_⟩
      have h9 := ht2.2
      simp at h9 ⊢
      intro h10
      apply h9
      have h11 : fa_it tp_rot (p - 1) (tp_rot (tp_rot t)) = tp_rot t := by
        have := tp_rot_all (tp_rot t)
        rw [tp_rot_len, ht1.1] at this
        rw [show p = (p - 1) + 1 by omega] at this
        exact this
      have h12 : fa_it tp_rot (p - 1) (tp_rot t) = t := by
        have := tp_rot_all t
        rw [ht1.1] at this
        rw [show p = (p - 1) + 1 by omega] at this
        exact this
      rw [h10, h12] at h11
      exact h11.symm
    · have ht1 := (tp_mem C p t).mp (List.mem_filter.mp ht).1
      have := tp_rot_all t
      rw [ht1.1] at this
      exact this
    · have ht1 := (tp_mem C p t).mp (List.mem_filter.mp ht).1
      have h2 := tp_free hp ht1.1 hj hjp he
      have h3 := (List.mem_filter.mp ht).2
      simp [h2] at h3
  -- the ones that stand
  have h2 : ((tp_all C p).filter (fun t => P t && decide (tp_rot t = t))).length = C.countP (fun g => P (List.replicate p g)) := by
    rw [List.countP_eq_length_filter]
    have h3 : ((tp_all C p).filter (fun t => P t && decide (tp_rot t = t))).Perm ((C.filter (fun g => P (List.replicate p g))).map (fun g => List.replicate p g)) := by
      refine (List.perm_ext_iff_of_nodup (hnd.sublist List.filter_sublist) ?_).mpr fun t => ?_
      · refine List.pairwise_map.mpr (List.Pairwise.imp (fun {a b} hab he => hab ?_) (hC.sublist List.filter_sublist))
        have h4 : (List.replicate p a)[0]? = (List.replicate p b)[0]? := by rw [he]
        rw [List.getElem?_replicate, List.getElem?_replicate, if_pos (by omega), if_pos (by omega)] at h4
        exact Option.some.inj h4
      · rw [List.mem_filter, List.mem_map]
        constructor
        · rintro ⟨h4, h5⟩
          rw [Bool.and_eq_true] at h5
          have h6 := of_decide_eq_true h5.2
          have h7 := (tp_mem C p t).mp h4
          cases t with
          | nil => simp at h7; omega
          | cons g t =>
            have h8 := tp_rot_1 g t h6
            have h9 : g :: t = List.replicate p g := by
              refine List.eq_replicate_iff.mpr ⟨h7.1, fun b hb => ?_⟩
              rcases List.mem_cons.mp hb with rfl | hb
              · rfl
              · exact h8 b hb
            have hgC := h7.2 g List.mem_cons_self
            refine ⟨g, List.mem_filter.mpr ⟨hgC, ?_⟩, h9.symm⟩
            have h10 := h5.1
            rw [h9] at h10
            exact h10
        · rintro ⟨g, hg, rfl⟩
          obtain ⟨hgC, hgP⟩ := List.mem_filter.mp hg
          refine ⟨(tp_mem C p _).mpr ⟨List.length_replicate, fun x hx => by rw [(List.mem_replicate.mp hx).2]; exact hgC⟩, ?_⟩
          rw [Bool.and_eq_true]
          refine ⟨hgP, decide_eq_true ?_⟩
          cases p with
          | zero => rfl
          | succ p =>
            rw [List.replicate_succ]
            show List.replicate p g ++ [g] = _
            rw [← List.replicate_succ', List.replicate_succ]
    rw [h3.length_eq, List.length_map]
  have h3 := List.length_eq_countP_add_countP (fun t => decide (tp_rot t = t)) (l := (tp_all C p).filter P)
  rw [← List.countP_eq_length_filter] at h3
  rw [List.countP_filter, List.countP_filter] at h3
  have h4 : List.countP (fun a => decide (tp_rot a = a) && P a) (tp_all C p) = C.countP (fun g => P (List.replicate p g)) := by
    rw [← h2, ← List.countP_eq_length_filter]
    exact List.countP_congr fun t _ => by rw [Bool.and_comm]
  have h5 : List.countP (fun a => (decide ¬ decide (tp_rot a = a) = true) && P a) (tp_all C p) = ((tp_all C p).filter (fun t => P t && !decide (tp_rot t = t))).length := by
    rw [← List.countP_eq_length_filter]
    refine List.countP_congr fun t _ => ?_
    rw [Bool.and_comm]
    simp
  rw [h4, h5] at h3
  obtain ⟨c, hc⟩ := h1
  rw [h3, hc]
  exact ⟨c, by rw [Int.natCast_add, Int.natCast_mul]; omega⟩
end
section
-- pure: a finite group as a list of numbers (the product is associative everywhere)
def gg_ok (G : List Nat) (mul : Nat → Nat → Nat) (one : Nat) (inv : Nat → Nat) : Prop :=
  G.Nodup ∧ one ∈ G ∧ (∀ a, a ∈ G → ∀ b, b ∈ G → mul a b ∈ G) ∧ (∀ a, a ∈ G → inv a ∈ G) ∧ (∀ a b c, mul (mul a b) c = mul a (mul b c)) ∧
  (∀ a, a ∈ G → mul one a = a) ∧ (∀ a, a ∈ G → mul a one = a) ∧ (∀ a, a ∈ G → mul (inv a) a = one) ∧ (∀ a, a ∈ G → mul a (inv a) = one)
def gg_pw (mul : Nat → Nat → Nat) (one x : Nat) : Nat → Nat
  | 0 => one
  | m + 1 => mul (gg_pw mul one x m) x
section GG
variable {G : List Nat} {mul : Nat → Nat → Nat} {one : Nat} {inv : Nat → Nat}
theorem gg_nd (h : gg_ok G mul one inv) : G.Nodup := h.1
theorem gg_1 (h : gg_ok G mul one inv) : one ∈ G := h.2.1
theorem gg_m (h : gg_ok G mul one inv) {a b : Nat} (ha : a ∈ G) (hb : b ∈ G) : mul a b ∈ G := h.2.2.1 a ha b hb
theorem gg_i (h : gg_ok G mul one inv) {a : Nat} (ha : a ∈ G) : inv a ∈ G := h.2.2.2.1 a ha
theorem gg_as (h : gg_ok G mul one inv) (a b c : Nat) : mul (mul a b) c = mul a (mul b c) := h.2.2.2.2.1 a b c
theorem gg_l1 (h : gg_ok G mul one inv) {a : Nat} (ha : a ∈ G) : mul one a = a := h.2.2.2.2.2.1 a ha
theorem gg_r1 (h : gg_ok G mul one inv) {a : Nat} (ha : a ∈ G) : mul a one = a := h.2.2.2.2.2.2.1 a ha
theorem gg_li (h : gg_ok G mul one inv) {a : Nat} (ha : a ∈ G) : mul (inv a) a = one := h.2.2.2.2.2.2.2.1 a ha
theorem gg_ri (h : gg_ok G mul one inv) {a : Nat} (ha : a ∈ G) : mul a (inv a) = one := h.2.2.2.2.2.2.2.2 a ha
theorem gg_lc (h : gg_ok G mul one inv) {a b c : Nat} (ha : a ∈ G) (hb : b ∈ G) (hc : c ∈ G) (e : mul a b = mul a c) : b = c := by
  have e2 := congrArg (mul (inv a)) e
  rw [← gg_as h, ← gg_as h, gg_li h ha, gg_l1 h hb, gg_l1 h hc] at e2
  exact e2
theorem gg_rc (h : gg_ok G mul one inv) {a b c : Nat} (ha : a ∈ G) (hb : b ∈ G) (hc : c ∈ G) (e : mul b a = mul c a) : b = c := by
  have e2 := congrArg (fun z => mul z (inv a)) e
  simp only [gg_as h, gg_ri h ha, gg_r1 h hb, gg_r1 h hc] at e2
  exact e2
theorem gg_iu (h : gg_ok G mul one inv) {a b : Nat} (ha : a ∈ G) (hb : b ∈ G) (e : mul a b = one) : b = inv a :=
  gg_lc h ha hb (gg_i h ha) (e.trans (gg_ri h ha).symm)
theorem gg_ii (h : gg_ok G mul one inv) {a : Nat} (ha : a ∈ G) : inv (inv a) = a := (gg_iu h (gg_i h ha) ha (gg_li h ha)).symm
theorem gg_pm (h : gg_ok G mul one inv) {x : Nat} (hx : x ∈ G) : ∀ m : Nat, gg_pw mul one x m ∈ G
  | 0 => gg_1 h
  | m + 1 => gg_m h (gg_pm h hx m) hx
theorem gg_pa (h : gg_ok G mul one inv) {x : Nat} (hx : x ∈ G) (m : Nat) : ∀ n : Nat, gg_pw mul one x (m + n) = mul (gg_pw mul one x m) (gg_pw mul one x n)
  | 0 => (gg_r1 h (gg_pm h hx m)).symm
  | n + 1 => by
    show mul (gg_pw mul one x (m + n)) x = mul (gg_pw mul one x m) (mul (gg_pw mul one x n) x)
    rw [gg_pa h hx m n, gg_as h]
theorem gg_p1 (h : gg_ok G mul one inv) {x : Nat} (hx : x ∈ G) : gg_pw mul one x 1 = x := gg_l1 h hx
theorem gg_ps (h : gg_ok G mul one inv) {x : Nat} (hx : x ∈ G) (m : Nat) : gg_pw mul one x (m + 1) = mul x (gg_pw mul one x m) := by
  rw [Nat.add_comm, gg_pa h hx 1 m, gg_p1 h hx]
theorem gg_pz (h : gg_ok G mul one inv) {x : Nat} (hx : x ∈ G) {d : Nat} (hd : gg_pw mul one x d = one) : ∀ k : Nat, gg_pw mul one x (d * k) = one
  | 0 => rfl
  | k + 1 => by rw [Nat.mul_succ, gg_pa h hx, gg_pz h hx hd k, hd, gg_l1 h (gg_1 h)]
theorem gg_pmod (h : gg_ok G mul one inv) {x : Nat} (hx : x ∈ G) {d : Nat} (hd : gg_pw mul one x d = one) (m : Nat) : gg_pw mul one x m = gg_pw mul one x (m % d) := by
  have h3 : m = m % d + d * (m / d) := (Nat.mod_add_div m d).symm
  have h4 := gg_pa h hx (m % d) (d * (m / d))
  rw [← h3, gg_pz h hx hd, gg_r1 h (gg_pm h hx _)] at h4
  exact h4
-- every element has an order, it divides the size of the group
theorem gg_ex (h : gg_ok G mul one inv) {x : Nat} (hx : x ∈ G) : ∃ d, 0 < d ∧ gg_pw mul one x d = one := by
  by_cases hd : ((List.range (G.length + 1)).map (gg_pw mul one x)).Nodup
  · have h1 := hd.length_le_of_subset (l₂ := G) (fun y hy => by
      obtain ⟨k, _, rfl⟩ := List.mem_map.mp hy
      exact gg_pm h hx k)
    rw [List.length_map, List.length_range] at h1
    omega
  · have h2 : ∃ i j, i < j ∧ gg_pw mul one x i = gg_pw mul one x j := Classical.byContradiction fun hn => by
      apply hd
      refine List.pairwise_map.mpr (List.Pairwise.imp (fun {a b} hab he => hn ⟨a, b, hab, he⟩) List.pairwise_lt_range)
    obtain ⟨i, j, hij, he⟩ := h2
    refine ⟨j - i, by omega, ?_⟩
    have h3 := gg_pa h hx i (j - i)
    rw [show i + (j - i) = j by omega, ← he] at h3
    refine gg_lc h (gg_pm h hx i) (gg_pm h hx _) (gg_1 h) ?_
    rw [← h3, gg_r1 h (gg_pm h hx i)]
theorem gg_ord (h : gg_ok G mul one inv) {x : Nat} (hx : x ∈ G) : ∃ d, 0 < d ∧ gg_pw mul one x d = one ∧ (∀ j, 0 < j → j < d → gg_pw mul one x j ≠ one) ∧ d ∣ G.length := by
  obtain ⟨d, ⟨h0, h1⟩, hm⟩ := pk_least (fun d => 0 < d ∧ gg_pw mul one x d = one) (gg_ex h hx)
  have hit : ∀ (j y : Nat), y ∈ G → fa_it (fun z => mul z x) j y = mul y (gg_pw mul one x j) := by
    intro j
    induction j with
    | zero => intro y hy; exact (gg_r1 h hy).symm
    | succ j ih =>
      intro y hy
      show fa_it (fun z => mul z x) j (mul y x) = _
      rw [ih _ (gg_m h hy hx), gg_as h, gg_ps h hx]
  refine ⟨d, h0, h1, fun j hj hjd he => hm j hjd ⟨hj, he⟩, ?_⟩
  refine fa_div (fun z => mul z x) d h0 G.length G (Nat.le_refl _) (gg_nd h) (fun y hy => gg_m h hy hx) (fun y hy => ?_) (fun y hy j hj hjd he => ?_)
  · rw [hit d y hy, h1, gg_r1 h hy]
  · rw [hit j y hy] at he
    exact hm j hjd ⟨hj, gg_lc h hy (gg_pm h hx j) (gg_1 h) (he.trans (gg_r1 h hy).symm)⟩
theorem gg_lag (h : gg_ok G mul one inv) {x : Nat} (hx : x ∈ G) : gg_pw mul one x G.length = one := by
  obtain ⟨d, _, h1, _, ⟨k, hk⟩⟩ := gg_ord h hx
  rw [hk]
  exact gg_pz h hx h1 k
end GG
end
section
-- pure: sums over lists, in the integers
def si {α : Type} (f : α → Int) : List α → Int
  | [] => 0
  | a :: l => f a + si f l
def ib (b : Bool) : Int := if b = true then 1 else 0
theorem si_nil {α : Type} (f : α → Int) : si f [] = 0 := rfl
theorem si_cons {α : Type} (f : α → Int) (a : α) (l : List α) : si f (a :: l) = f a + si f l := rfl
theorem si_app {α : Type} (f : α → Int) : ∀ l l' : List α, si f (l ++ l') = si f l + si f l'
  | [], l' => by simp [si]
  | a :: l, l' => by rw [List.cons_append, si_cons, si_cons, si_app f l l', Int.add_assoc]
theorem si_map {α β : Type} (f : β → Int) (g : α → β) : ∀ l : List α, si f (l.map g) = si (fun a => f (g a)) l
  | [] => rfl
  | a :: l => by rw [List.map_cons, si_cons, si_cons, si_map f g l]
theorem si_flat {α β : Type} (f : β → Int) (g : α → List β) : ∀ l : List α, si f (l.flatMap g) = si (fun a => si f (g a)) l
  | [] => rfl
  | a :: l => by rw [List.flatMap_cons, si_app, si_cons, si_flat f g l]
theorem si_congr {α : Type} {f g : α → Int} : ∀ {l : List α}, (∀ a, a ∈ l → f a = g a) → si f l = si g l
  | [], _ => rfl
  | a :: l, h => by rw [si_cons, si_cons, h a List.mem_cons_self, si_congr (fun b hb => h b (List.mem_cons_of_mem _ hb))]
theorem si_0 {α : Type} : ∀ l : List α, si (fun _ => (0 : Int)) l = 0
  | [] => rfl
  | a :: l => by rw [si_cons, si_0 l]; rfl
theorem si_z {α : Type} {f : α → Int} {l : List α} (h : ∀ a, a ∈ l → f a = 0) : si f l = 0 := (si_congr h).trans (si_0 l)
theorem si_add {α : Type} (f g : α → Int) : ∀ l : List α, si (fun a => f a + g a) l = si f l + si g l
  | [] => rfl
  | a :: l => by rw [si_cons, si_cons, si_cons, si_add f g l]; omega
theorem si_sub {α : Type} (f g : α → Int) : ∀ l : List α, si (fun a => f a - g a) l = si f l - si g l
  | [] => rfl
  | a :: l => by rw [si_cons, si_cons, si_cons, si_sub f g l]; omega
theorem si_mul {α : Type} (c : Int) (f : α → Int) : ∀ l : List α, si (fun a => c * f a) l = c * si f l
  | [] => (Int.mul_zero c).symm
  | a :: l => by rw [si_cons, si_cons, si_mul c f l, Int.mul_add]
theorem si_mulr {α : Type} (c : Int) (f : α → Int) : ∀ l : List α, si (fun a => f a * c) l = si f l * c
  | [] => (Int.zero_mul c).symm
  | a :: l => by rw [si_cons, si_cons, si_mulr c f l, Int.add_mul]
theorem si_swap {α β : Type} (f : α → β → Int) (l' : List β) : ∀ l : List α, si (fun a => si (f a) l') l = si (fun b => si (fun a => f a b) l) l'
  | [] => (si_0 l').symm
  | a :: l => by rw [si_cons, si_swap f l' l, ← si_add]; rfl
theorem si_const {α : Type} (c : Int) : ∀ l : List α, si (fun _ => c) l = l.length * c
  | [] => by simp [si]
  | a :: l => by rw [si_cons, si_const c l, List.length_cons, Int.natCast_add, Int.add_mul]; simp; omega
theorem si_count {α : Type} (p : α → Bool) : ∀ l : List α, si (fun a => ib (p a)) l = (l.countP p : Int)
  | [] => rfl
  | a :: l => by
    rw [si_cons, si_count p l, List.countP_cons, ib]
    by_cases h : p a = true
    · rw [if_pos h, if_pos h, Int.natCast_add]; omega
    · rw [if_neg h, if_neg h]; simp
theorem si_filter {α : Type} (p : α → Bool) (f : α → Int) : ∀ l : List α, si f (l.filter p) = si (fun a => ib (p a) * f a) l
  | [] => rfl
  | a :: l => by
    rw [List.filter_cons, si_cons, ← si_filter p f l, ib]
    by_cases h : p a = true
    · rw [if_pos h, if_pos h, si_cons, Int.one_mul]
    · rw [if_neg h, if_neg h, Int.zero_mul, Int.zero_add]
theorem si_perm {α : Type} (f : α → Int) {l l' : List α} (h : l.Perm l') : si f l = si f l' := by
  induction h with
  | nil => rfl
  | cons x _ ih => rw [si_cons, si_cons, ih]
  | swap x y l => rw [si_cons, si_cons, si_cons, si_cons]; omega
  | trans _ _ ih1 ih2 => exact ih1.trans ih2
theorem si_one {α : Type} [DecidableEq α] (f : α → Int) (b : α) : ∀ {l : List α}, l.Nodup → b ∈ l → si (fun a => ib (decide (a = b)) * f a) l = f b
  | [], _, h => by simp at h
  | a :: l, hn, h => by
    rw [List.nodup_cons] at hn
    rw [si_cons]
    by_cases e : a = b
    · subst e
      rw [si_z (l := l) (fun x hx => ?_)]
      · simp [ib]
      · have : x ≠ a := fun h9 => hn.1 (h9 ▸ hx)
        simp [ib, this]
    · rcases List.mem_cons.mp h with h9 | h9
      · exact absurd h9.symm e
      · rw [si_one f b hn.2 h9]
        simp [ib, e]
-- by the number of a part: g sends each element to its part
theorem si_parts {α : Type} (f : Nat → Int) (g : α → Nat) (k : Nat) {l : List α} (h : ∀ a, a ∈ l → g a < k) : si (fun a => f (g a)) l = si (fun j => (l.countP (fun a => decide (g a = j)) : Int) * f j) (List.range k) := by
  have h1 : si (fun j => (l.countP (fun a => decide (g a = j)) : Int) * f j) (List.range k) = si (fun j => si (fun a => ib (decide (j = g a)) * f j) l) (List.range k) := by
    refine si_congr fun j _ => ?_
    rw [si_mulr, ← si_count]
    congr 1
    refine si_congr fun a _ => ?_
    by_cases e : g a = j
    · subst e; simp
    · simp [ib, e, Ne.symm e]
  rw [h1, si_swap]
  refine si_congr fun a ha => ?_
  exact (si_one f (g a) List.nodup_range (List.mem_range.mpr (h a ha))).symm
-- remainders
theorem dv_add {p a b : Int} (h1 : p ∣ a) (h2 : p ∣ b) : p ∣ a + b := Int.dvd_add h1 h2
theorem si_dvd {α : Type} {p : Int} {f : α → Int} : ∀ {l : List α}, (∀ a, a ∈ l → p ∣ f a) → p ∣ si f l
  | [], _ => Int.dvd_zero p
  | a :: l, h => Int.dvd_add (h a List.mem_cons_self) (si_dvd (fun b hb => h b (List.mem_cons_of_mem _ hb)))
theorem si_cong {α : Type} {p : Int} {f g : α → Int} {l : List α} (h : ∀ a, a ∈ l → p ∣ f a - g a) : p ∣ si f l - si g l := by
  rw [← si_sub]
  exact si_dvd h
end
section
-- pure: a group with its classes: k classes, kl sends an element to its class, re a class to an element of it
def kc_ok (G : List Nat) (mul : Nat → Nat → Nat) (one : Nat) (inv : Nat → Nat) (k : Nat) (kl : Nat → Nat) (re : Nat → Nat) : Prop :=
  gg_ok G mul one inv ∧ (∀ x, x ∈ G → kl x < k) ∧ (∀ i, i < k → re i ∈ G ∧ kl (re i) = i) ∧ (∀ x, x ∈ G → ∀ y, y ∈ G → (kl x = kl y ↔ ∃ g, g ∈ G ∧ mul g y = mul x g)) ∧ kl one = 0 ∧ 0 < k
section KC
variable {G : List Nat} {mul : Nat → Nat → Nat} {one : Nat} {inv : Nat → Nat} {k : Nat} {kl re : Nat → Nat}
theorem kc_g (h : kc_ok G mul one inv k kl re) : gg_ok G mul one inv := h.1
theorem kc_lt (h : kc_ok G mul one inv k kl re) {x : Nat} (hx : x ∈ G) : kl x < k := h.2.1 x hx
theorem kc_re (h : kc_ok G mul one inv k kl re) {i : Nat} (hi : i < k) : re i ∈ G := (h.2.2.1 i hi).1
theorem kc_kr (h : kc_ok G mul one inv k kl re) {i : Nat} (hi : i < k) : kl (re i) = i := (h.2.2.1 i hi).2
theorem kc_iff (h : kc_ok G mul one inv k kl re) {x y : Nat} (hx : x ∈ G) (hy : y ∈ G) : kl x = kl y ↔ ∃ g, g ∈ G ∧ mul g y = mul x g := h.2.2.2.1 x hx y hy
-- the conjugate of x by g
theorem kc_conj (h : kc_ok G mul one inv k kl re) {x g : Nat} (hx : x ∈ G) (hg : g ∈ G) : kl (mul (mul (inv g) x) g) = kl x := by
  have hG := kc_g h
  refine (kc_iff h (gg_m hG (gg_m hG (gg_i hG hg) hx) hg) hx).mpr ⟨inv g, gg_i hG hg, ?_⟩
  rw [gg_as hG (mul (inv g) x) g, gg_ri hG hg, gg_r1 hG (gg_m hG (gg_i hG hg) hx)]
-- x y and y x are in one class
theorem kc_comm (h : kc_ok G mul one inv k kl re) {x y : Nat} (hx : x ∈ G) (hy : y ∈ G) : kl (mul x y) = kl (mul y x) := by
  have hG := kc_g h
  exact (kc_iff h (gg_m hG hx hy) (gg_m hG hy hx)).mpr ⟨x, hx, (gg_as hG x y x).symm⟩
-- how many x of class i have x^-1 z in class j
def kc_n (G : List Nat) (mul : Nat → Nat → Nat) (inv kl : Nat → Nat) (i j z : Nat) : Nat := G.countP (fun x => decide (kl x = i) && decide (kl (mul (inv x) z) = j))
-- a permutation of the group that keeps a property keeps its count
theorem gg_cnt (hG : gg_ok G mul one inv) {p q : Nat → Bool} (f : Nat → Nat) (hf : ∀ x, x ∈ G → f x ∈ G) (hi : ∀ x, x ∈ G → ∀ y, y ∈ G → f x = f y → x = y) (hpq : ∀ x, x ∈ G → p x = q (f x)) : G.countP p = G.countP q := by
  have hnd := gg_nd hG
  have hm : (G.map f).Nodup := List.pairwise_map.mpr (List.Pairwise.imp_of_mem (fun {a b} ha hb hab he => hab (hi a ha b hb he)) hnd)
  have hp : (G.map f).Perm G := by
    have hsub : G.map f ⊆ G := fun y hy => by obtain ⟨x, hx, rfl⟩ := List.mem_map.mp hy; exact hf x hx
    refine (List.perm_ext_iff_of_nodup hm hnd).mpr fun a => ⟨fun h => hsub h, fun ha => Classical.byContradiction fun hn => ?_⟩
    have h1 : (a :: G.map f).Nodup := List.nodup_cons.mpr ⟨hn, hm⟩
    have h2 := h1.length_le_of_subset (l₂ := G) (fun y hy => by
      rcases List.mem_cons.mp hy with rfl | hy
      · exact ha
      · exact hsub hy)
    rw [List.length_cons, List.length_map] at h2
    omega
  rw [← hp.countP_eq q, List.countP_map]
  exact List.countP_congr fun x hx => by rw [hpq x hx]; rfl
theorem kc_n_conj (h : kc_ok G mul one inv k kl re) {z z' : Nat} (hz : z ∈ G) (hz' : z' ∈ G) (he : kl z = kl z') (i j : Nat) : kc_n G mul inv kl i j z = kc_n G mul inv kl i j z' := by
  have hG := kc_g h
  obtain ⟨g, hg, e⟩ := (kc_iff h hz hz').mp he
  -- z' = g^-1 z g
  have e2 : z' = mul (mul (inv g) z) g := by
    rw [gg_as hG, ← e, ← gg_as hG, gg_li hG hg, gg_l1 hG hz']
  refine gg_cnt hG (fun x => mul (mul (inv g) x) g) (fun x hx => gg_m hG (gg_m hG (gg_i hG hg) hx) hg) (fun x hx y hy exy => ?_) (fun x hx => ?_)
  · exact gg_lc hG (gg_i hG hg) hx hy (gg_rc hG hg (gg_m hG (gg_i hG hg) hx) (gg_m hG (gg_i hG hg) hy) exy)
  · have hc : mul (inv g) (mul x g) ∈ G := gg_m hG (gg_i hG hg) (gg_m hG hx hg)
    have h1 : inv (mul (mul (inv g) x) g) = mul (mul (inv g) (inv x)) g := by
      refine (gg_iu hG (gg_m hG (gg_m hG (gg_i hG hg) hx) hg) (gg_m hG (gg_m hG (gg_i hG hg) (gg_i hG hx)) hg) ?_).symm
      rw [gg_as hG, ← gg_as hG g, ← gg_as hG g, gg_ri hG hg, gg_l1 hG (gg_i hG hx), gg_as hG, ← gg_as hG x, gg_ri hG hx, gg_l1 hG hg, gg_li hG hg]
    have h2 : mul (inv (mul (mul (inv g) x) g)) z' = mul (mul (inv g) (mul (inv x) z)) g := by
      rw [h1, e2, gg_as hG, ← gg_as hG g, ← gg_as hG g, gg_ri hG hg, gg_l1 hG hz, gg_as hG, gg_as hG, gg_as hG]
    rw [kc_conj h hx hg, h2, kc_conj h (gg_m hG (gg_i hG hx) hz) hg]
theorem gg_inv_z (hG : gg_ok G mul one inv) {x z : Nat} (hx : x ∈ G) (hz : z ∈ G) : mul (inv (mul (inv x) z)) z = mul (mul (inv z) x) z := by
  have h1 : inv (mul (inv x) z) = mul (inv z) x := by
    refine (gg_iu hG (gg_m hG (gg_i hG hx) hz) (gg_m hG (gg_i hG hz) hx) ?_).symm
    rw [gg_as hG, ← gg_as hG z, gg_ri hG hz, gg_l1 hG hx, gg_li hG hx]
  rw [h1]
theorem kc_n_comm (h : kc_ok G mul one inv k kl re) {z : Nat} (hz : z ∈ G) (i j : Nat) : kc_n G mul inv kl i j z = kc_n G mul inv kl j i z := by
  have hG := kc_g h
  refine gg_cnt hG (fun x => mul (inv x) z) (fun x hx => gg_m hG (gg_i hG hx) hz) (fun x hx y hy e => ?_) (fun x hx => ?_)
  · have e1 : inv x = inv y := gg_rc hG hz (gg_i hG hx) (gg_i hG hy) e
    rw [← gg_ii hG hx, e1, gg_ii hG hy]
  · rw [gg_inv_z hG hx hz, kc_conj h hx hz, Bool.and_comm]
-- the constants
def kc_a (G : List Nat) (mul : Nat → Nat → Nat) (inv kl re : Nat → Nat) (i j l : Nat) : Int := (kc_n G mul inv kl i j (re l) : Int)
theorem kc_a_z (h : kc_ok G mul one inv k kl re) {z : Nat} (hz : z ∈ G) (i j : Nat) : kc_a G mul inv kl re i j (kl z) = (kc_n G mul inv kl i j z : Int) := by
  unfold kc_a
  rw [kc_n_conj h (kc_re h (kc_lt h hz)) hz (kc_kr h (kc_lt h hz)) i j]
theorem kc_a_comm (h : kc_ok G mul one inv k kl re) {l : Nat} (hl : l < k) (i j : Nat) : kc_a G mul inv kl re i j l = kc_a G mul inv kl re j i l := by
  unfold kc_a
  rw [kc_n_comm h (kc_re h hl)]
theorem kc_sum (h : kc_ok G mul one inv k kl re) {z : Nat} (hz : z ∈ G) (i : Nat) (f : Nat → Int) : si (fun x => ib (decide (kl x = i)) * f (kl (mul (inv x) z))) G = si (fun j => (kc_n G mul inv kl i j z : Int) * f j) (List.range k) := by
  have hG := kc_g h
  rw [← si_filter (fun x => decide (kl x = i)) (fun x => f (kl (mul (inv x) z))) G]
  rw [si_parts f (fun x => kl (mul (inv x) z)) k (fun x hx => kc_lt h (gg_m hG (gg_i hG (List.mem_filter.mp hx).1) hz))]
  refine si_congr fun j _ => ?_
  congr 2
  rw [List.countP_filter]
  unfold kc_n
  refine List.countP_congr fun x _ => ?_
  rw [Bool.and_comm]
theorem si_bij (hG : gg_ok G mul one inv) (f : Nat → Int) (g : Nat → Nat) (hf : ∀ x, x ∈ G → g x ∈ G) (hi : ∀ x, x ∈ G → ∀ y, y ∈ G → g x = g y → x = y) : si (fun x => f (g x)) G = si f G := by
  have hnd := gg_nd hG
  have hm : (G.map g).Nodup := List.pairwise_map.mpr (List.Pairwise.imp_of_mem (fun {a b} ha hb hab he => hab (hi a ha b hb he)) hnd)
  have hp : (G.map g).Perm G := by
    have hsub : G.map g ⊆ G := fun y hy => by obtain ⟨x, hx, rfl⟩ := List.mem_map.mp hy; exact hf x hx
    refine (List.perm_ext_iff_of_nodup hm hnd).mpr fun a => ⟨fun h => hsub h, fun ha => Classical.byContradiction fun hn => ?_⟩
    have h1 : (a :: G.map g).Nodup := List.nodup_cons.mpr ⟨hn, hm⟩
    have h2 := h1.length_le_of_subset (l₂ := G) (fun y hy => by
      rcases List.mem_cons.mp hy with rfl | hy
      · exact ha
      · exact hsub hy)
    rw [List.length_cons, List.length_map] at h2
    omega
  rw [← si_map f g G]
  exact si_perm f hp
-- associativity
theorem kc_assoc (h : kc_ok G mul one inv k kl re) {l : Nat} (hl : l < k) (i j q : Nat) : si (fun m => kc_a G mul inv kl re i m l * kc_a G mul inv kl re j q m) (List.range k) = si (fun m => kc_a G mul inv kl re i j m * kc_a G mul inv kl re m q l) (List.range k) := by
  have hG := kc_g h
  have hz := kc_re h hl
  -- the left side
  have e1 : si (fun m => kc_a G mul inv kl re i m l * kc_a G mul inv kl re j q m) (List.range k) = si (fun x => ib (decide (kl x = i)) * si (fun y => ib (decide (kl y = j)) * ib (decide (kl (mul (inv y) (mul (inv x) (re l))) = q))) G) G := by
    have := kc_sum h hz i (fun m => kc_a G mul inv kl re j q m)
    unfold kc_a at this ⊢
    rw [← this]
    refine si_congr fun x hx => ?_
    congr 1
    have hxz := gg_m hG (gg_i hG hx) hz
    have h3 := kc_a_z h hxz j q
    unfold kc_a at h3
    rw [h3]
    unfold kc_n
    rw [← si_count]
    refine si_congr fun y _ => ?_
    unfold ib
    cases decide (kl y = j) <;> cases decide (kl (mul (inv y) (mul (inv x) (re l))) = q) <;> rfl
  -- the right side
  have e2 : si (fun m => kc_a G mul inv kl re i j m * kc_a G mul inv kl re m q l) (List.range k) = si (fun u => ib (decide (kl (mul (inv u) (re l)) = q)) * (kc_n G mul inv kl i j u : Int)) G := by
    have h4 : ∀ m, m < k → kc_a G mul inv kl re i j m * kc_a G mul inv kl re m q l = si (fun u => ib (decide (m = kl u)) * (ib (decide (kl (mul (inv u) (re l)) = q)) * kc_a G mul inv kl re i j m)) G := by
      intro m hm
      have h5 : kc_a G mul inv kl re m q l = si (fun u => ib (decide (kl u = m) && decide (kl (mul (inv u) (re l)) = q))) G := by
        unfold kc_a kc_n
        rw [si_count]
      rw [h5, ← si_mul]
      refine si_congr fun u _ => ?_
      have h6 : decide (kl u = m) = decide (m = kl u) := by
        by_cases e : kl u = m
        · simp [e]
        · simp [e, Ne.symm e]
      rw [h6]
      unfold ib
      cases decide (m = kl u) <;> cases decide (kl (mul (inv u) (re l)) = q) <;> simp
    rw [si_congr (fun m hm => h4 m (List.mem_range.mp hm)), si_swap]
    refine si_congr fun u hu => ?_
    have h7 := si_one (fun m => ib (decide (kl (mul (inv u) (re l)) = q)) * kc_a G mul inv kl re i j m) (kl u) List.nodup_range (List.mem_range.mpr (kc_lt h hu))
    rw [kc_a_z h hu] at h7
    exact h7
  rw [e1, e2]
  -- both count the pairs x, y
  have e3 : ∀ u, u ∈ G → ib (decide (kl (mul (inv u) (re l)) = q)) * (kc_n G mul inv kl i j u : Int) = si (fun x => ib (decide (kl x = i)) * (ib (decide (kl (mul (inv x) u) = j)) * ib (decide (kl (mul (inv u) (re l)) = q)))) G := by
    intro u _
    unfold kc_n
    rw [← si_count, ← si_mul]
    refine si_congr fun x _ => ?_
    unfold ib
    cases decide (kl x = i) <;> cases decide (kl (mul (inv x) u) = j) <;> cases decide (kl (mul (inv u) (re l)) = q) <;> rfl
  rw [si_congr e3, si_swap]
  refine si_congr fun x hx => ?_
  rw [si_mul]
  congr 1
  rw [← si_bij hG (fun u => ib (decide (kl (mul (inv x) u) = j)) * ib (decide (kl (mul (inv u) (re l)) = q))) (fun y => mul x y) (fun y hy => gg_m hG hx hy) (fun y hy y' hy' e => gg_lc hG hx hy hy' e)]
  refine si_congr fun y hy => ?_
  have h8 : mul (inv x) (mul x y) = y := by rw [← gg_as hG, gg_li hG hx, gg_l1 hG hy]
  have h9 : inv (mul x y) = mul (inv y) (inv x) := by
    refine (gg_iu hG (gg_m hG hx hy) (gg_m hG (gg_i hG hy) (gg_i hG hx)) ?_).symm
    rw [gg_as hG, ← gg_as hG y, gg_ri hG hy, gg_l1 hG (gg_i hG hx), gg_ri hG hx]
  rw [h8, h9, gg_as hG]
end KC
end
section
-- pure: the p-th power of a class sum is that class sum, modulo p (p prime, x^p = x for every element)
def tp_pr (mul : Nat → Nat → Nat) (one : Nat) : List Nat → Nat
  | [] => one
  | g :: t => mul g (tp_pr mul one t)
section FR
variable {G : List Nat} {mul : Nat → Nat → Nat} {one : Nat} {inv : Nat → Nat} {k : Nat} {kl re : Nat → Nat}
theorem tp_prm (hG : gg_ok G mul one inv) : ∀ t : List Nat, (∀ g, g ∈ t → g ∈ G) → tp_pr mul one t ∈ G
  | [], _ => gg_1 hG
  | g :: t, h => gg_m hG (h g List.mem_cons_self) (tp_prm hG t (fun x hx => h x (List.mem_cons_of_mem _ hx)))
theorem tp_pr1 (hG : gg_ok G mul one inv) {g : Nat} (hg : g ∈ G) : ∀ t : List Nat, (∀ g, g ∈ t → g ∈ G) → tp_pr mul one (t ++ [g]) = mul (tp_pr mul one t) g
  | [], _ => by
    show mul g one = mul one g
    rw [gg_r1 hG hg, gg_l1 hG hg]
  | x :: t, h => by
    show mul x (tp_pr mul one (t ++ [g])) = mul (mul x (tp_pr mul one t)) g
    rw [tp_pr1 hG hg t (fun y hy => h y (List.mem_cons_of_mem _ hy)), gg_as hG]
theorem tp_prr (h : kc_ok G mul one inv k kl re) : ∀ t : List Nat, (∀ g, g ∈ t → g ∈ G) → kl (tp_pr mul one (tp_rot t)) = kl (tp_pr mul one t)
  | [], _ => rfl
  | g :: t, ht => by
    have hG := kc_g h
    have hg := ht g List.mem_cons_self
    have ht2 : ∀ x, x ∈ t → x ∈ G := fun x hx => ht x (List.mem_cons_of_mem _ hx)
    show kl (tp_pr mul one (t ++ [g])) = kl (mul g (tp_pr mul one t))
    rw [tp_pr1 hG hg t ht2]
    exact kc_comm h (tp_prm hG t ht2) hg
theorem tp_prc (hG : gg_ok G mul one inv) {g : Nat} (hg : g ∈ G) : ∀ m : Nat, tp_pr mul one (List.replicate m g) = gg_pw mul one g m
  | 0 => rfl
  | m + 1 => by
    rw [List.replicate_succ, gg_ps hG hg m]
    show mul g (tp_pr mul one (List.replicate m g)) = _
    rw [tp_prc hG hg m]
theorem tp_cong (hG : gg_ok G mul one inv) {C : List Nat} (hC : C.Nodup) (hCG : ∀ g, g ∈ C → g ∈ G) {p : Nat} (hp1 : 1 < p) (hp : ∀ m, m ∣ p → m = 1 ∨ m = p) (P : Nat → Bool)
    (hP : ∀ t : List Nat, (∀ g, g ∈ t → g ∈ G) → P (tp_pr mul one (tp_rot t)) = P (tp_pr mul one t)) :
    (p : Int) ∣ ((tp_all C p).countP (fun t => P (tp_pr mul one t)) : Int) - (C.countP (fun g => P (gg_pw mul one g p)) : Int) := by
  have h1 := tp_cong0 hC hp1 hp (fun t => P (tp_pr mul one t)) (fun t ht => hP t (fun g hg => hCG g (ht g hg)))
  have h2 : C.countP (fun g => P (tp_pr mul one (List.replicate p g))) = C.countP (fun g => P (gg_pw mul one g p)) := List.countP_congr fun g hg => by rw [tp_prc hG (hCG g hg)]
  rw [h2] at h1
  exact h1
-- counting the tuples with a product
def tp_N (mul : Nat → Nat → Nat) (one : Nat) (C : List Nat) (m z : Nat) : Int := si (fun t => ib (decide (tp_pr mul one t = z))) (tp_all C m)
theorem tp_Ns (hG : gg_ok G mul one inv) {C : List Nat} (hCG : ∀ g, g ∈ C → g ∈ G) (m : Nat) {z : Nat} (hz : z ∈ G) : tp_N mul one C (m + 1) z = si (fun g => tp_N mul one C m (mul (inv g) z)) C := by
  unfold tp_N
  show si _ ((tp_all C m).flatMap (fun t => C.map (fun g => g :: t))) = _
  rw [si_flat]
  have h1 : ∀ t, t ∈ tp_all C m → si (fun t => ib (decide (tp_pr mul one t = z))) (C.map (fun g => g :: t)) = si (fun g => ib (decide (tp_pr mul one t = mul (inv g) z))) C := by
    intro t ht
    rw [si_map]
    refine si_congr fun g hg => ?_
    have hgG := hCG g hg
    have htG : tp_pr mul one t ∈ G := tp_prm hG t (fun x hx => hCG x (((tp_mem C m t).mp ht).2 x hx))
    congr 1
    apply decide_eq_decide.mpr
    show mul g (tp_pr mul one t) = z ↔ _
    constructor
    · intro e; rw [← e, ← gg_as hG, gg_li hG hgG, gg_l1 hG htG]
    · intro e; rw [e, ← gg_as hG, gg_ri hG hgG, gg_l1 hG hz]
  rw [si_congr h1, si_swap]
theorem tp_N0 (z : Nat) (C : List Nat) : tp_N mul one C 0 z = ib (decide (one = z)) := by
  unfold tp_N
  show ib (decide (tp_pr mul one [] = z)) + 0 = _
  rw [Int.add_zero]
  rfl
-- p does not divide the size of the group
theorem tp_NG (hG : gg_ok G mul one inv) : ∀ m : Nat, ∃ c : Int, ∀ z, z ∈ G → tp_N mul one G (m + 1) z = c
  | 0 => by
    refine ⟨1, fun z hz => ?_⟩
    rw [tp_Ns hG (fun g hg => hg) 0 hz]
    have h1 : si (fun g => tp_N mul one G 0 (mul (inv g) z)) G = si (fun g => ib (decide (g = z)) * 1) G := by
      refine si_congr fun g hg => ?_
      rw [tp_N0, Int.mul_one]
      congr 1
      apply decide_eq_decide.mpr
      constructor
      · intro e; rw [← gg_r1 hG hg, e, ← gg_as hG, gg_ri hG hg, gg_l1 hG hz]
      · intro e; rw [← e, gg_li hG hg]
    rw [h1]
    exact si_one (fun _ => (1 : Int)) z (gg_nd hG) hz
  | m + 1 => by
    obtain ⟨c, hc⟩ := tp_NG hG m
    refine ⟨G.length * c, fun z hz => ?_⟩
    rw [tp_Ns hG (fun g hg => hg) (m + 1) hz, si_congr (fun g hg => hc _ (gg_m hG (gg_i hG hg) hz)), si_const]
theorem gg_np (hG : gg_ok G mul one inv) {p : Nat} (hp1 : 1 < p) (hp : ∀ m, m ∣ p → m = 1 ∨ m = p) (hpw : ∀ x, x ∈ G → gg_pw mul one x p = x) : ¬ p ∣ G.length := by
  intro hd
  have h1 := tp_cong hG (gg_nd hG) (fun g hg => hg) hp1 hp (fun z => decide (z = one)) (fun t ht => by
    apply decide_eq_decide.mpr
    cases t with
    | nil => rfl
    | cons g t =>
      have hg := ht g List.mem_cons_self
      have ht2 : ∀ x, x ∈ t → x ∈ G := fun x hx => ht x (List.mem_cons_of_mem _ hx)
      have htG := tp_prm hG t ht2
      show tp_pr mul one (t ++ [g]) = one ↔ mul g (tp_pr mul one t) = one
      rw [tp_pr1 hG hg t ht2]
      constructor
      · intro e
        have := gg_iu hG htG hg e
        rw [this, gg_li hG htG]
      · intro e
        have := gg_iu hG hg htG e
        rw [this, gg_li hG hg])
  have h2 : G.countP (fun g => decide (gg_pw mul one g p = one)) = 1 := by
    have h3 : G.countP (fun g => decide (gg_pw mul one g p = one)) = G.countP (fun g => decide (g = one)) := List.countP_congr fun g hg => by rw [hpw g hg]
    rw [h3]
    have h4 := si_count (fun g => decide (g = one)) G
    have h5 := si_one (fun _ => (1 : Int)) one (gg_nd hG) (gg_1 hG)
    simp only [Int.mul_one] at h5
    rw [h5] at h4
    omega
  rw [h2, ← si_count] at h1
  obtain ⟨c, hc⟩ := tp_NG hG (p - 2)
  have h6 : tp_N mul one G p one = G.length * c := by
    rw [show p = (p - 2 + 1) + 1 by omega, tp_Ns hG (fun g hg => hg) (p - 2 + 1) (gg_1 hG), si_congr (fun g hg => hc _ (gg_m hG (gg_i hG hg) (gg_1 hG))), si_const]
  unfold tp_N at h6
  rw [h6] at h1
  obtain ⟨d, hd⟩ := hd
  rw [hd, Int.natCast_mul, Int.mul_assoc] at h1
  have h7 : (p : Int) ∣ (p : Int) * ((d : Int) * c) := Int.dvd_mul_right _ _
  have h8 : (p : Int) ∣ 1 := by
    have h9 := Int.dvd_sub h7 h1
    have h10 : (p : Int) * ((d : Int) * c) - ((p : Int) * ((d : Int) * c) - ((1 : Nat) : Int)) = 1 := by omega
    rw [h10] at h9
    exact h9
  have h11 : (p : Int) ≤ 1 := Int.le_of_dvd (by decide) h8
  omega
end FR
end
section
-- pure: sizes of classes; the operator of a class; its p-th power is itself, modulo p
def kc_s (G : List Nat) (kl : Nat → Nat) (i : Nat) : Nat := G.countP (fun x => decide (kl x = i))
def kc_B (G : List Nat) (mul : Nat → Nat → Nat) (inv kl re : Nat → Nat) (k i : Nat) : Nat → Nat → Int
  | 0, l => ib (decide (l = 0))
  | m + 1, l => si (fun j => kc_a G mul inv kl re i j l * kc_B G mul inv kl re k i m j) (List.range k)
def kc_op (G : List Nat) (mul : Nat → Nat → Nat) (inv kl re : Nat → Nat) (k i : Nat) (v : Nat → Int) (q : Nat) : Int := si (fun l => kc_a G mul inv kl re i q l * v l) (List.range k)
section PW
variable {G : List Nat} {mul : Nat → Nat → Nat} {one : Nat} {inv : Nat → Nat} {k : Nat} {kl re : Nat → Nat}
theorem kc_stab (h : kc_ok G mul one inv k kl re) {l : Nat} (hl : l < k) : kc_s G kl l * G.countP (fun g => decide (mul g (re l) = mul (re l) g)) = G.length := by
  have hG := kc_g h
  have hx := kc_re h hl
  have h1 : ∀ y, y ∈ G → kl y = l → G.countP (fun g => decide (mul g y = mul (re l) g)) = G.countP (fun g => decide (mul g (re l) = mul (re l) g)) := by
    intro y hy hyl
    obtain ⟨c, hc, e⟩ := (kc_iff h hx hy).mp (by rw [kc_kr h hl, hyl])
    refine (gg_cnt hG (fun g => mul g c) (fun g hg => gg_m hG hg hc) (fun a ha b hb e9 => gg_rc hG hc ha hb e9) (fun g hg => ?_)).symm
    apply decide_eq_decide.mpr
    show mul g (re l) = mul (re l) g ↔ mul (mul g c) y = mul (re l) (mul g c)
    rw [gg_as hG g c y, e, ← gg_as hG g, ← gg_as hG (re l)]
    constructor
    · intro e9; rw [e9]
    · intro e9; exact gg_rc hG hc (gg_m hG hg hx) (gg_m hG hx hg) e9
  have h2 : si (fun y => ib (decide (kl y = l)) * si (fun g => ib (decide (mul g y = mul (re l) g))) G) G = (kc_s G kl l : Int) * (G.countP (fun g => decide (mul g (re l) = mul (re l) g)) : Int) := by
    unfold kc_s
    rw [← si_count (fun x => decide (kl x = l)) G, ← si_mulr]
    refine si_congr fun y hy => ?_
    by_cases e : kl y = l
    · rw [si_count, h1 y hy e]
    · simp [ib, e]
  have h3 : si (fun y => ib (decide (kl y = l)) * si (fun g => ib (decide (mul g y = mul (re l) g))) G) G = si (fun g => si (fun y => ib (decide (y = mul (mul (inv g) (re l)) g)) * 1) G) G := by
    rw [← si_swap]
    refine si_congr fun y hy => ?_
    rw [← si_mul]
    refine si_congr fun g hg => ?_
    rw [Int.mul_one]
    have h4 : mul g y = mul (re l) g ↔ y = mul (mul (inv g) (re l)) g := by
      constructor
      · intro e; rw [gg_as hG, ← e, ← gg_as hG, gg_li hG hg, gg_l1 hG hy]
      · intro e; rw [e, ← gg_as hG, ← gg_as hG, gg_ri hG hg, gg_l1 hG hx]
    by_cases e : y = mul (mul (inv g) (re l)) g
    · have e2 : kl y = l := by rw [e, kc_conj h hx hg, kc_kr h hl]
      simp [ib, h4.mpr e, e2, ← e]
    · have e3 : ¬ mul g y = mul (re l) g := fun e9 => e (h4.mp e9)
      simp [ib, e, e3]
  rw [h3] at h2
  have h5 : si (fun g => si (fun y => ib (decide (y = mul (mul (inv g) (re l)) g)) * 1) G) G = si (fun _ => (1 : Int)) G := si_congr fun g hg => si_one (fun _ => (1 : Int)) _ (gg_nd hG) (gg_m hG (gg_m hG (gg_i hG hg) hx) hg)
  rw [h5, si_const, Int.mul_one, ← Int.natCast_mul] at h2
  exact (Int.ofNat.inj h2).symm
theorem kc_one (h : kc_ok G mul one inv k kl re) {x : Nat} (hx : x ∈ G) : kl x = 0 ↔ x = one := by
  have hG := kc_g h
  have h0 : kl one = 0 := h.2.2.2.2.1
  constructor
  · intro e
    obtain ⟨g, hg, e2⟩ := (kc_iff h hx (gg_1 hG)).mp (e.trans h0.symm)
    rw [gg_r1 hG hg] at e2
    exact gg_rc hG hg hx (gg_1 hG) (by rw [← e2, gg_l1 hG hg])
  · rintro rfl; exact h0
theorem fr_B (h : kc_ok G mul one inv k kl re) (i : Nat) : ∀ (m z : Nat), z ∈ G → tp_N mul one (G.filter (fun x => decide (kl x = i))) m z = kc_B G mul inv kl re k i m (kl z)
  | 0, z, hz => by
    rw [tp_N0]
    show _ = ib (decide (kl z = 0))
    congr 1
    apply decide_eq_decide.mpr
    rw [kc_one h hz]
    exact eq_comm
  | m + 1, z, hz => by
    have hG := kc_g h
    rw [tp_Ns hG (fun g hg => (List.mem_filter.mp hg).1) m hz, si_filter]
    have h1 : si (fun x => ib (decide (kl x = i)) * tp_N mul one (G.filter (fun x => decide (kl x = i))) m (mul (inv x) z)) G = si (fun x => ib (decide (kl x = i)) * kc_B G mul inv kl re k i m (kl (mul (inv x) z))) G := si_congr fun x hx => by rw [fr_B h i m _ (gg_m hG (gg_i hG hx) hz)]
    rw [h1, kc_sum h hz i]
    show _ = si (fun j => kc_a G mul inv kl re i j (kl z) * kc_B G mul inv kl re k i m j) (List.range k)
    refine si_congr fun j _ => ?_
    rw [kc_a_z h hz]
theorem fr_cnt (h : kc_ok G mul one inv k kl re) (i p l : Nat) : ((tp_all (G.filter (fun x => decide (kl x = i))) p).countP (fun t => decide (kl (tp_pr mul one t) = l)) : Int) = (kc_s G kl l : Int) * kc_B G mul inv kl re k i p l := by
  have hG := kc_g h
  have hin : ∀ t, t ∈ tp_all (G.filter (fun x => decide (kl x = i))) p → tp_pr mul one t ∈ G := fun t ht => tp_prm hG t fun g hg => (List.mem_filter.mp (((tp_mem _ p t).mp ht).2 g hg)).1
  rw [← si_count]
  have h1 : si (fun t => ib (decide (kl (tp_pr mul one t) = l))) (tp_all (G.filter (fun x => decide (kl x = i))) p) = si (fun t => si (fun z => ib (decide (z = tp_pr mul one t)) * ib (decide (kl z = l))) G) (tp_all (G.filter (fun x => decide (kl x = i))) p) := si_congr fun t ht => (si_one (fun z => ib (decide (kl z = l))) (tp_pr mul one t) (gg_nd hG) (hin t ht)).symm
  rw [h1, si_swap]
  unfold kc_s
  rw [← si_count (fun x => decide (kl x = l)) G, ← si_mulr]
  refine si_congr fun z hz => ?_
  by_cases e : kl z = l
  · have h2 := fr_B h i p z hz
    rw [e] at h2
    rw [← h2]
    unfold tp_N
    rw [si_mulr]
    rw [Int.mul_comm]
    congr 1
    refine si_congr fun t _ => ?_
    congr 1
    apply decide_eq_decide.mpr
    exact eq_comm
  · have h3 : ib (decide (kl z = l)) = 0 := by simp [ib, e]
    rw [h3, Int.zero_mul]
    exact si_z fun t _ => by rw [Int.mul_zero]
theorem nt_euclid {p : Nat} (hp : ∀ m, m ∣ p → m = 1 ∨ m = p) {a : Nat} (ha : ¬ p ∣ a) {b : Int} (h : (p : Int) ∣ (a : Int) * b) : (p : Int) ∣ b := by
  have hc : Nat.gcd p a = 1 := by
    rcases hp _ (Nat.gcd_dvd_left p a) with e | e
    · exact e
    · exact absurd (e ▸ Nat.gcd_dvd_right p a) ha
  have h1 : p ∣ a * b.natAbs := by
    have := Int.natAbs_dvd_natAbs.mpr h
    rwa [Int.natAbs_mul, Int.natAbs_natCast, Int.natAbs_natCast] at this
  have h2 : p ∣ b.natAbs := Nat.Coprime.dvd_of_dvd_mul_left hc h1
  exact Int.dvd_natAbs.mp (Int.ofNat_dvd.mpr h2)
theorem fr_Bp (h : kc_ok G mul one inv k kl re) {p : Nat} (hp1 : 1 < p) (hp : ∀ m, m ∣ p → m = 1 ∨ m = p) (hpw : ∀ x, x ∈ G → gg_pw mul one x p = x) {i l : Nat} (hl : l < k) : (p : Int) ∣ kc_B G mul inv kl re k i p l - ib (decide (l = i)) := by
  have hG := kc_g h
  have hn := gg_np hG hp1 hp hpw
  have hs : ¬ p ∣ kc_s G kl l := fun hd => hn (by rw [← kc_stab h hl]; exact Nat.dvd_trans hd (Nat.dvd_mul_right _ _))
  refine nt_euclid hp hs ?_
  have h1 := tp_cong hG (C := G.filter (fun x => decide (kl x = i))) ((gg_nd hG).sublist List.filter_sublist) (fun g hg => (List.mem_filter.mp hg).1) hp1 hp (fun z => decide (kl z = l)) (fun t ht => by rw [tp_prr h t ht])
  rw [fr_cnt h] at h1
  have h2 : ((G.filter (fun x => decide (kl x = i))).countP (fun g => decide (kl (gg_pw mul one g p) = l)) : Int) = (kc_s G kl l : Int) * ib (decide (l = i)) := by
    have h3 : (G.filter (fun x => decide (kl x = i))).countP (fun g => decide (kl (gg_pw mul one g p) = l)) = (G.filter (fun x => decide (kl x = i))).countP (fun g => decide (kl g = l)) := List.countP_congr fun g hg => by rw [hpw g (List.mem_filter.mp hg).1]
    rw [h3, List.countP_filter]
    unfold kc_s
    by_cases e : l = i
    · subst e
      simp [ib]
    · have h4 : List.countP (fun a => decide (kl a = l) && decide (kl a = i)) G = 0 := by
        rw [List.countP_eq_zero]
        intro a _
        simp
        intro e1 e2
        exact e (e1.symm.trans e2)
      rw [h4]
      simp [ib, e]
  rw [h2, ← Int.mul_sub] at h1
  exact h1
-- the operators
theorem kc_a0 (h : kc_ok G mul one inv k kl re) {q l : Nat} (hl : l < k) : kc_a G mul inv kl re 0 q l = ib (decide (l = q)) := by
  have hG := kc_g h
  unfold kc_a kc_n
  rw [← si_count]
  have h1 : ∀ x, x ∈ G → ib (decide (kl x = 0) && decide (kl (mul (inv x) (re l)) = q)) = ib (decide (x = one)) * ib (decide (l = q)) := by
    intro x hx
    by_cases e : x = one
    · subst e
      have e1 : inv x = x := (gg_iu hG hx hx (gg_l1 hG hx)).symm
      have e2 : kl x = 0 := h.2.2.2.2.1
      rw [e1, gg_l1 hG (kc_re h hl), kc_kr h hl]
      simp [ib, e2]
    · have e1 : ¬ kl x = 0 := fun e9 => e ((kc_one h hx).mp e9)
      simp [ib, e, e1]
  rw [si_congr h1]
  exact si_one (fun _ => ib (decide (l = q))) one (gg_nd hG) (gg_1 hG)
theorem kc_op0 (h : kc_ok G mul one inv k kl re) (v : Nat → Int) {q : Nat} (hq : q < k) : kc_op G mul inv kl re k 0 v q = v q := by
  unfold kc_op
  rw [si_congr (fun l hl => by rw [kc_a0 h (List.mem_range.mp hl)])]
  exact si_one v q List.nodup_range (List.mem_range.mpr hq)
theorem kc_opop (h : kc_ok G mul one inv k kl re) (i j : Nat) (v : Nat → Int) (q : Nat) : kc_op G mul inv kl re k i (kc_op G mul inv kl re k j v) q = si (fun m => kc_a G mul inv kl re j i m * kc_op G mul inv kl re k m v q) (List.range k) := by
  unfold kc_op
  have h1 : si (fun m => kc_a G mul inv kl re i q m * si (fun l => kc_a G mul inv kl re j m l * v l) (List.range k)) (List.range k) = si (fun m => si (fun l => kc_a G mul inv kl re j m l * kc_a G mul inv kl re i q m * v l) (List.range k)) (List.range k) := si_congr fun m _ => by
    rw [← si_mul]
    exact si_congr fun l _ => by rw [← Int.mul_assoc, Int.mul_comm (kc_a G mul inv kl re i q m)]
  have h2 : si (fun m => kc_a G mul inv kl re j i m * si (fun l => kc_a G mul inv kl re m q l * v l) (List.range k)) (List.range k) = si (fun m => si (fun l => kc_a G mul inv kl re j i m * kc_a G mul inv kl re m q l * v l) (List.range k)) (List.range k) := si_congr fun m _ => by
    rw [← si_mul]
    exact si_congr fun l _ => by rw [← Int.mul_assoc]
  rw [h1, h2, si_swap, si_swap (fun m l => kc_a G mul inv kl re j i m * kc_a G mul inv kl re m q l * v l)]
  refine si_congr fun l hl => ?_
  rw [si_mulr, si_mulr, kc_assoc h (List.mem_range.mp hl) j i q]
theorem kc_op_comm (h : kc_ok G mul one inv k kl re) (i j : Nat) (v : Nat → Int) (q : Nat) : kc_op G mul inv kl re k i (kc_op G mul inv kl re k j v) q = kc_op G mul inv kl re k j (kc_op G mul inv kl re k i v) q := by
  rw [kc_opop h, kc_opop h]
  exact si_congr fun m hm => by rw [kc_a_comm h (List.mem_range.mp hm)]
theorem kc_op_it (h : kc_ok G mul one inv k kl re) (i : Nat) (v : Nat → Int) : ∀ (m q : Nat), q < k → fa_it (kc_op G mul inv kl re k i) m v q = si (fun l => kc_B G mul inv kl re k i m l * kc_op G mul inv kl re k l v q) (List.range k)
  | 0, q, hq => by
    show v q = si (fun l => ib (decide (l = 0)) * kc_op G mul inv kl re k l v q) (List.range k)
    have h0 : 0 < k := h.2.2.2.2.2
    rw [si_one (fun l => kc_op G mul inv kl re k l v q) 0 List.nodup_range (List.mem_range.mpr h0), kc_op0 h v hq]
  | m + 1, q, hq => by
    rw [fa_succ]
    have h1 : kc_op G mul inv kl re k i (fa_it (kc_op G mul inv kl re k i) m v) q = si (fun r => si (fun l => kc_B G mul inv kl re k i m l * (kc_a G mul inv kl re i q r * kc_op G mul inv kl re k l v r)) (List.range k)) (List.range k) := by
      unfold kc_op
      refine si_congr fun r hr => ?_
      have h2 := kc_op_it h i v m r (List.mem_range.mp hr)
      unfold kc_op at h2
      rw [h2, ← si_mul]
      exact si_congr fun l _ => by rw [← Int.mul_assoc, ← Int.mul_assoc, Int.mul_comm (kc_a G mul inv kl re i q r)]
    rw [h1, si_swap]
    have h3 : ∀ l, l ∈ List.range k → si (fun r => kc_B G mul inv kl re k i m l * (kc_a G mul inv kl re i q r * kc_op G mul inv kl re k l v r)) (List.range k) = si (fun n => kc_a G mul inv kl re i l n * kc_B G mul inv kl re k i m l * kc_op G mul inv kl re k n v q) (List.range k) := by
      intro l _
      rw [si_mul]
      have h4 := kc_opop h i l v q
      have h5 : kc_op G mul inv kl re k i (kc_op G mul inv kl re k l v) q = si (fun r => kc_a G mul inv kl re i q r * kc_op G mul inv kl re k l v r) (List.range k) := rfl
      rw [← h5, h4, ← si_mul]
      refine si_congr fun n hn => ?_
      rw [kc_a_comm h (List.mem_range.mp hn), ← Int.mul_assoc, Int.mul_comm (kc_B G mul inv kl re k i m l)]
    rw [si_congr h3, si_swap]
    refine si_congr fun n _ => ?_
    rw [si_mulr]
    rfl
theorem fr_op (h : kc_ok G mul one inv k kl re) {p : Nat} (hp1 : 1 < p) (hp : ∀ m, m ∣ p → m = 1 ∨ m = p) (hpw : ∀ x, x ∈ G → gg_pw mul one x p = x) {i : Nat} (hi : i < k) (v : Nat → Int) {q : Nat} (hq : q < k) : (p : Int) ∣ fa_it (kc_op G mul inv kl re k i) p v q - kc_op G mul inv kl re k i v q := by
  rw [kc_op_it h i v p q hq]
  have h1 : kc_op G mul inv kl re k i v q = si (fun l => ib (decide (l = i)) * kc_op G mul inv kl re k l v q) (List.range k) := (si_one (fun l => kc_op G mul inv kl re k l v q) i List.nodup_range (List.mem_range.mpr hi)).symm
  rw [h1]
  refine si_cong fun l hl => ?_
  rw [← Int.sub_mul]
  exact Int.dvd_mul_of_dvd_left (fr_Bp h hp1 hp hpw (List.mem_range.mp hl))
end PW
end
section
-- pure: more unknowns than equations, modulo a prime
theorem nt_mul {p : Nat} (hp : ∀ m, m ∣ p → m = 1 ∨ m = p) {a b : Int} (h : (p : Int) ∣ a * b) : (p : Int) ∣ a ∨ (p : Int) ∣ b := by
  by_cases ha : (p : Int) ∣ a
  · exact Or.inl ha
  · right
    have h1 : ¬ p ∣ a.natAbs := fun h9 => ha (Int.dvd_natAbs.mp (Int.ofNat_dvd.mpr h9))
    refine nt_euclid hp h1 ?_
    rcases Int.natAbs_eq a with e | e
    · rw [← e]; exact h
    · have h2 : (a.natAbs : Int) * b = -(a * b) := by
        have h3 : (a.natAbs : Int) = -a := by omega
        rw [h3, Int.neg_mul]
      rw [h2]
      exact (Int.dvd_neg).mpr h
theorem ln_hs {p : Nat} (hp1 : 1 < p) (hp : ∀ m, m ∣ p → m = 1 ∨ m = p) : ∀ (m : Nat) (S : List Nat) (c : Nat → Nat → Int), S.Nodup → m < S.length → ∃ x : Nat → Int, (∃ s, s ∈ S ∧ ¬ (p : Int) ∣ x s) ∧ ∀ r, r < m → (p : Int) ∣ si (fun s => c r s * x s) S := by
  intro m
  induction m with
  | zero =>
    intro S c _ hS
    cases S with
    | nil => simp at hS
    | cons s S =>
      refine ⟨fun _ => 1, ⟨s, List.mem_cons_self, fun h => ?_⟩, fun r hr => absurd hr (Nat.not_lt_zero r)⟩
      have h9 : (p : Int) ∣ 1 := h
      have := Int.le_of_dvd (by decide) h9
      omega
  | succ m ih =>
    intro S c hnd hS
    by_cases hall : ∀ s, s ∈ S → (p : Int) ∣ c m s
    · obtain ⟨x, h1, h2⟩ := ih S c hnd (by omega)
      refine ⟨x, h1, fun r hr => ?_⟩
      by_cases e : r = m
      · subst e
        exact si_dvd fun s hs => Int.dvd_mul_of_dvd_left (hall s hs)
      · exact h2 r (by omega)
    · have h0 : ∃ s0, s0 ∈ S ∧ ¬ (p : Int) ∣ c m s0 := Classical.byContradiction fun hn => hall fun s hs => Classical.byContradiction fun h9 => hn ⟨s, hs, h9⟩
      obtain ⟨s0, hs0, hc0⟩ := h0
      have hnd' : (S.erase s0).Nodup := hnd.erase s0
      have hlen : (S.erase s0).length = S.length - 1 := by rw [List.length_erase]; simp [hs0]
      obtain ⟨x, ⟨s1, hs1, hx1⟩, h2⟩ := ih (S.erase s0) (fun r s => c r s * c m s0 - c r s0 * c m s) hnd' (by omega)
      have hsum : ∀ f : Nat → Int, si f S = f s0 + si f (S.erase s0) := fun f => by
        rw [si_perm f (List.perm_cons_erase hs0)]; rfl
      have hne : ∀ s, s ∈ S.erase s0 → s ≠ s0 := fun s hs => (hnd.mem_erase_iff.mp hs).1
      refine ⟨fun s => if s = s0 then - si (fun t => c m t * x t) (S.erase s0) else x s * c m s0, ⟨s1, List.mem_of_mem_erase hs1, ?_⟩, fun r hr => ?_⟩
      · show ¬ (p : Int) ∣ (if s1 = s0 then _ else _)
        rw [if_neg (hne s1 hs1)]
        intro h9
        rcases nt_mul hp h9 with h9 | h9
        · exact hx1 h9
        · exact hc0 h9
      · rw [hsum]
        have h3 : si (fun s => c r s * (if s = s0 then - si (fun t => c m t * x t) (S.erase s0) else x s * c m s0)) (S.erase s0) = si (fun s => c r s * (x s * c m s0)) (S.erase s0) := si_congr fun s hs => by rw [if_neg (hne s hs)]
        rw [h3]
        show (p : Int) ∣ c r s0 * (if s0 = s0 then _ else _) + _
        rw [if_pos rfl]
        by_cases e : r = m
        · subst e
          have h4 : si (fun s => c r s * (x s * c r s0)) (S.erase s0) = c r s0 * si (fun t => c r t * x t) (S.erase s0) := by
            rw [← si_mul]
            exact si_congr fun s _ => by rw [← Int.mul_assoc, Int.mul_comm (c r s0)]
          rw [h4, Int.mul_neg, Int.add_left_neg]
          exact Int.dvd_zero _
        · have h5 := h2 r (by omega)
          have h6 : c r s0 * - si (fun t => c m t * x t) (S.erase s0) + si (fun s => c r s * (x s * c m s0)) (S.erase s0) = si (fun s => (c r s * c m s0 - c r s0 * c m s) * x s) (S.erase s0) := by
            rw [Int.mul_neg, ← si_mul, Int.add_comm, ← Int.sub_eq_add_neg, ← si_sub]
            refine si_congr fun s _ => ?_
            rw [Int.sub_mul, Int.mul_assoc, Int.mul_assoc, Int.mul_comm (x s)]
          rw [h6]
          exact h5
-- Bezout, inverses
theorem nt_bez : ∀ (a b : Nat), ∃ u v : Int, u * (a : Int) + v * (b : Int) = (Nat.gcd a b : Int) := by
  intro a b
  induction a, b using Nat.gcd.induction with
  | H0 n => exact ⟨0, 1, by simp⟩
  | H1 m n hm ih =>
    obtain ⟨u, v, h⟩ := ih
    refine ⟨v - u * ((n / m : Nat) : Int), u, ?_⟩
    rw [Nat.gcd_rec, ← h]
    have h3 : (n : Int) = ((n % m : Nat) : Int) + (m : Int) * ((n / m : Nat) : Int) := by
      rw [← Int.natCast_mul, ← Int.natCast_add, Nat.mod_add_div]
    rw [h3, Int.sub_mul, Int.mul_add]
    have h4 : u * ((n / m : Nat) : Int) * (m : Int) = u * ((m : Int) * ((n / m : Nat) : Int)) := by rw [Int.mul_assoc, Int.mul_comm ((n / m : Nat) : Int)]
    rw [h4]
    omega
theorem nt_inv {p : Nat} (hp : ∀ m, m ∣ p → m = 1 ∨ m = p) {a : Int} (ha : ¬ (p : Int) ∣ a) : ∃ b : Int, (p : Int) ∣ a * b - 1 := by
  have hc : Nat.gcd p a.natAbs = 1 := by
    rcases hp _ (Nat.gcd_dvd_left p a.natAbs) with e | e
    · exact e
    · exact absurd (Int.dvd_natAbs.mp (Int.ofNat_dvd.mpr (e ▸ Nat.gcd_dvd_right p a.natAbs))) ha
  obtain ⟨u, v, h⟩ := nt_bez p a.natAbs
  rw [hc] at h
  rcases Int.natAbs_eq a with e | e
  · refine ⟨v, ⟨-u, ?_⟩⟩
    rw [e, Int.mul_comm, Int.mul_neg, Int.mul_comm (p : Int)]
    omega
  · refine ⟨-v, ⟨-u, ?_⟩⟩
    rw [e, Int.neg_mul_neg, Int.mul_comm, Int.mul_neg, Int.mul_comm (p : Int)]
    omega
-- Fermat
theorem tp_len {α : Type} (C : List α) : ∀ m : Nat, (tp_all C m).length = C.length ^ m
  | 0 => rfl
  | m + 1 => by
    show ((tp_all C m).flatMap (fun t => C.map (fun g => g :: t))).length = _
    rw [List.length_flatMap]
    have h1 : ∀ T : List (List α), (T.map (fun t => (C.map (fun g => g :: t)).length)).sum = T.length * C.length := by
      intro T
      induction T with
      | nil => simp
      | cons t T ih => rw [List.map_cons, List.sum_cons, ih, List.length_map, List.length_cons, Nat.add_mul, Nat.one_mul, Nat.add_comm]
    rw [h1, tp_len C m, Nat.pow_succ]
theorem nt_fermat {p : Nat} (hp1 : 1 < p) (hp : ∀ m, m ∣ p → m = 1 ∨ m = p) (a : Nat) : (p : Int) ∣ (a : Int) ^ p - (a : Int) := by
  have h1 := tp_cong0 (C := List.range a) List.nodup_range hp1 hp (fun _ => true) (fun _ _ => rfl)
  rw [List.countP_true, List.countP_true, tp_len, List.length_range, Int.natCast_pow] at h1
  exact h1
end
section
-- pure: a matrix with a^p = a modulo p: every vector is a sum of eigenvectors
def mv (a : Nat → Nat → Int) (d : Nat) (x : Nat → Int) (t : Nat) : Int := si (fun j => a t j * x j) (List.range d)
def vq (p : Nat) (d : Nat) (u v : Nat → Int) : Prop := ∀ t, t < d → (p : Int) ∣ u t - v t
theorem vq_rfl {p d : Nat} (u : Nat → Int) : vq p d u u := fun t _ => by rw [Int.sub_self]; exact Int.dvd_zero _
theorem vq_symm {p d : Nat} {u v : Nat → Int} (h : vq p d u v) : vq p d v u := fun t ht => by
  have h1 := Int.dvd_neg.mpr (h t ht)
  rw [Int.neg_sub] at h1
  exact h1
theorem vq_trans {p d : Nat} {u v w : Nat → Int} (h1 : vq p d u v) (h2 : vq p d v w) : vq p d u w := fun t ht => by
  have h3 := Int.dvd_add (h1 t ht) (h2 t ht)
  have h4 : u t - v t + (v t - w t) = u t - w t := by omega
  rw [h4] at h3
  exact h3
theorem vq_eq {p d : Nat} {u v : Nat → Int} (h : ∀ t, t < d → u t = v t) : vq p d u v := fun t ht => by rw [h t ht, Int.sub_self]; exact Int.dvd_zero _
theorem vq_add {p d : Nat} {u v u' v' : Nat → Int} (h1 : vq p d u v) (h2 : vq p d u' v') : vq p d (fun t => u t + u' t) (fun t => v t + v' t) := fun t ht => by
  have h3 := Int.dvd_add (h1 t ht) (h2 t ht)
  have h4 : u t - v t + (u' t - v' t) = u t + u' t - (v t + v' t) := by omega
  rw [h4] at h3
  exact h3
theorem vq_sub {p d : Nat} {u v u' v' : Nat → Int} (h1 : vq p d u v) (h2 : vq p d u' v') : vq p d (fun t => u t - u' t) (fun t => v t - v' t) := fun t ht => by
  have h3 := Int.dvd_sub (h1 t ht) (h2 t ht)
  have h4 : u t - v t - (u' t - v' t) = u t - u' t - (v t - v' t) := by omega
  rw [h4] at h3
  exact h3
theorem vq_mul {p d : Nat} {u v : Nat → Int} (c : Int) (h : vq p d u v) : vq p d (fun t => c * u t) (fun t => c * v t) := fun t ht => by
  show (p : Int) ∣ c * u t - c * v t
  rw [← Int.mul_sub]
  exact Int.dvd_mul_of_dvd_right (h t ht)
theorem vq_si {p d : Nat} {α : Type} {f g : α → Nat → Int} {S : List α} (h : ∀ s, s ∈ S → vq p d (f s) (g s)) : vq p d (fun t => si (fun s => f s t) S) (fun t => si (fun s => g s t) S) := fun t ht => si_cong fun s hs => h s hs t ht
theorem mv_cong {p d : Nat} (a : Nat → Nat → Int) {u v : Nat → Int} (h : vq p d u v) (e : Nat) : vq p e (mv a d u) (mv a d v) := fun t _ => si_cong fun j hj => by
  rw [← Int.mul_sub]
  exact Int.dvd_mul_of_dvd_right (h j (List.mem_range.mp hj))
theorem mv_si {α : Type} (a : Nat → Nat → Int) (d : Nat) (f : α → Nat → Int) (S : List α) (t : Nat) : mv a d (fun j => si (fun s => f s j) S) t = si (fun s => mv a d (f s) t) S := by
  unfold mv
  rw [← si_swap]
  exact si_congr fun j _ => (si_mul _ _ _).symm
theorem mv_add (a : Nat → Nat → Int) (d : Nat) (u v : Nat → Int) (t : Nat) : mv a d (fun j => u j + v j) t = mv a d u t + mv a d v t := by
  unfold mv
  rw [← si_add]
  exact si_congr fun j _ => Int.mul_add _ _ _
theorem mv_sub (a : Nat → Nat → Int) (d : Nat) (u v : Nat → Int) (t : Nat) : mv a d (fun j => u j - v j) t = mv a d u t - mv a d v t := by
  unfold mv
  rw [← si_sub]
  exact si_congr fun j _ => Int.mul_sub _ _ _
theorem mv_mul (a : Nat → Nat → Int) (d : Nat) (c : Int) (u : Nat → Int) (t : Nat) : mv a d (fun j => c * u j) t = c * mv a d u t := by
  unfold mv
  rw [← si_mul]
  exact si_congr fun j _ => by rw [← Int.mul_assoc, ← Int.mul_assoc, Int.mul_comm c]
-- a minus a number
def bv (a : Nat → Nat → Int) (d : Nat) (lam : Int) (x : Nat → Int) (t : Nat) : Int := mv a d x t - lam * x t
theorem bv_cong {p d : Nat} (a : Nat → Nat → Int) (lam : Int) {u v : Nat → Int} (h : vq p d u v) : vq p d (bv a d lam u) (bv a d lam v) := vq_sub (mv_cong a h d) (vq_mul lam h)
-- polynomials by their coefficients, lowest first
def pe (c : List Int) (x : Int) : Int := match c with
  | [] => 0
  | a :: c => a + x * pe c x
def pv (a : Nat → Nat → Int) (d : Nat) (c : List Int) (v : Nat → Int) : Nat → Int := match c with
  | [] => fun _ => 0
  | b :: c => fun t => b * v t + mv a d (pv a d c v) t
def pd (lam : Int) : List Int → Int × List Int
  | [] => (0, [])
  | [a] => (a, [])
  | a :: b :: c => (a + lam * (pd lam (b :: c)).1, (pd lam (b :: c)).1 :: (pd lam (b :: c)).2)
theorem pe_pd (lam x : Int) : ∀ c : List Int, pe c x = (pd lam c).1 + (x - lam) * pe (pd lam c).2 x
  | [] => by simp [pe, pd]
  | [a] => by simp [pe, pd]
  | a :: b :: c => by
    show a + x * pe (b :: c) x = a + lam * (pd lam (b :: c)).1 + (x - lam) * ((pd lam (b :: c)).1 + x * pe (pd lam (b :: c)).2 x)
    rw [pe_pd lam x (b :: c)]
    grind
theorem pv_pd (a : Nat → Nat → Int) (d : Nat) (lam : Int) (v : Nat → Int) : ∀ (c : List Int) (t : Nat), pv a d c v t = (pd lam c).1 * v t + bv a d lam (pv a d (pd lam c).2 v) t
  | [], t => by
    show 0 = 0 * v t + (mv a d (fun _ => 0) t - lam * 0)
    have h1 : mv a d (fun _ => 0) t = 0 := si_z fun j _ => Int.mul_zero _
    rw [h1]; simp
  | [b], t => by
    show b * v t + mv a d (fun _ => 0) t = b * v t + (mv a d (fun _ => 0) t - lam * 0)
    rw [Int.mul_zero, Int.sub_zero]
  | b :: b' :: c', t => by
    generalize hc : b' :: c' = c
    have hpd : pd lam (b :: c) = (b + lam * (pd lam c).1, (pd lam c).1 :: (pd lam c).2) := by rw [← hc]; rfl
    rw [hpd]
    show b * v t + mv a d (pv a d c v) t = (b + lam * (pd lam c).1) * v t + bv a d lam (fun t => (pd lam c).1 * v t + mv a d (pv a d (pd lam c).2 v) t) t
    have h1 : pv a d c v = fun t => (pd lam c).1 * v t + bv a d lam (pv a d (pd lam c).2 v) t := funext fun t => by rw [← hc]; exact pv_pd a d lam v (b' :: c') t
    rw [h1, mv_add, mv_mul]
    unfold bv
    rw [mv_add, mv_mul, mv_sub, mv_mul]
    grind
-- dividing by X, X - 1, .. one after the other
def pdn (c : List Int) : Nat → List Int
  | 0 => c
  | n + 1 => (pd (n : Int) (pdn c n)).2
def pmn : Nat → Int → Int
  | 0, _ => 1
  | n + 1, x => pmn n x * (x - (n : Int))
-- the operators a - m, .. , one after the other
def bvn (a : Nat → Nat → Int) (d : Nat) : Nat → (Nat → Int) → Nat → Int
  | 0, x => x
  | n + 1, x => bvn a d n (bv a d (n : Int) x)
theorem bvn_cong {p d : Nat} (a : Nat → Nat → Int) : ∀ (n : Nat) {u v : Nat → Int}, vq p d u v → vq p d (bvn a d n u) (bvn a d n v)
  | 0, _, _, h => h
  | n + 1, _, _, h => bvn_cong a n (bv_cong a n h)
theorem pd_last (lam : Int) : ∀ (c : List Int) (x y : Int), (pd lam (x :: (c ++ [y]))).2.getLast? = some y ∧ (pd lam (x :: (c ++ [y]))).2.length = c.length + 1
  | [], x, y => by simp [pd]
  | b :: c, x, y => by
    obtain ⟨h1, h2⟩ := pd_last lam c b y
    have hc : x :: (b :: c ++ [y]) = x :: b :: (c ++ [y]) := rfl
    rw [hc]
    have hpd : ∀ q : List Int, q ≠ [] → (pd lam (x :: b :: q)).2 = (pd lam (b :: q)).1 :: (pd lam (b :: q)).2 := fun q _ => rfl
    constructor
    · show ((pd lam (b :: (c ++ [y]))).1 :: (pd lam (b :: (c ++ [y]))).2).getLast? = some y
      rw [List.getLast?_cons, h1]; rfl
    · show ((pd lam (b :: (c ++ [y]))).1 :: (pd lam (b :: (c ++ [y]))).2).length = _
      rw [List.length_cons, h2]; rfl
theorem pdn_last {c : List Int} {y : Int} : ∀ (n : Nat), n < c.length → c.getLast? = some y → (pdn c n).getLast? = some y ∧ (pdn c n).length = c.length - n
  | 0, _, h => ⟨h, rfl⟩
  | n + 1, hn, h => by
    obtain ⟨h1, h2⟩ := pdn_last n (by omega) h
    show (pd (n : Int) (pdn c n)).2.getLast? = some y ∧ (pd (n : Int) (pdn c n)).2.length = _
    generalize pdn c n = q at h1 h2
    cases q with
    | nil => simp at h1
    | cons x q =>
      have hq : q ≠ [] := fun e => by rw [e] at h2; simp at h2; omega
      obtain ⟨q', y', rfl⟩ : ∃ q' y', q = q' ++ [y'] := ⟨q.dropLast, q.getLast hq, (List.dropLast_concat_getLast hq).symm⟩
      have hy : y' = y := by
        rw [List.getLast?_cons, List.getLast?_append] at h1
        simpa using h1
      subst hy
      obtain ⟨h3, h4⟩ := pd_last (n : Int) q' x y'
      exact ⟨h3, by rw [h4]; simp at h2; omega⟩
theorem pmn_nz {p : Nat} (hp1 : 1 < p) (hp : ∀ m, m ∣ p → m = 1 ∨ m = p) : ∀ (n x : Nat), n ≤ x → x < p → ¬ (p : Int) ∣ pmn n (x : Int)
  | 0, x, _, hx => fun h => by
    have h9 : (p : Int) ∣ 1 := h
    have h2 := Int.le_of_dvd (by decide) h9
    omega
  | n + 1, x, hn, hx => fun h => by
    rcases nt_mul hp h with h1 | h1
    · exact pmn_nz hp1 hp n x (by omega) hx h1
    · have h2 : (p : Int) ≤ (x : Int) - (n : Int) := Int.le_of_dvd (by omega) h1
      omega
-- X^p - X
def pX (p : Nat) : List Int := 0 :: -1 :: (List.replicate (p - 2) 0 ++ [1])
theorem pe_pow (x : Int) : ∀ m : Nat, pe (List.replicate m 0 ++ [1]) x = x ^ m
  | 0 => by simp [pe]
  | m + 1 => by
    show 0 + x * pe (List.replicate m 0 ++ [1]) x = _
    rw [pe_pow x m, Int.pow_succ, Int.zero_add, Int.mul_comm]
theorem pe_pX {p : Nat} (hp1 : 1 < p) (x : Int) : pe (pX p) x = x ^ p - x := by
  show 0 + x * (-1 + x * pe (List.replicate (p - 2) 0 ++ [1]) x) = _
  rw [pe_pow]
  have h1 : x ^ p = x ^ (p - 2) * x * x := by
    rw [← Int.pow_succ, ← Int.pow_succ]
    congr 1
    omega
  rw [h1]
  grind
theorem pv_pow (a : Nat → Nat → Int) (d : Nat) (v : Nat → Int) : ∀ m : Nat, pv a d (List.replicate m 0 ++ [1]) v = fa_it (mv a d) m v
  | 0 => by
    funext t
    show 1 * v t + mv a d (fun _ => 0) t = v t
    have h1 : mv a d (fun _ => 0) t = 0 := si_z fun j _ => Int.mul_zero _
    rw [h1]; simp
  | m + 1 => by
    funext t
    show 0 * v t + mv a d (pv a d (List.replicate m 0 ++ [1]) v) t = _
    rw [pv_pow a d v m, fa_succ]; simp
theorem pv_pX {p : Nat} (hp1 : 1 < p) (a : Nat → Nat → Int) (d : Nat) (v : Nat → Int) (t : Nat) : pv a d (pX p) v t = fa_it (mv a d) p v t - mv a d v t := by
  show 0 * v t + mv a d (fun t => -1 * v t + mv a d (pv a d (List.replicate (p - 2) 0 ++ [1]) v) t) t = _
  rw [pv_pow, mv_add, mv_mul, Int.zero_mul, Int.zero_add]
  have h1 : fa_it (mv a d) p v = mv a d (mv a d (fa_it (mv a d) (p - 2) v)) := by
    rw [← fa_succ (mv a d), ← fa_succ (mv a d)]
    congr 1
    omega
  rw [h1]
  show -1 * mv a d v t + mv a d (mv a d (fa_it (mv a d) (p - 2) v)) t = _
  omega
theorem pX_chain {p : Nat} (hp1 : 1 < p) (hp : ∀ m, m ∣ p → m = 1 ∨ m = p) : ∀ n : Nat, n ≤ p → (∀ m, m < n → (p : Int) ∣ (pd (m : Int) (pdn (pX p) m)).1) ∧ ∀ x : Int, (p : Int) ∣ pe (pX p) x - pmn n x * pe (pdn (pX p) n) x
  | 0, _ => ⟨fun m hm => absurd hm (Nat.not_lt_zero m), fun x => by
      show (p : Int) ∣ pe (pX p) x - 1 * pe (pX p) x
      rw [Int.one_mul, Int.sub_self]; exact Int.dvd_zero _⟩
  | n + 1, hn => by
    obtain ⟨h1, h2⟩ := pX_chain hp1 hp n (by omega)
    have h3 := h2 (n : Int)
    rw [pe_pX hp1] at h3
    have h4 : (p : Int) ∣ pmn n (n : Int) * pe (pdn (pX p) n) (n : Int) := by
      have h5 := Int.dvd_sub (nt_fermat hp1 hp n) h3
      have h6 : (n : Int) ^ p - (n : Int) - ((n : Int) ^ p - (n : Int) - pmn n (n : Int) * pe (pdn (pX p) n) (n : Int)) = pmn n (n : Int) * pe (pdn (pX p) n) (n : Int) := by omega
      rw [h6] at h5
      exact h5
    have h7 : (p : Int) ∣ (pd (n : Int) (pdn (pX p) n)).1 := by
      rcases nt_mul hp h4 with h8 | h8
      · exact absurd h8 (pmn_nz hp1 hp n n (Nat.le_refl n) (by omega))
      · rw [pe_pd (n : Int) (n : Int), Int.sub_self, Int.zero_mul, Int.add_zero] at h8
        exact h8
    refine ⟨fun m hm => ?_, fun x => ?_⟩
    · by_cases e : m = n
      · subst e; exact h7
      · exact h1 m (by omega)
    · have h9 := h2 x
      rw [pe_pd (n : Int) x (pdn (pX p) n)] at h9
      obtain ⟨c, hc⟩ := h9
      obtain ⟨r, hr⟩ := h7
      rw [hr] at hc
      refine ⟨c + pmn n x * r, ?_⟩
      show pe (pX p) x - pmn n x * (x - (n : Int)) * pe (pd (n : Int) (pdn (pX p) n)).2 x = _
      grind
theorem eg_zero {p : Nat} (hp1 : 1 < p) (hp : ∀ m, m ∣ p → m = 1 ∨ m = p) (a : Nat → Nat → Int) (d : Nat) (v : Nat → Int) (hA : vq p d (fa_it (mv a d) p v) (mv a d v)) : vq p d (bvn a d p v) (fun _ => 0) := by
  have h1 : ∀ n, n ≤ p → vq p d (pv a d (pX p) v) (bvn a d n (pv a d (pdn (pX p) n) v)) := by
    intro n
    induction n with
    | zero => intro _; exact vq_rfl _
    | succ n ih =>
      intro hn
      refine vq_trans (ih (by omega)) (bvn_cong a n ?_)
      intro t ht
      rw [pv_pd a d (n : Int) v (pdn (pX p) n) t]
      have h2 := (pX_chain hp1 hp (n + 1) hn).1 n (Nat.lt_succ_self n)
      show (p : Int) ∣ (pd (n : Int) (pdn (pX p) n)).1 * v t + bv a d (n : Int) (pv a d (pd (n : Int) (pdn (pX p) n)).2 v) t - bv a d (n : Int) (pv a d (pd (n : Int) (pdn (pX p) n)).2 v) t
      rw [Int.add_sub_cancel]
      exact Int.dvd_mul_of_dvd_left h2
  have hlen : (pX p).length = p + 1 := by
    simp [pX]; omega
  have hlast : (pX p).getLast? = some 1 := by
    simp [pX, List.getLast?_cons, List.getLast?_append]
  obtain ⟨h3, h4⟩ := pdn_last (y := 1) p (by omega) hlast
  have h5 : pdn (pX p) p = [1] := by
    rw [hlen] at h4
    generalize pdn (pX p) p = q at h3 h4
    match q, h3, h4 with
    | [x], h3, _ => simp at h3; rw [h3]
    | [], h3, _ => simp at h3
    | x :: y :: q, _, h4 => exfalso; simp at h4
  have h6 := h1 p (Nat.le_refl p)
  rw [h5] at h6
  have h7 : pv a d [1] v = v := by
    funext t
    show 1 * v t + mv a d (fun _ => 0) t = v t
    have h8 : mv a d (fun _ => 0) t = 0 := si_z fun j _ => Int.mul_zero _
    rw [h8]; simp
  rw [h7] at h6
  refine vq_trans (vq_symm h6) (fun t ht => ?_)
  rw [pv_pX hp1]
  show (p : Int) ∣ fa_it (mv a d) p v t - mv a d v t - 0
  rw [Int.sub_zero]
  exact hA t ht
theorem eg_dec {p : Nat} (hp : ∀ m, m ∣ p → m = 1 ∨ m = p) (a : Nat → Nat → Int) (d : Nat) : ∀ (n : Nat), n ≤ p → ∀ v : Nat → Int, vq p d (bvn a d n v) (fun _ => 0) → ∃ f : Nat → Nat → Int, (∀ m, m < n → vq p d (mv a d (f m)) (fun t => (m : Int) * f m t)) ∧ vq p d v (fun t => si (fun m => f m t) (List.range n))
  | 0, _, v, h => ⟨fun _ _ => 0, fun m hm => absurd hm (Nat.not_lt_zero m), h⟩
  | n + 1, hn, v, h => by
    obtain ⟨f, h1, h2⟩ := eg_dec hp a d n (by omega) (bv a d (n : Int) v) h
    have hi : ∀ m, ∃ b : Int, m < n → (p : Int) ∣ ((m : Int) - (n : Int)) * b - 1 := fun m => by
      by_cases hm : m < n
      · have h3 : ¬ (p : Int) ∣ ((m : Int) - (n : Int)) := fun h9 => by
          have h10 := Int.dvd_neg.mpr h9
          have h11 : (p : Int) ≤ -((m : Int) - (n : Int)) := Int.le_of_dvd (by omega) h10
          omega
        obtain ⟨b, hb⟩ := nt_inv hp h3
        exact ⟨b, fun _ => hb⟩
      · exact ⟨0, fun h9 => absurd h9 hm⟩
    have hi2 : ∃ b : Nat → Int, ∀ m, m < n → (p : Int) ∣ ((m : Int) - (n : Int)) * b m - 1 := ⟨fun m => Classical.choose (hi m), fun m => Classical.choose_spec (hi m)⟩
    obtain ⟨b, hb⟩ := hi2
    -- the rest: an eigenvector of n
    have h4 : vq p d (bv a d (n : Int) (fun t => v t - si (fun m => b m * f m t) (List.range n))) (fun _ => 0) := by
      have h5 : vq p d (fun t => si (fun m => b m * (mv a d (f m) t - (n : Int) * f m t)) (List.range n)) (fun t => si (fun m => f m t) (List.range n)) := by
        intro t ht
        refine si_cong fun m hm => ?_
        have hm' := List.mem_range.mp hm
        obtain ⟨c, hc⟩ := h1 m hm' t ht
        obtain ⟨r, hr⟩ := hb m hm'
        refine ⟨b m * c + f m t * r, ?_⟩
        grind
      have h6 : ∀ t, bv a d (n : Int) (fun t => v t - si (fun m => b m * f m t) (List.range n)) t = bv a d (n : Int) v t - si (fun m => b m * (mv a d (f m) t - (n : Int) * f m t)) (List.range n) := by
        intro t
        unfold bv
        rw [mv_sub, mv_si]
        have h7 : si (fun m => b m * (mv a d (f m) t - (n : Int) * f m t)) (List.range n) = si (fun m => mv a d (fun t => b m * f m t) t) (List.range n) - (n : Int) * si (fun m => b m * f m t) (List.range n) := by
          rw [← si_mul, ← si_sub]
          refine si_congr fun m _ => ?_
          rw [mv_mul]
          grind
        rw [h7]
        grind
      intro t ht
      rw [h6 t]
      have h8 := vq_sub h2 h5 t ht
      have h9 : bv a d (n : Int) v t - si (fun m => b m * (mv a d (f m) t - (n : Int) * f m t)) (List.range n) - (si (fun m => f m t) (List.range n) - si (fun m => f m t) (List.range n)) = bv a d (n : Int) v t - si (fun m => b m * (mv a d (f m) t - (n : Int) * f m t)) (List.range n) - 0 := by omega
      rw [← h9]
      exact h8
    refine ⟨fun m t => if m = n then v t - si (fun m => b m * f m t) (List.range n) else b m * f m t, fun m hm => ?_, ?_⟩
    · by_cases e : m = n
      · subst e
        intro t ht
        have h10 := h4 t ht
        unfold bv at h10
        simp only [if_true]
        have h11 : mv a d (fun t => v t - si (fun m => b m * f m t) (List.range m)) t - (m : Int) * (v t - si (fun m => b m * f m t) (List.range m)) - 0 = mv a d (fun t => v t - si (fun m => b m * f m t) (List.range m)) t - (m : Int) * (v t - si (fun m => b m * f m t) (List.range m)) := by omega
        rw [h11] at h10
        exact h10
      · intro t ht
        simp only [if_neg e]
        rw [mv_mul]
        have h12 := vq_mul (b m) (h1 m (by omega)) t ht
        have h13 : b m * mv a d (f m) t - (m : Int) * (b m * f m t) = b m * mv a d (f m) t - b m * ((m : Int) * f m t) := by grind
        rw [h13]
        exact h12
    · refine vq_eq fun t _ => ?_
      rw [List.range_succ, si_app, si_cons, si_nil]
      simp only [if_true]
      have h14 : si (fun m => if m = n then v t - si (fun m => b m * f m t) (List.range n) else b m * f m t) (List.range n) = si (fun m => b m * f m t) (List.range n) := si_congr fun m hm => if_neg (by have := List.mem_range.mp hm; omega)
      rw [h14]
      omega
end
section
-- pure: independent vectors, spanning vectors
def li (p d f : Nat) (U : Nat → Nat → Int) : Prop := ∀ c : Nat → Int, vq p d (fun t => si (fun s => c s * U s t) (List.range f)) (fun _ => 0) → ∀ s, s < f → (p : Int) ∣ c s
def sp (p d f : Nat) (U : Nat → Nat → Int) (v : Nat → Int) : Prop := ∃ c : Nat → Int, vq p d v (fun t => si (fun s => c s * U s t) (List.range f))
theorem li_le {p : Nat} (hp1 : 1 < p) (hp : ∀ m, m ∣ p → m = 1 ∨ m = p) {d f : Nat} {U : Nat → Nat → Int} (h : li p d f U) : f ≤ d := Classical.byContradiction fun hn => by
  obtain ⟨x, ⟨s, hs, hx⟩, h2⟩ := ln_hs hp1 hp d (List.range f) (fun t s => U s t) List.nodup_range (by rw [List.length_range]; omega)
  refine hx (h x (fun t ht => ?_) s (List.mem_range.mp hs))
  show (p : Int) ∣ si (fun s => x s * U s t) (List.range f) - 0
  rw [Int.sub_zero]
  have h3 : si (fun s => x s * U s t) (List.range f) = si (fun s => U s t * x s) (List.range f) := si_congr fun s _ => Int.mul_comm _ _
  rw [h3]
  exact h2 t ht
theorem li_sp {p : Nat} (hp1 : 1 < p) (hp : ∀ m, m ∣ p → m = 1 ∨ m = p) {d : Nat} {U : Nat → Nat → Int} (h : li p d d U) (v : Nat → Int) : sp p d d U v := by
  obtain ⟨x, ⟨s, hs, hx⟩, h2⟩ := ln_hs hp1 hp d (List.range (d + 1)) (fun t s => if s = d then v t else U s t) List.nodup_range (by rw [List.length_range]; omega)
  have h3 : ∀ t, t < d → (p : Int) ∣ si (fun s => x s * U s t) (List.range d) + x d * v t := by
    intro t ht
    have h4 := h2 t ht
    rw [List.range_succ, si_app, si_cons, si_nil] at h4
    have h5 : si (fun s => (if s = d then v t else U s t) * x s) (List.range d) = si (fun s => x s * U s t) (List.range d) := si_congr fun s hs => by
      have := List.mem_range.mp hs
      rw [if_neg (by omega), Int.mul_comm]
    rw [h5] at h4
    simp only [if_true] at h4
    rw [Int.add_zero, Int.mul_comm (v t)] at h4
    exact h4
  have hxd : ¬ (p : Int) ∣ x d := fun hd => by
    have h6 : ∀ s, s < d → (p : Int) ∣ x s := h x (fun t ht => by
      show (p : Int) ∣ si (fun s => x s * U s t) (List.range d) - 0
      rw [Int.sub_zero]
      have h7 := Int.dvd_sub (h3 t ht) (Int.dvd_mul_of_dvd_left (c := v t) hd)
      rw [Int.add_sub_cancel] at h7
      exact h7)
    have hs' := List.mem_range.mp hs
    by_cases e : s = d
    · subst e; exact hx hd
    · exact hx (h6 s (by omega))
  obtain ⟨b, hb⟩ := nt_inv hp hxd
  refine ⟨fun s => -(b * x s), fun t ht => ?_⟩
  have h8 : si (fun s => -(b * x s) * U s t) (List.range d) = -b * si (fun s => x s * U s t) (List.range d) := by
    rw [← si_mul]
    exact si_congr fun s _ => by grind
  show (p : Int) ∣ v t - si (fun s => -(b * x s) * U s t) (List.range d)
  rw [h8]
  obtain ⟨q, hq⟩ := h3 t ht
  obtain ⟨r, hr⟩ := hb
  refine ⟨b * q - r * v t, ?_⟩
  grind
theorem sp_ge {p : Nat} (hp1 : 1 < p) (hp : ∀ m, m ∣ p → m = 1 ∨ m = p) {d f : Nat} {U : Nat → Nat → Int} (h : ∀ v : Nat → Int, sp p d f U v) : d ≤ f := Classical.byContradiction fun hn => by
  obtain ⟨y, ⟨s, hs, hy⟩, h2⟩ := ln_hs hp1 hp f (List.range d) (fun s t => U s t) List.nodup_range (by rw [List.length_range]; omega)
  apply hy
  obtain ⟨c, hc⟩ := h (fun t => ib (decide (t = s)))
  have h3 : y s = si (fun t => ib (decide (t = s)) * y t) (List.range d) := (si_one y s List.nodup_range hs).symm
  have h4 : (p : Int) ∣ si (fun t => ib (decide (t = s)) * y t) (List.range d) - si (fun t => si (fun r => c r * U r t) (List.range f) * y t) (List.range d) := si_cong fun t ht => by
    rw [← Int.sub_mul]
    exact Int.dvd_mul_of_dvd_left (hc t (List.mem_range.mp ht))
  have h5 : (p : Int) ∣ si (fun t => si (fun r => c r * U r t) (List.range f) * y t) (List.range d) := by
    have h6 : si (fun t => si (fun r => c r * U r t) (List.range f) * y t) (List.range d) = si (fun r => c r * si (fun t => U r t * y t) (List.range d)) (List.range f) := by
      have h7 : ∀ t, t ∈ List.range d → si (fun r => c r * U r t) (List.range f) * y t = si (fun r => c r * (U r t * y t)) (List.range f) := fun t _ => by
        rw [← si_mulr]
        exact si_congr fun r _ => Int.mul_assoc _ _ _
      rw [si_congr h7, si_swap]
      exact si_congr fun r _ => si_mul _ _ _
    rw [h6]
    exact si_dvd fun r hr => Int.dvd_mul_of_dvd_right (h2 r (List.mem_range.mp hr))
  rw [h3]
  have h8 := Int.dvd_add h4 h5
  rw [Int.sub_add_cancel] at h8
  exact h8
-- eigenvectors of other numbers come beside those found
theorem li_eig {p : Nat} (hp : ∀ m, m ∣ p → m = 1 ∨ m = p) {a : Nat → Nat → Int} {d f g : Nat} {U : Nat → Nat → Int} {lam : Nat → Nat} {mu : Nat} (hmu : mu < p)
    (h : li p d f U) (he : ∀ s, s < f → lam s < mu ∧ vq p d (mv a d (U s)) (fun t => (lam s : Int) * U s t)) (he2 : ∀ s, f ≤ s → s < f + g → vq p d (mv a d (U s)) (fun t => (mu : Int) * U s t))
    (h2 : li p d g (fun s => U (f + s))) : li p d (f + g) U := by
  intro c hc
  have hr : List.range (f + g) = List.range f ++ (List.range g).map (fun s => f + s) := List.range_add
  have hsum : ∀ F : Nat → Int, si F (List.range (f + g)) = si F (List.range f) + si (fun s => F (f + s)) (List.range g) := fun F => by rw [hr, si_app, si_map]
  have h3 : ∀ s, s < f → (p : Int) ∣ c s * ((lam s : Int) - (mu : Int)) := by
    refine h (fun s => c s * ((lam s : Int) - (mu : Int))) (fun t ht => ?_)
    show (p : Int) ∣ si (fun s => c s * ((lam s : Int) - (mu : Int)) * U s t) (List.range f) - 0
    -- a - mu of the sum
    have h4 := mv_cong (p := p) a hc d t ht
    have h5 : mv a d (fun _ => 0) t = 0 := si_z fun j _ => Int.mul_zero _
    have h6 : mv a d (fun t => si (fun s => c s * U s t) (List.range (f + g))) t = si (fun s => c s * mv a d (U s) t) (List.range (f + g)) := by
      rw [mv_si]
      exact si_congr fun s _ => mv_mul _ _ _ _ _
    rw [h5, h6, Int.sub_zero] at h4
    have h7 : (p : Int) ∣ (mu : Int) * si (fun s => c s * U s t) (List.range (f + g)) - (mu : Int) * 0 := vq_mul (mu : Int) hc t ht
    rw [Int.mul_zero, Int.sub_zero, ← si_mul] at h7
    have h8 := Int.dvd_sub h4 h7
    rw [← si_sub, hsum] at h8
    have h9 : (p : Int) ∣ si (fun s => c (f + s) * mv a d (U (f + s)) t - (mu : Int) * (c (f + s) * U (f + s) t)) (List.range g) := si_dvd fun s hs => by
      have h10 := vq_mul (c (f + s)) (he2 (f + s) (by omega) (by have := List.mem_range.mp hs; omega)) t ht
      have h11 : c (f + s) * mv a d (U (f + s)) t - (mu : Int) * (c (f + s) * U (f + s) t) = c (f + s) * mv a d (U (f + s)) t - c (f + s) * ((mu : Int) * U (f + s) t) := by grind
      rw [h11]
      exact h10
    have h12 := Int.dvd_sub h8 h9
    rw [Int.add_sub_cancel] at h12
    rw [Int.sub_zero]
    have h13 : (p : Int) ∣ si (fun s => c s * ((lam s : Int) - (mu : Int)) * U s t) (List.range f) - si (fun s => c s * mv a d (U s) t - (mu : Int) * (c s * U s t)) (List.range f) := si_cong fun s hs => by
      obtain ⟨r, hr9⟩ := (he s (List.mem_range.mp hs)).2 t ht
      exact ⟨-(c s * r), by grind⟩
    have h14 := Int.dvd_add h13 h12
    rw [Int.sub_add_cancel] at h14
    exact h14
  have h15 : ∀ s, s < f → (p : Int) ∣ c s := fun s hs => by
    rcases nt_mul hp (h3 s hs) with h16 | h16
    · exact h16
    · exfalso
      have hlt := (he s hs).1
      have h17 := Int.dvd_neg.mpr h16
      have h18 : (p : Int) ≤ -((lam s : Int) - (mu : Int)) := Int.le_of_dvd (by omega) h17
      omega
  have h19 : ∀ s, s < g → (p : Int) ∣ c (f + s) := by
    refine h2 (fun s => c (f + s)) (fun t ht => ?_)
    have h20 : (p : Int) ∣ si (fun s => c s * U s t) (List.range (f + g)) - 0 := hc t ht
    rw [Int.sub_zero, hsum] at h20
    have h21 : (p : Int) ∣ si (fun s => c s * U s t) (List.range f) := si_dvd fun s hs => Int.dvd_mul_of_dvd_left (h15 s (List.mem_range.mp hs))
    have h22 := Int.dvd_sub h20 h21
    rw [Int.add_comm, Int.add_sub_cancel] at h22
    show (p : Int) ∣ si (fun s => c (f + s) * U (f + s) t) (List.range g) - 0
    rw [Int.sub_zero]
    exact h22
  intro s hs
  by_cases e : s < f
  · exact h15 s e
  · have := h19 (s - f) (by omega)
    rwa [show f + (s - f) = s by omega] at this
end
section
-- pure: permutations of eight points as codes
def encf (g : Nat → Nat) : Nat → Nat
  | 0 => 0
  | n + 1 => encf g n * 8 + g n
def dg (c x : Nat) : Nat := c / 8 ^ (7 - x) % 8
def pm (a b : Nat) : Nat := encf (fun x => dg b (dg a x)) 8
theorem dg_lt (c x : Nat) : dg c x < 8 := Nat.mod_lt _ (by decide)
theorem enc_lt {g : Nat → Nat} (hg : ∀ x, g x < 8) : ∀ n : Nat, encf g n < 8 ^ n
  | 0 => Nat.zero_lt_one
  | n + 1 => by
    have h1 := enc_lt hg n
    have h2 := hg n
    show encf g n * 8 + g n < 8 ^ (n + 1)
    rw [Nat.pow_succ]
    omega
theorem enc_dg {g : Nat → Nat} (hg : ∀ x, g x < 8) : ∀ (n x : Nat), x < n → encf g n / 8 ^ (n - 1 - x) % 8 = g x
  | 0, x, h => absurd h (Nat.not_lt_zero x)
  | n + 1, x, h => by
    have h2 := hg n
    show (encf g n * 8 + g n) / 8 ^ (n + 1 - 1 - x) % 8 = g x
    by_cases e : x = n
    · subst e
      have h3 : x + 1 - 1 - x = 0 := by omega
      rw [h3, Nat.pow_zero, Nat.div_one]
      omega
    · have h3 : n + 1 - 1 - x = (n - 1 - x) + 1 := by omega
      rw [h3, Nat.pow_succ, Nat.mul_comm (8 ^ (n - 1 - x)), ← Nat.div_div_eq_div_mul]
      have h4 : (encf g n * 8 + g n) / 8 = encf g n := by omega
      rw [h4]
      exact enc_dg hg n x (by omega)
theorem enc_of (c n : Nat) : ∀ k : Nat, k ≤ n → encf (fun x => c / 8 ^ (n - 1 - x) % 8) k = c / 8 ^ (n - k) % 8 ^ k
  | 0, _ => by
    show 0 = c / 8 ^ (n - 0) % 8 ^ 0
    rw [Nat.pow_zero, Nat.mod_one]
  | k + 1, hk => by
    show encf (fun x => c / 8 ^ (n - 1 - x) % 8) k * 8 + c / 8 ^ (n - 1 - k) % 8 = _
    rw [enc_of c n k (by omega)]
    have h1 : n - k = (n - (k + 1)) + 1 := by omega
    have h2 : n - 1 - k = n - (k + 1) := by omega
    rw [h1, h2, Nat.pow_succ, ← Nat.div_div_eq_div_mul, Nat.pow_succ, Nat.mul_comm (8 ^ k), Nat.mod_mul]
    omega
theorem dg_ext {c c' : Nat} (h : c < 8 ^ 8) (h' : c' < 8 ^ 8) (e : ∀ x, x < 8 → dg c x = dg c' x) : c = c' := by
  have h1 := enc_of c 8 8 (Nat.le_refl 8)
  have h2 := enc_of c' 8 8 (Nat.le_refl 8)
  rw [Nat.sub_self, Nat.pow_zero, Nat.div_one, Nat.mod_eq_of_lt h] at h1
  rw [Nat.sub_self, Nat.pow_zero, Nat.div_one, Nat.mod_eq_of_lt h'] at h2
  rw [← h1, ← h2]
  have h3 : ∀ n, n ≤ 8 → encf (fun x => c / 8 ^ (8 - 1 - x) % 8) n = encf (fun x => c' / 8 ^ (8 - 1 - x) % 8) n := by
    intro n
    induction n with
    | zero => intro _; rfl
    | succ n ih =>
      intro hn
      show encf _ n * 8 + dg c n = encf _ n * 8 + dg c' n
      rw [ih (by omega), e n (by omega)]
  exact h3 8 (Nat.le_refl 8)
theorem pm_lt (a b : Nat) : pm a b < 8 ^ 8 := enc_lt (fun _ => dg_lt _ _) 8
theorem pm_dg (a b : Nat) {x : Nat} (hx : x < 8) : dg (pm a b) x = dg b (dg a x) := enc_dg (g := fun x => dg b (dg a x)) (fun _ => dg_lt _ _) 8 x hx
theorem pm_as (a b c : Nat) : pm (pm a b) c = pm a (pm b c) := dg_ext (pm_lt _ _) (pm_lt _ _) fun x hx => by
  rw [pm_dg _ _ hx, pm_dg _ _ hx, pm_dg _ _ hx, pm_dg _ _ (dg_lt a x)]
def pid : Nat := 342391
theorem pid_dg : ∀ x, x < 8 → dg pid x = x := by decide
theorem pm_l1 {a : Nat} (ha : a < 8 ^ 8) : pm pid a = a := dg_ext (pm_lt _ _) ha fun x hx => by rw [pm_dg _ _ hx, pid_dg x hx]
theorem pm_r1 {a : Nat} (ha : a < 8 ^ 8) : pm a pid = a := dg_ext (pm_lt _ _) ha fun x hx => by rw [pm_dg _ _ hx, pid_dg _ (dg_lt a x)]
def isP (c : Nat) : Prop := c < 8 ^ 8 ∧ ∀ x, x < 8 → ∀ y, y < 8 → dg c x = dg c y → x = y
theorem isP_pm {a b : Nat} (ha : isP a) (hb : isP b) : isP (pm a b) := ⟨pm_lt a b, fun x hx y hy e => by
  rw [pm_dg _ _ hx, pm_dg _ _ hy] at e
  exact ha.2 x hx y hy (hb.2 _ (dg_lt a x) _ (dg_lt a y) e)⟩
theorem isP_id : isP pid := ⟨by decide, fun x hx y hy e => by rw [pid_dg x hx, pid_dg y hy] at e; exact e⟩
-- every point is an image
theorem isP_on {a : Nat} (ha : isP a) {y : Nat} (hy : y < 8) : ∃ x, x < 8 ∧ dg a x = y := Classical.byContradiction fun hn => by
  have h1 : ((List.range 8).map (dg a)).Nodup := List.pairwise_map.mpr (List.Pairwise.imp_of_mem (fun {u v} hu hv huv he => by
    have := ha.2 u (List.mem_range.mp hu) v (List.mem_range.mp hv) he
    omega) List.pairwise_lt_range)
  have h2 : (y :: (List.range 8).map (dg a)).Nodup := List.nodup_cons.mpr ⟨fun h => by
    obtain ⟨x, hx, e⟩ := List.mem_map.mp h
    exact hn ⟨x, List.mem_range.mp hx, e⟩, h1⟩
  have h3 := h2.length_le_of_subset (l₂ := List.range 8) (fun z hz => by
    rcases List.mem_cons.mp hz with rfl | hz
    · exact List.mem_range.mpr hy
    · obtain ⟨x, _, rfl⟩ := List.mem_map.mp hz
      exact List.mem_range.mpr (dg_lt a x))
  simp at h3
-- the inverse: a code whose digit at the image of x is x
def pinv (a b : Nat) : Prop := b < 8 ^ 8 ∧ ∀ x, x < 8 → dg b (dg a x) = x
theorem pinv_r {a b : Nat} (h : pinv a b) : pm a b = pid := dg_ext (pm_lt _ _) (by decide) fun x hx => by rw [pm_dg _ _ hx, h.2 x hx, pid_dg x hx]
theorem pinv_l {a b : Nat} (ha : isP a) (h : pinv a b) : pm b a = pid := dg_ext (pm_lt _ _) (by decide) fun x hx => by
  obtain ⟨y, hy, e⟩ := isP_on ha hx
  rw [pm_dg _ _ hx, pid_dg x hx, ← e, h.2 y hy]
theorem isP_inv {a b : Nat} (ha : isP a) (h : pinv a b) : isP b := ⟨h.1, fun x hx y hy e => by
  obtain ⟨u, hu, e1⟩ := isP_on ha hx
  obtain ⟨v, hv, e2⟩ := isP_on ha hy
  rw [← e1, ← e2, h.2 u hu, h.2 v hv] at e
  rw [← e1, ← e2, e]⟩
end
section
-- pure: a solved system (each solved column has its 1 alone in its row), its kernel by the free columns
def rr (p d : Nat) (S0 S : Nat → Nat → Int) (sb : Nat → Option Nat) : Prop :=
  (∀ x : Nat → Int, (∀ r, r < d → (p : Int) ∣ si (fun j => S0 r j * x j) (List.range d)) ↔ (∀ r, r < d → (p : Int) ∣ si (fun j => S r j * x j) (List.range d))) ∧
  (∀ c r, c < d → sb c = some r → r < d ∧ (p : Int) ∣ S r c - 1 ∧ ∀ r', r' < d → r' ≠ r → (p : Int) ∣ S r' c) ∧
  (∀ c c' r, c < d → c' < d → sb c = some r → sb c' = some r → c = c') ∧
  (∀ r, r < d → (∀ c, c < d → sb c ≠ some r) → ∀ j, j < d → (p : Int) ∣ S r j)
def rr_X (S : Nat → Nat → Int) (sb : Nat → Option Nat) (f j : Nat) : Int := if j = f then 1 else match sb j with
  | some r => -(S r f)
  | none => 0
def rr_fr (d : Nat) (sb : Nat → Option Nat) : List Nat := (List.range d).filter (fun c => decide (sb c = none))
theorem rr_sol {p d : Nat} {S0 S : Nat → Nat → Int} {sb : Nat → Option Nat} (h : rr p d S0 S sb) {f : Nat} (hf : f < d) (hfn : sb f = none) : ∀ r, r < d → (p : Int) ∣ si (fun j => S0 r j * rr_X S sb f j) (List.range d) := by
  refine (h.1 _).mpr fun r hr => ?_
  by_cases hc : ∃ c, c < d ∧ sb c = some r
  · obtain ⟨c, hcd, hcr⟩ := hc
    have h1 := h.2.1 c r hcd hcr
    have hcf : c ≠ f := fun e => by rw [e, hfn] at hcr; cases hcr
    have h2 : (p : Int) ∣ si (fun j => S r j * rr_X S sb f j) (List.range d) - si (fun j => ib (decide (j = f)) * S r f - ib (decide (j = c)) * S r f) (List.range d) := si_cong fun j hj => by
      have hjd := List.mem_range.mp hj
      by_cases e1 : j = f
      · subst e1
        simp [rr_X, ib, Ne.symm hcf]
      · by_cases e2 : j = c
        · subst e2
          simp only [rr_X, ib, hcr, if_neg e1]
          obtain ⟨q, hq⟩ := h1.2.1
          refine ⟨-(q * S r f), ?_⟩
          simp [e1]
          grind
        · simp only [rr_X, ib, if_neg e1]
          cases hs : sb j with
          | none => simp [e1, e2]
          | some r' =>
            have hr' : r ≠ r' := fun e => e2 (h.2.2.1 j c r' hjd hcd hs (e ▸ hcr))
            have h3 := (h.2.1 j r' hjd hs).2.2 r hr hr'
            simp [e1, e2]
            exact Int.dvd_mul_of_dvd_left h3
    have h4 : si (fun j => ib (decide (j = f)) * S r f - ib (decide (j = c)) * S r f) (List.range d) = 0 := by
      rw [si_sub, si_one (fun _ => S r f) f List.nodup_range (List.mem_range.mpr hf), si_one (fun _ => S r f) c List.nodup_range (List.mem_range.mpr hcd), Int.sub_self]
    rw [h4, Int.sub_zero] at h2
    exact h2
  · exact si_dvd fun j hj => Int.dvd_mul_of_dvd_left (h.2.2.2 r hr (fun c hcd e => hc ⟨c, hcd, e⟩) j (List.mem_range.mp hj))
theorem rr_ker {p d : Nat} {S0 S : Nat → Nat → Int} {sb : Nat → Option Nat} (h : rr p d S0 S sb) {x : Nat → Int} (hx : ∀ r, r < d → (p : Int) ∣ si (fun j => S0 r j * x j) (List.range d)) : vq p d x (fun j => si (fun f => x f * rr_X S sb f j) (rr_fr d sb)) := by
  have hx2 := (h.1 x).mp hx
  intro j hj
  show (p : Int) ∣ x j - si (fun f => x f * rr_X S sb f j) (rr_fr d sb)
  unfold rr_fr
  rw [si_filter]
  cases hs : sb j with
  | none =>
    have h1 : si (fun f => ib (decide (sb f = none)) * (x f * rr_X S sb f j)) (List.range d) = si (fun f => ib (decide (f = j)) * x f) (List.range d) := si_congr fun f _ => by
      by_cases e : f = j
      · subst e; simp [ib, hs, rr_X]
      · simp [ib, rr_X, hs, e, Ne.symm e]
    rw [h1, si_one x j List.nodup_range (List.mem_range.mpr hj), Int.sub_self]
    exact Int.dvd_zero _
  | some r =>
    have h1 := h.2.1 j r hj hs
    have h2 := hx2 r h1.1
    have h3 : (p : Int) ∣ si (fun c => S r c * x c) (List.range d) - si (fun c => ib (decide (c = j)) * x c - ib (decide (sb c = none)) * (x c * rr_X S sb c j)) (List.range d) := si_cong fun c hc => by
      have hcd := List.mem_range.mp hc
      by_cases e : c = j
      · subst e
        obtain ⟨q, hq⟩ := h1.2.1
        refine ⟨q * x c, ?_⟩
        simp [ib, hs]
        grind
      · cases hs2 : sb c with
        | none =>
          have h4 : rr_X S sb c j = -(S r c) := by simp [rr_X, Ne.symm e, hs]
          rw [h4]
          simp [ib, e]
          exact ⟨0, by grind⟩
        | some r' =>
          have hr' : r ≠ r' := fun e9 => e (h.2.2.1 c j r' hcd hj hs2 (e9 ▸ hs))
          have h5 := (h.2.1 c r' hcd hs2).2.2 r h1.1 hr'
          simp [ib, e]
          exact Int.dvd_mul_of_dvd_left h5
    have h6 := Int.dvd_sub h2 h3
    have h7 : ∀ a b : Int, a - (a - b) = b := fun a b => by omega
    rw [h7, si_sub, si_one x j List.nodup_range (List.mem_range.mpr hj)] at h6
    exact h6
end
section
-- by mk.py: callees, links, and that each call of a method goes to what its contract says
def spS (b n : Nat) (y : MethodName) (cc : ByteArray) (nL : Nat) (ret : Option FieldType) (fr lo : Nat) : sx_S := (n, fun As w Q => ∀ (l : Launch) (D : va_G) (E : sx_E) (B : Nat) (A : Nat → Prop), b ≤ B → sM l D E B A y cc nL ret fr lo As w Q)
def spV (b ci n : Nat) (y : MethodName) (cc : ByteArray) (nL : Nat) (ret : Option FieldType) (fr lo : Nat) : sx_S := (n, fun As w Q => (∃ (n0 : Nat) (tl fs : List sx_V), As = .inr (n0, 0) :: tl ∧ n0 < b ∧ w n0 = .inr (.inr (ci, fs))) ∧ ∀ (l : Launch) (D : va_G) (E : sx_E) (B : Nat) (A : Nat → Prop), b ≤ B → sM l D E B A y cc nL ret fr lo As w Q)
-- System.arraycopy from a row to a row
def spCopy : sx_S := (5, fun As w Q => ∃ (n0 j0 n1 j1 N0 K0 N1 K1 sp dp n : Nat) (M0 M1 : Nat → Nat → Int32), As = [.inr (n0, j0 + 1), .inl (nI sp), .inr (n1, j1 + 1), .inl (nI dp), .inl (nI n)] ∧ n0 < 29 ∧ n1 < 29 ∧ w n0 = .inr (.inl (N0, K0, M0)) ∧ w n1 = .inr (.inl (N1, K1, M1)) ∧ j0 < N0 ∧ j1 < N1 ∧ sp + n ≤ K0 ∧ dp + n ≤ K1 ∧ K0 < 2 ^ 31 ∧ K1 < 2 ^ 31 ∧ Q = fun r w' => r = none ∧ w' = va_up w n1 (.inr (.inl (N1, K1, va_up M1 j1 (va_cpy (M0 j0) (M1 j1) sp dp n)))))
theorem sx_CalCopy {l : Launch} {own : String} {Ts wn : List Cond} {R : Room} {D : va_G} {cl : List vw_C} {A : Nat → Prop} {E : sx_E} {B nL ix : Nat} {cc : ByteArray} (hB : 29 ≤ B) (hlk : Cond.methodLink own ix arraycopyName ∈ Ts) (hnat : Cond.native arraycopyName ∈ Ts) (hst : Cond.static arraycopyName ∈ Ts) (hin : Cond.initialized "java/lang/System" ∈ Ts) (hfr : 1 ≤ R.frames) (hlo : 8 + (nativeFrameWords "java/lang/System" "arraycopy" 5 + 11) ≤ R.locals) : sx_Cal l own Ts wn R D cl A E B nL cc (.invokestatic ix) spCopy := by
  intro p e s m args below meth c Q H0 CF hK hN K hk pc L st w hdg hc H locs ls hL hl hP hD hS
  obtain ⟨hn1, hroom, Qs, ⟨n0, j0, n1, j1, N0, K0, N1, K1, sp, dp, n, M0, M1, hAs, h0, h1, hw0, hw1, hj0, hj1, hk0, hk1, hs0, hs1, rfl⟩, hpost⟩ := hc
  have hts := CF.2.2.2.2
  have hstk := sx_stk E st 5
  have hAs' : (List.take 5 st).reverse = [.inr (n0, j0 + 1), .inl (nI sp), .inr (n1, j1 + 1), .inl (nI dp), .inl (nI n)] := hAs
  rw [hAs'] at hstk
  obtain ⟨o0, ho0, -⟩ := sx_off E w n0 B (by omega)
  have ho0 := ho0 (j0 + 1) (E.2.1 n0 j0, .inl (E.2.2.1, K0, .inl (M0 j0))) (by rw [hw0]; simp [sx_c, List.getElem?_range hj0])
  obtain ⟨o1, ho1, hset⟩ := sx_off E w n1 B (by omega)
  have ho1 := ho1 (j1 + 1) (E.2.1 n1 j1, .inl (E.2.2.1, K1, .inl (M1 j1))) (by rw [hw1]; simp [sx_c, List.getElem?_range hj1])
  have hset := hset (j1 + 1) (E.2.1 n1 j1, .inl (E.2.2.1, K1, .inl (va_cpy (M0 j0) (M1 j1) sp dp n))) (.inr (.inl (N1, K1, va_up M1 j1 (va_cpy (M0 j0) (M1 j1) sp dp n)))) (by rw [hw1]; simp [sx_c]; omega) (by
    rw [hw1]
    simp only [sx_c, List.set_cons_succ]
    rw [sx_rset]
    refine congrArg _ (List.map_congr_left fun b _ => ?_)
    by_cases hb9 : b = j1
    · subst hb9; simp [va_up]
    · simp [va_up, hb9])
  rw [hstk]
  have c1 := nI_clamp (n := sp) (by omega)
  have c2 := nI_clamp (n := dp) (by omega)
  have c3 := nI_clamp (n := n) (by omega)
  refine va_copyi (rest := (st.drop 5).map (sx_v E)) CF.1 CF.2.1 (CF.2.2.1.trans hl.1.symm) CF.2.2.2.1 (hts _ hlk) (hts _ hnat) (hts _ hst) (hts _ hin) hK hP hD hS (o0 + (j0 + 1)) (o1 + (j1 + 1)) 0 0 ho0 ho1 rfl rfl rfl (nI_pos (by omega)) (nI_pos (by omega)) (nI_pos (by omega)) (by rw [c1, c3]; exact hk0) (by rw [c2, c3]; exact hk1) (fun _ _ => rfl) hfr (by
    rw [sx_cats]
    have h9 : (List.drop 5 st).length ≤ 8 := hroom
    omega) hdg (fun H1 locs1 hP1 hD1 hS1 => ?_)
  rw [c1, c2, c3, hset] at hP1 hD1
  exact hk _ _ _ _ (hpost none _ ⟨rfl, rfl⟩) H1 locs1 ls hL hl hP1 hD1 hS1
def csL : List sx_S := [
  spV 29 0 2 yCc_add prog_1_method_2_code 2 (some .boolean) 1 22,
  spV 29 0 1 yCc_clear prog_1_method_3_code 1 none 0 0,
  spV 29 0 1 yCc_build prog_1_method_4_code 1 (some .int) 6 153,
  spV 29 0 1 yCc_order prog_1_method_5_code 1 (some .int) 1 20,
  spV 29 0 2 yCc_element prog_1_method_6_code 2 (some .int) 1 20,
  spV 29 0 2 yCc_classOf prog_1_method_7_code 2 (some .int) 3 68,
  spV 29 0 1 yCc_classes prog_1_method_8_code 1 (some .int) 1 20,
  spV 29 0 2 yCc_size prog_1_method_9_code 2 (some .int) 2 41,
  spV 29 0 2 yCc_least prog_1_method_10_code 2 (some .int) 2 41,
  spV 29 0 3 yCc_power prog_1_method_11_code 3 (some .int) 2 41,
  spV 29 0 4 yCc_constant prog_1_method_12_code 4 (some .int) 2 45,
  spV 29 0 1 yCc_exponent prog_1_method_13_code 1 (some .int) 1 20,
  spV 29 0 1 yCc_prime prog_1_method_14_code 1 (some .int) 1 20,
  spV 29 0 1 yCc_root prog_1_method_15_code 1 (some .int) 1 20,
  spV 29 0 2 yCc_degree prog_1_method_16_code 2 (some .int) 2 41,
  spV 29 0 3 yCc_value prog_1_method_17_code 3 (some .int) 2 41,
  spV 29 0 4 yCc_multiplicity prog_1_method_18_code 4 (some .int) 3 81,
  spV 29 0 2 yCc_indicator prog_1_method_19_code 2 (some .int) 2 41,
  spV 29 0 2 yCc_kernel prog_1_method_20_code 2 (some .int) 2 41,
  spV 29 0 1 yCc_normals prog_1_method_21_code 1 (some .int) 1 20,
  spV 29 0 1 yCc_isBuilt prog_1_method_22_code 1 (some .boolean) 0 0,
  spV 29 0 2 yCc_isClass prog_1_method_23_code 2 (some .boolean) 1 20,
  spV 29 0 1 yCc_workOut prog_1_method_24_code 1 (some .int) 5 133,
  spS 11 2 yMo_image prog_9_method_2_code 2 (some .int) 0 0,
  spS 11 2 yMo_product prog_9_method_3_code 5 (some .int) 1 21,
  spS 11 1 yMo_inverted prog_9_method_4_code 4 (some .int) 1 21,
  spS 11 1 yMo_isPermutation prog_9_method_5_code 3 (some .boolean) 1 21,
  spV 11 6 2 yMo_add prog_9_method_6_code 2 (some .boolean) 2 43,
  spV 11 6 1 yMo_clear prog_9_method_7_code 1 none 0 0,
  spV 11 6 2 yMo_find prog_9_method_8_code 3 (some .int) 0 0,
  spV 11 6 1 yMo_close prog_9_method_9_code 4 (some .boolean) 2 45,
  spV 11 6 1 yMo_classify prog_9_method_10_code 6 (some .boolean) 2 45,
  spV 11 6 1 yMo_count prog_9_method_11_code 5 none 2 45,
  spV 11 6 3 yMo_powerOf prog_9_method_12_code 5 (some .int) 2 45,
  spV 11 6 2 yMo_allAtOnce prog_9_method_13_code 4 (some .boolean) 3 69,
  spS 11 1 yMo_isPrime prog_9_method_14_code 3 (some .boolean) 0 0,
  spV 11 6 1 yMo_numbers prog_9_method_15_code 1 none 4 92,
  spV 11 6 2 yMo_isRoot prog_9_method_16_code 5 (some .boolean) 0 0,
  spV 11 6 2 yMo_mod prog_9_method_17_code 3 (some .int) 0 0,
  spV 11 6 3 yMo_raised prog_9_method_18_code 5 (some .int) 0 0,
  spV 11 6 3 yMo_over prog_9_method_19_code 3 (some .int) 1 24,
  spV 11 6 4 yMo_multiply prog_9_method_20_code 9 none 0 0,
  spV 11 6 3 yMo_copy prog_9_method_21_code 4 none 0 0,
  spV 11 6 1 yMo_fermat prog_9_method_22_code 3 none 1 28,
  spV 11 6 3 yMo_ratio prog_9_method_23_code 7 (some .int) 2 46,
  spV 11 6 3 yMo_split prog_9_method_24_code 7 none 3 72,
  spV 11 6 1 yMo_takeApart prog_9_method_25_code 4 none 4 98,
  spV 11 6 2 yMo_inverseOf prog_9_method_26_code 3 (some .int) 2 44,
  spV 11 6 2 yMo_makeRow prog_9_method_27_code 6 none 3 72,
  spV 11 6 3 yMo_comesBefore prog_9_method_28_code 4 (some .boolean) 0 0,
  spV 11 6 3 yMo_exchange prog_9_method_29_code 6 none 0 0,
  spV 11 6 1 yMo_build prog_9_method_30_code 3 (some .int) 5 121,
  spV 11 6 2 yMo_isClass prog_9_method_31_code 2 (some .boolean) 0 0,
  spV 11 6 1 yMo_order prog_9_method_32_code 1 (some .int) 0 0,
  spV 11 6 2 yMo_element prog_9_method_33_code 2 (some .int) 0 0,
  spV 11 6 2 yMo_classOf prog_9_method_34_code 3 (some .int) 1 22,
  spV 11 6 1 yMo_classes prog_9_method_35_code 1 (some .int) 0 0,
  spV 11 6 2 yMo_size prog_9_method_36_code 2 (some .int) 1 21,
  spV 11 6 2 yMo_least prog_9_method_37_code 2 (some .int) 1 21,
  spV 11 6 3 yMo_power prog_9_method_38_code 4 (some .int) 3 69,
  spV 11 6 4 yMo_constant prog_9_method_39_code 4 (some .int) 1 21,
  spV 11 6 1 yMo_exponent prog_9_method_40_code 1 (some .int) 0 0,
  spV 11 6 1 yMo_prime prog_9_method_41_code 1 (some .int) 0 0,
  spV 11 6 1 yMo_root prog_9_method_42_code 1 (some .int) 0 0,
  spV 11 6 2 yMo_degree prog_9_method_43_code 2 (some .int) 1 21,
  spV 11 6 3 yMo_value prog_9_method_44_code 3 (some .int) 1 21,
  spV 11 6 4 yMo_multiplicity prog_9_method_45_code 9 (some .int) 2 46,
  spV 11 6 2 yMo_indicator prog_9_method_46_code 4 (some .int) 4 92,
  spV 11 6 2 yMo_kernel prog_9_method_47_code 4 (some .int) 1 21,
  spV 11 6 3 yMo_insert prog_9_method_48_code 4 (some .int) 0 0,
  spV 11 6 1 yMo_normals prog_9_method_49_code 4 (some .int) 2 44,
  spV 29 4 3 yCm_find prog_2_method_2_code 5 none 4 109,
  spV 29 4 1 yCm_startWhole prog_2_method_3_code 2 none 1 23,
  spV 29 4 5 yCm_setAction prog_2_method_4_code 11 none 2 45,
  spV 29 4 4 yCm_split prog_2_method_5_code 8 none 3 82,
  spV 29 4 4 yCm_setSystem prog_2_method_6_code 5 none 2 43,
  spV 29 4 3 yCm_solve prog_2_method_7_code 6 none 2 57,
  spV 29 4 4 yCm_swapRows prog_2_method_8_code 6 none 0 0,
  spV 29 4 5 yCm_clearColumn prog_2_method_9_code 9 none 1 29,
  spV 29 4 6 yCm_takeSolution prog_2_method_10_code 10 none 1 40,
  spV 29 4 2 yCm_scale prog_2_method_11_code 5 none 1 29,
  spS 29 1 yCd_isPermutation prog_3_method_2_code 3 (some .boolean) 0 0,
  spS 29 2 yCd_product prog_3_method_3_code 6 (some .int) 0 0,
  spS 29 1 yCd_inverse prog_3_method_4_code 4 (some .int) 0 0,
  spV 29 2 2 yCo_divide prog_4_method_2_code 3 (some .boolean) 3 71,
  spV 29 2 3 yCo_gather prog_4_method_3_code 7 none 2 45,
  spV 29 2 3 yCo_classHolding prog_4_method_4_code 4 (some .int) 2 45,
  spV 29 2 2 yCo_listPowers prog_4_method_5_code 5 none 3 68,
  spV 29 2 3 yCo_classRaised prog_4_method_6_code 3 (some .int) 0 0,
  spV 29 2 2 yCo_inverseOf prog_4_method_7_code 2 (some .int) 0 0,
  spV 29 2 2 yCo_countPairs prog_4_method_8_code 6 none 3 68,
  spV 29 2 4 yCo_pairs prog_4_method_9_code 4 (some .int) 1 22,
  spS 29 3 yCo_pairPlace prog_4_method_10_code 3 (some .int) 0 0,
  spV 29 1 3 yEl_generate prog_5_method_2_code 6 (some .boolean) 2 46,
  spV 29 1 2 yEl_indexOf prog_5_method_3_code 3 (some .int) 1 23,
  spV 29 1 2 yEl_include prog_5_method_4_code 4 (some .boolean) 1 23,
  spV 29 1 2 yEl_firstNotBelow prog_5_method_5_code 4 (some .int) 0 0,
  spV 29 3 3 yRe_choose prog_6_method_2_code 5 none 2 45,
  spS 29 1 yRe_isPrime prog_6_method_3_code 2 (some .boolean) 0 0,
  spV 29 3 2 yRe_orderOf prog_6_method_4_code 4 (some .int) 1 22,
  spV 29 3 2 yRe_reduce prog_6_method_5_code 2 (some .int) 1 22,
  spV 29 3 3 yRe_times prog_6_method_6_code 3 (some .int) 0 0,
  spV 29 3 4 yRe_plusTimes prog_6_method_7_code 4 (some .int) 0 0,
  spV 29 3 4 yRe_minusTimes prog_6_method_8_code 4 (some .int) 0 0,
  spV 29 3 3 yRe_over prog_6_method_9_code 3 (some .int) 1 29,
  spV 29 3 2 yRe_reciprocal prog_6_method_10_code 10 (some .int) 0 0,
  spV 29 3 3 yRe_raised prog_6_method_11_code 5 (some .int) 1 22,
  spV 29 5 5 yRo_make prog_7_method_2_code 6 none 4 96,
  spV 29 5 6 yRo_setValues prog_7_method_3_code 9 none 3 68,
  spS 29 3 yRo_degreeFor prog_7_method_4_code 6 (some .int) 2 43,
  spV 29 5 5 yRo_setIndicator prog_7_method_5_code 8 none 2 51,
  spV 29 5 2 yRo_setKernel prog_7_method_6_code 4 none 0 0,
  spV 29 5 2 yRo_insertPlace prog_7_method_7_code 3 none 1 23,
  spV 29 5 3 yRo_comesBefore prog_7_method_8_code 4 (some .boolean) 0 0,
  spV 29 5 1 yRo_listNormals prog_7_method_9_code 4 none 1 22,
  spV 29 5 2 yRo_includeNormal prog_7_method_10_code 3 none 0 0,
  spV 29 5 6 yRo_timesOfRoot prog_7_method_11_code 11 (some .int) 2 51,
  spS 29 2 yMa_floorMod prog_10_method_50_code 3 (some .int) 0 0,
  spS 29 2 yMa_max prog_10_method_65_code 2 (some .int) 0 0,
  spS 29 2 yAr_fill prog_12_method_103_code 4 none 0 0]
def csAll : Nat → sx_S := fun t => if t = 900 then spCopy else csL.getD t (0, fun _ _ _ => False)
theorem mCc_add : Cond.code yCc_add prog_1_method_2_code 2 (some .boolean) ∈ wt := by decide +kernel
theorem miCc_add : Cond.instanceMethod yCc_add ∈ wt ∧ Cond.selects yCc_add.cls yCc_add yCc_add ∈ wt := by decide +kernel
theorem mnCc_add : Cond.initialized yCc_add.cls ∈ wt := by decide +kernel
theorem mCc_clear : Cond.code yCc_clear prog_1_method_3_code 1 none ∈ wt := by decide +kernel
theorem miCc_clear : Cond.instanceMethod yCc_clear ∈ wt ∧ Cond.selects yCc_clear.cls yCc_clear yCc_clear ∈ wt := by decide +kernel
theorem mnCc_clear : Cond.initialized yCc_clear.cls ∈ wt := by decide +kernel
theorem mCc_build : Cond.code yCc_build prog_1_method_4_code 1 (some .int) ∈ wt := by decide +kernel
theorem miCc_build : Cond.instanceMethod yCc_build ∈ wt ∧ Cond.selects yCc_build.cls yCc_build yCc_build ∈ wt := by decide +kernel
theorem mnCc_build : Cond.initialized yCc_build.cls ∈ wt := by decide +kernel
theorem mCc_order : Cond.code yCc_order prog_1_method_5_code 1 (some .int) ∈ wt := by decide +kernel
theorem miCc_order : Cond.instanceMethod yCc_order ∈ wt ∧ Cond.selects yCc_order.cls yCc_order yCc_order ∈ wt := by decide +kernel
theorem mnCc_order : Cond.initialized yCc_order.cls ∈ wt := by decide +kernel
theorem mCc_element : Cond.code yCc_element prog_1_method_6_code 2 (some .int) ∈ wt := by decide +kernel
theorem miCc_element : Cond.instanceMethod yCc_element ∈ wt ∧ Cond.selects yCc_element.cls yCc_element yCc_element ∈ wt := by decide +kernel
theorem mnCc_element : Cond.initialized yCc_element.cls ∈ wt := by decide +kernel
theorem mCc_classOf : Cond.code yCc_classOf prog_1_method_7_code 2 (some .int) ∈ wt := by decide +kernel
theorem miCc_classOf : Cond.instanceMethod yCc_classOf ∈ wt ∧ Cond.selects yCc_classOf.cls yCc_classOf yCc_classOf ∈ wt := by decide +kernel
theorem mnCc_classOf : Cond.initialized yCc_classOf.cls ∈ wt := by decide +kernel
theorem mCc_classes : Cond.code yCc_classes prog_1_method_8_code 1 (some .int) ∈ wt := by decide +kernel
theorem miCc_classes : Cond.instanceMethod yCc_classes ∈ wt ∧ Cond.selects yCc_classes.cls yCc_classes yCc_classes ∈ wt := by decide +kernel
theorem mnCc_classes : Cond.initialized yCc_classes.cls ∈ wt := by decide +kernel
theorem mCc_size : Cond.code yCc_size prog_1_method_9_code 2 (some .int) ∈ wt := by decide +kernel
theorem miCc_size : Cond.instanceMethod yCc_size ∈ wt ∧ Cond.selects yCc_size.cls yCc_size yCc_size ∈ wt := by decide +kernel
theorem mnCc_size : Cond.initialized yCc_size.cls ∈ wt := by decide +kernel
theorem mCc_least : Cond.code yCc_least prog_1_method_10_code 2 (some .int) ∈ wt := by decide +kernel
theorem miCc_least : Cond.instanceMethod yCc_least ∈ wt ∧ Cond.selects yCc_least.cls yCc_least yCc_least ∈ wt := by decide +kernel
theorem mnCc_least : Cond.initialized yCc_least.cls ∈ wt := by decide +kernel
theorem mCc_power : Cond.code yCc_power prog_1_method_11_code 3 (some .int) ∈ wt := by decide +kernel
theorem miCc_power : Cond.instanceMethod yCc_power ∈ wt ∧ Cond.selects yCc_power.cls yCc_power yCc_power ∈ wt := by decide +kernel
theorem mnCc_power : Cond.initialized yCc_power.cls ∈ wt := by decide +kernel
theorem mCc_constant : Cond.code yCc_constant prog_1_method_12_code 4 (some .int) ∈ wt := by decide +kernel
theorem miCc_constant : Cond.instanceMethod yCc_constant ∈ wt ∧ Cond.selects yCc_constant.cls yCc_constant yCc_constant ∈ wt := by decide +kernel
theorem mnCc_constant : Cond.initialized yCc_constant.cls ∈ wt := by decide +kernel
theorem mCc_exponent : Cond.code yCc_exponent prog_1_method_13_code 1 (some .int) ∈ wt := by decide +kernel
theorem miCc_exponent : Cond.instanceMethod yCc_exponent ∈ wt ∧ Cond.selects yCc_exponent.cls yCc_exponent yCc_exponent ∈ wt := by decide +kernel
theorem mnCc_exponent : Cond.initialized yCc_exponent.cls ∈ wt := by decide +kernel
theorem mCc_prime : Cond.code yCc_prime prog_1_method_14_code 1 (some .int) ∈ wt := by decide +kernel
theorem miCc_prime : Cond.instanceMethod yCc_prime ∈ wt ∧ Cond.selects yCc_prime.cls yCc_prime yCc_prime ∈ wt := by decide +kernel
theorem mnCc_prime : Cond.initialized yCc_prime.cls ∈ wt := by decide +kernel
theorem mCc_root : Cond.code yCc_root prog_1_method_15_code 1 (some .int) ∈ wt := by decide +kernel
theorem miCc_root : Cond.instanceMethod yCc_root ∈ wt ∧ Cond.selects yCc_root.cls yCc_root yCc_root ∈ wt := by decide +kernel
theorem mnCc_root : Cond.initialized yCc_root.cls ∈ wt := by decide +kernel
theorem mCc_degree : Cond.code yCc_degree prog_1_method_16_code 2 (some .int) ∈ wt := by decide +kernel
theorem miCc_degree : Cond.instanceMethod yCc_degree ∈ wt ∧ Cond.selects yCc_degree.cls yCc_degree yCc_degree ∈ wt := by decide +kernel
theorem mnCc_degree : Cond.initialized yCc_degree.cls ∈ wt := by decide +kernel
theorem mCc_value : Cond.code yCc_value prog_1_method_17_code 3 (some .int) ∈ wt := by decide +kernel
theorem miCc_value : Cond.instanceMethod yCc_value ∈ wt ∧ Cond.selects yCc_value.cls yCc_value yCc_value ∈ wt := by decide +kernel
theorem mnCc_value : Cond.initialized yCc_value.cls ∈ wt := by decide +kernel
theorem mCc_multiplicity : Cond.code yCc_multiplicity prog_1_method_18_code 4 (some .int) ∈ wt := by decide +kernel
theorem miCc_multiplicity : Cond.instanceMethod yCc_multiplicity ∈ wt ∧ Cond.selects yCc_multiplicity.cls yCc_multiplicity yCc_multiplicity ∈ wt := by decide +kernel
theorem mnCc_multiplicity : Cond.initialized yCc_multiplicity.cls ∈ wt := by decide +kernel
theorem mCc_indicator : Cond.code yCc_indicator prog_1_method_19_code 2 (some .int) ∈ wt := by decide +kernel
theorem miCc_indicator : Cond.instanceMethod yCc_indicator ∈ wt ∧ Cond.selects yCc_indicator.cls yCc_indicator yCc_indicator ∈ wt := by decide +kernel
theorem mnCc_indicator : Cond.initialized yCc_indicator.cls ∈ wt := by decide +kernel
theorem mCc_kernel : Cond.code yCc_kernel prog_1_method_20_code 2 (some .int) ∈ wt := by decide +kernel
theorem miCc_kernel : Cond.instanceMethod yCc_kernel ∈ wt ∧ Cond.selects yCc_kernel.cls yCc_kernel yCc_kernel ∈ wt := by decide +kernel
theorem mnCc_kernel : Cond.initialized yCc_kernel.cls ∈ wt := by decide +kernel
theorem mCc_normals : Cond.code yCc_normals prog_1_method_21_code 1 (some .int) ∈ wt := by decide +kernel
theorem miCc_normals : Cond.instanceMethod yCc_normals ∈ wt ∧ Cond.selects yCc_normals.cls yCc_normals yCc_normals ∈ wt := by decide +kernel
theorem mnCc_normals : Cond.initialized yCc_normals.cls ∈ wt := by decide +kernel
theorem mCc_isBuilt : Cond.code yCc_isBuilt prog_1_method_22_code 1 (some .boolean) ∈ wt := by decide +kernel
theorem miCc_isBuilt : Cond.instanceMethod yCc_isBuilt ∈ wt ∧ Cond.selects yCc_isBuilt.cls yCc_isBuilt yCc_isBuilt ∈ wt := by decide +kernel
theorem mnCc_isBuilt : Cond.initialized yCc_isBuilt.cls ∈ wt := by decide +kernel
theorem mCc_isClass : Cond.code yCc_isClass prog_1_method_23_code 2 (some .boolean) ∈ wt := by decide +kernel
theorem miCc_isClass : Cond.instanceMethod yCc_isClass ∈ wt ∧ Cond.selects yCc_isClass.cls yCc_isClass yCc_isClass ∈ wt := by decide +kernel
theorem mnCc_isClass : Cond.initialized yCc_isClass.cls ∈ wt := by decide +kernel
theorem mCc_workOut : Cond.code yCc_workOut prog_1_method_24_code 1 (some .int) ∈ wt := by decide +kernel
theorem miCc_workOut : Cond.instanceMethod yCc_workOut ∈ wt ∧ Cond.selects yCc_workOut.cls yCc_workOut yCc_workOut ∈ wt := by decide +kernel
theorem mnCc_workOut : Cond.initialized yCc_workOut.cls ∈ wt := by decide +kernel
theorem mMo_image : Cond.code yMo_image prog_9_method_2_code 2 (some .int) ∈ wt := by decide +kernel
theorem msMo_image : Cond.static yMo_image ∈ wt := by decide +kernel
theorem mnMo_image : Cond.initialized yMo_image.cls ∈ wt := by decide +kernel
theorem mMo_product : Cond.code yMo_product prog_9_method_3_code 5 (some .int) ∈ wt := by decide +kernel
theorem msMo_product : Cond.static yMo_product ∈ wt := by decide +kernel
theorem mnMo_product : Cond.initialized yMo_product.cls ∈ wt := by decide +kernel
theorem mMo_inverted : Cond.code yMo_inverted prog_9_method_4_code 4 (some .int) ∈ wt := by decide +kernel
theorem msMo_inverted : Cond.static yMo_inverted ∈ wt := by decide +kernel
theorem mnMo_inverted : Cond.initialized yMo_inverted.cls ∈ wt := by decide +kernel
theorem mMo_isPermutation : Cond.code yMo_isPermutation prog_9_method_5_code 3 (some .boolean) ∈ wt := by decide +kernel
theorem msMo_isPermutation : Cond.static yMo_isPermutation ∈ wt := by decide +kernel
theorem mnMo_isPermutation : Cond.initialized yMo_isPermutation.cls ∈ wt := by decide +kernel
theorem mMo_add : Cond.code yMo_add prog_9_method_6_code 2 (some .boolean) ∈ wt := by decide +kernel
theorem miMo_add : Cond.instanceMethod yMo_add ∈ wt ∧ Cond.selects yMo_add.cls yMo_add yMo_add ∈ wt := by decide +kernel
theorem mnMo_add : Cond.initialized yMo_add.cls ∈ wt := by decide +kernel
theorem mMo_clear : Cond.code yMo_clear prog_9_method_7_code 1 none ∈ wt := by decide +kernel
theorem miMo_clear : Cond.instanceMethod yMo_clear ∈ wt ∧ Cond.selects yMo_clear.cls yMo_clear yMo_clear ∈ wt := by decide +kernel
theorem mnMo_clear : Cond.initialized yMo_clear.cls ∈ wt := by decide +kernel
theorem mMo_find : Cond.code yMo_find prog_9_method_8_code 3 (some .int) ∈ wt := by decide +kernel
theorem miMo_find : Cond.instanceMethod yMo_find ∈ wt ∧ Cond.selects yMo_find.cls yMo_find yMo_find ∈ wt := by decide +kernel
theorem mnMo_find : Cond.initialized yMo_find.cls ∈ wt := by decide +kernel
theorem mMo_close : Cond.code yMo_close prog_9_method_9_code 4 (some .boolean) ∈ wt := by decide +kernel
theorem miMo_close : Cond.instanceMethod yMo_close ∈ wt ∧ Cond.selects yMo_close.cls yMo_close yMo_close ∈ wt := by decide +kernel
theorem mnMo_close : Cond.initialized yMo_close.cls ∈ wt := by decide +kernel
theorem mMo_classify : Cond.code yMo_classify prog_9_method_10_code 6 (some .boolean) ∈ wt := by decide +kernel
theorem miMo_classify : Cond.instanceMethod yMo_classify ∈ wt ∧ Cond.selects yMo_classify.cls yMo_classify yMo_classify ∈ wt := by decide +kernel
theorem mnMo_classify : Cond.initialized yMo_classify.cls ∈ wt := by decide +kernel
theorem mMo_count : Cond.code yMo_count prog_9_method_11_code 5 none ∈ wt := by decide +kernel
theorem miMo_count : Cond.instanceMethod yMo_count ∈ wt ∧ Cond.selects yMo_count.cls yMo_count yMo_count ∈ wt := by decide +kernel
theorem mnMo_count : Cond.initialized yMo_count.cls ∈ wt := by decide +kernel
theorem mMo_powerOf : Cond.code yMo_powerOf prog_9_method_12_code 5 (some .int) ∈ wt := by decide +kernel
theorem miMo_powerOf : Cond.instanceMethod yMo_powerOf ∈ wt ∧ Cond.selects yMo_powerOf.cls yMo_powerOf yMo_powerOf ∈ wt := by decide +kernel
theorem mnMo_powerOf : Cond.initialized yMo_powerOf.cls ∈ wt := by decide +kernel
theorem mMo_allAtOnce : Cond.code yMo_allAtOnce prog_9_method_13_code 4 (some .boolean) ∈ wt := by decide +kernel
theorem miMo_allAtOnce : Cond.instanceMethod yMo_allAtOnce ∈ wt ∧ Cond.selects yMo_allAtOnce.cls yMo_allAtOnce yMo_allAtOnce ∈ wt := by decide +kernel
theorem mnMo_allAtOnce : Cond.initialized yMo_allAtOnce.cls ∈ wt := by decide +kernel
theorem mMo_isPrime : Cond.code yMo_isPrime prog_9_method_14_code 3 (some .boolean) ∈ wt := by decide +kernel
theorem msMo_isPrime : Cond.static yMo_isPrime ∈ wt := by decide +kernel
theorem mnMo_isPrime : Cond.initialized yMo_isPrime.cls ∈ wt := by decide +kernel
theorem mMo_numbers : Cond.code yMo_numbers prog_9_method_15_code 1 none ∈ wt := by decide +kernel
theorem miMo_numbers : Cond.instanceMethod yMo_numbers ∈ wt ∧ Cond.selects yMo_numbers.cls yMo_numbers yMo_numbers ∈ wt := by decide +kernel
theorem mnMo_numbers : Cond.initialized yMo_numbers.cls ∈ wt := by decide +kernel
theorem mMo_isRoot : Cond.code yMo_isRoot prog_9_method_16_code 5 (some .boolean) ∈ wt := by decide +kernel
theorem miMo_isRoot : Cond.instanceMethod yMo_isRoot ∈ wt ∧ Cond.selects yMo_isRoot.cls yMo_isRoot yMo_isRoot ∈ wt := by decide +kernel
theorem mnMo_isRoot : Cond.initialized yMo_isRoot.cls ∈ wt := by decide +kernel
theorem mMo_mod : Cond.code yMo_mod prog_9_method_17_code 3 (some .int) ∈ wt := by decide +kernel
theorem miMo_mod : Cond.instanceMethod yMo_mod ∈ wt ∧ Cond.selects yMo_mod.cls yMo_mod yMo_mod ∈ wt := by decide +kernel
theorem mnMo_mod : Cond.initialized yMo_mod.cls ∈ wt := by decide +kernel
theorem mMo_raised : Cond.code yMo_raised prog_9_method_18_code 5 (some .int) ∈ wt := by decide +kernel
theorem miMo_raised : Cond.instanceMethod yMo_raised ∈ wt ∧ Cond.selects yMo_raised.cls yMo_raised yMo_raised ∈ wt := by decide +kernel
theorem mnMo_raised : Cond.initialized yMo_raised.cls ∈ wt := by decide +kernel
theorem mMo_over : Cond.code yMo_over prog_9_method_19_code 3 (some .int) ∈ wt := by decide +kernel
theorem miMo_over : Cond.instanceMethod yMo_over ∈ wt ∧ Cond.selects yMo_over.cls yMo_over yMo_over ∈ wt := by decide +kernel
theorem mnMo_over : Cond.initialized yMo_over.cls ∈ wt := by decide +kernel
theorem mMo_multiply : Cond.code yMo_multiply prog_9_method_20_code 9 none ∈ wt := by decide +kernel
theorem miMo_multiply : Cond.instanceMethod yMo_multiply ∈ wt ∧ Cond.selects yMo_multiply.cls yMo_multiply yMo_multiply ∈ wt := by decide +kernel
theorem mnMo_multiply : Cond.initialized yMo_multiply.cls ∈ wt := by decide +kernel
theorem mMo_copy : Cond.code yMo_copy prog_9_method_21_code 4 none ∈ wt := by decide +kernel
theorem miMo_copy : Cond.instanceMethod yMo_copy ∈ wt ∧ Cond.selects yMo_copy.cls yMo_copy yMo_copy ∈ wt := by decide +kernel
theorem mnMo_copy : Cond.initialized yMo_copy.cls ∈ wt := by decide +kernel
theorem mMo_fermat : Cond.code yMo_fermat prog_9_method_22_code 3 none ∈ wt := by decide +kernel
theorem miMo_fermat : Cond.instanceMethod yMo_fermat ∈ wt ∧ Cond.selects yMo_fermat.cls yMo_fermat yMo_fermat ∈ wt := by decide +kernel
theorem mnMo_fermat : Cond.initialized yMo_fermat.cls ∈ wt := by decide +kernel
theorem mMo_ratio : Cond.code yMo_ratio prog_9_method_23_code 7 (some .int) ∈ wt := by decide +kernel
theorem miMo_ratio : Cond.instanceMethod yMo_ratio ∈ wt ∧ Cond.selects yMo_ratio.cls yMo_ratio yMo_ratio ∈ wt := by decide +kernel
theorem mnMo_ratio : Cond.initialized yMo_ratio.cls ∈ wt := by decide +kernel
theorem mMo_split : Cond.code yMo_split prog_9_method_24_code 7 none ∈ wt := by decide +kernel
theorem miMo_split : Cond.instanceMethod yMo_split ∈ wt ∧ Cond.selects yMo_split.cls yMo_split yMo_split ∈ wt := by decide +kernel
theorem mnMo_split : Cond.initialized yMo_split.cls ∈ wt := by decide +kernel
theorem mMo_takeApart : Cond.code yMo_takeApart prog_9_method_25_code 4 none ∈ wt := by decide +kernel
theorem miMo_takeApart : Cond.instanceMethod yMo_takeApart ∈ wt ∧ Cond.selects yMo_takeApart.cls yMo_takeApart yMo_takeApart ∈ wt := by decide +kernel
theorem mnMo_takeApart : Cond.initialized yMo_takeApart.cls ∈ wt := by decide +kernel
theorem mMo_inverseOf : Cond.code yMo_inverseOf prog_9_method_26_code 3 (some .int) ∈ wt := by decide +kernel
theorem miMo_inverseOf : Cond.instanceMethod yMo_inverseOf ∈ wt ∧ Cond.selects yMo_inverseOf.cls yMo_inverseOf yMo_inverseOf ∈ wt := by decide +kernel
theorem mnMo_inverseOf : Cond.initialized yMo_inverseOf.cls ∈ wt := by decide +kernel
theorem mMo_makeRow : Cond.code yMo_makeRow prog_9_method_27_code 6 none ∈ wt := by decide +kernel
theorem miMo_makeRow : Cond.instanceMethod yMo_makeRow ∈ wt ∧ Cond.selects yMo_makeRow.cls yMo_makeRow yMo_makeRow ∈ wt := by decide +kernel
theorem mnMo_makeRow : Cond.initialized yMo_makeRow.cls ∈ wt := by decide +kernel
theorem mMo_comesBefore : Cond.code yMo_comesBefore prog_9_method_28_code 4 (some .boolean) ∈ wt := by decide +kernel
theorem miMo_comesBefore : Cond.instanceMethod yMo_comesBefore ∈ wt ∧ Cond.selects yMo_comesBefore.cls yMo_comesBefore yMo_comesBefore ∈ wt := by decide +kernel
theorem mnMo_comesBefore : Cond.initialized yMo_comesBefore.cls ∈ wt := by decide +kernel
theorem mMo_exchange : Cond.code yMo_exchange prog_9_method_29_code 6 none ∈ wt := by decide +kernel
theorem miMo_exchange : Cond.instanceMethod yMo_exchange ∈ wt ∧ Cond.selects yMo_exchange.cls yMo_exchange yMo_exchange ∈ wt := by decide +kernel
theorem mnMo_exchange : Cond.initialized yMo_exchange.cls ∈ wt := by decide +kernel
theorem mMo_build : Cond.code yMo_build prog_9_method_30_code 3 (some .int) ∈ wt := by decide +kernel
theorem miMo_build : Cond.instanceMethod yMo_build ∈ wt ∧ Cond.selects yMo_build.cls yMo_build yMo_build ∈ wt := by decide +kernel
theorem mnMo_build : Cond.initialized yMo_build.cls ∈ wt := by decide +kernel
theorem mMo_isClass : Cond.code yMo_isClass prog_9_method_31_code 2 (some .boolean) ∈ wt := by decide +kernel
theorem miMo_isClass : Cond.instanceMethod yMo_isClass ∈ wt ∧ Cond.selects yMo_isClass.cls yMo_isClass yMo_isClass ∈ wt := by decide +kernel
theorem mnMo_isClass : Cond.initialized yMo_isClass.cls ∈ wt := by decide +kernel
theorem mMo_order : Cond.code yMo_order prog_9_method_32_code 1 (some .int) ∈ wt := by decide +kernel
theorem miMo_order : Cond.instanceMethod yMo_order ∈ wt ∧ Cond.selects yMo_order.cls yMo_order yMo_order ∈ wt := by decide +kernel
theorem mnMo_order : Cond.initialized yMo_order.cls ∈ wt := by decide +kernel
theorem mMo_element : Cond.code yMo_element prog_9_method_33_code 2 (some .int) ∈ wt := by decide +kernel
theorem miMo_element : Cond.instanceMethod yMo_element ∈ wt ∧ Cond.selects yMo_element.cls yMo_element yMo_element ∈ wt := by decide +kernel
theorem mnMo_element : Cond.initialized yMo_element.cls ∈ wt := by decide +kernel
theorem mMo_classOf : Cond.code yMo_classOf prog_9_method_34_code 3 (some .int) ∈ wt := by decide +kernel
theorem miMo_classOf : Cond.instanceMethod yMo_classOf ∈ wt ∧ Cond.selects yMo_classOf.cls yMo_classOf yMo_classOf ∈ wt := by decide +kernel
theorem mnMo_classOf : Cond.initialized yMo_classOf.cls ∈ wt := by decide +kernel
theorem mMo_classes : Cond.code yMo_classes prog_9_method_35_code 1 (some .int) ∈ wt := by decide +kernel
theorem miMo_classes : Cond.instanceMethod yMo_classes ∈ wt ∧ Cond.selects yMo_classes.cls yMo_classes yMo_classes ∈ wt := by decide +kernel
theorem mnMo_classes : Cond.initialized yMo_classes.cls ∈ wt := by decide +kernel
theorem mMo_size : Cond.code yMo_size prog_9_method_36_code 2 (some .int) ∈ wt := by decide +kernel
theorem miMo_size : Cond.instanceMethod yMo_size ∈ wt ∧ Cond.selects yMo_size.cls yMo_size yMo_size ∈ wt := by decide +kernel
theorem mnMo_size : Cond.initialized yMo_size.cls ∈ wt := by decide +kernel
theorem mMo_least : Cond.code yMo_least prog_9_method_37_code 2 (some .int) ∈ wt := by decide +kernel
theorem miMo_least : Cond.instanceMethod yMo_least ∈ wt ∧ Cond.selects yMo_least.cls yMo_least yMo_least ∈ wt := by decide +kernel
theorem mnMo_least : Cond.initialized yMo_least.cls ∈ wt := by decide +kernel
theorem mMo_power : Cond.code yMo_power prog_9_method_38_code 4 (some .int) ∈ wt := by decide +kernel
theorem miMo_power : Cond.instanceMethod yMo_power ∈ wt ∧ Cond.selects yMo_power.cls yMo_power yMo_power ∈ wt := by decide +kernel
theorem mnMo_power : Cond.initialized yMo_power.cls ∈ wt := by decide +kernel
theorem mMo_constant : Cond.code yMo_constant prog_9_method_39_code 4 (some .int) ∈ wt := by decide +kernel
theorem miMo_constant : Cond.instanceMethod yMo_constant ∈ wt ∧ Cond.selects yMo_constant.cls yMo_constant yMo_constant ∈ wt := by decide +kernel
theorem mnMo_constant : Cond.initialized yMo_constant.cls ∈ wt := by decide +kernel
theorem mMo_exponent : Cond.code yMo_exponent prog_9_method_40_code 1 (some .int) ∈ wt := by decide +kernel
theorem miMo_exponent : Cond.instanceMethod yMo_exponent ∈ wt ∧ Cond.selects yMo_exponent.cls yMo_exponent yMo_exponent ∈ wt := by decide +kernel
theorem mnMo_exponent : Cond.initialized yMo_exponent.cls ∈ wt := by decide +kernel
theorem mMo_prime : Cond.code yMo_prime prog_9_method_41_code 1 (some .int) ∈ wt := by decide +kernel
theorem miMo_prime : Cond.instanceMethod yMo_prime ∈ wt ∧ Cond.selects yMo_prime.cls yMo_prime yMo_prime ∈ wt := by decide +kernel
theorem mnMo_prime : Cond.initialized yMo_prime.cls ∈ wt := by decide +kernel
theorem mMo_root : Cond.code yMo_root prog_9_method_42_code 1 (some .int) ∈ wt := by decide +kernel
theorem miMo_root : Cond.instanceMethod yMo_root ∈ wt ∧ Cond.selects yMo_root.cls yMo_root yMo_root ∈ wt := by decide +kernel
theorem mnMo_root : Cond.initialized yMo_root.cls ∈ wt := by decide +kernel
theorem mMo_degree : Cond.code yMo_degree prog_9_method_43_code 2 (some .int) ∈ wt := by decide +kernel
theorem miMo_degree : Cond.instanceMethod yMo_degree ∈ wt ∧ Cond.selects yMo_degree.cls yMo_degree yMo_degree ∈ wt := by decide +kernel
theorem mnMo_degree : Cond.initialized yMo_degree.cls ∈ wt := by decide +kernel
theorem mMo_value : Cond.code yMo_value prog_9_method_44_code 3 (some .int) ∈ wt := by decide +kernel
theorem miMo_value : Cond.instanceMethod yMo_value ∈ wt ∧ Cond.selects yMo_value.cls yMo_value yMo_value ∈ wt := by decide +kernel
theorem mnMo_value : Cond.initialized yMo_value.cls ∈ wt := by decide +kernel
theorem mMo_multiplicity : Cond.code yMo_multiplicity prog_9_method_45_code 9 (some .int) ∈ wt := by decide +kernel
theorem miMo_multiplicity : Cond.instanceMethod yMo_multiplicity ∈ wt ∧ Cond.selects yMo_multiplicity.cls yMo_multiplicity yMo_multiplicity ∈ wt := by decide +kernel
theorem mnMo_multiplicity : Cond.initialized yMo_multiplicity.cls ∈ wt := by decide +kernel
theorem mMo_indicator : Cond.code yMo_indicator prog_9_method_46_code 4 (some .int) ∈ wt := by decide +kernel
theorem miMo_indicator : Cond.instanceMethod yMo_indicator ∈ wt ∧ Cond.selects yMo_indicator.cls yMo_indicator yMo_indicator ∈ wt := by decide +kernel
theorem mnMo_indicator : Cond.initialized yMo_indicator.cls ∈ wt := by decide +kernel
theorem mMo_kernel : Cond.code yMo_kernel prog_9_method_47_code 4 (some .int) ∈ wt := by decide +kernel
theorem miMo_kernel : Cond.instanceMethod yMo_kernel ∈ wt ∧ Cond.selects yMo_kernel.cls yMo_kernel yMo_kernel ∈ wt := by decide +kernel
theorem mnMo_kernel : Cond.initialized yMo_kernel.cls ∈ wt := by decide +kernel
theorem mMo_insert : Cond.code yMo_insert prog_9_method_48_code 4 (some .int) ∈ wt := by decide +kernel
theorem miMo_insert : Cond.instanceMethod yMo_insert ∈ wt ∧ Cond.selects yMo_insert.cls yMo_insert yMo_insert ∈ wt := by decide +kernel
theorem mnMo_insert : Cond.initialized yMo_insert.cls ∈ wt := by decide +kernel
theorem mMo_normals : Cond.code yMo_normals prog_9_method_49_code 4 (some .int) ∈ wt := by decide +kernel
theorem miMo_normals : Cond.instanceMethod yMo_normals ∈ wt ∧ Cond.selects yMo_normals.cls yMo_normals yMo_normals ∈ wt := by decide +kernel
theorem mnMo_normals : Cond.initialized yMo_normals.cls ∈ wt := by decide +kernel
theorem mCm_find : Cond.code yCm_find prog_2_method_2_code 5 none ∈ wt := by decide +kernel
theorem miCm_find : Cond.instanceMethod yCm_find ∈ wt ∧ Cond.selects yCm_find.cls yCm_find yCm_find ∈ wt := by decide +kernel
theorem mnCm_find : Cond.initialized yCm_find.cls ∈ wt := by decide +kernel
theorem mCm_startWhole : Cond.code yCm_startWhole prog_2_method_3_code 2 none ∈ wt := by decide +kernel
theorem miCm_startWhole : Cond.instanceMethod yCm_startWhole ∈ wt ∧ Cond.selects yCm_startWhole.cls yCm_startWhole yCm_startWhole ∈ wt := by decide +kernel
theorem mnCm_startWhole : Cond.initialized yCm_startWhole.cls ∈ wt := by decide +kernel
theorem mCm_setAction : Cond.code yCm_setAction prog_2_method_4_code 11 none ∈ wt := by decide +kernel
theorem miCm_setAction : Cond.instanceMethod yCm_setAction ∈ wt ∧ Cond.selects yCm_setAction.cls yCm_setAction yCm_setAction ∈ wt := by decide +kernel
theorem mnCm_setAction : Cond.initialized yCm_setAction.cls ∈ wt := by decide +kernel
theorem mCm_split : Cond.code yCm_split prog_2_method_5_code 8 none ∈ wt := by decide +kernel
theorem miCm_split : Cond.instanceMethod yCm_split ∈ wt ∧ Cond.selects yCm_split.cls yCm_split yCm_split ∈ wt := by decide +kernel
theorem mnCm_split : Cond.initialized yCm_split.cls ∈ wt := by decide +kernel
theorem mCm_setSystem : Cond.code yCm_setSystem prog_2_method_6_code 5 none ∈ wt := by decide +kernel
theorem miCm_setSystem : Cond.instanceMethod yCm_setSystem ∈ wt ∧ Cond.selects yCm_setSystem.cls yCm_setSystem yCm_setSystem ∈ wt := by decide +kernel
theorem mnCm_setSystem : Cond.initialized yCm_setSystem.cls ∈ wt := by decide +kernel
theorem mCm_solve : Cond.code yCm_solve prog_2_method_7_code 6 none ∈ wt := by decide +kernel
theorem miCm_solve : Cond.instanceMethod yCm_solve ∈ wt ∧ Cond.selects yCm_solve.cls yCm_solve yCm_solve ∈ wt := by decide +kernel
theorem mnCm_solve : Cond.initialized yCm_solve.cls ∈ wt := by decide +kernel
theorem mCm_swapRows : Cond.code yCm_swapRows prog_2_method_8_code 6 none ∈ wt := by decide +kernel
theorem miCm_swapRows : Cond.instanceMethod yCm_swapRows ∈ wt ∧ Cond.selects yCm_swapRows.cls yCm_swapRows yCm_swapRows ∈ wt := by decide +kernel
theorem mnCm_swapRows : Cond.initialized yCm_swapRows.cls ∈ wt := by decide +kernel
theorem mCm_clearColumn : Cond.code yCm_clearColumn prog_2_method_9_code 9 none ∈ wt := by decide +kernel
theorem miCm_clearColumn : Cond.instanceMethod yCm_clearColumn ∈ wt ∧ Cond.selects yCm_clearColumn.cls yCm_clearColumn yCm_clearColumn ∈ wt := by decide +kernel
theorem mnCm_clearColumn : Cond.initialized yCm_clearColumn.cls ∈ wt := by decide +kernel
theorem mCm_takeSolution : Cond.code yCm_takeSolution prog_2_method_10_code 10 none ∈ wt := by decide +kernel
theorem miCm_takeSolution : Cond.instanceMethod yCm_takeSolution ∈ wt ∧ Cond.selects yCm_takeSolution.cls yCm_takeSolution yCm_takeSolution ∈ wt := by decide +kernel
theorem mnCm_takeSolution : Cond.initialized yCm_takeSolution.cls ∈ wt := by decide +kernel
theorem mCm_scale : Cond.code yCm_scale prog_2_method_11_code 5 none ∈ wt := by decide +kernel
theorem miCm_scale : Cond.instanceMethod yCm_scale ∈ wt ∧ Cond.selects yCm_scale.cls yCm_scale yCm_scale ∈ wt := by decide +kernel
theorem mnCm_scale : Cond.initialized yCm_scale.cls ∈ wt := by decide +kernel
theorem mCd_isPermutation : Cond.code yCd_isPermutation prog_3_method_2_code 3 (some .boolean) ∈ wt := by decide +kernel
theorem msCd_isPermutation : Cond.static yCd_isPermutation ∈ wt := by decide +kernel
theorem mnCd_isPermutation : Cond.initialized yCd_isPermutation.cls ∈ wt := by decide +kernel
theorem mCd_product : Cond.code yCd_product prog_3_method_3_code 6 (some .int) ∈ wt := by decide +kernel
theorem msCd_product : Cond.static yCd_product ∈ wt := by decide +kernel
theorem mnCd_product : Cond.initialized yCd_product.cls ∈ wt := by decide +kernel
theorem mCd_inverse : Cond.code yCd_inverse prog_3_method_4_code 4 (some .int) ∈ wt := by decide +kernel
theorem msCd_inverse : Cond.static yCd_inverse ∈ wt := by decide +kernel
theorem mnCd_inverse : Cond.initialized yCd_inverse.cls ∈ wt := by decide +kernel
theorem mCo_divide : Cond.code yCo_divide prog_4_method_2_code 3 (some .boolean) ∈ wt := by decide +kernel
theorem miCo_divide : Cond.instanceMethod yCo_divide ∈ wt ∧ Cond.selects yCo_divide.cls yCo_divide yCo_divide ∈ wt := by decide +kernel
theorem mnCo_divide : Cond.initialized yCo_divide.cls ∈ wt := by decide +kernel
theorem mCo_gather : Cond.code yCo_gather prog_4_method_3_code 7 none ∈ wt := by decide +kernel
theorem miCo_gather : Cond.instanceMethod yCo_gather ∈ wt ∧ Cond.selects yCo_gather.cls yCo_gather yCo_gather ∈ wt := by decide +kernel
theorem mnCo_gather : Cond.initialized yCo_gather.cls ∈ wt := by decide +kernel
theorem mCo_classHolding : Cond.code yCo_classHolding prog_4_method_4_code 4 (some .int) ∈ wt := by decide +kernel
theorem miCo_classHolding : Cond.instanceMethod yCo_classHolding ∈ wt ∧ Cond.selects yCo_classHolding.cls yCo_classHolding yCo_classHolding ∈ wt := by decide +kernel
theorem mnCo_classHolding : Cond.initialized yCo_classHolding.cls ∈ wt := by decide +kernel
theorem mCo_listPowers : Cond.code yCo_listPowers prog_4_method_5_code 5 none ∈ wt := by decide +kernel
theorem miCo_listPowers : Cond.instanceMethod yCo_listPowers ∈ wt ∧ Cond.selects yCo_listPowers.cls yCo_listPowers yCo_listPowers ∈ wt := by decide +kernel
theorem mnCo_listPowers : Cond.initialized yCo_listPowers.cls ∈ wt := by decide +kernel
theorem mCo_classRaised : Cond.code yCo_classRaised prog_4_method_6_code 3 (some .int) ∈ wt := by decide +kernel
theorem miCo_classRaised : Cond.instanceMethod yCo_classRaised ∈ wt ∧ Cond.selects yCo_classRaised.cls yCo_classRaised yCo_classRaised ∈ wt := by decide +kernel
theorem mnCo_classRaised : Cond.initialized yCo_classRaised.cls ∈ wt := by decide +kernel
theorem mCo_inverseOf : Cond.code yCo_inverseOf prog_4_method_7_code 2 (some .int) ∈ wt := by decide +kernel
theorem miCo_inverseOf : Cond.instanceMethod yCo_inverseOf ∈ wt ∧ Cond.selects yCo_inverseOf.cls yCo_inverseOf yCo_inverseOf ∈ wt := by decide +kernel
theorem mnCo_inverseOf : Cond.initialized yCo_inverseOf.cls ∈ wt := by decide +kernel
theorem mCo_countPairs : Cond.code yCo_countPairs prog_4_method_8_code 6 none ∈ wt := by decide +kernel
theorem miCo_countPairs : Cond.instanceMethod yCo_countPairs ∈ wt ∧ Cond.selects yCo_countPairs.cls yCo_countPairs yCo_countPairs ∈ wt := by decide +kernel
theorem mnCo_countPairs : Cond.initialized yCo_countPairs.cls ∈ wt := by decide +kernel
theorem mCo_pairs : Cond.code yCo_pairs prog_4_method_9_code 4 (some .int) ∈ wt := by decide +kernel
theorem miCo_pairs : Cond.instanceMethod yCo_pairs ∈ wt ∧ Cond.selects yCo_pairs.cls yCo_pairs yCo_pairs ∈ wt := by decide +kernel
theorem mnCo_pairs : Cond.initialized yCo_pairs.cls ∈ wt := by decide +kernel
theorem mCo_pairPlace : Cond.code yCo_pairPlace prog_4_method_10_code 3 (some .int) ∈ wt := by decide +kernel
theorem msCo_pairPlace : Cond.static yCo_pairPlace ∈ wt := by decide +kernel
theorem mnCo_pairPlace : Cond.initialized yCo_pairPlace.cls ∈ wt := by decide +kernel
theorem mEl_generate : Cond.code yEl_generate prog_5_method_2_code 6 (some .boolean) ∈ wt := by decide +kernel
theorem miEl_generate : Cond.instanceMethod yEl_generate ∈ wt ∧ Cond.selects yEl_generate.cls yEl_generate yEl_generate ∈ wt := by decide +kernel
theorem mnEl_generate : Cond.initialized yEl_generate.cls ∈ wt := by decide +kernel
theorem mEl_indexOf : Cond.code yEl_indexOf prog_5_method_3_code 3 (some .int) ∈ wt := by decide +kernel
theorem miEl_indexOf : Cond.instanceMethod yEl_indexOf ∈ wt ∧ Cond.selects yEl_indexOf.cls yEl_indexOf yEl_indexOf ∈ wt := by decide +kernel
theorem mnEl_indexOf : Cond.initialized yEl_indexOf.cls ∈ wt := by decide +kernel
theorem mEl_include : Cond.code yEl_include prog_5_method_4_code 4 (some .boolean) ∈ wt := by decide +kernel
theorem miEl_include : Cond.instanceMethod yEl_include ∈ wt ∧ Cond.selects yEl_include.cls yEl_include yEl_include ∈ wt := by decide +kernel
theorem mnEl_include : Cond.initialized yEl_include.cls ∈ wt := by decide +kernel
theorem mEl_firstNotBelow : Cond.code yEl_firstNotBelow prog_5_method_5_code 4 (some .int) ∈ wt := by decide +kernel
theorem miEl_firstNotBelow : Cond.instanceMethod yEl_firstNotBelow ∈ wt ∧ Cond.selects yEl_firstNotBelow.cls yEl_firstNotBelow yEl_firstNotBelow ∈ wt := by decide +kernel
theorem mnEl_firstNotBelow : Cond.initialized yEl_firstNotBelow.cls ∈ wt := by decide +kernel
theorem mRe_choose : Cond.code yRe_choose prog_6_method_2_code 5 none ∈ wt := by decide +kernel
theorem miRe_choose : Cond.instanceMethod yRe_choose ∈ wt ∧ Cond.selects yRe_choose.cls yRe_choose yRe_choose ∈ wt := by decide +kernel
theorem mnRe_choose : Cond.initialized yRe_choose.cls ∈ wt := by decide +kernel
theorem mRe_isPrime : Cond.code yRe_isPrime prog_6_method_3_code 2 (some .boolean) ∈ wt := by decide +kernel
theorem msRe_isPrime : Cond.static yRe_isPrime ∈ wt := by decide +kernel
theorem mnRe_isPrime : Cond.initialized yRe_isPrime.cls ∈ wt := by decide +kernel
theorem mRe_orderOf : Cond.code yRe_orderOf prog_6_method_4_code 4 (some .int) ∈ wt := by decide +kernel
theorem miRe_orderOf : Cond.instanceMethod yRe_orderOf ∈ wt ∧ Cond.selects yRe_orderOf.cls yRe_orderOf yRe_orderOf ∈ wt := by decide +kernel
theorem mnRe_orderOf : Cond.initialized yRe_orderOf.cls ∈ wt := by decide +kernel
theorem mRe_reduce : Cond.code yRe_reduce prog_6_method_5_code 2 (some .int) ∈ wt := by decide +kernel
theorem miRe_reduce : Cond.instanceMethod yRe_reduce ∈ wt ∧ Cond.selects yRe_reduce.cls yRe_reduce yRe_reduce ∈ wt := by decide +kernel
theorem mnRe_reduce : Cond.initialized yRe_reduce.cls ∈ wt := by decide +kernel
theorem mRe_times : Cond.code yRe_times prog_6_method_6_code 3 (some .int) ∈ wt := by decide +kernel
theorem miRe_times : Cond.instanceMethod yRe_times ∈ wt ∧ Cond.selects yRe_times.cls yRe_times yRe_times ∈ wt := by decide +kernel
theorem mnRe_times : Cond.initialized yRe_times.cls ∈ wt := by decide +kernel
theorem mRe_plusTimes : Cond.code yRe_plusTimes prog_6_method_7_code 4 (some .int) ∈ wt := by decide +kernel
theorem miRe_plusTimes : Cond.instanceMethod yRe_plusTimes ∈ wt ∧ Cond.selects yRe_plusTimes.cls yRe_plusTimes yRe_plusTimes ∈ wt := by decide +kernel
theorem mnRe_plusTimes : Cond.initialized yRe_plusTimes.cls ∈ wt := by decide +kernel
theorem mRe_minusTimes : Cond.code yRe_minusTimes prog_6_method_8_code 4 (some .int) ∈ wt := by decide +kernel
theorem miRe_minusTimes : Cond.instanceMethod yRe_minusTimes ∈ wt ∧ Cond.selects yRe_minusTimes.cls yRe_minusTimes yRe_minusTimes ∈ wt := by decide +kernel
theorem mnRe_minusTimes : Cond.initialized yRe_minusTimes.cls ∈ wt := by decide +kernel
theorem mRe_over : Cond.code yRe_over prog_6_method_9_code 3 (some .int) ∈ wt := by decide +kernel
theorem miRe_over : Cond.instanceMethod yRe_over ∈ wt ∧ Cond.selects yRe_over.cls yRe_over yRe_over ∈ wt := by decide +kernel
theorem mnRe_over : Cond.initialized yRe_over.cls ∈ wt := by decide +kernel
theorem mRe_reciprocal : Cond.code yRe_reciprocal prog_6_method_10_code 10 (some .int) ∈ wt := by decide +kernel
theorem miRe_reciprocal : Cond.instanceMethod yRe_reciprocal ∈ wt ∧ Cond.selects yRe_reciprocal.cls yRe_reciprocal yRe_reciprocal ∈ wt := by decide +kernel
theorem mnRe_reciprocal : Cond.initialized yRe_reciprocal.cls ∈ wt := by decide +kernel
theorem mRe_raised : Cond.code yRe_raised prog_6_method_11_code 5 (some .int) ∈ wt := by decide +kernel
theorem miRe_raised : Cond.instanceMethod yRe_raised ∈ wt ∧ Cond.selects yRe_raised.cls yRe_raised yRe_raised ∈ wt := by decide +kernel
theorem mnRe_raised : Cond.initialized yRe_raised.cls ∈ wt := by decide +kernel
theorem mRo_make : Cond.code yRo_make prog_7_method_2_code 6 none ∈ wt := by decide +kernel
theorem miRo_make : Cond.instanceMethod yRo_make ∈ wt ∧ Cond.selects yRo_make.cls yRo_make yRo_make ∈ wt := by decide +kernel
theorem mnRo_make : Cond.initialized yRo_make.cls ∈ wt := by decide +kernel
theorem mRo_setValues : Cond.code yRo_setValues prog_7_method_3_code 9 none ∈ wt := by decide +kernel
theorem miRo_setValues : Cond.instanceMethod yRo_setValues ∈ wt ∧ Cond.selects yRo_setValues.cls yRo_setValues yRo_setValues ∈ wt := by decide +kernel
theorem mnRo_setValues : Cond.initialized yRo_setValues.cls ∈ wt := by decide +kernel
theorem mRo_degreeFor : Cond.code yRo_degreeFor prog_7_method_4_code 6 (some .int) ∈ wt := by decide +kernel
theorem msRo_degreeFor : Cond.static yRo_degreeFor ∈ wt := by decide +kernel
theorem mnRo_degreeFor : Cond.initialized yRo_degreeFor.cls ∈ wt := by decide +kernel
theorem mRo_setIndicator : Cond.code yRo_setIndicator prog_7_method_5_code 8 none ∈ wt := by decide +kernel
theorem miRo_setIndicator : Cond.instanceMethod yRo_setIndicator ∈ wt ∧ Cond.selects yRo_setIndicator.cls yRo_setIndicator yRo_setIndicator ∈ wt := by decide +kernel
theorem mnRo_setIndicator : Cond.initialized yRo_setIndicator.cls ∈ wt := by decide +kernel
theorem mRo_setKernel : Cond.code yRo_setKernel prog_7_method_6_code 4 none ∈ wt := by decide +kernel
theorem miRo_setKernel : Cond.instanceMethod yRo_setKernel ∈ wt ∧ Cond.selects yRo_setKernel.cls yRo_setKernel yRo_setKernel ∈ wt := by decide +kernel
theorem mnRo_setKernel : Cond.initialized yRo_setKernel.cls ∈ wt := by decide +kernel
theorem mRo_insertPlace : Cond.code yRo_insertPlace prog_7_method_7_code 3 none ∈ wt := by decide +kernel
theorem miRo_insertPlace : Cond.instanceMethod yRo_insertPlace ∈ wt ∧ Cond.selects yRo_insertPlace.cls yRo_insertPlace yRo_insertPlace ∈ wt := by decide +kernel
theorem mnRo_insertPlace : Cond.initialized yRo_insertPlace.cls ∈ wt := by decide +kernel
theorem mRo_comesBefore : Cond.code yRo_comesBefore prog_7_method_8_code 4 (some .boolean) ∈ wt := by decide +kernel
theorem miRo_comesBefore : Cond.instanceMethod yRo_comesBefore ∈ wt ∧ Cond.selects yRo_comesBefore.cls yRo_comesBefore yRo_comesBefore ∈ wt := by decide +kernel
theorem mnRo_comesBefore : Cond.initialized yRo_comesBefore.cls ∈ wt := by decide +kernel
theorem mRo_listNormals : Cond.code yRo_listNormals prog_7_method_9_code 4 none ∈ wt := by decide +kernel
theorem miRo_listNormals : Cond.instanceMethod yRo_listNormals ∈ wt ∧ Cond.selects yRo_listNormals.cls yRo_listNormals yRo_listNormals ∈ wt := by decide +kernel
theorem mnRo_listNormals : Cond.initialized yRo_listNormals.cls ∈ wt := by decide +kernel
theorem mRo_includeNormal : Cond.code yRo_includeNormal prog_7_method_10_code 3 none ∈ wt := by decide +kernel
theorem miRo_includeNormal : Cond.instanceMethod yRo_includeNormal ∈ wt ∧ Cond.selects yRo_includeNormal.cls yRo_includeNormal yRo_includeNormal ∈ wt := by decide +kernel
theorem mnRo_includeNormal : Cond.initialized yRo_includeNormal.cls ∈ wt := by decide +kernel
theorem mRo_timesOfRoot : Cond.code yRo_timesOfRoot prog_7_method_11_code 11 (some .int) ∈ wt := by decide +kernel
theorem miRo_timesOfRoot : Cond.instanceMethod yRo_timesOfRoot ∈ wt ∧ Cond.selects yRo_timesOfRoot.cls yRo_timesOfRoot yRo_timesOfRoot ∈ wt := by decide +kernel
theorem mnRo_timesOfRoot : Cond.initialized yRo_timesOfRoot.cls ∈ wt := by decide +kernel
theorem mMa_floorMod : Cond.code yMa_floorMod prog_10_method_50_code 3 (some .int) ∈ wt := by decide +kernel
theorem msMa_floorMod : Cond.static yMa_floorMod ∈ wt := by decide +kernel
theorem mnMa_floorMod : Cond.initialized yMa_floorMod.cls ∈ wt := by decide +kernel
theorem mMa_max : Cond.code yMa_max prog_10_method_65_code 2 (some .int) ∈ wt := by decide +kernel
theorem msMa_max : Cond.static yMa_max ∈ wt := by decide +kernel
theorem mnMa_max : Cond.initialized yMa_max.cls ∈ wt := by decide +kernel
theorem mAr_fill : Cond.code yAr_fill prog_12_method_103_code 4 none ∈ wt := by decide +kernel
theorem msAr_fill : Cond.static yAr_fill ∈ wt := by decide +kernel
theorem mnAr_fill : Cond.initialized yAr_fill.cls ∈ wt := by decide +kernel
theorem mcopy : Cond.native arraycopyName ∈ wt ∧ Cond.static arraycopyName ∈ wt ∧ Cond.initialized "java/lang/System" ∈ wt := by decide +kernel
end
section
theorem lkCc_55 : Cond.methodLink "ClassCharacters" 55 yCd_isPermutation ∈ wt := by decide +kernel
theorem lkCc_61 : Cond.methodLink "ClassCharacters" 61 yCc_workOut ∈ wt := by decide +kernel
theorem lkCc_65 : Cond.methodLink "ClassCharacters" 65 yCc_isBuilt ∈ wt := by decide +kernel
theorem lkCc_75 : Cond.methodLink "ClassCharacters" 75 yCo_classHolding ∈ wt := by decide +kernel
theorem lkCc_80 : Cond.methodLink "ClassCharacters" 80 yCc_isClass ∈ wt := by decide +kernel
theorem lkCc_89 : Cond.methodLink "ClassCharacters" 89 yCo_classRaised ∈ wt := by decide +kernel
theorem lkCc_93 : Cond.methodLink "ClassCharacters" 93 yCo_pairs ∈ wt := by decide +kernel
theorem lkCc_116 : Cond.methodLink "ClassCharacters" 116 yRo_timesOfRoot ∈ wt := by decide +kernel
theorem lkCc_129 : Cond.methodLink "ClassCharacters" 129 yEl_generate ∈ wt := by decide +kernel
theorem lkCc_133 : Cond.methodLink "ClassCharacters" 133 yCo_divide ∈ wt := by decide +kernel
theorem lkCc_137 : Cond.methodLink "ClassCharacters" 137 yCo_listPowers ∈ wt := by decide +kernel
theorem lkCc_141 : Cond.methodLink "ClassCharacters" 141 yCo_countPairs ∈ wt := by decide +kernel
theorem lkCc_144 : Cond.methodLink "ClassCharacters" 144 yRe_choose ∈ wt := by decide +kernel
theorem lkCc_148 : Cond.methodLink "ClassCharacters" 148 yCm_find ∈ wt := by decide +kernel
theorem lkCc_152 : Cond.methodLink "ClassCharacters" 152 yRo_make ∈ wt := by decide +kernel
theorem lkMo_40 : Cond.methodLink "ClassCharactersModel" 40 yMo_image ∈ wt := by decide +kernel
theorem lkMo_45 : Cond.methodLink "ClassCharactersModel" 45 yMo_isPermutation ∈ wt := by decide +kernel
theorem lkMo_61 : Cond.methodLink "ClassCharactersModel" 61 yMo_product ∈ wt := by decide +kernel
theorem lkMo_64 : Cond.methodLink "ClassCharactersModel" 64 yMo_find ∈ wt := by decide +kernel
theorem lkMo_71 : Cond.methodLink "ClassCharactersModel" 71 yMo_inverted ∈ wt := by decide +kernel
theorem lkMo_74 : Cond.methodLink "ClassCharactersModel" 74 yMo_powerOf ∈ wt := by decide +kernel
theorem lkMo_80 : Cond.methodLink "ClassCharactersModel" 80 yMo_allAtOnce ∈ wt := by decide +kernel
theorem lkMo_86 : Cond.methodLink "ClassCharactersModel" 86 yMo_isPrime ∈ wt := by decide +kernel
theorem lkMo_92 : Cond.methodLink "ClassCharactersModel" 92 yMo_isRoot ∈ wt := by decide +kernel
theorem lkMo_95 : Cond.methodLink "ClassCharactersModel" 95 yMo_mod ∈ wt := by decide +kernel
theorem lkMo_98 : Cond.methodLink "ClassCharactersModel" 98 yMo_raised ∈ wt := by decide +kernel
theorem lkMo_101 : Cond.methodLink "ClassCharactersModel" 101 yMo_copy ∈ wt := by decide +kernel
theorem lkMo_105 : Cond.methodLink "ClassCharactersModel" 105 yMo_multiply ∈ wt := by decide +kernel
theorem lkMo_109 : Cond.methodLink "ClassCharactersModel" 109 yMo_over ∈ wt := by decide +kernel
theorem lkMo_112 : Cond.methodLink "ClassCharactersModel" 112 yMo_ratio ∈ wt := by decide +kernel
theorem lkMo_115 : Cond.methodLink "ClassCharactersModel" 115 yMo_fermat ∈ wt := by decide +kernel
theorem lkMo_121 : Cond.methodLink "ClassCharactersModel" 121 yMo_split ∈ wt := by decide +kernel
theorem lkMo_124 : Cond.methodLink "ClassCharactersModel" 124 yMo_inverseOf ∈ wt := by decide +kernel
theorem lkMo_127 : Cond.methodLink "ClassCharactersModel" 127 yMo_close ∈ wt := by decide +kernel
theorem lkMo_131 : Cond.methodLink "ClassCharactersModel" 131 yMo_classify ∈ wt := by decide +kernel
theorem lkMo_134 : Cond.methodLink "ClassCharactersModel" 134 yMo_count ∈ wt := by decide +kernel
theorem lkMo_137 : Cond.methodLink "ClassCharactersModel" 137 yMo_numbers ∈ wt := by decide +kernel
theorem lkMo_140 : Cond.methodLink "ClassCharactersModel" 140 yMo_takeApart ∈ wt := by decide +kernel
theorem lkMo_143 : Cond.methodLink "ClassCharactersModel" 143 yMo_makeRow ∈ wt := by decide +kernel
theorem lkMo_147 : Cond.methodLink "ClassCharactersModel" 147 yMo_comesBefore ∈ wt := by decide +kernel
theorem lkMo_151 : Cond.methodLink "ClassCharactersModel" 151 yMo_exchange ∈ wt := by decide +kernel
theorem lkMo_154 : Cond.methodLink "ClassCharactersModel" 154 yMo_isClass ∈ wt := by decide +kernel
theorem lkMo_157 : Cond.methodLink "ClassCharactersModel" 157 yMo_power ∈ wt := by decide +kernel
theorem lkMo_160 : Cond.methodLink "ClassCharactersModel" 160 yMo_kernel ∈ wt := by decide +kernel
theorem lkMo_163 : Cond.methodLink "ClassCharactersModel" 163 yMo_insert ∈ wt := by decide +kernel
theorem lkCm_45 : Cond.methodLink "ClassCharacters$CentralMaps" 45 yCm_startWhole ∈ wt := by decide +kernel
theorem lkCm_48 : Cond.methodLink "ClassCharacters$CentralMaps" 48 yCm_setAction ∈ wt := by decide +kernel
theorem lkCm_52 : Cond.methodLink "ClassCharacters$CentralMaps" 52 yCm_split ∈ wt := by decide +kernel
theorem lkCm_56 : Cond.methodLink "ClassCharacters$CentralMaps" 56 yMa_max ∈ wt := by decide +kernel
theorem lkCm_62 : Cond.methodLink "ClassCharacters$CentralMaps" 62 yCm_scale ∈ wt := by decide +kernel
theorem lkCm_66 : Cond.methodLink "ClassCharacters$CentralMaps" 66 yAr_fill ∈ wt := by decide +kernel
theorem lkCm_72 : Cond.methodLink "ClassCharacters$CentralMaps" 72 yCo_pairs ∈ wt := by decide +kernel
theorem lkCm_76 : Cond.methodLink "ClassCharacters$CentralMaps" 76 yRe_plusTimes ∈ wt := by decide +kernel
theorem lkCm_84 : Cond.methodLink "ClassCharacters$CentralMaps" 84 yCm_setSystem ∈ wt := by decide +kernel
theorem lkCm_87 : Cond.methodLink "ClassCharacters$CentralMaps" 87 yCm_solve ∈ wt := by decide +kernel
theorem lkCm_91 : Cond.methodLink "ClassCharacters$CentralMaps" 91 yCm_takeSolution ∈ wt := by decide +kernel
theorem lkCm_95 : Cond.methodLink "ClassCharacters$CentralMaps" 95 arraycopyName ∈ wt := by decide +kernel
theorem lkCm_101 : Cond.methodLink "ClassCharacters$CentralMaps" 101 yRe_reduce ∈ wt := by decide +kernel
theorem lkCm_105 : Cond.methodLink "ClassCharacters$CentralMaps" 105 yCm_swapRows ∈ wt := by decide +kernel
theorem lkCm_109 : Cond.methodLink "ClassCharacters$CentralMaps" 109 yCm_clearColumn ∈ wt := by decide +kernel
theorem lkCm_113 : Cond.methodLink "ClassCharacters$CentralMaps" 113 yRe_reciprocal ∈ wt := by decide +kernel
theorem lkCm_116 : Cond.methodLink "ClassCharacters$CentralMaps" 116 yRe_times ∈ wt := by decide +kernel
theorem lkCm_119 : Cond.methodLink "ClassCharacters$CentralMaps" 119 yRe_minusTimes ∈ wt := by decide +kernel
theorem lkCo_39 : Cond.methodLink "ClassCharacters$Conjugates" 39 yAr_fill ∈ wt := by decide +kernel
theorem lkCo_51 : Cond.methodLink "ClassCharacters$Conjugates" 51 yCo_gather ∈ wt := by decide +kernel
theorem lkCo_55 : Cond.methodLink "ClassCharacters$Conjugates" 55 yCd_inverse ∈ wt := by decide +kernel
theorem lkCo_61 : Cond.methodLink "ClassCharacters$Conjugates" 61 yCd_product ∈ wt := by decide +kernel
theorem lkCo_65 : Cond.methodLink "ClassCharacters$Conjugates" 65 yEl_indexOf ∈ wt := by decide +kernel
theorem lkCo_69 : Cond.methodLink "ClassCharacters$Conjugates" 69 yCo_classHolding ∈ wt := by decide +kernel
theorem lkCo_73 : Cond.methodLink "ClassCharacters$Conjugates" 73 yCo_pairPlace ∈ wt := by decide +kernel
theorem lkEl_25 : Cond.methodLink "ClassCharacters$Elements" 25 yEl_include ∈ wt := by decide +kernel
theorem lkEl_29 : Cond.methodLink "ClassCharacters$Elements" 29 yCd_product ∈ wt := by decide +kernel
theorem lkEl_33 : Cond.methodLink "ClassCharacters$Elements" 33 yEl_firstNotBelow ∈ wt := by decide +kernel
theorem lkRe_16 : Cond.methodLink "ClassCharacters$Residues" 16 yRe_isPrime ∈ wt := by decide +kernel
theorem lkRe_20 : Cond.methodLink "ClassCharacters$Residues" 20 yMa_max ∈ wt := by decide +kernel
theorem lkRe_26 : Cond.methodLink "ClassCharacters$Residues" 26 yRe_orderOf ∈ wt := by decide +kernel
theorem lkRe_30 : Cond.methodLink "ClassCharacters$Residues" 30 yRe_times ∈ wt := by decide +kernel
theorem lkRe_33 : Cond.methodLink "ClassCharacters$Residues" 33 yMa_floorMod ∈ wt := by decide +kernel
theorem lkRe_36 : Cond.methodLink "ClassCharacters$Residues" 36 yRe_reciprocal ∈ wt := by decide +kernel
theorem lkRo_47 : Cond.methodLink "ClassCharacters$Rows" 47 yRo_setValues ∈ wt := by decide +kernel
theorem lkRo_51 : Cond.methodLink "ClassCharacters$Rows" 51 yRo_setIndicator ∈ wt := by decide +kernel
theorem lkRo_55 : Cond.methodLink "ClassCharacters$Rows" 55 yRo_setKernel ∈ wt := by decide +kernel
theorem lkRo_59 : Cond.methodLink "ClassCharacters$Rows" 59 yRo_insertPlace ∈ wt := by decide +kernel
theorem lkRo_62 : Cond.methodLink "ClassCharacters$Rows" 62 yRo_listNormals ∈ wt := by decide +kernel
theorem lkRo_68 : Cond.methodLink "ClassCharacters$Rows" 68 yRe_over ∈ wt := by decide +kernel
theorem lkRo_74 : Cond.methodLink "ClassCharacters$Rows" 74 yCo_inverseOf ∈ wt := by decide +kernel
theorem lkRo_78 : Cond.methodLink "ClassCharacters$Rows" 78 yRe_plusTimes ∈ wt := by decide +kernel
theorem lkRo_82 : Cond.methodLink "ClassCharacters$Rows" 82 yRo_degreeFor ∈ wt := by decide +kernel
theorem lkRo_86 : Cond.methodLink "ClassCharacters$Rows" 86 yRe_times ∈ wt := by decide +kernel
theorem lkRo_89 : Cond.methodLink "ClassCharacters$Rows" 89 yRe_reduce ∈ wt := by decide +kernel
theorem lkRo_95 : Cond.methodLink "ClassCharacters$Rows" 95 yCo_classRaised ∈ wt := by decide +kernel
theorem lkRo_98 : Cond.methodLink "ClassCharacters$Rows" 98 yRo_comesBefore ∈ wt := by decide +kernel
theorem lkRo_102 : Cond.methodLink "ClassCharacters$Rows" 102 yRo_includeNormal ∈ wt := by decide +kernel
theorem lkRo_111 : Cond.methodLink "ClassCharacters$Rows" 111 yRe_raised ∈ wt := by decide +kernel
theorem hCc_add (l : Launch) (D : va_G) (E : sx_E) (B : Nat) (A : Nat → Prop) (hB : 29 ≤ B) : ∀ (pc : Nat) (i : Instr × Nat × Nat), sx_tab lCc_add pc = some i → sx_isC i.1 = true → sx_Cal l yCc_add.cls (wy yCc_add prog_1_method_2_code 2 (some .boolean)) wn ({ frames := 1, cells := 0, slots := 0, locals := 22 }) D kinds A E B 2 prog_1_method_2_code i.1 (csAll i.2.1) := by
  intro pc i hF hi
  have h2 : (pc, i) ∈ lCc_add.filter (fun q => sx_isC q.2.1) := List.mem_filter.mpr ⟨sx_tab_mem hF, hi⟩
  have h3 : lCc_add.filter (fun q => sx_isC q.2.1) = [(9, .invokestatic 55, 81, 0)] := rfl
  rw [h3] at h2
  simp only [List.mem_cons, List.not_mem_nil, or_false, Prod.mk.injEq] at h2
  rcases h2 with ⟨rfl, rfl⟩
  · exact sx_CalS (n := 1) (fun As w Q h => h l D E B A hB) (wy_in mCd_isPermutation) rfl rfl rfl (List.mem_cons_of_mem _ mnCd_isPermutation) (List.mem_cons_of_mem _ lkCc_55) (List.mem_cons_of_mem _ msCd_isPermutation) (by decide +kernel) (by decide) rfl
theorem hCc_build (l : Launch) (D : va_G) (E : sx_E) (B : Nat) (A : Nat → Prop) (hB : 29 ≤ B) : ∀ (pc : Nat) (i : Instr × Nat × Nat), sx_tab lCc_build pc = some i → sx_isC i.1 = true → sx_Cal l yCc_build.cls (wy yCc_build prog_1_method_4_code 1 (some .int)) wn ({ frames := 6, cells := 0, slots := 0, locals := 153 }) D kinds A E B 1 prog_1_method_4_code i.1 (csAll i.2.1) := by
  intro pc i hF hi
  have h2 : (pc, i) ∈ lCc_build.filter (fun q => sx_isC q.2.1) := List.mem_filter.mpr ⟨sx_tab_mem hF, hi⟩
  have h3 : lCc_build.filter (fun q => sx_isC q.2.1) = [(10, .invokevirtual 61, 22, 0)] := rfl
  rw [h3] at h2
  simp only [List.mem_cons, List.not_mem_nil, or_false, Prod.mk.injEq] at h2
  rcases h2 with ⟨rfl, rfl⟩
  · exact sx_CalV (n := 0) (ci := 0) (fun As w Q h => h.2 l D E B A hB) (fun As w Q h => by obtain ⟨n0, tl, fs, e1, e2, e3⟩ := h.1; exact ⟨n0, tl, fs, e1, by omega, e3⟩) rfl rfl (wy_in mCc_workOut) rfl rfl rfl (List.mem_cons_of_mem _ mnCc_workOut) (List.mem_cons_of_mem _ lkCc_61) (List.mem_cons_of_mem _ miCc_workOut.1) (List.mem_cons_of_mem _ miCc_workOut.2) (by decide +kernel) (by decide) rfl
theorem hCc_order (l : Launch) (D : va_G) (E : sx_E) (B : Nat) (A : Nat → Prop) (hB : 29 ≤ B) : ∀ (pc : Nat) (i : Instr × Nat × Nat), sx_tab lCc_order pc = some i → sx_isC i.1 = true → sx_Cal l yCc_order.cls (wy yCc_order prog_1_method_5_code 1 (some .int)) wn ({ frames := 1, cells := 0, slots := 0, locals := 20 }) D kinds A E B 1 prog_1_method_5_code i.1 (csAll i.2.1) := by
  intro pc i hF hi
  have h2 : (pc, i) ∈ lCc_order.filter (fun q => sx_isC q.2.1) := List.mem_filter.mpr ⟨sx_tab_mem hF, hi⟩
  have h3 : lCc_order.filter (fun q => sx_isC q.2.1) = [(1, .invokevirtual 65, 20, 0)] := rfl
  rw [h3] at h2
  simp only [List.mem_cons, List.not_mem_nil, or_false, Prod.mk.injEq] at h2
  rcases h2 with ⟨rfl, rfl⟩
  · exact sx_CalV (n := 0) (ci := 0) (fun As w Q h => h.2 l D E B A hB) (fun As w Q h => by obtain ⟨n0, tl, fs, e1, e2, e3⟩ := h.1; exact ⟨n0, tl, fs, e1, by omega, e3⟩) rfl rfl (wy_in mCc_isBuilt) rfl rfl rfl (List.mem_cons_of_mem _ mnCc_isBuilt) (List.mem_cons_of_mem _ lkCc_65) (List.mem_cons_of_mem _ miCc_isBuilt.1) (List.mem_cons_of_mem _ miCc_isBuilt.2) (by decide +kernel) (by decide) rfl
theorem hCc_element (l : Launch) (D : va_G) (E : sx_E) (B : Nat) (A : Nat → Prop) (hB : 29 ≤ B) : ∀ (pc : Nat) (i : Instr × Nat × Nat), sx_tab lCc_element pc = some i → sx_isC i.1 = true → sx_Cal l yCc_element.cls (wy yCc_element prog_1_method_6_code 2 (some .int)) wn ({ frames := 1, cells := 0, slots := 0, locals := 20 }) D kinds A E B 2 prog_1_method_6_code i.1 (csAll i.2.1) := by
  intro pc i hF hi
  have h2 : (pc, i) ∈ lCc_element.filter (fun q => sx_isC q.2.1) := List.mem_filter.mpr ⟨sx_tab_mem hF, hi⟩
  have h3 : lCc_element.filter (fun q => sx_isC q.2.1) = [(1, .invokevirtual 65, 20, 0)] := rfl
  rw [h3] at h2
  simp only [List.mem_cons, List.not_mem_nil, or_false, Prod.mk.injEq] at h2
  rcases h2 with ⟨rfl, rfl⟩
  · exact sx_CalV (n := 0) (ci := 0) (fun As w Q h => h.2 l D E B A hB) (fun As w Q h => by obtain ⟨n0, tl, fs, e1, e2, e3⟩ := h.1; exact ⟨n0, tl, fs, e1, by omega, e3⟩) rfl rfl (wy_in mCc_isBuilt) rfl rfl rfl (List.mem_cons_of_mem _ mnCc_isBuilt) (List.mem_cons_of_mem _ lkCc_65) (List.mem_cons_of_mem _ miCc_isBuilt.1) (List.mem_cons_of_mem _ miCc_isBuilt.2) (by decide +kernel) (by decide) rfl
theorem hCc_classOf (l : Launch) (D : va_G) (E : sx_E) (B : Nat) (A : Nat → Prop) (hB : 29 ≤ B) : ∀ (pc : Nat) (i : Instr × Nat × Nat), sx_tab lCc_classOf pc = some i → sx_isC i.1 = true → sx_Cal l yCc_classOf.cls (wy yCc_classOf prog_1_method_7_code 2 (some .int)) wn ({ frames := 3, cells := 0, slots := 0, locals := 68 }) D kinds A E B 2 prog_1_method_7_code i.1 (csAll i.2.1) := by
  intro pc i hF hi
  have h2 : (pc, i) ∈ lCc_classOf.filter (fun q => sx_isC q.2.1) := List.mem_filter.mpr ⟨sx_tab_mem hF, hi⟩
  have h3 : lCc_classOf.filter (fun q => sx_isC q.2.1) = [(1, .invokevirtual 65, 20, 0), (16, .invokevirtual 75, 86, 0)] := rfl
  rw [h3] at h2
  simp only [List.mem_cons, List.not_mem_nil, or_false, Prod.mk.injEq] at h2
  rcases h2 with ⟨rfl, rfl⟩ | ⟨rfl, rfl⟩
  · exact sx_CalV (n := 0) (ci := 0) (fun As w Q h => h.2 l D E B A hB) (fun As w Q h => by obtain ⟨n0, tl, fs, e1, e2, e3⟩ := h.1; exact ⟨n0, tl, fs, e1, by omega, e3⟩) rfl rfl (wy_in mCc_isBuilt) rfl rfl rfl (List.mem_cons_of_mem _ mnCc_isBuilt) (List.mem_cons_of_mem _ lkCc_65) (List.mem_cons_of_mem _ miCc_isBuilt.1) (List.mem_cons_of_mem _ miCc_isBuilt.2) (by decide +kernel) (by decide) rfl
  · exact sx_CalV (n := 2) (ci := 2) (fun As w Q h => h.2 l D E B A hB) (fun As w Q h => by obtain ⟨n0, tl, fs, e1, e2, e3⟩ := h.1; exact ⟨n0, tl, fs, e1, by omega, e3⟩) rfl rfl (wy_in mCo_classHolding) rfl rfl rfl (List.mem_cons_of_mem _ mnCo_classHolding) (List.mem_cons_of_mem _ lkCc_75) (List.mem_cons_of_mem _ miCo_classHolding.1) (List.mem_cons_of_mem _ miCo_classHolding.2) (by decide +kernel) (by decide) rfl
theorem hCc_classes (l : Launch) (D : va_G) (E : sx_E) (B : Nat) (A : Nat → Prop) (hB : 29 ≤ B) : ∀ (pc : Nat) (i : Instr × Nat × Nat), sx_tab lCc_classes pc = some i → sx_isC i.1 = true → sx_Cal l yCc_classes.cls (wy yCc_classes prog_1_method_8_code 1 (some .int)) wn ({ frames := 1, cells := 0, slots := 0, locals := 20 }) D kinds A E B 1 prog_1_method_8_code i.1 (csAll i.2.1) := by
  intro pc i hF hi
  have h2 : (pc, i) ∈ lCc_classes.filter (fun q => sx_isC q.2.1) := List.mem_filter.mpr ⟨sx_tab_mem hF, hi⟩
  have h3 : lCc_classes.filter (fun q => sx_isC q.2.1) = [(1, .invokevirtual 65, 20, 0)] := rfl
  rw [h3] at h2
  simp only [List.mem_cons, List.not_mem_nil, or_false, Prod.mk.injEq] at h2
  rcases h2 with ⟨rfl, rfl⟩
  · exact sx_CalV (n := 0) (ci := 0) (fun As w Q h => h.2 l D E B A hB) (fun As w Q h => by obtain ⟨n0, tl, fs, e1, e2, e3⟩ := h.1; exact ⟨n0, tl, fs, e1, by omega, e3⟩) rfl rfl (wy_in mCc_isBuilt) rfl rfl rfl (List.mem_cons_of_mem _ mnCc_isBuilt) (List.mem_cons_of_mem _ lkCc_65) (List.mem_cons_of_mem _ miCc_isBuilt.1) (List.mem_cons_of_mem _ miCc_isBuilt.2) (by decide +kernel) (by decide) rfl
theorem hCc_size (l : Launch) (D : va_G) (E : sx_E) (B : Nat) (A : Nat → Prop) (hB : 29 ≤ B) : ∀ (pc : Nat) (i : Instr × Nat × Nat), sx_tab lCc_size pc = some i → sx_isC i.1 = true → sx_Cal l yCc_size.cls (wy yCc_size prog_1_method_9_code 2 (some .int)) wn ({ frames := 2, cells := 0, slots := 0, locals := 41 }) D kinds A E B 2 prog_1_method_9_code i.1 (csAll i.2.1) := by
  intro pc i hF hi
  have h2 : (pc, i) ∈ lCc_size.filter (fun q => sx_isC q.2.1) := List.mem_filter.mpr ⟨sx_tab_mem hF, hi⟩
  have h3 : lCc_size.filter (fun q => sx_isC q.2.1) = [(2, .invokevirtual 80, 21, 0)] := rfl
  rw [h3] at h2
  simp only [List.mem_cons, List.not_mem_nil, or_false, Prod.mk.injEq] at h2
  rcases h2 with ⟨rfl, rfl⟩
  · exact sx_CalV (n := 1) (ci := 0) (fun As w Q h => h.2 l D E B A hB) (fun As w Q h => by obtain ⟨n0, tl, fs, e1, e2, e3⟩ := h.1; exact ⟨n0, tl, fs, e1, by omega, e3⟩) rfl rfl (wy_in mCc_isClass) rfl rfl rfl (List.mem_cons_of_mem _ mnCc_isClass) (List.mem_cons_of_mem _ lkCc_80) (List.mem_cons_of_mem _ miCc_isClass.1) (List.mem_cons_of_mem _ miCc_isClass.2) (by decide +kernel) (by decide) rfl
theorem hCc_least (l : Launch) (D : va_G) (E : sx_E) (B : Nat) (A : Nat → Prop) (hB : 29 ≤ B) : ∀ (pc : Nat) (i : Instr × Nat × Nat), sx_tab lCc_least pc = some i → sx_isC i.1 = true → sx_Cal l yCc_least.cls (wy yCc_least prog_1_method_10_code 2 (some .int)) wn ({ frames := 2, cells := 0, slots := 0, locals := 41 }) D kinds A E B 2 prog_1_method_10_code i.1 (csAll i.2.1) := by
  intro pc i hF hi
  have h2 : (pc, i) ∈ lCc_least.filter (fun q => sx_isC q.2.1) := List.mem_filter.mpr ⟨sx_tab_mem hF, hi⟩
  have h3 : lCc_least.filter (fun q => sx_isC q.2.1) = [(2, .invokevirtual 80, 21, 0)] := rfl
  rw [h3] at h2
  simp only [List.mem_cons, List.not_mem_nil, or_false, Prod.mk.injEq] at h2
  rcases h2 with ⟨rfl, rfl⟩
  · exact sx_CalV (n := 1) (ci := 0) (fun As w Q h => h.2 l D E B A hB) (fun As w Q h => by obtain ⟨n0, tl, fs, e1, e2, e3⟩ := h.1; exact ⟨n0, tl, fs, e1, by omega, e3⟩) rfl rfl (wy_in mCc_isClass) rfl rfl rfl (List.mem_cons_of_mem _ mnCc_isClass) (List.mem_cons_of_mem _ lkCc_80) (List.mem_cons_of_mem _ miCc_isClass.1) (List.mem_cons_of_mem _ miCc_isClass.2) (by decide +kernel) (by decide) rfl
theorem hCc_power (l : Launch) (D : va_G) (E : sx_E) (B : Nat) (A : Nat → Prop) (hB : 29 ≤ B) : ∀ (pc : Nat) (i : Instr × Nat × Nat), sx_tab lCc_power pc = some i → sx_isC i.1 = true → sx_Cal l yCc_power.cls (wy yCc_power prog_1_method_11_code 3 (some .int)) wn ({ frames := 2, cells := 0, slots := 0, locals := 41 }) D kinds A E B 3 prog_1_method_11_code i.1 (csAll i.2.1) := by
  intro pc i hF hi
  have h2 : (pc, i) ∈ lCc_power.filter (fun q => sx_isC q.2.1) := List.mem_filter.mpr ⟨sx_tab_mem hF, hi⟩
  have h3 : lCc_power.filter (fun q => sx_isC q.2.1) = [(2, .invokevirtual 80, 21, 0), (27, .invokevirtual 89, 88, 0)] := rfl
  rw [h3] at h2
  simp only [List.mem_cons, List.not_mem_nil, or_false, Prod.mk.injEq] at h2
  rcases h2 with ⟨rfl, rfl⟩ | ⟨rfl, rfl⟩
  · exact sx_CalV (n := 1) (ci := 0) (fun As w Q h => h.2 l D E B A hB) (fun As w Q h => by obtain ⟨n0, tl, fs, e1, e2, e3⟩ := h.1; exact ⟨n0, tl, fs, e1, by omega, e3⟩) rfl rfl (wy_in mCc_isClass) rfl rfl rfl (List.mem_cons_of_mem _ mnCc_isClass) (List.mem_cons_of_mem _ lkCc_80) (List.mem_cons_of_mem _ miCc_isClass.1) (List.mem_cons_of_mem _ miCc_isClass.2) (by decide +kernel) (by decide) rfl
  · exact sx_CalV (n := 2) (ci := 2) (fun As w Q h => h.2 l D E B A hB) (fun As w Q h => by obtain ⟨n0, tl, fs, e1, e2, e3⟩ := h.1; exact ⟨n0, tl, fs, e1, by omega, e3⟩) rfl rfl (wy_in mCo_classRaised) rfl rfl rfl (List.mem_cons_of_mem _ mnCo_classRaised) (List.mem_cons_of_mem _ lkCc_89) (List.mem_cons_of_mem _ miCo_classRaised.1) (List.mem_cons_of_mem _ miCo_classRaised.2) (by decide +kernel) (by decide) rfl
theorem hCc_constant (l : Launch) (D : va_G) (E : sx_E) (B : Nat) (A : Nat → Prop) (hB : 29 ≤ B) : ∀ (pc : Nat) (i : Instr × Nat × Nat), sx_tab lCc_constant pc = some i → sx_isC i.1 = true → sx_Cal l yCc_constant.cls (wy yCc_constant prog_1_method_12_code 4 (some .int)) wn ({ frames := 2, cells := 0, slots := 0, locals := 45 }) D kinds A E B 4 prog_1_method_12_code i.1 (csAll i.2.1) := by
  intro pc i hF hi
  have h2 : (pc, i) ∈ lCc_constant.filter (fun q => sx_isC q.2.1) := List.mem_filter.mpr ⟨sx_tab_mem hF, hi⟩
  have h3 : lCc_constant.filter (fun q => sx_isC q.2.1) = [(2, .invokevirtual 80, 21, 0), (10, .invokevirtual 80, 21, 0), (18, .invokevirtual 80, 21, 0), (33, .invokevirtual 93, 91, 0)] := rfl
  rw [h3] at h2
  simp only [List.mem_cons, List.not_mem_nil, or_false, Prod.mk.injEq] at h2
  rcases h2 with ⟨rfl, rfl⟩ | ⟨rfl, rfl⟩ | ⟨rfl, rfl⟩ | ⟨rfl, rfl⟩
  · exact sx_CalV (n := 1) (ci := 0) (fun As w Q h => h.2 l D E B A hB) (fun As w Q h => by obtain ⟨n0, tl, fs, e1, e2, e3⟩ := h.1; exact ⟨n0, tl, fs, e1, by omega, e3⟩) rfl rfl (wy_in mCc_isClass) rfl rfl rfl (List.mem_cons_of_mem _ mnCc_isClass) (List.mem_cons_of_mem _ lkCc_80) (List.mem_cons_of_mem _ miCc_isClass.1) (List.mem_cons_of_mem _ miCc_isClass.2) (by decide +kernel) (by decide) rfl
  · exact sx_CalV (n := 1) (ci := 0) (fun As w Q h => h.2 l D E B A hB) (fun As w Q h => by obtain ⟨n0, tl, fs, e1, e2, e3⟩ := h.1; exact ⟨n0, tl, fs, e1, by omega, e3⟩) rfl rfl (wy_in mCc_isClass) rfl rfl rfl (List.mem_cons_of_mem _ mnCc_isClass) (List.mem_cons_of_mem _ lkCc_80) (List.mem_cons_of_mem _ miCc_isClass.1) (List.mem_cons_of_mem _ miCc_isClass.2) (by decide +kernel) (by decide) rfl
  · exact sx_CalV (n := 1) (ci := 0) (fun As w Q h => h.2 l D E B A hB) (fun As w Q h => by obtain ⟨n0, tl, fs, e1, e2, e3⟩ := h.1; exact ⟨n0, tl, fs, e1, by omega, e3⟩) rfl rfl (wy_in mCc_isClass) rfl rfl rfl (List.mem_cons_of_mem _ mnCc_isClass) (List.mem_cons_of_mem _ lkCc_80) (List.mem_cons_of_mem _ miCc_isClass.1) (List.mem_cons_of_mem _ miCc_isClass.2) (by decide +kernel) (by decide) rfl
  · exact sx_CalV (n := 3) (ci := 2) (fun As w Q h => h.2 l D E B A hB) (fun As w Q h => by obtain ⟨n0, tl, fs, e1, e2, e3⟩ := h.1; exact ⟨n0, tl, fs, e1, by omega, e3⟩) rfl rfl (wy_in mCo_pairs) rfl rfl rfl (List.mem_cons_of_mem _ mnCo_pairs) (List.mem_cons_of_mem _ lkCc_93) (List.mem_cons_of_mem _ miCo_pairs.1) (List.mem_cons_of_mem _ miCo_pairs.2) (by decide +kernel) (by decide) rfl
theorem hCc_exponent (l : Launch) (D : va_G) (E : sx_E) (B : Nat) (A : Nat → Prop) (hB : 29 ≤ B) : ∀ (pc : Nat) (i : Instr × Nat × Nat), sx_tab lCc_exponent pc = some i → sx_isC i.1 = true → sx_Cal l yCc_exponent.cls (wy yCc_exponent prog_1_method_13_code 1 (some .int)) wn ({ frames := 1, cells := 0, slots := 0, locals := 20 }) D kinds A E B 1 prog_1_method_13_code i.1 (csAll i.2.1) := by
  intro pc i hF hi
  have h2 : (pc, i) ∈ lCc_exponent.filter (fun q => sx_isC q.2.1) := List.mem_filter.mpr ⟨sx_tab_mem hF, hi⟩
  have h3 : lCc_exponent.filter (fun q => sx_isC q.2.1) = [(1, .invokevirtual 65, 20, 0)] := rfl
  rw [h3] at h2
  simp only [List.mem_cons, List.not_mem_nil, or_false, Prod.mk.injEq] at h2
  rcases h2 with ⟨rfl, rfl⟩
  · exact sx_CalV (n := 0) (ci := 0) (fun As w Q h => h.2 l D E B A hB) (fun As w Q h => by obtain ⟨n0, tl, fs, e1, e2, e3⟩ := h.1; exact ⟨n0, tl, fs, e1, by omega, e3⟩) rfl rfl (wy_in mCc_isBuilt) rfl rfl rfl (List.mem_cons_of_mem _ mnCc_isBuilt) (List.mem_cons_of_mem _ lkCc_65) (List.mem_cons_of_mem _ miCc_isBuilt.1) (List.mem_cons_of_mem _ miCc_isBuilt.2) (by decide +kernel) (by decide) rfl
theorem hCc_prime (l : Launch) (D : va_G) (E : sx_E) (B : Nat) (A : Nat → Prop) (hB : 29 ≤ B) : ∀ (pc : Nat) (i : Instr × Nat × Nat), sx_tab lCc_prime pc = some i → sx_isC i.1 = true → sx_Cal l yCc_prime.cls (wy yCc_prime prog_1_method_14_code 1 (some .int)) wn ({ frames := 1, cells := 0, slots := 0, locals := 20 }) D kinds A E B 1 prog_1_method_14_code i.1 (csAll i.2.1) := by
  intro pc i hF hi
  have h2 : (pc, i) ∈ lCc_prime.filter (fun q => sx_isC q.2.1) := List.mem_filter.mpr ⟨sx_tab_mem hF, hi⟩
  have h3 : lCc_prime.filter (fun q => sx_isC q.2.1) = [(1, .invokevirtual 65, 20, 0)] := rfl
  rw [h3] at h2
  simp only [List.mem_cons, List.not_mem_nil, or_false, Prod.mk.injEq] at h2
  rcases h2 with ⟨rfl, rfl⟩
  · exact sx_CalV (n := 0) (ci := 0) (fun As w Q h => h.2 l D E B A hB) (fun As w Q h => by obtain ⟨n0, tl, fs, e1, e2, e3⟩ := h.1; exact ⟨n0, tl, fs, e1, by omega, e3⟩) rfl rfl (wy_in mCc_isBuilt) rfl rfl rfl (List.mem_cons_of_mem _ mnCc_isBuilt) (List.mem_cons_of_mem _ lkCc_65) (List.mem_cons_of_mem _ miCc_isBuilt.1) (List.mem_cons_of_mem _ miCc_isBuilt.2) (by decide +kernel) (by decide) rfl
theorem hCc_root (l : Launch) (D : va_G) (E : sx_E) (B : Nat) (A : Nat → Prop) (hB : 29 ≤ B) : ∀ (pc : Nat) (i : Instr × Nat × Nat), sx_tab lCc_root pc = some i → sx_isC i.1 = true → sx_Cal l yCc_root.cls (wy yCc_root prog_1_method_15_code 1 (some .int)) wn ({ frames := 1, cells := 0, slots := 0, locals := 20 }) D kinds A E B 1 prog_1_method_15_code i.1 (csAll i.2.1) := by
  intro pc i hF hi
  have h2 : (pc, i) ∈ lCc_root.filter (fun q => sx_isC q.2.1) := List.mem_filter.mpr ⟨sx_tab_mem hF, hi⟩
  have h3 : lCc_root.filter (fun q => sx_isC q.2.1) = [(1, .invokevirtual 65, 20, 0)] := rfl
  rw [h3] at h2
  simp only [List.mem_cons, List.not_mem_nil, or_false, Prod.mk.injEq] at h2
  rcases h2 with ⟨rfl, rfl⟩
  · exact sx_CalV (n := 0) (ci := 0) (fun As w Q h => h.2 l D E B A hB) (fun As w Q h => by obtain ⟨n0, tl, fs, e1, e2, e3⟩ := h.1; exact ⟨n0, tl, fs, e1, by omega, e3⟩) rfl rfl (wy_in mCc_isBuilt) rfl rfl rfl (List.mem_cons_of_mem _ mnCc_isBuilt) (List.mem_cons_of_mem _ lkCc_65) (List.mem_cons_of_mem _ miCc_isBuilt.1) (List.mem_cons_of_mem _ miCc_isBuilt.2) (by decide +kernel) (by decide) rfl
theorem hCc_degree (l : Launch) (D : va_G) (E : sx_E) (B : Nat) (A : Nat → Prop) (hB : 29 ≤ B) : ∀ (pc : Nat) (i : Instr × Nat × Nat), sx_tab lCc_degree pc = some i → sx_isC i.1 = true → sx_Cal l yCc_degree.cls (wy yCc_degree prog_1_method_16_code 2 (some .int)) wn ({ frames := 2, cells := 0, slots := 0, locals := 41 }) D kinds A E B 2 prog_1_method_16_code i.1 (csAll i.2.1) := by
  intro pc i hF hi
  have h2 : (pc, i) ∈ lCc_degree.filter (fun q => sx_isC q.2.1) := List.mem_filter.mpr ⟨sx_tab_mem hF, hi⟩
  have h3 : lCc_degree.filter (fun q => sx_isC q.2.1) = [(2, .invokevirtual 80, 21, 0)] := rfl
  rw [h3] at h2
  simp only [List.mem_cons, List.not_mem_nil, or_false, Prod.mk.injEq] at h2
  rcases h2 with ⟨rfl, rfl⟩
  · exact sx_CalV (n := 1) (ci := 0) (fun As w Q h => h.2 l D E B A hB) (fun As w Q h => by obtain ⟨n0, tl, fs, e1, e2, e3⟩ := h.1; exact ⟨n0, tl, fs, e1, by omega, e3⟩) rfl rfl (wy_in mCc_isClass) rfl rfl rfl (List.mem_cons_of_mem _ mnCc_isClass) (List.mem_cons_of_mem _ lkCc_80) (List.mem_cons_of_mem _ miCc_isClass.1) (List.mem_cons_of_mem _ miCc_isClass.2) (by decide +kernel) (by decide) rfl
theorem hCc_value (l : Launch) (D : va_G) (E : sx_E) (B : Nat) (A : Nat → Prop) (hB : 29 ≤ B) : ∀ (pc : Nat) (i : Instr × Nat × Nat), sx_tab lCc_value pc = some i → sx_isC i.1 = true → sx_Cal l yCc_value.cls (wy yCc_value prog_1_method_17_code 3 (some .int)) wn ({ frames := 2, cells := 0, slots := 0, locals := 41 }) D kinds A E B 3 prog_1_method_17_code i.1 (csAll i.2.1) := by
  intro pc i hF hi
  have h2 : (pc, i) ∈ lCc_value.filter (fun q => sx_isC q.2.1) := List.mem_filter.mpr ⟨sx_tab_mem hF, hi⟩
  have h3 : lCc_value.filter (fun q => sx_isC q.2.1) = [(2, .invokevirtual 80, 21, 0), (10, .invokevirtual 80, 21, 0)] := rfl
  rw [h3] at h2
  simp only [List.mem_cons, List.not_mem_nil, or_false, Prod.mk.injEq] at h2
  rcases h2 with ⟨rfl, rfl⟩ | ⟨rfl, rfl⟩
  · exact sx_CalV (n := 1) (ci := 0) (fun As w Q h => h.2 l D E B A hB) (fun As w Q h => by obtain ⟨n0, tl, fs, e1, e2, e3⟩ := h.1; exact ⟨n0, tl, fs, e1, by omega, e3⟩) rfl rfl (wy_in mCc_isClass) rfl rfl rfl (List.mem_cons_of_mem _ mnCc_isClass) (List.mem_cons_of_mem _ lkCc_80) (List.mem_cons_of_mem _ miCc_isClass.1) (List.mem_cons_of_mem _ miCc_isClass.2) (by decide +kernel) (by decide) rfl
  · exact sx_CalV (n := 1) (ci := 0) (fun As w Q h => h.2 l D E B A hB) (fun As w Q h => by obtain ⟨n0, tl, fs, e1, e2, e3⟩ := h.1; exact ⟨n0, tl, fs, e1, by omega, e3⟩) rfl rfl (wy_in mCc_isClass) rfl rfl rfl (List.mem_cons_of_mem _ mnCc_isClass) (List.mem_cons_of_mem _ lkCc_80) (List.mem_cons_of_mem _ miCc_isClass.1) (List.mem_cons_of_mem _ miCc_isClass.2) (by decide +kernel) (by decide) rfl
theorem hCc_multiplicity (l : Launch) (D : va_G) (E : sx_E) (B : Nat) (A : Nat → Prop) (hB : 29 ≤ B) : ∀ (pc : Nat) (i : Instr × Nat × Nat), sx_tab lCc_multiplicity pc = some i → sx_isC i.1 = true → sx_Cal l yCc_multiplicity.cls (wy yCc_multiplicity prog_1_method_18_code 4 (some .int)) wn ({ frames := 3, cells := 0, slots := 0, locals := 81 }) D kinds A E B 4 prog_1_method_18_code i.1 (csAll i.2.1) := by
  intro pc i hF hi
  have h2 : (pc, i) ∈ lCc_multiplicity.filter (fun q => sx_isC q.2.1) := List.mem_filter.mpr ⟨sx_tab_mem hF, hi⟩
  have h3 : lCc_multiplicity.filter (fun q => sx_isC q.2.1) = [(2, .invokevirtual 80, 21, 0), (10, .invokevirtual 80, 21, 0), (56, .invokevirtual 116, 116, 0)] := rfl
  rw [h3] at h2
  simp only [List.mem_cons, List.not_mem_nil, or_false, Prod.mk.injEq] at h2
  rcases h2 with ⟨rfl, rfl⟩ | ⟨rfl, rfl⟩ | ⟨rfl, rfl⟩
  · exact sx_CalV (n := 1) (ci := 0) (fun As w Q h => h.2 l D E B A hB) (fun As w Q h => by obtain ⟨n0, tl, fs, e1, e2, e3⟩ := h.1; exact ⟨n0, tl, fs, e1, by omega, e3⟩) rfl rfl (wy_in mCc_isClass) rfl rfl rfl (List.mem_cons_of_mem _ mnCc_isClass) (List.mem_cons_of_mem _ lkCc_80) (List.mem_cons_of_mem _ miCc_isClass.1) (List.mem_cons_of_mem _ miCc_isClass.2) (by decide +kernel) (by decide) rfl
  · exact sx_CalV (n := 1) (ci := 0) (fun As w Q h => h.2 l D E B A hB) (fun As w Q h => by obtain ⟨n0, tl, fs, e1, e2, e3⟩ := h.1; exact ⟨n0, tl, fs, e1, by omega, e3⟩) rfl rfl (wy_in mCc_isClass) rfl rfl rfl (List.mem_cons_of_mem _ mnCc_isClass) (List.mem_cons_of_mem _ lkCc_80) (List.mem_cons_of_mem _ miCc_isClass.1) (List.mem_cons_of_mem _ miCc_isClass.2) (by decide +kernel) (by decide) rfl
  · exact sx_CalV (n := 5) (ci := 5) (fun As w Q h => h.2 l D E B A hB) (fun As w Q h => by obtain ⟨n0, tl, fs, e1, e2, e3⟩ := h.1; exact ⟨n0, tl, fs, e1, by omega, e3⟩) rfl rfl (wy_in mRo_timesOfRoot) rfl rfl rfl (List.mem_cons_of_mem _ mnRo_timesOfRoot) (List.mem_cons_of_mem _ lkCc_116) (List.mem_cons_of_mem _ miRo_timesOfRoot.1) (List.mem_cons_of_mem _ miRo_timesOfRoot.2) (by decide +kernel) (by decide) rfl
theorem hCc_indicator (l : Launch) (D : va_G) (E : sx_E) (B : Nat) (A : Nat → Prop) (hB : 29 ≤ B) : ∀ (pc : Nat) (i : Instr × Nat × Nat), sx_tab lCc_indicator pc = some i → sx_isC i.1 = true → sx_Cal l yCc_indicator.cls (wy yCc_indicator prog_1_method_19_code 2 (some .int)) wn ({ frames := 2, cells := 0, slots := 0, locals := 41 }) D kinds A E B 2 prog_1_method_19_code i.1 (csAll i.2.1) := by
  intro pc i hF hi
  have h2 : (pc, i) ∈ lCc_indicator.filter (fun q => sx_isC q.2.1) := List.mem_filter.mpr ⟨sx_tab_mem hF, hi⟩
  have h3 : lCc_indicator.filter (fun q => sx_isC q.2.1) = [(2, .invokevirtual 80, 21, 0)] := rfl
  rw [h3] at h2
  simp only [List.mem_cons, List.not_mem_nil, or_false, Prod.mk.injEq] at h2
  rcases h2 with ⟨rfl, rfl⟩
  · exact sx_CalV (n := 1) (ci := 0) (fun As w Q h => h.2 l D E B A hB) (fun As w Q h => by obtain ⟨n0, tl, fs, e1, e2, e3⟩ := h.1; exact ⟨n0, tl, fs, e1, by omega, e3⟩) rfl rfl (wy_in mCc_isClass) rfl rfl rfl (List.mem_cons_of_mem _ mnCc_isClass) (List.mem_cons_of_mem _ lkCc_80) (List.mem_cons_of_mem _ miCc_isClass.1) (List.mem_cons_of_mem _ miCc_isClass.2) (by decide +kernel) (by decide) rfl
theorem hCc_kernel (l : Launch) (D : va_G) (E : sx_E) (B : Nat) (A : Nat → Prop) (hB : 29 ≤ B) : ∀ (pc : Nat) (i : Instr × Nat × Nat), sx_tab lCc_kernel pc = some i → sx_isC i.1 = true → sx_Cal l yCc_kernel.cls (wy yCc_kernel prog_1_method_20_code 2 (some .int)) wn ({ frames := 2, cells := 0, slots := 0, locals := 41 }) D kinds A E B 2 prog_1_method_20_code i.1 (csAll i.2.1) := by
  intro pc i hF hi
  have h2 : (pc, i) ∈ lCc_kernel.filter (fun q => sx_isC q.2.1) := List.mem_filter.mpr ⟨sx_tab_mem hF, hi⟩
  have h3 : lCc_kernel.filter (fun q => sx_isC q.2.1) = [(2, .invokevirtual 80, 21, 0)] := rfl
  rw [h3] at h2
  simp only [List.mem_cons, List.not_mem_nil, or_false, Prod.mk.injEq] at h2
  rcases h2 with ⟨rfl, rfl⟩
  · exact sx_CalV (n := 1) (ci := 0) (fun As w Q h => h.2 l D E B A hB) (fun As w Q h => by obtain ⟨n0, tl, fs, e1, e2, e3⟩ := h.1; exact ⟨n0, tl, fs, e1, by omega, e3⟩) rfl rfl (wy_in mCc_isClass) rfl rfl rfl (List.mem_cons_of_mem _ mnCc_isClass) (List.mem_cons_of_mem _ lkCc_80) (List.mem_cons_of_mem _ miCc_isClass.1) (List.mem_cons_of_mem _ miCc_isClass.2) (by decide +kernel) (by decide) rfl
theorem hCc_normals (l : Launch) (D : va_G) (E : sx_E) (B : Nat) (A : Nat → Prop) (hB : 29 ≤ B) : ∀ (pc : Nat) (i : Instr × Nat × Nat), sx_tab lCc_normals pc = some i → sx_isC i.1 = true → sx_Cal l yCc_normals.cls (wy yCc_normals prog_1_method_21_code 1 (some .int)) wn ({ frames := 1, cells := 0, slots := 0, locals := 20 }) D kinds A E B 1 prog_1_method_21_code i.1 (csAll i.2.1) := by
  intro pc i hF hi
  have h2 : (pc, i) ∈ lCc_normals.filter (fun q => sx_isC q.2.1) := List.mem_filter.mpr ⟨sx_tab_mem hF, hi⟩
  have h3 : lCc_normals.filter (fun q => sx_isC q.2.1) = [(1, .invokevirtual 65, 20, 0)] := rfl
  rw [h3] at h2
  simp only [List.mem_cons, List.not_mem_nil, or_false, Prod.mk.injEq] at h2
  rcases h2 with ⟨rfl, rfl⟩
  · exact sx_CalV (n := 0) (ci := 0) (fun As w Q h => h.2 l D E B A hB) (fun As w Q h => by obtain ⟨n0, tl, fs, e1, e2, e3⟩ := h.1; exact ⟨n0, tl, fs, e1, by omega, e3⟩) rfl rfl (wy_in mCc_isBuilt) rfl rfl rfl (List.mem_cons_of_mem _ mnCc_isBuilt) (List.mem_cons_of_mem _ lkCc_65) (List.mem_cons_of_mem _ miCc_isBuilt.1) (List.mem_cons_of_mem _ miCc_isBuilt.2) (by decide +kernel) (by decide) rfl
theorem hCc_isClass (l : Launch) (D : va_G) (E : sx_E) (B : Nat) (A : Nat → Prop) (hB : 29 ≤ B) : ∀ (pc : Nat) (i : Instr × Nat × Nat), sx_tab lCc_isClass pc = some i → sx_isC i.1 = true → sx_Cal l yCc_isClass.cls (wy yCc_isClass prog_1_method_23_code 2 (some .boolean)) wn ({ frames := 1, cells := 0, slots := 0, locals := 20 }) D kinds A E B 2 prog_1_method_23_code i.1 (csAll i.2.1) := by
  intro pc i hF hi
  have h2 : (pc, i) ∈ lCc_isClass.filter (fun q => sx_isC q.2.1) := List.mem_filter.mpr ⟨sx_tab_mem hF, hi⟩
  have h3 : lCc_isClass.filter (fun q => sx_isC q.2.1) = [(1, .invokevirtual 65, 20, 0)] := rfl
  rw [h3] at h2
  simp only [List.mem_cons, List.not_mem_nil, or_false, Prod.mk.injEq] at h2
  rcases h2 with ⟨rfl, rfl⟩
  · exact sx_CalV (n := 0) (ci := 0) (fun As w Q h => h.2 l D E B A hB) (fun As w Q h => by obtain ⟨n0, tl, fs, e1, e2, e3⟩ := h.1; exact ⟨n0, tl, fs, e1, by omega, e3⟩) rfl rfl (wy_in mCc_isBuilt) rfl rfl rfl (List.mem_cons_of_mem _ mnCc_isBuilt) (List.mem_cons_of_mem _ lkCc_65) (List.mem_cons_of_mem _ miCc_isBuilt.1) (List.mem_cons_of_mem _ miCc_isBuilt.2) (by decide +kernel) (by decide) rfl
theorem hCc_workOut (l : Launch) (D : va_G) (E : sx_E) (B : Nat) (A : Nat → Prop) (hB : 29 ≤ B) : ∀ (pc : Nat) (i : Instr × Nat × Nat), sx_tab lCc_workOut pc = some i → sx_isC i.1 = true → sx_Cal l yCc_workOut.cls (wy yCc_workOut prog_1_method_24_code 1 (some .int)) wn ({ frames := 5, cells := 0, slots := 0, locals := 133 }) D kinds A E B 1 prog_1_method_24_code i.1 (csAll i.2.1) := by
  intro pc i hF hi
  have h2 : (pc, i) ∈ lCc_workOut.filter (fun q => sx_isC q.2.1) := List.mem_filter.mpr ⟨sx_tab_mem hF, hi⟩
  have h3 : lCc_workOut.filter (fun q => sx_isC q.2.1) = [(12, .invokevirtual 129, 93, 0), (28, .invokevirtual 133, 84, 0), (44, .invokevirtual 137, 87, 0), (55, .invokevirtual 141, 90, 0), (76, .invokevirtual 144, 97, 0), (91, .invokevirtual 148, 71, 0), (117, .invokevirtual 152, 107, 0)] := rfl
  rw [h3] at h2
  simp only [List.mem_cons, List.not_mem_nil, or_false, Prod.mk.injEq] at h2
  rcases h2 with ⟨rfl, rfl⟩ | ⟨rfl, rfl⟩ | ⟨rfl, rfl⟩ | ⟨rfl, rfl⟩ | ⟨rfl, rfl⟩ | ⟨rfl, rfl⟩ | ⟨rfl, rfl⟩
  · exact sx_CalV (n := 2) (ci := 1) (fun As w Q h => h.2 l D E B A hB) (fun As w Q h => by obtain ⟨n0, tl, fs, e1, e2, e3⟩ := h.1; exact ⟨n0, tl, fs, e1, by omega, e3⟩) rfl rfl (wy_in mEl_generate) rfl rfl rfl (List.mem_cons_of_mem _ mnEl_generate) (List.mem_cons_of_mem _ lkCc_129) (List.mem_cons_of_mem _ miEl_generate.1) (List.mem_cons_of_mem _ miEl_generate.2) (by decide +kernel) (by decide) rfl
  · exact sx_CalV (n := 1) (ci := 2) (fun As w Q h => h.2 l D E B A hB) (fun As w Q h => by obtain ⟨n0, tl, fs, e1, e2, e3⟩ := h.1; exact ⟨n0, tl, fs, e1, by omega, e3⟩) rfl rfl (wy_in mCo_divide) rfl rfl rfl (List.mem_cons_of_mem _ mnCo_divide) (List.mem_cons_of_mem _ lkCc_133) (List.mem_cons_of_mem _ miCo_divide.1) (List.mem_cons_of_mem _ miCo_divide.2) (by decide +kernel) (by decide) rfl
  · exact sx_CalV (n := 1) (ci := 2) (fun As w Q h => h.2 l D E B A hB) (fun As w Q h => by obtain ⟨n0, tl, fs, e1, e2, e3⟩ := h.1; exact ⟨n0, tl, fs, e1, by omega, e3⟩) rfl rfl (wy_in mCo_listPowers) rfl rfl rfl (List.mem_cons_of_mem _ mnCo_listPowers) (List.mem_cons_of_mem _ lkCc_137) (List.mem_cons_of_mem _ miCo_listPowers.1) (List.mem_cons_of_mem _ miCo_listPowers.2) (by decide +kernel) (by decide) rfl
  · exact sx_CalV (n := 1) (ci := 2) (fun As w Q h => h.2 l D E B A hB) (fun As w Q h => by obtain ⟨n0, tl, fs, e1, e2, e3⟩ := h.1; exact ⟨n0, tl, fs, e1, by omega, e3⟩) rfl rfl (wy_in mCo_countPairs) rfl rfl rfl (List.mem_cons_of_mem _ mnCo_countPairs) (List.mem_cons_of_mem _ lkCc_141) (List.mem_cons_of_mem _ miCo_countPairs.1) (List.mem_cons_of_mem _ miCo_countPairs.2) (by decide +kernel) (by decide) rfl
  · exact sx_CalV (n := 2) (ci := 3) (fun As w Q h => h.2 l D E B A hB) (fun As w Q h => by obtain ⟨n0, tl, fs, e1, e2, e3⟩ := h.1; exact ⟨n0, tl, fs, e1, by omega, e3⟩) rfl rfl (wy_in mRe_choose) rfl rfl rfl (List.mem_cons_of_mem _ mnRe_choose) (List.mem_cons_of_mem _ lkCc_144) (List.mem_cons_of_mem _ miRe_choose.1) (List.mem_cons_of_mem _ miRe_choose.2) (by decide +kernel) (by decide) rfl
  · exact sx_CalV (n := 2) (ci := 4) (fun As w Q h => h.2 l D E B A hB) (fun As w Q h => by obtain ⟨n0, tl, fs, e1, e2, e3⟩ := h.1; exact ⟨n0, tl, fs, e1, by omega, e3⟩) rfl rfl (wy_in mCm_find) rfl rfl rfl (List.mem_cons_of_mem _ mnCm_find) (List.mem_cons_of_mem _ lkCc_148) (List.mem_cons_of_mem _ miCm_find.1) (List.mem_cons_of_mem _ miCm_find.2) (by decide +kernel) (by decide) rfl
  · exact sx_CalV (n := 4) (ci := 5) (fun As w Q h => h.2 l D E B A hB) (fun As w Q h => by obtain ⟨n0, tl, fs, e1, e2, e3⟩ := h.1; exact ⟨n0, tl, fs, e1, by omega, e3⟩) rfl rfl (wy_in mRo_make) rfl rfl rfl (List.mem_cons_of_mem _ mnRo_make) (List.mem_cons_of_mem _ lkCc_152) (List.mem_cons_of_mem _ miRo_make.1) (List.mem_cons_of_mem _ miRo_make.2) (by decide +kernel) (by decide) rfl
theorem hMo_product (l : Launch) (D : va_G) (E : sx_E) (B : Nat) (A : Nat → Prop) (hB : 11 ≤ B) : ∀ (pc : Nat) (i : Instr × Nat × Nat), sx_tab lMo_product pc = some i → sx_isC i.1 = true → sx_Cal l yMo_product.cls (wy yMo_product prog_9_method_3_code 5 (some .int)) wn ({ frames := 1, cells := 0, slots := 0, locals := 21 }) D kinds A E B 5 prog_9_method_3_code i.1 (csAll i.2.1) := by
  intro pc i hF hi
  have h2 : (pc, i) ∈ lMo_product.filter (fun q => sx_isC q.2.1) := List.mem_filter.mpr ⟨sx_tab_mem hF, hi⟩
  have h3 : lMo_product.filter (fun q => sx_isC q.2.1) = [(12, .invokestatic 40, 23, 0), (24, .invokestatic 40, 23, 0)] := rfl
  rw [h3] at h2
  simp only [List.mem_cons, List.not_mem_nil, or_false, Prod.mk.injEq] at h2
  rcases h2 with ⟨rfl, rfl⟩ | ⟨rfl, rfl⟩
  · exact sx_CalS (n := 2) (fun As w Q h => h l D E B A hB) (wy_in mMo_image) rfl rfl rfl (List.mem_cons_of_mem _ mnMo_image) (List.mem_cons_of_mem _ lkMo_40) (List.mem_cons_of_mem _ msMo_image) (by decide +kernel) (by decide) rfl
  · exact sx_CalS (n := 2) (fun As w Q h => h l D E B A hB) (wy_in mMo_image) rfl rfl rfl (List.mem_cons_of_mem _ mnMo_image) (List.mem_cons_of_mem _ lkMo_40) (List.mem_cons_of_mem _ msMo_image) (by decide +kernel) (by decide) rfl
theorem hMo_inverted (l : Launch) (D : va_G) (E : sx_E) (B : Nat) (A : Nat → Prop) (hB : 11 ≤ B) : ∀ (pc : Nat) (i : Instr × Nat × Nat), sx_tab lMo_inverted pc = some i → sx_isC i.1 = true → sx_Cal l yMo_inverted.cls (wy yMo_inverted prog_9_method_4_code 4 (some .int)) wn ({ frames := 1, cells := 0, slots := 0, locals := 21 }) D kinds A E B 4 prog_9_method_4_code i.1 (csAll i.2.1) := by
  intro pc i hF hi
  have h2 : (pc, i) ∈ lMo_inverted.filter (fun q => sx_isC q.2.1) := List.mem_filter.mpr ⟨sx_tab_mem hF, hi⟩
  have h3 : lMo_inverted.filter (fun q => sx_isC q.2.1) = [(20, .invokestatic 40, 23, 0)] := rfl
  rw [h3] at h2
  simp only [List.mem_cons, List.not_mem_nil, or_false, Prod.mk.injEq] at h2
  rcases h2 with ⟨rfl, rfl⟩
  · exact sx_CalS (n := 2) (fun As w Q h => h l D E B A hB) (wy_in mMo_image) rfl rfl rfl (List.mem_cons_of_mem _ mnMo_image) (List.mem_cons_of_mem _ lkMo_40) (List.mem_cons_of_mem _ msMo_image) (by decide +kernel) (by decide) rfl
theorem hMo_isPermutation (l : Launch) (D : va_G) (E : sx_E) (B : Nat) (A : Nat → Prop) (hB : 11 ≤ B) : ∀ (pc : Nat) (i : Instr × Nat × Nat), sx_tab lMo_isPermutation pc = some i → sx_isC i.1 = true → sx_Cal l yMo_isPermutation.cls (wy yMo_isPermutation prog_9_method_5_code 3 (some .boolean)) wn ({ frames := 1, cells := 0, slots := 0, locals := 21 }) D kinds A E B 3 prog_9_method_5_code i.1 (csAll i.2.1) := by
  intro pc i hF hi
  have h2 : (pc, i) ∈ lMo_isPermutation.filter (fun q => sx_isC q.2.1) := List.mem_filter.mpr ⟨sx_tab_mem hF, hi⟩
  have h3 : lMo_isPermutation.filter (fun q => sx_isC q.2.1) = [(14, .invokestatic 40, 23, 0)] := rfl
  rw [h3] at h2
  simp only [List.mem_cons, List.not_mem_nil, or_false, Prod.mk.injEq] at h2
  rcases h2 with ⟨rfl, rfl⟩
  · exact sx_CalS (n := 2) (fun As w Q h => h l D E B A hB) (wy_in mMo_image) rfl rfl rfl (List.mem_cons_of_mem _ mnMo_image) (List.mem_cons_of_mem _ lkMo_40) (List.mem_cons_of_mem _ msMo_image) (by decide +kernel) (by decide) rfl
theorem hMo_add (l : Launch) (D : va_G) (E : sx_E) (B : Nat) (A : Nat → Prop) (hB : 11 ≤ B) : ∀ (pc : Nat) (i : Instr × Nat × Nat), sx_tab lMo_add pc = some i → sx_isC i.1 = true → sx_Cal l yMo_add.cls (wy yMo_add prog_9_method_6_code 2 (some .boolean)) wn ({ frames := 2, cells := 0, slots := 0, locals := 43 }) D kinds A E B 2 prog_9_method_6_code i.1 (csAll i.2.1) := by
  intro pc i hF hi
  have h2 : (pc, i) ∈ lMo_add.filter (fun q => sx_isC q.2.1) := List.mem_filter.mpr ⟨sx_tab_mem hF, hi⟩
  have h3 : lMo_add.filter (fun q => sx_isC q.2.1) = [(1, .invokestatic 45, 26, 0)] := rfl
  rw [h3] at h2
  simp only [List.mem_cons, List.not_mem_nil, or_false, Prod.mk.injEq] at h2
  rcases h2 with ⟨rfl, rfl⟩
  · exact sx_CalS (n := 1) (fun As w Q h => h l D E B A hB) (wy_in mMo_isPermutation) rfl rfl rfl (List.mem_cons_of_mem _ mnMo_isPermutation) (List.mem_cons_of_mem _ lkMo_45) (List.mem_cons_of_mem _ msMo_isPermutation) (by decide +kernel) (by decide) rfl
theorem hMo_close (l : Launch) (D : va_G) (E : sx_E) (B : Nat) (A : Nat → Prop) (hB : 11 ≤ B) : ∀ (pc : Nat) (i : Instr × Nat × Nat), sx_tab lMo_close pc = some i → sx_isC i.1 = true → sx_Cal l yMo_close.cls (wy yMo_close prog_9_method_9_code 4 (some .boolean)) wn ({ frames := 2, cells := 0, slots := 0, locals := 45 }) D kinds A E B 4 prog_9_method_9_code i.1 (csAll i.2.1) := by
  intro pc i hF hi
  have h2 : (pc, i) ∈ lMo_close.filter (fun q => sx_isC q.2.1) := List.mem_filter.mpr ⟨sx_tab_mem hF, hi⟩
  have h3 : lMo_close.filter (fun q => sx_isC q.2.1) = [(45, .invokestatic 61, 24, 0), (51, .invokevirtual 64, 29, 0)] := rfl
  rw [h3] at h2
  simp only [List.mem_cons, List.not_mem_nil, or_false, Prod.mk.injEq] at h2
  rcases h2 with ⟨rfl, rfl⟩ | ⟨rfl, rfl⟩
  · exact sx_CalS (n := 2) (fun As w Q h => h l D E B A hB) (wy_in mMo_product) rfl rfl rfl (List.mem_cons_of_mem _ mnMo_product) (List.mem_cons_of_mem _ lkMo_61) (List.mem_cons_of_mem _ msMo_product) (by decide +kernel) (by decide) rfl
  · exact sx_CalV (n := 1) (ci := 6) (fun As w Q h => h.2 l D E B A hB) (fun As w Q h => by obtain ⟨n0, tl, fs, e1, e2, e3⟩ := h.1; exact ⟨n0, tl, fs, e1, by omega, e3⟩) rfl rfl (wy_in mMo_find) rfl rfl rfl (List.mem_cons_of_mem _ mnMo_find) (List.mem_cons_of_mem _ lkMo_64) (List.mem_cons_of_mem _ miMo_find.1) (List.mem_cons_of_mem _ miMo_find.2) (by decide +kernel) (by decide) rfl
theorem hMo_classify (l : Launch) (D : va_G) (E : sx_E) (B : Nat) (A : Nat → Prop) (hB : 11 ≤ B) : ∀ (pc : Nat) (i : Instr × Nat × Nat), sx_tab lMo_classify pc = some i → sx_isC i.1 = true → sx_Cal l yMo_classify.cls (wy yMo_classify prog_9_method_10_code 6 (some .boolean)) wn ({ frames := 2, cells := 0, slots := 0, locals := 45 }) D kinds A E B 6 prog_9_method_10_code i.1 (csAll i.2.1) := by
  intro pc i hF hi
  have h2 : (pc, i) ∈ lMo_classify.filter (fun q => sx_isC q.2.1) := List.mem_filter.mpr ⟨sx_tab_mem hF, hi⟩
  have h3 : lMo_classify.filter (fun q => sx_isC q.2.1) = [(103, .invokestatic 71, 25, 0), (114, .invokestatic 61, 24, 0), (123, .invokestatic 61, 24, 0), (131, .invokevirtual 64, 29, 0)] := rfl
  rw [h3] at h2
  simp only [List.mem_cons, List.not_mem_nil, or_false, Prod.mk.injEq] at h2
  rcases h2 with ⟨rfl, rfl⟩ | ⟨rfl, rfl⟩ | ⟨rfl, rfl⟩ | ⟨rfl, rfl⟩
  · exact sx_CalS (n := 1) (fun As w Q h => h l D E B A hB) (wy_in mMo_inverted) rfl rfl rfl (List.mem_cons_of_mem _ mnMo_inverted) (List.mem_cons_of_mem _ lkMo_71) (List.mem_cons_of_mem _ msMo_inverted) (by decide +kernel) (by decide) rfl
  · exact sx_CalS (n := 2) (fun As w Q h => h l D E B A hB) (wy_in mMo_product) rfl rfl rfl (List.mem_cons_of_mem _ mnMo_product) (List.mem_cons_of_mem _ lkMo_61) (List.mem_cons_of_mem _ msMo_product) (by decide +kernel) (by decide) rfl
  · exact sx_CalS (n := 2) (fun As w Q h => h l D E B A hB) (wy_in mMo_product) rfl rfl rfl (List.mem_cons_of_mem _ mnMo_product) (List.mem_cons_of_mem _ lkMo_61) (List.mem_cons_of_mem _ msMo_product) (by decide +kernel) (by decide) rfl
  · exact sx_CalV (n := 1) (ci := 6) (fun As w Q h => h.2 l D E B A hB) (fun As w Q h => by obtain ⟨n0, tl, fs, e1, e2, e3⟩ := h.1; exact ⟨n0, tl, fs, e1, by omega, e3⟩) rfl rfl (wy_in mMo_find) rfl rfl rfl (List.mem_cons_of_mem _ mnMo_find) (List.mem_cons_of_mem _ lkMo_64) (List.mem_cons_of_mem _ miMo_find.1) (List.mem_cons_of_mem _ miMo_find.2) (by decide +kernel) (by decide) rfl
theorem hMo_count (l : Launch) (D : va_G) (E : sx_E) (B : Nat) (A : Nat → Prop) (hB : 11 ≤ B) : ∀ (pc : Nat) (i : Instr × Nat × Nat), sx_tab lMo_count pc = some i → sx_isC i.1 = true → sx_Cal l yMo_count.cls (wy yMo_count prog_9_method_11_code 5 none) wn ({ frames := 2, cells := 0, slots := 0, locals := 45 }) D kinds A E B 5 prog_9_method_11_code i.1 (csAll i.2.1) := by
  intro pc i hF hi
  have h2 : (pc, i) ∈ lMo_count.filter (fun q => sx_isC q.2.1) := List.mem_filter.mpr ⟨sx_tab_mem hF, hi⟩
  have h3 : lMo_count.filter (fun q => sx_isC q.2.1) = [(48, .invokestatic 71, 25, 0), (59, .invokestatic 61, 24, 0), (87, .invokevirtual 64, 29, 0)] := rfl
  rw [h3] at h2
  simp only [List.mem_cons, List.not_mem_nil, or_false, Prod.mk.injEq] at h2
  rcases h2 with ⟨rfl, rfl⟩ | ⟨rfl, rfl⟩ | ⟨rfl, rfl⟩
  · exact sx_CalS (n := 1) (fun As w Q h => h l D E B A hB) (wy_in mMo_inverted) rfl rfl rfl (List.mem_cons_of_mem _ mnMo_inverted) (List.mem_cons_of_mem _ lkMo_71) (List.mem_cons_of_mem _ msMo_inverted) (by decide +kernel) (by decide) rfl
  · exact sx_CalS (n := 2) (fun As w Q h => h l D E B A hB) (wy_in mMo_product) rfl rfl rfl (List.mem_cons_of_mem _ mnMo_product) (List.mem_cons_of_mem _ lkMo_61) (List.mem_cons_of_mem _ msMo_product) (by decide +kernel) (by decide) rfl
  · exact sx_CalV (n := 1) (ci := 6) (fun As w Q h => h.2 l D E B A hB) (fun As w Q h => by obtain ⟨n0, tl, fs, e1, e2, e3⟩ := h.1; exact ⟨n0, tl, fs, e1, by omega, e3⟩) rfl rfl (wy_in mMo_find) rfl rfl rfl (List.mem_cons_of_mem _ mnMo_find) (List.mem_cons_of_mem _ lkMo_64) (List.mem_cons_of_mem _ miMo_find.1) (List.mem_cons_of_mem _ miMo_find.2) (by decide +kernel) (by decide) rfl
theorem hMo_powerOf (l : Launch) (D : va_G) (E : sx_E) (B : Nat) (A : Nat → Prop) (hB : 11 ≤ B) : ∀ (pc : Nat) (i : Instr × Nat × Nat), sx_tab lMo_powerOf pc = some i → sx_isC i.1 = true → sx_Cal l yMo_powerOf.cls (wy yMo_powerOf prog_9_method_12_code 5 (some .int)) wn ({ frames := 2, cells := 0, slots := 0, locals := 45 }) D kinds A E B 5 prog_9_method_12_code i.1 (csAll i.2.1) := by
  intro pc i hF hi
  have h2 : (pc, i) ∈ lMo_powerOf.filter (fun q => sx_isC q.2.1) := List.mem_filter.mpr ⟨sx_tab_mem hF, hi⟩
  have h3 : lMo_powerOf.filter (fun q => sx_isC q.2.1) = [(14, .invokestatic 61, 24, 0)] := rfl
  rw [h3] at h2
  simp only [List.mem_cons, List.not_mem_nil, or_false, Prod.mk.injEq] at h2
  rcases h2 with ⟨rfl, rfl⟩
  · exact sx_CalS (n := 2) (fun As w Q h => h l D E B A hB) (wy_in mMo_product) rfl rfl rfl (List.mem_cons_of_mem _ mnMo_product) (List.mem_cons_of_mem _ lkMo_61) (List.mem_cons_of_mem _ msMo_product) (by decide +kernel) (by decide) rfl
theorem hMo_allAtOnce (l : Launch) (D : va_G) (E : sx_E) (B : Nat) (A : Nat → Prop) (hB : 11 ≤ B) : ∀ (pc : Nat) (i : Instr × Nat × Nat), sx_tab lMo_allAtOnce pc = some i → sx_isC i.1 = true → sx_Cal l yMo_allAtOnce.cls (wy yMo_allAtOnce prog_9_method_13_code 4 (some .boolean)) wn ({ frames := 3, cells := 0, slots := 0, locals := 69 }) D kinds A E B 4 prog_9_method_13_code i.1 (csAll i.2.1) := by
  intro pc i hF hi
  have h2 : (pc, i) ∈ lMo_allAtOnce.filter (fun q => sx_isC q.2.1) := List.mem_filter.mpr ⟨sx_tab_mem hF, hi⟩
  have h3 : lMo_allAtOnce.filter (fun q => sx_isC q.2.1) = [(24, .invokevirtual 74, 33, 0)] := rfl
  rw [h3] at h2
  simp only [List.mem_cons, List.not_mem_nil, or_false, Prod.mk.injEq] at h2
  rcases h2 with ⟨rfl, rfl⟩
  · exact sx_CalV (n := 2) (ci := 6) (fun As w Q h => h.2 l D E B A hB) (fun As w Q h => by obtain ⟨n0, tl, fs, e1, e2, e3⟩ := h.1; exact ⟨n0, tl, fs, e1, by omega, e3⟩) rfl rfl (wy_in mMo_powerOf) rfl rfl rfl (List.mem_cons_of_mem _ mnMo_powerOf) (List.mem_cons_of_mem _ lkMo_74) (List.mem_cons_of_mem _ miMo_powerOf.1) (List.mem_cons_of_mem _ miMo_powerOf.2) (by decide +kernel) (by decide) rfl
theorem hMo_numbers (l : Launch) (D : va_G) (E : sx_E) (B : Nat) (A : Nat → Prop) (hB : 11 ≤ B) : ∀ (pc : Nat) (i : Instr × Nat × Nat), sx_tab lMo_numbers pc = some i → sx_isC i.1 = true → sx_Cal l yMo_numbers.cls (wy yMo_numbers prog_9_method_15_code 1 none) wn ({ frames := 4, cells := 0, slots := 0, locals := 92 }) D kinds A E B 1 prog_9_method_15_code i.1 (csAll i.2.1) := by
  intro pc i hF hi
  have h2 : (pc, i) ∈ lMo_numbers.filter (fun q => sx_isC q.2.1) := List.mem_filter.mpr ⟨sx_tab_mem hF, hi⟩
  have h3 : lMo_numbers.filter (fun q => sx_isC q.2.1) = [(20, .invokevirtual 80, 34, 0), (58, .invokestatic 86, 35, 0), (130, .invokevirtual 92, 37, 0)] := rfl
  rw [h3] at h2
  simp only [List.mem_cons, List.not_mem_nil, or_false, Prod.mk.injEq] at h2
  rcases h2 with ⟨rfl, rfl⟩ | ⟨rfl, rfl⟩ | ⟨rfl, rfl⟩
  · exact sx_CalV (n := 1) (ci := 6) (fun As w Q h => h.2 l D E B A hB) (fun As w Q h => by obtain ⟨n0, tl, fs, e1, e2, e3⟩ := h.1; exact ⟨n0, tl, fs, e1, by omega, e3⟩) rfl rfl (wy_in mMo_allAtOnce) rfl rfl rfl (List.mem_cons_of_mem _ mnMo_allAtOnce) (List.mem_cons_of_mem _ lkMo_80) (List.mem_cons_of_mem _ miMo_allAtOnce.1) (List.mem_cons_of_mem _ miMo_allAtOnce.2) (by decide +kernel) (by decide) rfl
  · exact sx_CalS (n := 1) (fun As w Q h => h l D E B A hB) (wy_in mMo_isPrime) rfl rfl rfl (List.mem_cons_of_mem _ mnMo_isPrime) (List.mem_cons_of_mem _ lkMo_86) (List.mem_cons_of_mem _ msMo_isPrime) (by decide +kernel) (by decide) rfl
  · exact sx_CalV (n := 1) (ci := 6) (fun As w Q h => h.2 l D E B A hB) (fun As w Q h => by obtain ⟨n0, tl, fs, e1, e2, e3⟩ := h.1; exact ⟨n0, tl, fs, e1, by omega, e3⟩) rfl rfl (wy_in mMo_isRoot) rfl rfl rfl (List.mem_cons_of_mem _ mnMo_isRoot) (List.mem_cons_of_mem _ lkMo_92) (List.mem_cons_of_mem _ miMo_isRoot.1) (List.mem_cons_of_mem _ miMo_isRoot.2) (by decide +kernel) (by decide) rfl
theorem hMo_over (l : Launch) (D : va_G) (E : sx_E) (B : Nat) (A : Nat → Prop) (hB : 11 ≤ B) : ∀ (pc : Nat) (i : Instr × Nat × Nat), sx_tab lMo_over pc = some i → sx_isC i.1 = true → sx_Cal l yMo_over.cls (wy yMo_over prog_9_method_19_code 3 (some .int)) wn ({ frames := 1, cells := 0, slots := 0, locals := 24 }) D kinds A E B 3 prog_9_method_19_code i.1 (csAll i.2.1) := by
  intro pc i hF hi
  have h2 : (pc, i) ∈ lMo_over.filter (fun q => sx_isC q.2.1) := List.mem_filter.mpr ⟨sx_tab_mem hF, hi⟩
  have h3 : lMo_over.filter (fun q => sx_isC q.2.1) = [(2, .invokevirtual 95, 38, 0), (8, .invokevirtual 95, 38, 0), (17, .invokevirtual 98, 39, 0)] := rfl
  rw [h3] at h2
  simp only [List.mem_cons, List.not_mem_nil, or_false, Prod.mk.injEq] at h2
  rcases h2 with ⟨rfl, rfl⟩ | ⟨rfl, rfl⟩ | ⟨rfl, rfl⟩
  · exact sx_CalV (n := 1) (ci := 6) (fun As w Q h => h.2 l D E B A hB) (fun As w Q h => by obtain ⟨n0, tl, fs, e1, e2, e3⟩ := h.1; exact ⟨n0, tl, fs, e1, by omega, e3⟩) rfl rfl (wy_in mMo_mod) rfl rfl rfl (List.mem_cons_of_mem _ mnMo_mod) (List.mem_cons_of_mem _ lkMo_95) (List.mem_cons_of_mem _ miMo_mod.1) (List.mem_cons_of_mem _ miMo_mod.2) (by decide +kernel) (by decide) rfl
  · exact sx_CalV (n := 1) (ci := 6) (fun As w Q h => h.2 l D E B A hB) (fun As w Q h => by obtain ⟨n0, tl, fs, e1, e2, e3⟩ := h.1; exact ⟨n0, tl, fs, e1, by omega, e3⟩) rfl rfl (wy_in mMo_mod) rfl rfl rfl (List.mem_cons_of_mem _ mnMo_mod) (List.mem_cons_of_mem _ lkMo_95) (List.mem_cons_of_mem _ miMo_mod.1) (List.mem_cons_of_mem _ miMo_mod.2) (by decide +kernel) (by decide) rfl
  · exact sx_CalV (n := 2) (ci := 6) (fun As w Q h => h.2 l D E B A hB) (fun As w Q h => by obtain ⟨n0, tl, fs, e1, e2, e3⟩ := h.1; exact ⟨n0, tl, fs, e1, by omega, e3⟩) rfl rfl (wy_in mMo_raised) rfl rfl rfl (List.mem_cons_of_mem _ mnMo_raised) (List.mem_cons_of_mem _ lkMo_98) (List.mem_cons_of_mem _ miMo_raised.1) (List.mem_cons_of_mem _ miMo_raised.2) (by decide +kernel) (by decide) rfl
theorem hMo_fermat (l : Launch) (D : va_G) (E : sx_E) (B : Nat) (A : Nat → Prop) (hB : 11 ≤ B) : ∀ (pc : Nat) (i : Instr × Nat × Nat), sx_tab lMo_fermat pc = some i → sx_isC i.1 = true → sx_Cal l yMo_fermat.cls (wy yMo_fermat prog_9_method_22_code 3 none) wn ({ frames := 1, cells := 0, slots := 0, locals := 28 }) D kinds A E B 3 prog_9_method_22_code i.1 (csAll i.2.1) := by
  intro pc i hF hi
  have h2 : (pc, i) ∈ lMo_fermat.filter (fun q => sx_isC q.2.1) := List.mem_filter.mpr ⟨sx_tab_mem hF, hi⟩
  have h3 : lMo_fermat.filter (fun q => sx_isC q.2.1) = [(5, .invokevirtual 101, 42, 0), (39, .invokevirtual 105, 41, 0), (47, .invokevirtual 101, 42, 0), (58, .invokevirtual 101, 42, 0), (70, .invokevirtual 105, 41, 0), (78, .invokevirtual 101, 42, 0)] := rfl
  rw [h3] at h2
  simp only [List.mem_cons, List.not_mem_nil, or_false, Prod.mk.injEq] at h2
  rcases h2 with ⟨rfl, rfl⟩ | ⟨rfl, rfl⟩ | ⟨rfl, rfl⟩ | ⟨rfl, rfl⟩ | ⟨rfl, rfl⟩ | ⟨rfl, rfl⟩
  · exact sx_CalV (n := 2) (ci := 6) (fun As w Q h => h.2 l D E B A hB) (fun As w Q h => by obtain ⟨n0, tl, fs, e1, e2, e3⟩ := h.1; exact ⟨n0, tl, fs, e1, by omega, e3⟩) rfl rfl (wy_in mMo_copy) rfl rfl rfl (List.mem_cons_of_mem _ mnMo_copy) (List.mem_cons_of_mem _ lkMo_101) (List.mem_cons_of_mem _ miMo_copy.1) (List.mem_cons_of_mem _ miMo_copy.2) (by decide +kernel) (by decide) rfl
  · exact sx_CalV (n := 3) (ci := 6) (fun As w Q h => h.2 l D E B A hB) (fun As w Q h => by obtain ⟨n0, tl, fs, e1, e2, e3⟩ := h.1; exact ⟨n0, tl, fs, e1, by omega, e3⟩) rfl rfl (wy_in mMo_multiply) rfl rfl rfl (List.mem_cons_of_mem _ mnMo_multiply) (List.mem_cons_of_mem _ lkMo_105) (List.mem_cons_of_mem _ miMo_multiply.1) (List.mem_cons_of_mem _ miMo_multiply.2) (by decide +kernel) (by decide) rfl
  · exact sx_CalV (n := 2) (ci := 6) (fun As w Q h => h.2 l D E B A hB) (fun As w Q h => by obtain ⟨n0, tl, fs, e1, e2, e3⟩ := h.1; exact ⟨n0, tl, fs, e1, by omega, e3⟩) rfl rfl (wy_in mMo_copy) rfl rfl rfl (List.mem_cons_of_mem _ mnMo_copy) (List.mem_cons_of_mem _ lkMo_101) (List.mem_cons_of_mem _ miMo_copy.1) (List.mem_cons_of_mem _ miMo_copy.2) (by decide +kernel) (by decide) rfl
  · exact sx_CalV (n := 2) (ci := 6) (fun As w Q h => h.2 l D E B A hB) (fun As w Q h => by obtain ⟨n0, tl, fs, e1, e2, e3⟩ := h.1; exact ⟨n0, tl, fs, e1, by omega, e3⟩) rfl rfl (wy_in mMo_copy) rfl rfl rfl (List.mem_cons_of_mem _ mnMo_copy) (List.mem_cons_of_mem _ lkMo_101) (List.mem_cons_of_mem _ miMo_copy.1) (List.mem_cons_of_mem _ miMo_copy.2) (by decide +kernel) (by decide) rfl
  · exact sx_CalV (n := 3) (ci := 6) (fun As w Q h => h.2 l D E B A hB) (fun As w Q h => by obtain ⟨n0, tl, fs, e1, e2, e3⟩ := h.1; exact ⟨n0, tl, fs, e1, by omega, e3⟩) rfl rfl (wy_in mMo_multiply) rfl rfl rfl (List.mem_cons_of_mem _ mnMo_multiply) (List.mem_cons_of_mem _ lkMo_105) (List.mem_cons_of_mem _ miMo_multiply.1) (List.mem_cons_of_mem _ miMo_multiply.2) (by decide +kernel) (by decide) rfl
  · exact sx_CalV (n := 2) (ci := 6) (fun As w Q h => h.2 l D E B A hB) (fun As w Q h => by obtain ⟨n0, tl, fs, e1, e2, e3⟩ := h.1; exact ⟨n0, tl, fs, e1, by omega, e3⟩) rfl rfl (wy_in mMo_copy) rfl rfl rfl (List.mem_cons_of_mem _ mnMo_copy) (List.mem_cons_of_mem _ lkMo_101) (List.mem_cons_of_mem _ miMo_copy.1) (List.mem_cons_of_mem _ miMo_copy.2) (by decide +kernel) (by decide) rfl
theorem hMo_ratio (l : Launch) (D : va_G) (E : sx_E) (B : Nat) (A : Nat → Prop) (hB : 11 ≤ B) : ∀ (pc : Nat) (i : Instr × Nat × Nat), sx_tab lMo_ratio pc = some i → sx_isC i.1 = true → sx_Cal l yMo_ratio.cls (wy yMo_ratio prog_9_method_23_code 7 (some .int)) wn ({ frames := 2, cells := 0, slots := 0, locals := 46 }) D kinds A E B 7 prog_9_method_23_code i.1 (csAll i.2.1) := by
  intro pc i hF hi
  have h2 : (pc, i) ∈ lMo_ratio.filter (fun q => sx_isC q.2.1) := List.mem_filter.mpr ⟨sx_tab_mem hF, hi⟩
  have h3 : lMo_ratio.filter (fun q => sx_isC q.2.1) = [(40, .invokevirtual 105, 41, 0), (87, .invokevirtual 109, 40, 0)] := rfl
  rw [h3] at h2
  simp only [List.mem_cons, List.not_mem_nil, or_false, Prod.mk.injEq] at h2
  rcases h2 with ⟨rfl, rfl⟩ | ⟨rfl, rfl⟩
  · exact sx_CalV (n := 3) (ci := 6) (fun As w Q h => h.2 l D E B A hB) (fun As w Q h => by obtain ⟨n0, tl, fs, e1, e2, e3⟩ := h.1; exact ⟨n0, tl, fs, e1, by omega, e3⟩) rfl rfl (wy_in mMo_multiply) rfl rfl rfl (List.mem_cons_of_mem _ mnMo_multiply) (List.mem_cons_of_mem _ lkMo_105) (List.mem_cons_of_mem _ miMo_multiply.1) (List.mem_cons_of_mem _ miMo_multiply.2) (by decide +kernel) (by decide) rfl
  · exact sx_CalV (n := 2) (ci := 6) (fun As w Q h => h.2 l D E B A hB) (fun As w Q h => by obtain ⟨n0, tl, fs, e1, e2, e3⟩ := h.1; exact ⟨n0, tl, fs, e1, by omega, e3⟩) rfl rfl (wy_in mMo_over) rfl rfl rfl (List.mem_cons_of_mem _ mnMo_over) (List.mem_cons_of_mem _ lkMo_109) (List.mem_cons_of_mem _ miMo_over.1) (List.mem_cons_of_mem _ miMo_over.2) (by decide +kernel) (by decide) rfl
theorem hMo_split (l : Launch) (D : va_G) (E : sx_E) (B : Nat) (A : Nat → Prop) (hB : 11 ≤ B) : ∀ (pc : Nat) (i : Instr × Nat × Nat), sx_tab lMo_split pc = some i → sx_isC i.1 = true → sx_Cal l yMo_split.cls (wy yMo_split prog_9_method_24_code 7 none) wn ({ frames := 3, cells := 0, slots := 0, locals := 72 }) D kinds A E B 7 prog_9_method_24_code i.1 (csAll i.2.1) := by
  intro pc i hF hi
  have h2 : (pc, i) ∈ lMo_split.filter (fun q => sx_isC q.2.1) := List.mem_filter.mpr ⟨sx_tab_mem hF, hi⟩
  have h3 : lMo_split.filter (fun q => sx_isC q.2.1) = [(3, .invokevirtual 112, 44, 0), (73, .invokevirtual 95, 38, 0), (84, .invokevirtual 115, 43, 0), (207, .invokevirtual 95, 38, 0), (230, .invokevirtual 101, 42, 0), (252, .invokevirtual 101, 42, 0)] := rfl
  rw [h3] at h2
  simp only [List.mem_cons, List.not_mem_nil, or_false, Prod.mk.injEq] at h2
  rcases h2 with ⟨rfl, rfl⟩ | ⟨rfl, rfl⟩ | ⟨rfl, rfl⟩ | ⟨rfl, rfl⟩ | ⟨rfl, rfl⟩ | ⟨rfl, rfl⟩
  · exact sx_CalV (n := 2) (ci := 6) (fun As w Q h => h.2 l D E B A hB) (fun As w Q h => by obtain ⟨n0, tl, fs, e1, e2, e3⟩ := h.1; exact ⟨n0, tl, fs, e1, by omega, e3⟩) rfl rfl (wy_in mMo_ratio) rfl rfl rfl (List.mem_cons_of_mem _ mnMo_ratio) (List.mem_cons_of_mem _ lkMo_112) (List.mem_cons_of_mem _ miMo_ratio.1) (List.mem_cons_of_mem _ miMo_ratio.2) (by decide +kernel) (by decide) rfl
  · exact sx_CalV (n := 1) (ci := 6) (fun As w Q h => h.2 l D E B A hB) (fun As w Q h => by obtain ⟨n0, tl, fs, e1, e2, e3⟩ := h.1; exact ⟨n0, tl, fs, e1, by omega, e3⟩) rfl rfl (wy_in mMo_mod) rfl rfl rfl (List.mem_cons_of_mem _ mnMo_mod) (List.mem_cons_of_mem _ lkMo_95) (List.mem_cons_of_mem _ miMo_mod.1) (List.mem_cons_of_mem _ miMo_mod.2) (by decide +kernel) (by decide) rfl
  · exact sx_CalV (n := 0) (ci := 6) (fun As w Q h => h.2 l D E B A hB) (fun As w Q h => by obtain ⟨n0, tl, fs, e1, e2, e3⟩ := h.1; exact ⟨n0, tl, fs, e1, by omega, e3⟩) rfl rfl (wy_in mMo_fermat) rfl rfl rfl (List.mem_cons_of_mem _ mnMo_fermat) (List.mem_cons_of_mem _ lkMo_115) (List.mem_cons_of_mem _ miMo_fermat.1) (List.mem_cons_of_mem _ miMo_fermat.2) (by decide +kernel) (by decide) rfl
  · exact sx_CalV (n := 1) (ci := 6) (fun As w Q h => h.2 l D E B A hB) (fun As w Q h => by obtain ⟨n0, tl, fs, e1, e2, e3⟩ := h.1; exact ⟨n0, tl, fs, e1, by omega, e3⟩) rfl rfl (wy_in mMo_mod) rfl rfl rfl (List.mem_cons_of_mem _ mnMo_mod) (List.mem_cons_of_mem _ lkMo_95) (List.mem_cons_of_mem _ miMo_mod.1) (List.mem_cons_of_mem _ miMo_mod.2) (by decide +kernel) (by decide) rfl
  · exact sx_CalV (n := 2) (ci := 6) (fun As w Q h => h.2 l D E B A hB) (fun As w Q h => by obtain ⟨n0, tl, fs, e1, e2, e3⟩ := h.1; exact ⟨n0, tl, fs, e1, by omega, e3⟩) rfl rfl (wy_in mMo_copy) rfl rfl rfl (List.mem_cons_of_mem _ mnMo_copy) (List.mem_cons_of_mem _ lkMo_101) (List.mem_cons_of_mem _ miMo_copy.1) (List.mem_cons_of_mem _ miMo_copy.2) (by decide +kernel) (by decide) rfl
  · exact sx_CalV (n := 2) (ci := 6) (fun As w Q h => h.2 l D E B A hB) (fun As w Q h => by obtain ⟨n0, tl, fs, e1, e2, e3⟩ := h.1; exact ⟨n0, tl, fs, e1, by omega, e3⟩) rfl rfl (wy_in mMo_copy) rfl rfl rfl (List.mem_cons_of_mem _ mnMo_copy) (List.mem_cons_of_mem _ lkMo_101) (List.mem_cons_of_mem _ miMo_copy.1) (List.mem_cons_of_mem _ miMo_copy.2) (by decide +kernel) (by decide) rfl
theorem hMo_takeApart (l : Launch) (D : va_G) (E : sx_E) (B : Nat) (A : Nat → Prop) (hB : 11 ≤ B) : ∀ (pc : Nat) (i : Instr × Nat × Nat), sx_tab lMo_takeApart pc = some i → sx_isC i.1 = true → sx_Cal l yMo_takeApart.cls (wy yMo_takeApart prog_9_method_25_code 4 none) wn ({ frames := 4, cells := 0, slots := 0, locals := 98 }) D kinds A E B 4 prog_9_method_25_code i.1 (csAll i.2.1) := by
  intro pc i hF hi
  have h2 : (pc, i) ∈ lMo_takeApart.filter (fun q => sx_isC q.2.1) := List.mem_filter.mpr ⟨sx_tab_mem hF, hi⟩
  have h3 : lMo_takeApart.filter (fun q => sx_isC q.2.1) = [(59, .invokevirtual 121, 45, 0)] := rfl
  rw [h3] at h2
  simp only [List.mem_cons, List.not_mem_nil, or_false, Prod.mk.injEq] at h2
  rcases h2 with ⟨rfl, rfl⟩
  · exact sx_CalV (n := 2) (ci := 6) (fun As w Q h => h.2 l D E B A hB) (fun As w Q h => by obtain ⟨n0, tl, fs, e1, e2, e3⟩ := h.1; exact ⟨n0, tl, fs, e1, by omega, e3⟩) rfl rfl (wy_in mMo_split) rfl rfl rfl (List.mem_cons_of_mem _ mnMo_split) (List.mem_cons_of_mem _ lkMo_121) (List.mem_cons_of_mem _ miMo_split.1) (List.mem_cons_of_mem _ miMo_split.2) (by decide +kernel) (by decide) rfl
theorem hMo_inverseOf (l : Launch) (D : va_G) (E : sx_E) (B : Nat) (A : Nat → Prop) (hB : 11 ≤ B) : ∀ (pc : Nat) (i : Instr × Nat × Nat), sx_tab lMo_inverseOf pc = some i → sx_isC i.1 = true → sx_Cal l yMo_inverseOf.cls (wy yMo_inverseOf prog_9_method_26_code 3 (some .int)) wn ({ frames := 2, cells := 0, slots := 0, locals := 44 }) D kinds A E B 3 prog_9_method_26_code i.1 (csAll i.2.1) := by
  intro pc i hF hi
  have h2 : (pc, i) ∈ lMo_inverseOf.filter (fun q => sx_isC q.2.1) := List.mem_filter.mpr ⟨sx_tab_mem hF, hi⟩
  have h3 : lMo_inverseOf.filter (fun q => sx_isC q.2.1) = [(6, .invokestatic 71, 25, 0), (16, .invokevirtual 64, 29, 0)] := rfl
  rw [h3] at h2
  simp only [List.mem_cons, List.not_mem_nil, or_false, Prod.mk.injEq] at h2
  rcases h2 with ⟨rfl, rfl⟩ | ⟨rfl, rfl⟩
  · exact sx_CalS (n := 1) (fun As w Q h => h l D E B A hB) (wy_in mMo_inverted) rfl rfl rfl (List.mem_cons_of_mem _ mnMo_inverted) (List.mem_cons_of_mem _ lkMo_71) (List.mem_cons_of_mem _ msMo_inverted) (by decide +kernel) (by decide) rfl
  · exact sx_CalV (n := 1) (ci := 6) (fun As w Q h => h.2 l D E B A hB) (fun As w Q h => by obtain ⟨n0, tl, fs, e1, e2, e3⟩ := h.1; exact ⟨n0, tl, fs, e1, by omega, e3⟩) rfl rfl (wy_in mMo_find) rfl rfl rfl (List.mem_cons_of_mem _ mnMo_find) (List.mem_cons_of_mem _ lkMo_64) (List.mem_cons_of_mem _ miMo_find.1) (List.mem_cons_of_mem _ miMo_find.2) (by decide +kernel) (by decide) rfl
theorem hMo_makeRow (l : Launch) (D : va_G) (E : sx_E) (B : Nat) (A : Nat → Prop) (hB : 11 ≤ B) : ∀ (pc : Nat) (i : Instr × Nat × Nat), sx_tab lMo_makeRow pc = some i → sx_isC i.1 = true → sx_Cal l yMo_makeRow.cls (wy yMo_makeRow prog_9_method_27_code 6 none) wn ({ frames := 3, cells := 0, slots := 0, locals := 72 }) D kinds A E B 6 prog_9_method_27_code i.1 (csAll i.2.1) := by
  intro pc i hF hi
  have h2 : (pc, i) ∈ lMo_makeRow.filter (fun q => sx_isC q.2.1) := List.mem_filter.mpr ⟨sx_tab_mem hF, hi⟩
  have h3 : lMo_makeRow.filter (fun q => sx_isC q.2.1) = [(24, .invokevirtual 112, 44, 0), (63, .invokevirtual 124, 47, 0), (86, .invokevirtual 109, 40, 0), (205, .invokevirtual 109, 40, 0)] := rfl
  rw [h3] at h2
  simp only [List.mem_cons, List.not_mem_nil, or_false, Prod.mk.injEq] at h2
  rcases h2 with ⟨rfl, rfl⟩ | ⟨rfl, rfl⟩ | ⟨rfl, rfl⟩ | ⟨rfl, rfl⟩
  · exact sx_CalV (n := 2) (ci := 6) (fun As w Q h => h.2 l D E B A hB) (fun As w Q h => by obtain ⟨n0, tl, fs, e1, e2, e3⟩ := h.1; exact ⟨n0, tl, fs, e1, by omega, e3⟩) rfl rfl (wy_in mMo_ratio) rfl rfl rfl (List.mem_cons_of_mem _ mnMo_ratio) (List.mem_cons_of_mem _ lkMo_112) (List.mem_cons_of_mem _ miMo_ratio.1) (List.mem_cons_of_mem _ miMo_ratio.2) (by decide +kernel) (by decide) rfl
  · exact sx_CalV (n := 1) (ci := 6) (fun As w Q h => h.2 l D E B A hB) (fun As w Q h => by obtain ⟨n0, tl, fs, e1, e2, e3⟩ := h.1; exact ⟨n0, tl, fs, e1, by omega, e3⟩) rfl rfl (wy_in mMo_inverseOf) rfl rfl rfl (List.mem_cons_of_mem _ mnMo_inverseOf) (List.mem_cons_of_mem _ lkMo_124) (List.mem_cons_of_mem _ miMo_inverseOf.1) (List.mem_cons_of_mem _ miMo_inverseOf.2) (by decide +kernel) (by decide) rfl
  · exact sx_CalV (n := 2) (ci := 6) (fun As w Q h => h.2 l D E B A hB) (fun As w Q h => by obtain ⟨n0, tl, fs, e1, e2, e3⟩ := h.1; exact ⟨n0, tl, fs, e1, by omega, e3⟩) rfl rfl (wy_in mMo_over) rfl rfl rfl (List.mem_cons_of_mem _ mnMo_over) (List.mem_cons_of_mem _ lkMo_109) (List.mem_cons_of_mem _ miMo_over.1) (List.mem_cons_of_mem _ miMo_over.2) (by decide +kernel) (by decide) rfl
  · exact sx_CalV (n := 2) (ci := 6) (fun As w Q h => h.2 l D E B A hB) (fun As w Q h => by obtain ⟨n0, tl, fs, e1, e2, e3⟩ := h.1; exact ⟨n0, tl, fs, e1, by omega, e3⟩) rfl rfl (wy_in mMo_over) rfl rfl rfl (List.mem_cons_of_mem _ mnMo_over) (List.mem_cons_of_mem _ lkMo_109) (List.mem_cons_of_mem _ miMo_over.1) (List.mem_cons_of_mem _ miMo_over.2) (by decide +kernel) (by decide) rfl
theorem hMo_build (l : Launch) (D : va_G) (E : sx_E) (B : Nat) (A : Nat → Prop) (hB : 11 ≤ B) : ∀ (pc : Nat) (i : Instr × Nat × Nat), sx_tab lMo_build pc = some i → sx_isC i.1 = true → sx_Cal l yMo_build.cls (wy yMo_build prog_9_method_30_code 3 (some .int)) wn ({ frames := 5, cells := 0, slots := 0, locals := 121 }) D kinds A E B 3 prog_9_method_30_code i.1 (csAll i.2.1) := by
  intro pc i hF hi
  have h2 : (pc, i) ∈ lMo_build.filter (fun q => sx_isC q.2.1) := List.mem_filter.mpr ⟨sx_tab_mem hF, hi⟩
  have h3 : lMo_build.filter (fun q => sx_isC q.2.1) = [(6, .invokevirtual 127, 30, 0), (15, .invokevirtual 131, 31, 0), (24, .invokevirtual 134, 32, 0), (28, .invokevirtual 137, 36, 0), (32, .invokevirtual 140, 46, 0), (47, .invokevirtual 143, 48, 0), (81, .invokevirtual 147, 49, 0), (90, .invokevirtual 151, 50, 0)] := rfl
  rw [h3] at h2
  simp only [List.mem_cons, List.not_mem_nil, or_false, Prod.mk.injEq] at h2
  rcases h2 with ⟨rfl, rfl⟩ | ⟨rfl, rfl⟩ | ⟨rfl, rfl⟩ | ⟨rfl, rfl⟩ | ⟨rfl, rfl⟩ | ⟨rfl, rfl⟩ | ⟨rfl, rfl⟩ | ⟨rfl, rfl⟩
  · exact sx_CalV (n := 0) (ci := 6) (fun As w Q h => h.2 l D E B A hB) (fun As w Q h => by obtain ⟨n0, tl, fs, e1, e2, e3⟩ := h.1; exact ⟨n0, tl, fs, e1, by omega, e3⟩) rfl rfl (wy_in mMo_close) rfl rfl rfl (List.mem_cons_of_mem _ mnMo_close) (List.mem_cons_of_mem _ lkMo_127) (List.mem_cons_of_mem _ miMo_close.1) (List.mem_cons_of_mem _ miMo_close.2) (by decide +kernel) (by decide) rfl
  · exact sx_CalV (n := 0) (ci := 6) (fun As w Q h => h.2 l D E B A hB) (fun As w Q h => by obtain ⟨n0, tl, fs, e1, e2, e3⟩ := h.1; exact ⟨n0, tl, fs, e1, by omega, e3⟩) rfl rfl (wy_in mMo_classify) rfl rfl rfl (List.mem_cons_of_mem _ mnMo_classify) (List.mem_cons_of_mem _ lkMo_131) (List.mem_cons_of_mem _ miMo_classify.1) (List.mem_cons_of_mem _ miMo_classify.2) (by decide +kernel) (by decide) rfl
  · exact sx_CalV (n := 0) (ci := 6) (fun As w Q h => h.2 l D E B A hB) (fun As w Q h => by obtain ⟨n0, tl, fs, e1, e2, e3⟩ := h.1; exact ⟨n0, tl, fs, e1, by omega, e3⟩) rfl rfl (wy_in mMo_count) rfl rfl rfl (List.mem_cons_of_mem _ mnMo_count) (List.mem_cons_of_mem _ lkMo_134) (List.mem_cons_of_mem _ miMo_count.1) (List.mem_cons_of_mem _ miMo_count.2) (by decide +kernel) (by decide) rfl
  · exact sx_CalV (n := 0) (ci := 6) (fun As w Q h => h.2 l D E B A hB) (fun As w Q h => by obtain ⟨n0, tl, fs, e1, e2, e3⟩ := h.1; exact ⟨n0, tl, fs, e1, by omega, e3⟩) rfl rfl (wy_in mMo_numbers) rfl rfl rfl (List.mem_cons_of_mem _ mnMo_numbers) (List.mem_cons_of_mem _ lkMo_137) (List.mem_cons_of_mem _ miMo_numbers.1) (List.mem_cons_of_mem _ miMo_numbers.2) (by decide +kernel) (by decide) rfl
  · exact sx_CalV (n := 0) (ci := 6) (fun As w Q h => h.2 l D E B A hB) (fun As w Q h => by obtain ⟨n0, tl, fs, e1, e2, e3⟩ := h.1; exact ⟨n0, tl, fs, e1, by omega, e3⟩) rfl rfl (wy_in mMo_takeApart) rfl rfl rfl (List.mem_cons_of_mem _ mnMo_takeApart) (List.mem_cons_of_mem _ lkMo_140) (List.mem_cons_of_mem _ miMo_takeApart.1) (List.mem_cons_of_mem _ miMo_takeApart.2) (by decide +kernel) (by decide) rfl
  · exact sx_CalV (n := 1) (ci := 6) (fun As w Q h => h.2 l D E B A hB) (fun As w Q h => by obtain ⟨n0, tl, fs, e1, e2, e3⟩ := h.1; exact ⟨n0, tl, fs, e1, by omega, e3⟩) rfl rfl (wy_in mMo_makeRow) rfl rfl rfl (List.mem_cons_of_mem _ mnMo_makeRow) (List.mem_cons_of_mem _ lkMo_143) (List.mem_cons_of_mem _ miMo_makeRow.1) (List.mem_cons_of_mem _ miMo_makeRow.2) (by decide +kernel) (by decide) rfl
  · exact sx_CalV (n := 2) (ci := 6) (fun As w Q h => h.2 l D E B A hB) (fun As w Q h => by obtain ⟨n0, tl, fs, e1, e2, e3⟩ := h.1; exact ⟨n0, tl, fs, e1, by omega, e3⟩) rfl rfl (wy_in mMo_comesBefore) rfl rfl rfl (List.mem_cons_of_mem _ mnMo_comesBefore) (List.mem_cons_of_mem _ lkMo_147) (List.mem_cons_of_mem _ miMo_comesBefore.1) (List.mem_cons_of_mem _ miMo_comesBefore.2) (by decide +kernel) (by decide) rfl
  · exact sx_CalV (n := 2) (ci := 6) (fun As w Q h => h.2 l D E B A hB) (fun As w Q h => by obtain ⟨n0, tl, fs, e1, e2, e3⟩ := h.1; exact ⟨n0, tl, fs, e1, by omega, e3⟩) rfl rfl (wy_in mMo_exchange) rfl rfl rfl (List.mem_cons_of_mem _ mnMo_exchange) (List.mem_cons_of_mem _ lkMo_151) (List.mem_cons_of_mem _ miMo_exchange.1) (List.mem_cons_of_mem _ miMo_exchange.2) (by decide +kernel) (by decide) rfl
theorem hMo_classOf (l : Launch) (D : va_G) (E : sx_E) (B : Nat) (A : Nat → Prop) (hB : 11 ≤ B) : ∀ (pc : Nat) (i : Instr × Nat × Nat), sx_tab lMo_classOf pc = some i → sx_isC i.1 = true → sx_Cal l yMo_classOf.cls (wy yMo_classOf prog_9_method_34_code 3 (some .int)) wn ({ frames := 1, cells := 0, slots := 0, locals := 22 }) D kinds A E B 3 prog_9_method_34_code i.1 (csAll i.2.1) := by
  intro pc i hF hi
  have h2 : (pc, i) ∈ lMo_classOf.filter (fun q => sx_isC q.2.1) := List.mem_filter.mpr ⟨sx_tab_mem hF, hi⟩
  have h3 : lMo_classOf.filter (fun q => sx_isC q.2.1) = [(9, .invokevirtual 64, 29, 0)] := rfl
  rw [h3] at h2
  simp only [List.mem_cons, List.not_mem_nil, or_false, Prod.mk.injEq] at h2
  rcases h2 with ⟨rfl, rfl⟩
  · exact sx_CalV (n := 1) (ci := 6) (fun As w Q h => h.2 l D E B A hB) (fun As w Q h => by obtain ⟨n0, tl, fs, e1, e2, e3⟩ := h.1; exact ⟨n0, tl, fs, e1, by omega, e3⟩) rfl rfl (wy_in mMo_find) rfl rfl rfl (List.mem_cons_of_mem _ mnMo_find) (List.mem_cons_of_mem _ lkMo_64) (List.mem_cons_of_mem _ miMo_find.1) (List.mem_cons_of_mem _ miMo_find.2) (by decide +kernel) (by decide) rfl
theorem hMo_size (l : Launch) (D : va_G) (E : sx_E) (B : Nat) (A : Nat → Prop) (hB : 11 ≤ B) : ∀ (pc : Nat) (i : Instr × Nat × Nat), sx_tab lMo_size pc = some i → sx_isC i.1 = true → sx_Cal l yMo_size.cls (wy yMo_size prog_9_method_36_code 2 (some .int)) wn ({ frames := 1, cells := 0, slots := 0, locals := 21 }) D kinds A E B 2 prog_9_method_36_code i.1 (csAll i.2.1) := by
  intro pc i hF hi
  have h2 : (pc, i) ∈ lMo_size.filter (fun q => sx_isC q.2.1) := List.mem_filter.mpr ⟨sx_tab_mem hF, hi⟩
  have h3 : lMo_size.filter (fun q => sx_isC q.2.1) = [(2, .invokevirtual 154, 52, 0)] := rfl
  rw [h3] at h2
  simp only [List.mem_cons, List.not_mem_nil, or_false, Prod.mk.injEq] at h2
  rcases h2 with ⟨rfl, rfl⟩
  · exact sx_CalV (n := 1) (ci := 6) (fun As w Q h => h.2 l D E B A hB) (fun As w Q h => by obtain ⟨n0, tl, fs, e1, e2, e3⟩ := h.1; exact ⟨n0, tl, fs, e1, by omega, e3⟩) rfl rfl (wy_in mMo_isClass) rfl rfl rfl (List.mem_cons_of_mem _ mnMo_isClass) (List.mem_cons_of_mem _ lkMo_154) (List.mem_cons_of_mem _ miMo_isClass.1) (List.mem_cons_of_mem _ miMo_isClass.2) (by decide +kernel) (by decide) rfl
theorem hMo_least (l : Launch) (D : va_G) (E : sx_E) (B : Nat) (A : Nat → Prop) (hB : 11 ≤ B) : ∀ (pc : Nat) (i : Instr × Nat × Nat), sx_tab lMo_least pc = some i → sx_isC i.1 = true → sx_Cal l yMo_least.cls (wy yMo_least prog_9_method_37_code 2 (some .int)) wn ({ frames := 1, cells := 0, slots := 0, locals := 21 }) D kinds A E B 2 prog_9_method_37_code i.1 (csAll i.2.1) := by
  intro pc i hF hi
  have h2 : (pc, i) ∈ lMo_least.filter (fun q => sx_isC q.2.1) := List.mem_filter.mpr ⟨sx_tab_mem hF, hi⟩
  have h3 : lMo_least.filter (fun q => sx_isC q.2.1) = [(2, .invokevirtual 154, 52, 0)] := rfl
  rw [h3] at h2
  simp only [List.mem_cons, List.not_mem_nil, or_false, Prod.mk.injEq] at h2
  rcases h2 with ⟨rfl, rfl⟩
  · exact sx_CalV (n := 1) (ci := 6) (fun As w Q h => h.2 l D E B A hB) (fun As w Q h => by obtain ⟨n0, tl, fs, e1, e2, e3⟩ := h.1; exact ⟨n0, tl, fs, e1, by omega, e3⟩) rfl rfl (wy_in mMo_isClass) rfl rfl rfl (List.mem_cons_of_mem _ mnMo_isClass) (List.mem_cons_of_mem _ lkMo_154) (List.mem_cons_of_mem _ miMo_isClass.1) (List.mem_cons_of_mem _ miMo_isClass.2) (by decide +kernel) (by decide) rfl
theorem hMo_power (l : Launch) (D : va_G) (E : sx_E) (B : Nat) (A : Nat → Prop) (hB : 11 ≤ B) : ∀ (pc : Nat) (i : Instr × Nat × Nat), sx_tab lMo_power pc = some i → sx_isC i.1 = true → sx_Cal l yMo_power.cls (wy yMo_power prog_9_method_38_code 4 (some .int)) wn ({ frames := 3, cells := 0, slots := 0, locals := 69 }) D kinds A E B 4 prog_9_method_38_code i.1 (csAll i.2.1) := by
  intro pc i hF hi
  have h2 : (pc, i) ∈ lMo_power.filter (fun q => sx_isC q.2.1) := List.mem_filter.mpr ⟨sx_tab_mem hF, hi⟩
  have h3 : lMo_power.filter (fun q => sx_isC q.2.1) = [(2, .invokevirtual 154, 52, 0), (29, .invokevirtual 74, 33, 0), (39, .invokevirtual 64, 29, 0)] := rfl
  rw [h3] at h2
  simp only [List.mem_cons, List.not_mem_nil, or_false, Prod.mk.injEq] at h2
  rcases h2 with ⟨rfl, rfl⟩ | ⟨rfl, rfl⟩ | ⟨rfl, rfl⟩
  · exact sx_CalV (n := 1) (ci := 6) (fun As w Q h => h.2 l D E B A hB) (fun As w Q h => by obtain ⟨n0, tl, fs, e1, e2, e3⟩ := h.1; exact ⟨n0, tl, fs, e1, by omega, e3⟩) rfl rfl (wy_in mMo_isClass) rfl rfl rfl (List.mem_cons_of_mem _ mnMo_isClass) (List.mem_cons_of_mem _ lkMo_154) (List.mem_cons_of_mem _ miMo_isClass.1) (List.mem_cons_of_mem _ miMo_isClass.2) (by decide +kernel) (by decide) rfl
  · exact sx_CalV (n := 2) (ci := 6) (fun As w Q h => h.2 l D E B A hB) (fun As w Q h => by obtain ⟨n0, tl, fs, e1, e2, e3⟩ := h.1; exact ⟨n0, tl, fs, e1, by omega, e3⟩) rfl rfl (wy_in mMo_powerOf) rfl rfl rfl (List.mem_cons_of_mem _ mnMo_powerOf) (List.mem_cons_of_mem _ lkMo_74) (List.mem_cons_of_mem _ miMo_powerOf.1) (List.mem_cons_of_mem _ miMo_powerOf.2) (by decide +kernel) (by decide) rfl
  · exact sx_CalV (n := 1) (ci := 6) (fun As w Q h => h.2 l D E B A hB) (fun As w Q h => by obtain ⟨n0, tl, fs, e1, e2, e3⟩ := h.1; exact ⟨n0, tl, fs, e1, by omega, e3⟩) rfl rfl (wy_in mMo_find) rfl rfl rfl (List.mem_cons_of_mem _ mnMo_find) (List.mem_cons_of_mem _ lkMo_64) (List.mem_cons_of_mem _ miMo_find.1) (List.mem_cons_of_mem _ miMo_find.2) (by decide +kernel) (by decide) rfl
theorem hMo_constant (l : Launch) (D : va_G) (E : sx_E) (B : Nat) (A : Nat → Prop) (hB : 11 ≤ B) : ∀ (pc : Nat) (i : Instr × Nat × Nat), sx_tab lMo_constant pc = some i → sx_isC i.1 = true → sx_Cal l yMo_constant.cls (wy yMo_constant prog_9_method_39_code 4 (some .int)) wn ({ frames := 1, cells := 0, slots := 0, locals := 21 }) D kinds A E B 4 prog_9_method_39_code i.1 (csAll i.2.1) := by
  intro pc i hF hi
  have h2 : (pc, i) ∈ lMo_constant.filter (fun q => sx_isC q.2.1) := List.mem_filter.mpr ⟨sx_tab_mem hF, hi⟩
  have h3 : lMo_constant.filter (fun q => sx_isC q.2.1) = [(2, .invokevirtual 154, 52, 0), (10, .invokevirtual 154, 52, 0), (18, .invokevirtual 154, 52, 0)] := rfl
  rw [h3] at h2
  simp only [List.mem_cons, List.not_mem_nil, or_false, Prod.mk.injEq] at h2
  rcases h2 with ⟨rfl, rfl⟩ | ⟨rfl, rfl⟩ | ⟨rfl, rfl⟩
  · exact sx_CalV (n := 1) (ci := 6) (fun As w Q h => h.2 l D E B A hB) (fun As w Q h => by obtain ⟨n0, tl, fs, e1, e2, e3⟩ := h.1; exact ⟨n0, tl, fs, e1, by omega, e3⟩) rfl rfl (wy_in mMo_isClass) rfl rfl rfl (List.mem_cons_of_mem _ mnMo_isClass) (List.mem_cons_of_mem _ lkMo_154) (List.mem_cons_of_mem _ miMo_isClass.1) (List.mem_cons_of_mem _ miMo_isClass.2) (by decide +kernel) (by decide) rfl
  · exact sx_CalV (n := 1) (ci := 6) (fun As w Q h => h.2 l D E B A hB) (fun As w Q h => by obtain ⟨n0, tl, fs, e1, e2, e3⟩ := h.1; exact ⟨n0, tl, fs, e1, by omega, e3⟩) rfl rfl (wy_in mMo_isClass) rfl rfl rfl (List.mem_cons_of_mem _ mnMo_isClass) (List.mem_cons_of_mem _ lkMo_154) (List.mem_cons_of_mem _ miMo_isClass.1) (List.mem_cons_of_mem _ miMo_isClass.2) (by decide +kernel) (by decide) rfl
  · exact sx_CalV (n := 1) (ci := 6) (fun As w Q h => h.2 l D E B A hB) (fun As w Q h => by obtain ⟨n0, tl, fs, e1, e2, e3⟩ := h.1; exact ⟨n0, tl, fs, e1, by omega, e3⟩) rfl rfl (wy_in mMo_isClass) rfl rfl rfl (List.mem_cons_of_mem _ mnMo_isClass) (List.mem_cons_of_mem _ lkMo_154) (List.mem_cons_of_mem _ miMo_isClass.1) (List.mem_cons_of_mem _ miMo_isClass.2) (by decide +kernel) (by decide) rfl
theorem hMo_degree (l : Launch) (D : va_G) (E : sx_E) (B : Nat) (A : Nat → Prop) (hB : 11 ≤ B) : ∀ (pc : Nat) (i : Instr × Nat × Nat), sx_tab lMo_degree pc = some i → sx_isC i.1 = true → sx_Cal l yMo_degree.cls (wy yMo_degree prog_9_method_43_code 2 (some .int)) wn ({ frames := 1, cells := 0, slots := 0, locals := 21 }) D kinds A E B 2 prog_9_method_43_code i.1 (csAll i.2.1) := by
  intro pc i hF hi
  have h2 : (pc, i) ∈ lMo_degree.filter (fun q => sx_isC q.2.1) := List.mem_filter.mpr ⟨sx_tab_mem hF, hi⟩
  have h3 : lMo_degree.filter (fun q => sx_isC q.2.1) = [(2, .invokevirtual 154, 52, 0)] := rfl
  rw [h3] at h2
  simp only [List.mem_cons, List.not_mem_nil, or_false, Prod.mk.injEq] at h2
  rcases h2 with ⟨rfl, rfl⟩
  · exact sx_CalV (n := 1) (ci := 6) (fun As w Q h => h.2 l D E B A hB) (fun As w Q h => by obtain ⟨n0, tl, fs, e1, e2, e3⟩ := h.1; exact ⟨n0, tl, fs, e1, by omega, e3⟩) rfl rfl (wy_in mMo_isClass) rfl rfl rfl (List.mem_cons_of_mem _ mnMo_isClass) (List.mem_cons_of_mem _ lkMo_154) (List.mem_cons_of_mem _ miMo_isClass.1) (List.mem_cons_of_mem _ miMo_isClass.2) (by decide +kernel) (by decide) rfl
theorem hMo_value (l : Launch) (D : va_G) (E : sx_E) (B : Nat) (A : Nat → Prop) (hB : 11 ≤ B) : ∀ (pc : Nat) (i : Instr × Nat × Nat), sx_tab lMo_value pc = some i → sx_isC i.1 = true → sx_Cal l yMo_value.cls (wy yMo_value prog_9_method_44_code 3 (some .int)) wn ({ frames := 1, cells := 0, slots := 0, locals := 21 }) D kinds A E B 3 prog_9_method_44_code i.1 (csAll i.2.1) := by
  intro pc i hF hi
  have h2 : (pc, i) ∈ lMo_value.filter (fun q => sx_isC q.2.1) := List.mem_filter.mpr ⟨sx_tab_mem hF, hi⟩
  have h3 : lMo_value.filter (fun q => sx_isC q.2.1) = [(2, .invokevirtual 154, 52, 0), (10, .invokevirtual 154, 52, 0)] := rfl
  rw [h3] at h2
  simp only [List.mem_cons, List.not_mem_nil, or_false, Prod.mk.injEq] at h2
  rcases h2 with ⟨rfl, rfl⟩ | ⟨rfl, rfl⟩
  · exact sx_CalV (n := 1) (ci := 6) (fun As w Q h => h.2 l D E B A hB) (fun As w Q h => by obtain ⟨n0, tl, fs, e1, e2, e3⟩ := h.1; exact ⟨n0, tl, fs, e1, by omega, e3⟩) rfl rfl (wy_in mMo_isClass) rfl rfl rfl (List.mem_cons_of_mem _ mnMo_isClass) (List.mem_cons_of_mem _ lkMo_154) (List.mem_cons_of_mem _ miMo_isClass.1) (List.mem_cons_of_mem _ miMo_isClass.2) (by decide +kernel) (by decide) rfl
  · exact sx_CalV (n := 1) (ci := 6) (fun As w Q h => h.2 l D E B A hB) (fun As w Q h => by obtain ⟨n0, tl, fs, e1, e2, e3⟩ := h.1; exact ⟨n0, tl, fs, e1, by omega, e3⟩) rfl rfl (wy_in mMo_isClass) rfl rfl rfl (List.mem_cons_of_mem _ mnMo_isClass) (List.mem_cons_of_mem _ lkMo_154) (List.mem_cons_of_mem _ miMo_isClass.1) (List.mem_cons_of_mem _ miMo_isClass.2) (by decide +kernel) (by decide) rfl
theorem hMo_multiplicity (l : Launch) (D : va_G) (E : sx_E) (B : Nat) (A : Nat → Prop) (hB : 11 ≤ B) : ∀ (pc : Nat) (i : Instr × Nat × Nat), sx_tab lMo_multiplicity pc = some i → sx_isC i.1 = true → sx_Cal l yMo_multiplicity.cls (wy yMo_multiplicity prog_9_method_45_code 9 (some .int)) wn ({ frames := 2, cells := 0, slots := 0, locals := 46 }) D kinds A E B 9 prog_9_method_45_code i.1 (csAll i.2.1) := by
  intro pc i hF hi
  have h2 : (pc, i) ∈ lMo_multiplicity.filter (fun q => sx_isC q.2.1) := List.mem_filter.mpr ⟨sx_tab_mem hF, hi⟩
  have h3 : lMo_multiplicity.filter (fun q => sx_isC q.2.1) = [(2, .invokevirtual 154, 52, 0), (10, .invokevirtual 154, 52, 0), (38, .invokevirtual 98, 39, 0), (41, .invokevirtual 109, 40, 0), (85, .invokevirtual 64, 29, 0), (122, .invokestatic 61, 24, 0), (140, .invokevirtual 109, 40, 0)] := rfl
  rw [h3] at h2
  simp only [List.mem_cons, List.not_mem_nil, or_false, Prod.mk.injEq] at h2
  rcases h2 with ⟨rfl, rfl⟩ | ⟨rfl, rfl⟩ | ⟨rfl, rfl⟩ | ⟨rfl, rfl⟩ | ⟨rfl, rfl⟩ | ⟨rfl, rfl⟩ | ⟨rfl, rfl⟩
  · exact sx_CalV (n := 1) (ci := 6) (fun As w Q h => h.2 l D E B A hB) (fun As w Q h => by obtain ⟨n0, tl, fs, e1, e2, e3⟩ := h.1; exact ⟨n0, tl, fs, e1, by omega, e3⟩) rfl rfl (wy_in mMo_isClass) rfl rfl rfl (List.mem_cons_of_mem _ mnMo_isClass) (List.mem_cons_of_mem _ lkMo_154) (List.mem_cons_of_mem _ miMo_isClass.1) (List.mem_cons_of_mem _ miMo_isClass.2) (by decide +kernel) (by decide) rfl
  · exact sx_CalV (n := 1) (ci := 6) (fun As w Q h => h.2 l D E B A hB) (fun As w Q h => by obtain ⟨n0, tl, fs, e1, e2, e3⟩ := h.1; exact ⟨n0, tl, fs, e1, by omega, e3⟩) rfl rfl (wy_in mMo_isClass) rfl rfl rfl (List.mem_cons_of_mem _ mnMo_isClass) (List.mem_cons_of_mem _ lkMo_154) (List.mem_cons_of_mem _ miMo_isClass.1) (List.mem_cons_of_mem _ miMo_isClass.2) (by decide +kernel) (by decide) rfl
  · exact sx_CalV (n := 2) (ci := 6) (fun As w Q h => h.2 l D E B A hB) (fun As w Q h => by obtain ⟨n0, tl, fs, e1, e2, e3⟩ := h.1; exact ⟨n0, tl, fs, e1, by omega, e3⟩) rfl rfl (wy_in mMo_raised) rfl rfl rfl (List.mem_cons_of_mem _ mnMo_raised) (List.mem_cons_of_mem _ lkMo_98) (List.mem_cons_of_mem _ miMo_raised.1) (List.mem_cons_of_mem _ miMo_raised.2) (by decide +kernel) (by decide) rfl
  · exact sx_CalV (n := 2) (ci := 6) (fun As w Q h => h.2 l D E B A hB) (fun As w Q h => by obtain ⟨n0, tl, fs, e1, e2, e3⟩ := h.1; exact ⟨n0, tl, fs, e1, by omega, e3⟩) rfl rfl (wy_in mMo_over) rfl rfl rfl (List.mem_cons_of_mem _ mnMo_over) (List.mem_cons_of_mem _ lkMo_109) (List.mem_cons_of_mem _ miMo_over.1) (List.mem_cons_of_mem _ miMo_over.2) (by decide +kernel) (by decide) rfl
  · exact sx_CalV (n := 1) (ci := 6) (fun As w Q h => h.2 l D E B A hB) (fun As w Q h => by obtain ⟨n0, tl, fs, e1, e2, e3⟩ := h.1; exact ⟨n0, tl, fs, e1, by omega, e3⟩) rfl rfl (wy_in mMo_find) rfl rfl rfl (List.mem_cons_of_mem _ mnMo_find) (List.mem_cons_of_mem _ lkMo_64) (List.mem_cons_of_mem _ miMo_find.1) (List.mem_cons_of_mem _ miMo_find.2) (by decide +kernel) (by decide) rfl
  · exact sx_CalS (n := 2) (fun As w Q h => h l D E B A hB) (wy_in mMo_product) rfl rfl rfl (List.mem_cons_of_mem _ mnMo_product) (List.mem_cons_of_mem _ lkMo_61) (List.mem_cons_of_mem _ msMo_product) (by decide +kernel) (by decide) rfl
  · exact sx_CalV (n := 2) (ci := 6) (fun As w Q h => h.2 l D E B A hB) (fun As w Q h => by obtain ⟨n0, tl, fs, e1, e2, e3⟩ := h.1; exact ⟨n0, tl, fs, e1, by omega, e3⟩) rfl rfl (wy_in mMo_over) rfl rfl rfl (List.mem_cons_of_mem _ mnMo_over) (List.mem_cons_of_mem _ lkMo_109) (List.mem_cons_of_mem _ miMo_over.1) (List.mem_cons_of_mem _ miMo_over.2) (by decide +kernel) (by decide) rfl
theorem hMo_indicator (l : Launch) (D : va_G) (E : sx_E) (B : Nat) (A : Nat → Prop) (hB : 11 ≤ B) : ∀ (pc : Nat) (i : Instr × Nat × Nat), sx_tab lMo_indicator pc = some i → sx_isC i.1 = true → sx_Cal l yMo_indicator.cls (wy yMo_indicator prog_9_method_46_code 4 (some .int)) wn ({ frames := 4, cells := 0, slots := 0, locals := 92 }) D kinds A E B 4 prog_9_method_46_code i.1 (csAll i.2.1) := by
  intro pc i hF hi
  have h2 : (pc, i) ∈ lMo_indicator.filter (fun q => sx_isC q.2.1) := List.mem_filter.mpr ⟨sx_tab_mem hF, hi⟩
  have h3 : lMo_indicator.filter (fun q => sx_isC q.2.1) = [(2, .invokevirtual 154, 52, 0), (40, .invokevirtual 157, 59, 0), (65, .invokevirtual 109, 40, 0)] := rfl
  rw [h3] at h2
  simp only [List.mem_cons, List.not_mem_nil, or_false, Prod.mk.injEq] at h2
  rcases h2 with ⟨rfl, rfl⟩ | ⟨rfl, rfl⟩ | ⟨rfl, rfl⟩
  · exact sx_CalV (n := 1) (ci := 6) (fun As w Q h => h.2 l D E B A hB) (fun As w Q h => by obtain ⟨n0, tl, fs, e1, e2, e3⟩ := h.1; exact ⟨n0, tl, fs, e1, by omega, e3⟩) rfl rfl (wy_in mMo_isClass) rfl rfl rfl (List.mem_cons_of_mem _ mnMo_isClass) (List.mem_cons_of_mem _ lkMo_154) (List.mem_cons_of_mem _ miMo_isClass.1) (List.mem_cons_of_mem _ miMo_isClass.2) (by decide +kernel) (by decide) rfl
  · exact sx_CalV (n := 2) (ci := 6) (fun As w Q h => h.2 l D E B A hB) (fun As w Q h => by obtain ⟨n0, tl, fs, e1, e2, e3⟩ := h.1; exact ⟨n0, tl, fs, e1, by omega, e3⟩) rfl rfl (wy_in mMo_power) rfl rfl rfl (List.mem_cons_of_mem _ mnMo_power) (List.mem_cons_of_mem _ lkMo_157) (List.mem_cons_of_mem _ miMo_power.1) (List.mem_cons_of_mem _ miMo_power.2) (by decide +kernel) (by decide) rfl
  · exact sx_CalV (n := 2) (ci := 6) (fun As w Q h => h.2 l D E B A hB) (fun As w Q h => by obtain ⟨n0, tl, fs, e1, e2, e3⟩ := h.1; exact ⟨n0, tl, fs, e1, by omega, e3⟩) rfl rfl (wy_in mMo_over) rfl rfl rfl (List.mem_cons_of_mem _ mnMo_over) (List.mem_cons_of_mem _ lkMo_109) (List.mem_cons_of_mem _ miMo_over.1) (List.mem_cons_of_mem _ miMo_over.2) (by decide +kernel) (by decide) rfl
theorem hMo_kernel (l : Launch) (D : va_G) (E : sx_E) (B : Nat) (A : Nat → Prop) (hB : 11 ≤ B) : ∀ (pc : Nat) (i : Instr × Nat × Nat), sx_tab lMo_kernel pc = some i → sx_isC i.1 = true → sx_Cal l yMo_kernel.cls (wy yMo_kernel prog_9_method_47_code 4 (some .int)) wn ({ frames := 1, cells := 0, slots := 0, locals := 21 }) D kinds A E B 4 prog_9_method_47_code i.1 (csAll i.2.1) := by
  intro pc i hF hi
  have h2 : (pc, i) ∈ lMo_kernel.filter (fun q => sx_isC q.2.1) := List.mem_filter.mpr ⟨sx_tab_mem hF, hi⟩
  have h3 : lMo_kernel.filter (fun q => sx_isC q.2.1) = [(14, .invokevirtual 154, 52, 0)] := rfl
  rw [h3] at h2
  simp only [List.mem_cons, List.not_mem_nil, or_false, Prod.mk.injEq] at h2
  rcases h2 with ⟨rfl, rfl⟩
  · exact sx_CalV (n := 1) (ci := 6) (fun As w Q h => h.2 l D E B A hB) (fun As w Q h => by obtain ⟨n0, tl, fs, e1, e2, e3⟩ := h.1; exact ⟨n0, tl, fs, e1, by omega, e3⟩) rfl rfl (wy_in mMo_isClass) rfl rfl rfl (List.mem_cons_of_mem _ mnMo_isClass) (List.mem_cons_of_mem _ lkMo_154) (List.mem_cons_of_mem _ miMo_isClass.1) (List.mem_cons_of_mem _ miMo_isClass.2) (by decide +kernel) (by decide) rfl
theorem hMo_normals (l : Launch) (D : va_G) (E : sx_E) (B : Nat) (A : Nat → Prop) (hB : 11 ≤ B) : ∀ (pc : Nat) (i : Instr × Nat × Nat), sx_tab lMo_normals pc = some i → sx_isC i.1 = true → sx_Cal l yMo_normals.cls (wy yMo_normals prog_9_method_49_code 4 (some .int)) wn ({ frames := 2, cells := 0, slots := 0, locals := 44 }) D kinds A E B 4 prog_9_method_49_code i.1 (csAll i.2.1) := by
  intro pc i hF hi
  have h2 : (pc, i) ∈ lMo_normals.filter (fun q => sx_isC q.2.1) := List.mem_filter.mpr ⟨sx_tab_mem hF, hi⟩
  have h3 : lMo_normals.filter (fun q => sx_isC q.2.1) = [(24, .invokevirtual 160, 68, 0), (28, .invokevirtual 163, 69, 0), (81, .invokevirtual 163, 69, 0)] := rfl
  rw [h3] at h2
  simp only [List.mem_cons, List.not_mem_nil, or_false, Prod.mk.injEq] at h2
  rcases h2 with ⟨rfl, rfl⟩ | ⟨rfl, rfl⟩ | ⟨rfl, rfl⟩
  · exact sx_CalV (n := 1) (ci := 6) (fun As w Q h => h.2 l D E B A hB) (fun As w Q h => by obtain ⟨n0, tl, fs, e1, e2, e3⟩ := h.1; exact ⟨n0, tl, fs, e1, by omega, e3⟩) rfl rfl (wy_in mMo_kernel) rfl rfl rfl (List.mem_cons_of_mem _ mnMo_kernel) (List.mem_cons_of_mem _ lkMo_160) (List.mem_cons_of_mem _ miMo_kernel.1) (List.mem_cons_of_mem _ miMo_kernel.2) (by decide +kernel) (by decide) rfl
  · exact sx_CalV (n := 2) (ci := 6) (fun As w Q h => h.2 l D E B A hB) (fun As w Q h => by obtain ⟨n0, tl, fs, e1, e2, e3⟩ := h.1; exact ⟨n0, tl, fs, e1, by omega, e3⟩) rfl rfl (wy_in mMo_insert) rfl rfl rfl (List.mem_cons_of_mem _ mnMo_insert) (List.mem_cons_of_mem _ lkMo_163) (List.mem_cons_of_mem _ miMo_insert.1) (List.mem_cons_of_mem _ miMo_insert.2) (by decide +kernel) (by decide) rfl
  · exact sx_CalV (n := 2) (ci := 6) (fun As w Q h => h.2 l D E B A hB) (fun As w Q h => by obtain ⟨n0, tl, fs, e1, e2, e3⟩ := h.1; exact ⟨n0, tl, fs, e1, by omega, e3⟩) rfl rfl (wy_in mMo_insert) rfl rfl rfl (List.mem_cons_of_mem _ mnMo_insert) (List.mem_cons_of_mem _ lkMo_163) (List.mem_cons_of_mem _ miMo_insert.1) (List.mem_cons_of_mem _ miMo_insert.2) (by decide +kernel) (by decide) rfl
theorem hCm_find (l : Launch) (D : va_G) (E : sx_E) (B : Nat) (A : Nat → Prop) (hB : 29 ≤ B) : ∀ (pc : Nat) (i : Instr × Nat × Nat), sx_tab lCm_find pc = some i → sx_isC i.1 = true → sx_Cal l yCm_find.cls (wy yCm_find prog_2_method_2_code 5 none) wn ({ frames := 4, cells := 0, slots := 0, locals := 109 }) D kinds A E B 5 prog_2_method_2_code i.1 (csAll i.2.1) := by
  intro pc i hF hi
  have h2 : (pc, i) ∈ lCm_find.filter (fun q => sx_isC q.2.1) := List.mem_filter.mpr ⟨sx_tab_mem hF, hi⟩
  have h3 : lCm_find.filter (fun q => sx_isC q.2.1) = [(9, .invokevirtual 45, 72, 0), (54, .invokevirtual 48, 73, 0), (71, .invokevirtual 52, 74, 0), (85, .invokestatic 56, 118, 0), (101, .invokevirtual 62, 80, 0)] := rfl
  rw [h3] at h2
  simp only [List.mem_cons, List.not_mem_nil, or_false, Prod.mk.injEq] at h2
  rcases h2 with ⟨rfl, rfl⟩ | ⟨rfl, rfl⟩ | ⟨rfl, rfl⟩ | ⟨rfl, rfl⟩ | ⟨rfl, rfl⟩
  · exact sx_CalV (n := 0) (ci := 4) (fun As w Q h => h.2 l D E B A hB) (fun As w Q h => by obtain ⟨n0, tl, fs, e1, e2, e3⟩ := h.1; exact ⟨n0, tl, fs, e1, by omega, e3⟩) rfl rfl (wy_in mCm_startWhole) rfl rfl rfl (List.mem_cons_of_mem _ mnCm_startWhole) (List.mem_cons_of_mem _ lkCm_45) (List.mem_cons_of_mem _ miCm_startWhole.1) (List.mem_cons_of_mem _ miCm_startWhole.2) (by decide +kernel) (by decide) rfl
  · exact sx_CalV (n := 4) (ci := 4) (fun As w Q h => h.2 l D E B A hB) (fun As w Q h => by obtain ⟨n0, tl, fs, e1, e2, e3⟩ := h.1; exact ⟨n0, tl, fs, e1, by omega, e3⟩) rfl rfl (wy_in mCm_setAction) rfl rfl rfl (List.mem_cons_of_mem _ mnCm_setAction) (List.mem_cons_of_mem _ lkCm_48) (List.mem_cons_of_mem _ miCm_setAction.1) (List.mem_cons_of_mem _ miCm_setAction.2) (by decide +kernel) (by decide) rfl
  · exact sx_CalV (n := 3) (ci := 4) (fun As w Q h => h.2 l D E B A hB) (fun As w Q h => by obtain ⟨n0, tl, fs, e1, e2, e3⟩ := h.1; exact ⟨n0, tl, fs, e1, by omega, e3⟩) rfl rfl (wy_in mCm_split) rfl rfl rfl (List.mem_cons_of_mem _ mnCm_split) (List.mem_cons_of_mem _ lkCm_52) (List.mem_cons_of_mem _ miCm_split.1) (List.mem_cons_of_mem _ miCm_split.2) (by decide +kernel) (by decide) rfl
  · exact sx_CalS (n := 2) (fun As w Q h => h l D E B A hB) (wy_in mMa_max) rfl rfl rfl (List.mem_cons_of_mem _ mnMa_max) (List.mem_cons_of_mem _ lkCm_56) (List.mem_cons_of_mem _ msMa_max) (by decide +kernel) (by decide) rfl
  · exact sx_CalV (n := 1) (ci := 4) (fun As w Q h => h.2 l D E B A hB) (fun As w Q h => by obtain ⟨n0, tl, fs, e1, e2, e3⟩ := h.1; exact ⟨n0, tl, fs, e1, by omega, e3⟩) rfl rfl (wy_in mCm_scale) rfl rfl rfl (List.mem_cons_of_mem _ mnCm_scale) (List.mem_cons_of_mem _ lkCm_62) (List.mem_cons_of_mem _ miCm_scale.1) (List.mem_cons_of_mem _ miCm_scale.2) (by decide +kernel) (by decide) rfl
theorem hCm_startWhole (l : Launch) (D : va_G) (E : sx_E) (B : Nat) (A : Nat → Prop) (hB : 29 ≤ B) : ∀ (pc : Nat) (i : Instr × Nat × Nat), sx_tab lCm_startWhole pc = some i → sx_isC i.1 = true → sx_Cal l yCm_startWhole.cls (wy yCm_startWhole prog_2_method_3_code 2 none) wn ({ frames := 1, cells := 0, slots := 0, locals := 23 }) D kinds A E B 2 prog_2_method_3_code i.1 (csAll i.2.1) := by
  intro pc i hF hi
  have h2 : (pc, i) ∈ lCm_startWhole.filter (fun q => sx_isC q.2.1) := List.mem_filter.mpr ⟨sx_tab_mem hF, hi⟩
  have h3 : lCm_startWhole.filter (fun q => sx_isC q.2.1) = [(17, .invokestatic 66, 119, 0)] := rfl
  rw [h3] at h2
  simp only [List.mem_cons, List.not_mem_nil, or_false, Prod.mk.injEq] at h2
  rcases h2 with ⟨rfl, rfl⟩
  · exact sx_CalS (n := 2) (fun As w Q h => h l D E B A hB) (wy_in mAr_fill) rfl rfl rfl (List.mem_cons_of_mem _ mnAr_fill) (List.mem_cons_of_mem _ lkCm_66) (List.mem_cons_of_mem _ msAr_fill) (by decide +kernel) (by decide) rfl
theorem hCm_setAction (l : Launch) (D : va_G) (E : sx_E) (B : Nat) (A : Nat → Prop) (hB : 29 ≤ B) : ∀ (pc : Nat) (i : Instr × Nat × Nat), sx_tab lCm_setAction pc = some i → sx_isC i.1 = true → sx_Cal l yCm_setAction.cls (wy yCm_setAction prog_2_method_4_code 11 none) wn ({ frames := 2, cells := 0, slots := 0, locals := 45 }) D kinds A E B 11 prog_2_method_4_code i.1 (csAll i.2.1) := by
  intro pc i hF hi
  have h2 : (pc, i) ∈ lCm_setAction.filter (fun q => sx_isC q.2.1) := List.mem_filter.mpr ⟨sx_tab_mem hF, hi⟩
  have h3 : lCm_setAction.filter (fun q => sx_isC q.2.1) = [(58, .invokevirtual 72, 91, 0), (81, .invokevirtual 76, 102, 0)] := rfl
  rw [h3] at h2
  simp only [List.mem_cons, List.not_mem_nil, or_false, Prod.mk.injEq] at h2
  rcases h2 with ⟨rfl, rfl⟩ | ⟨rfl, rfl⟩
  · exact sx_CalV (n := 3) (ci := 2) (fun As w Q h => h.2 l D E B A hB) (fun As w Q h => by obtain ⟨n0, tl, fs, e1, e2, e3⟩ := h.1; exact ⟨n0, tl, fs, e1, by omega, e3⟩) rfl rfl (wy_in mCo_pairs) rfl rfl rfl (List.mem_cons_of_mem _ mnCo_pairs) (List.mem_cons_of_mem _ lkCm_72) (List.mem_cons_of_mem _ miCo_pairs.1) (List.mem_cons_of_mem _ miCo_pairs.2) (by decide +kernel) (by decide) rfl
  · exact sx_CalV (n := 3) (ci := 3) (fun As w Q h => h.2 l D E B A hB) (fun As w Q h => by obtain ⟨n0, tl, fs, e1, e2, e3⟩ := h.1; exact ⟨n0, tl, fs, e1, by omega, e3⟩) rfl rfl (wy_in mRe_plusTimes) rfl rfl rfl (List.mem_cons_of_mem _ mnRe_plusTimes) (List.mem_cons_of_mem _ lkCm_76) (List.mem_cons_of_mem _ miRe_plusTimes.1) (List.mem_cons_of_mem _ miRe_plusTimes.2) (by decide +kernel) (by decide) rfl
theorem hCm_split (l : Launch) (D : va_G) (E : sx_E) (B : Nat) (A : Nat → Prop) (hB : 29 ≤ B) : ∀ (pc : Nat) (i : Instr × Nat × Nat), sx_tab lCm_split pc = some i → sx_isC i.1 = true → sx_Cal l yCm_split.cls (wy yCm_split prog_2_method_5_code 8 none) wn ({ frames := 3, cells := 0, slots := 0, locals := 82 }) D kinds A E B 8 prog_2_method_5_code i.1 (csAll i.2.1) := by
  intro pc i hF hi
  have h2 : (pc, i) ∈ lCm_split.filter (fun q => sx_isC q.2.1) := List.mem_filter.mpr ⟨sx_tab_mem hF, hi⟩
  have h3 : lCm_split.filter (fun q => sx_isC q.2.1) = [(30, .invokevirtual 84, 75, 0), (36, .invokevirtual 87, 76, 0), (73, .invokevirtual 91, 79, 0), (143, .invokestatic 95, 900, 0)] := rfl
  rw [h3] at h2
  simp only [List.mem_cons, List.not_mem_nil, or_false, Prod.mk.injEq] at h2
  rcases h2 with ⟨rfl, rfl⟩ | ⟨rfl, rfl⟩ | ⟨rfl, rfl⟩ | ⟨rfl, rfl⟩
  · exact sx_CalV (n := 3) (ci := 4) (fun As w Q h => h.2 l D E B A hB) (fun As w Q h => by obtain ⟨n0, tl, fs, e1, e2, e3⟩ := h.1; exact ⟨n0, tl, fs, e1, by omega, e3⟩) rfl rfl (wy_in mCm_setSystem) rfl rfl rfl (List.mem_cons_of_mem _ mnCm_setSystem) (List.mem_cons_of_mem _ lkCm_84) (List.mem_cons_of_mem _ miCm_setSystem.1) (List.mem_cons_of_mem _ miCm_setSystem.2) (by decide +kernel) (by decide) rfl
  · exact sx_CalV (n := 2) (ci := 4) (fun As w Q h => h.2 l D E B A hB) (fun As w Q h => by obtain ⟨n0, tl, fs, e1, e2, e3⟩ := h.1; exact ⟨n0, tl, fs, e1, by omega, e3⟩) rfl rfl (wy_in mCm_solve) rfl rfl rfl (List.mem_cons_of_mem _ mnCm_solve) (List.mem_cons_of_mem _ lkCm_87) (List.mem_cons_of_mem _ miCm_solve.1) (List.mem_cons_of_mem _ miCm_solve.2) (by decide +kernel) (by decide) rfl
  · exact sx_CalV (n := 5) (ci := 4) (fun As w Q h => h.2 l D E B A hB) (fun As w Q h => by obtain ⟨n0, tl, fs, e1, e2, e3⟩ := h.1; exact ⟨n0, tl, fs, e1, by omega, e3⟩) rfl rfl (wy_in mCm_takeSolution) rfl rfl rfl (List.mem_cons_of_mem _ mnCm_takeSolution) (List.mem_cons_of_mem _ lkCm_91) (List.mem_cons_of_mem _ miCm_takeSolution.1) (List.mem_cons_of_mem _ miCm_takeSolution.2) (by decide +kernel) (by decide) rfl
  · exact sx_CalCopy hB (List.mem_cons_of_mem _ lkCm_95) (List.mem_cons_of_mem _ mcopy.1) (List.mem_cons_of_mem _ mcopy.2.1) (List.mem_cons_of_mem _ mcopy.2.2) (by decide) (by decide +kernel)
theorem hCm_setSystem (l : Launch) (D : va_G) (E : sx_E) (B : Nat) (A : Nat → Prop) (hB : 29 ≤ B) : ∀ (pc : Nat) (i : Instr × Nat × Nat), sx_tab lCm_setSystem pc = some i → sx_isC i.1 = true → sx_Cal l yCm_setSystem.cls (wy yCm_setSystem prog_2_method_6_code 5 none) wn ({ frames := 2, cells := 0, slots := 0, locals := 43 }) D kinds A E B 5 prog_2_method_6_code i.1 (csAll i.2.1) := by
  intro pc i hF hi
  have h2 : (pc, i) ∈ lCm_setSystem.filter (fun q => sx_isC q.2.1) := List.mem_filter.mpr ⟨sx_tab_mem hF, hi⟩
  have h3 : lCm_setSystem.filter (fun q => sx_isC q.2.1) = [(26, .invokestatic 95, 900, 0), (51, .invokevirtual 101, 100, 0)] := rfl
  rw [h3] at h2
  simp only [List.mem_cons, List.not_mem_nil, or_false, Prod.mk.injEq] at h2
  rcases h2 with ⟨rfl, rfl⟩ | ⟨rfl, rfl⟩
  · exact sx_CalCopy hB (List.mem_cons_of_mem _ lkCm_95) (List.mem_cons_of_mem _ mcopy.1) (List.mem_cons_of_mem _ mcopy.2.1) (List.mem_cons_of_mem _ mcopy.2.2) (by decide) (by decide +kernel)
  · exact sx_CalV (n := 1) (ci := 3) (fun As w Q h => h.2 l D E B A hB) (fun As w Q h => by obtain ⟨n0, tl, fs, e1, e2, e3⟩ := h.1; exact ⟨n0, tl, fs, e1, by omega, e3⟩) rfl rfl (wy_in mRe_reduce) rfl rfl rfl (List.mem_cons_of_mem _ mnRe_reduce) (List.mem_cons_of_mem _ lkCm_101) (List.mem_cons_of_mem _ miRe_reduce.1) (List.mem_cons_of_mem _ miRe_reduce.2) (by decide +kernel) (by decide) rfl
theorem hCm_solve (l : Launch) (D : va_G) (E : sx_E) (B : Nat) (A : Nat → Prop) (hB : 29 ≤ B) : ∀ (pc : Nat) (i : Instr × Nat × Nat), sx_tab lCm_solve pc = some i → sx_isC i.1 = true → sx_Cal l yCm_solve.cls (wy yCm_solve prog_2_method_7_code 6 none) wn ({ frames := 2, cells := 0, slots := 0, locals := 57 }) D kinds A E B 6 prog_2_method_7_code i.1 (csAll i.2.1) := by
  intro pc i hF hi
  have h2 : (pc, i) ∈ lCm_solve.filter (fun q => sx_isC q.2.1) := List.mem_filter.mpr ⟨sx_tab_mem hF, hi⟩
  have h3 : lCm_solve.filter (fun q => sx_isC q.2.1) = [(58, .invokevirtual 105, 77, 0), (67, .invokevirtual 109, 78, 0)] := rfl
  rw [h3] at h2
  simp only [List.mem_cons, List.not_mem_nil, or_false, Prod.mk.injEq] at h2
  rcases h2 with ⟨rfl, rfl⟩ | ⟨rfl, rfl⟩
  · exact sx_CalV (n := 3) (ci := 4) (fun As w Q h => h.2 l D E B A hB) (fun As w Q h => by obtain ⟨n0, tl, fs, e1, e2, e3⟩ := h.1; exact ⟨n0, tl, fs, e1, by omega, e3⟩) rfl rfl (wy_in mCm_swapRows) rfl rfl rfl (List.mem_cons_of_mem _ mnCm_swapRows) (List.mem_cons_of_mem _ lkCm_105) (List.mem_cons_of_mem _ miCm_swapRows.1) (List.mem_cons_of_mem _ miCm_swapRows.2) (by decide +kernel) (by decide) rfl
  · exact sx_CalV (n := 4) (ci := 4) (fun As w Q h => h.2 l D E B A hB) (fun As w Q h => by obtain ⟨n0, tl, fs, e1, e2, e3⟩ := h.1; exact ⟨n0, tl, fs, e1, by omega, e3⟩) rfl rfl (wy_in mCm_clearColumn) rfl rfl rfl (List.mem_cons_of_mem _ mnCm_clearColumn) (List.mem_cons_of_mem _ lkCm_109) (List.mem_cons_of_mem _ miCm_clearColumn.1) (List.mem_cons_of_mem _ miCm_clearColumn.2) (by decide +kernel) (by decide) rfl
theorem hCm_clearColumn (l : Launch) (D : va_G) (E : sx_E) (B : Nat) (A : Nat → Prop) (hB : 29 ≤ B) : ∀ (pc : Nat) (i : Instr × Nat × Nat), sx_tab lCm_clearColumn pc = some i → sx_isC i.1 = true → sx_Cal l yCm_clearColumn.cls (wy yCm_clearColumn prog_2_method_9_code 9 none) wn ({ frames := 1, cells := 0, slots := 0, locals := 29 }) D kinds A E B 9 prog_2_method_9_code i.1 (csAll i.2.1) := by
  intro pc i hF hi
  have h2 : (pc, i) ∈ lCm_clearColumn.filter (fun q => sx_isC q.2.1) := List.mem_filter.mpr ⟨sx_tab_mem hF, hi⟩
  have h3 : lCm_clearColumn.filter (fun q => sx_isC q.2.1) = [(10, .invokevirtual 113, 105, 0), (45, .invokevirtual 116, 101, 0), (127, .invokevirtual 119, 103, 0)] := rfl
  rw [h3] at h2
  simp only [List.mem_cons, List.not_mem_nil, or_false, Prod.mk.injEq] at h2
  rcases h2 with ⟨rfl, rfl⟩ | ⟨rfl, rfl⟩ | ⟨rfl, rfl⟩
  · exact sx_CalV (n := 1) (ci := 3) (fun As w Q h => h.2 l D E B A hB) (fun As w Q h => by obtain ⟨n0, tl, fs, e1, e2, e3⟩ := h.1; exact ⟨n0, tl, fs, e1, by omega, e3⟩) rfl rfl (wy_in mRe_reciprocal) rfl rfl rfl (List.mem_cons_of_mem _ mnRe_reciprocal) (List.mem_cons_of_mem _ lkCm_113) (List.mem_cons_of_mem _ miRe_reciprocal.1) (List.mem_cons_of_mem _ miRe_reciprocal.2) (by decide +kernel) (by decide) rfl
  · exact sx_CalV (n := 2) (ci := 3) (fun As w Q h => h.2 l D E B A hB) (fun As w Q h => by obtain ⟨n0, tl, fs, e1, e2, e3⟩ := h.1; exact ⟨n0, tl, fs, e1, by omega, e3⟩) rfl rfl (wy_in mRe_times) rfl rfl rfl (List.mem_cons_of_mem _ mnRe_times) (List.mem_cons_of_mem _ lkCm_116) (List.mem_cons_of_mem _ miRe_times.1) (List.mem_cons_of_mem _ miRe_times.2) (by decide +kernel) (by decide) rfl
  · exact sx_CalV (n := 3) (ci := 3) (fun As w Q h => h.2 l D E B A hB) (fun As w Q h => by obtain ⟨n0, tl, fs, e1, e2, e3⟩ := h.1; exact ⟨n0, tl, fs, e1, by omega, e3⟩) rfl rfl (wy_in mRe_minusTimes) rfl rfl rfl (List.mem_cons_of_mem _ mnRe_minusTimes) (List.mem_cons_of_mem _ lkCm_119) (List.mem_cons_of_mem _ miRe_minusTimes.1) (List.mem_cons_of_mem _ miRe_minusTimes.2) (by decide +kernel) (by decide) rfl
theorem hCm_takeSolution (l : Launch) (D : va_G) (E : sx_E) (B : Nat) (A : Nat → Prop) (hB : 29 ≤ B) : ∀ (pc : Nat) (i : Instr × Nat × Nat), sx_tab lCm_takeSolution pc = some i → sx_isC i.1 = true → sx_Cal l yCm_takeSolution.cls (wy yCm_takeSolution prog_2_method_10_code 10 none) wn ({ frames := 1, cells := 0, slots := 0, locals := 40 }) D kinds A E B 10 prog_2_method_10_code i.1 (csAll i.2.1) := by
  intro pc i hF hi
  have h2 : (pc, i) ∈ lCm_takeSolution.filter (fun q => sx_isC q.2.1) := List.mem_filter.mpr ⟨sx_tab_mem hF, hi⟩
  have h3 : lCm_takeSolution.filter (fun q => sx_isC q.2.1) = [(25, .invokestatic 95, 900, 0), (101, .invokevirtual 119, 103, 0)] := rfl
  rw [h3] at h2
  simp only [List.mem_cons, List.not_mem_nil, or_false, Prod.mk.injEq] at h2
  rcases h2 with ⟨rfl, rfl⟩ | ⟨rfl, rfl⟩
  · exact sx_CalCopy hB (List.mem_cons_of_mem _ lkCm_95) (List.mem_cons_of_mem _ mcopy.1) (List.mem_cons_of_mem _ mcopy.2.1) (List.mem_cons_of_mem _ mcopy.2.2) (by decide) (by decide +kernel)
  · exact sx_CalV (n := 3) (ci := 3) (fun As w Q h => h.2 l D E B A hB) (fun As w Q h => by obtain ⟨n0, tl, fs, e1, e2, e3⟩ := h.1; exact ⟨n0, tl, fs, e1, by omega, e3⟩) rfl rfl (wy_in mRe_minusTimes) rfl rfl rfl (List.mem_cons_of_mem _ mnRe_minusTimes) (List.mem_cons_of_mem _ lkCm_119) (List.mem_cons_of_mem _ miRe_minusTimes.1) (List.mem_cons_of_mem _ miRe_minusTimes.2) (by decide +kernel) (by decide) rfl
theorem hCm_scale (l : Launch) (D : va_G) (E : sx_E) (B : Nat) (A : Nat → Prop) (hB : 29 ≤ B) : ∀ (pc : Nat) (i : Instr × Nat × Nat), sx_tab lCm_scale pc = some i → sx_isC i.1 = true → sx_Cal l yCm_scale.cls (wy yCm_scale prog_2_method_11_code 5 none) wn ({ frames := 1, cells := 0, slots := 0, locals := 29 }) D kinds A E B 5 prog_2_method_11_code i.1 (csAll i.2.1) := by
  intro pc i hF hi
  have h2 : (pc, i) ∈ lCm_scale.filter (fun q => sx_isC q.2.1) := List.mem_filter.mpr ⟨sx_tab_mem hF, hi⟩
  have h3 : lCm_scale.filter (fun q => sx_isC q.2.1) = [(19, .invokevirtual 113, 105, 0), (54, .invokevirtual 116, 101, 0)] := rfl
  rw [h3] at h2
  simp only [List.mem_cons, List.not_mem_nil, or_false, Prod.mk.injEq] at h2
  rcases h2 with ⟨rfl, rfl⟩ | ⟨rfl, rfl⟩
  · exact sx_CalV (n := 1) (ci := 3) (fun As w Q h => h.2 l D E B A hB) (fun As w Q h => by obtain ⟨n0, tl, fs, e1, e2, e3⟩ := h.1; exact ⟨n0, tl, fs, e1, by omega, e3⟩) rfl rfl (wy_in mRe_reciprocal) rfl rfl rfl (List.mem_cons_of_mem _ mnRe_reciprocal) (List.mem_cons_of_mem _ lkCm_113) (List.mem_cons_of_mem _ miRe_reciprocal.1) (List.mem_cons_of_mem _ miRe_reciprocal.2) (by decide +kernel) (by decide) rfl
  · exact sx_CalV (n := 2) (ci := 3) (fun As w Q h => h.2 l D E B A hB) (fun As w Q h => by obtain ⟨n0, tl, fs, e1, e2, e3⟩ := h.1; exact ⟨n0, tl, fs, e1, by omega, e3⟩) rfl rfl (wy_in mRe_times) rfl rfl rfl (List.mem_cons_of_mem _ mnRe_times) (List.mem_cons_of_mem _ lkCm_116) (List.mem_cons_of_mem _ miRe_times.1) (List.mem_cons_of_mem _ miRe_times.2) (by decide +kernel) (by decide) rfl
theorem hCo_divide (l : Launch) (D : va_G) (E : sx_E) (B : Nat) (A : Nat → Prop) (hB : 29 ≤ B) : ∀ (pc : Nat) (i : Instr × Nat × Nat), sx_tab lCo_divide pc = some i → sx_isC i.1 = true → sx_Cal l yCo_divide.cls (wy yCo_divide prog_4_method_2_code 3 (some .boolean)) wn ({ frames := 3, cells := 0, slots := 0, locals := 71 }) D kinds A E B 3 prog_4_method_2_code i.1 (csAll i.2.1) := by
  intro pc i hF hi
  have h2 : (pc, i) ∈ lCo_divide.filter (fun q => sx_isC q.2.1) := List.mem_filter.mpr ⟨sx_tab_mem hF, hi⟩
  have h3 : lCo_divide.filter (fun q => sx_isC q.2.1) = [(10, .invokestatic 39, 119, 0), (52, .invokevirtual 51, 85, 0)] := rfl
  rw [h3] at h2
  simp only [List.mem_cons, List.not_mem_nil, or_false, Prod.mk.injEq] at h2
  rcases h2 with ⟨rfl, rfl⟩ | ⟨rfl, rfl⟩
  · exact sx_CalS (n := 2) (fun As w Q h => h l D E B A hB) (wy_in mAr_fill) rfl rfl rfl (List.mem_cons_of_mem _ mnAr_fill) (List.mem_cons_of_mem _ lkCo_39) (List.mem_cons_of_mem _ msAr_fill) (by decide +kernel) (by decide) rfl
  · exact sx_CalV (n := 2) (ci := 2) (fun As w Q h => h.2 l D E B A hB) (fun As w Q h => by obtain ⟨n0, tl, fs, e1, e2, e3⟩ := h.1; exact ⟨n0, tl, fs, e1, by omega, e3⟩) rfl rfl (wy_in mCo_gather) rfl rfl rfl (List.mem_cons_of_mem _ mnCo_gather) (List.mem_cons_of_mem _ lkCo_51) (List.mem_cons_of_mem _ miCo_gather.1) (List.mem_cons_of_mem _ miCo_gather.2) (by decide +kernel) (by decide) rfl
theorem hCo_gather (l : Launch) (D : va_G) (E : sx_E) (B : Nat) (A : Nat → Prop) (hB : 29 ≤ B) : ∀ (pc : Nat) (i : Instr × Nat × Nat), sx_tab lCo_gather pc = some i → sx_isC i.1 = true → sx_Cal l yCo_gather.cls (wy yCo_gather prog_4_method_3_code 7 none) wn ({ frames := 2, cells := 0, slots := 0, locals := 45 }) D kinds A E B 7 prog_4_method_3_code i.1 (csAll i.2.1) := by
  intro pc i hF hi
  have h2 : (pc, i) ∈ lCo_gather.filter (fun q => sx_isC q.2.1) := List.mem_filter.mpr ⟨sx_tab_mem hF, hi⟩
  have h3 : lCo_gather.filter (fun q => sx_isC q.2.1) = [(40, .invokestatic 55, 83, 0), (44, .invokestatic 61, 82, 0), (49, .invokestatic 61, 82, 0), (57, .invokevirtual 65, 94, 0)] := rfl
  rw [h3] at h2
  simp only [List.mem_cons, List.not_mem_nil, or_false, Prod.mk.injEq] at h2
  rcases h2 with ⟨rfl, rfl⟩ | ⟨rfl, rfl⟩ | ⟨rfl, rfl⟩ | ⟨rfl, rfl⟩
  · exact sx_CalS (n := 1) (fun As w Q h => h l D E B A hB) (wy_in mCd_inverse) rfl rfl rfl (List.mem_cons_of_mem _ mnCd_inverse) (List.mem_cons_of_mem _ lkCo_55) (List.mem_cons_of_mem _ msCd_inverse) (by decide +kernel) (by decide) rfl
  · exact sx_CalS (n := 2) (fun As w Q h => h l D E B A hB) (wy_in mCd_product) rfl rfl rfl (List.mem_cons_of_mem _ mnCd_product) (List.mem_cons_of_mem _ lkCo_61) (List.mem_cons_of_mem _ msCd_product) (by decide +kernel) (by decide) rfl
  · exact sx_CalS (n := 2) (fun As w Q h => h l D E B A hB) (wy_in mCd_product) rfl rfl rfl (List.mem_cons_of_mem _ mnCd_product) (List.mem_cons_of_mem _ lkCo_61) (List.mem_cons_of_mem _ msCd_product) (by decide +kernel) (by decide) rfl
  · exact sx_CalV (n := 1) (ci := 1) (fun As w Q h => h.2 l D E B A hB) (fun As w Q h => by obtain ⟨n0, tl, fs, e1, e2, e3⟩ := h.1; exact ⟨n0, tl, fs, e1, by omega, e3⟩) rfl rfl (wy_in mEl_indexOf) rfl rfl rfl (List.mem_cons_of_mem _ mnEl_indexOf) (List.mem_cons_of_mem _ lkCo_65) (List.mem_cons_of_mem _ miEl_indexOf.1) (List.mem_cons_of_mem _ miEl_indexOf.2) (by decide +kernel) (by decide) rfl
theorem hCo_classHolding (l : Launch) (D : va_G) (E : sx_E) (B : Nat) (A : Nat → Prop) (hB : 29 ≤ B) : ∀ (pc : Nat) (i : Instr × Nat × Nat), sx_tab lCo_classHolding pc = some i → sx_isC i.1 = true → sx_Cal l yCo_classHolding.cls (wy yCo_classHolding prog_4_method_4_code 4 (some .int)) wn ({ frames := 2, cells := 0, slots := 0, locals := 45 }) D kinds A E B 4 prog_4_method_4_code i.1 (csAll i.2.1) := by
  intro pc i hF hi
  have h2 : (pc, i) ∈ lCo_classHolding.filter (fun q => sx_isC q.2.1) := List.mem_filter.mpr ⟨sx_tab_mem hF, hi⟩
  have h3 : lCo_classHolding.filter (fun q => sx_isC q.2.1) = [(2, .invokevirtual 65, 94, 0)] := rfl
  rw [h3] at h2
  simp only [List.mem_cons, List.not_mem_nil, or_false, Prod.mk.injEq] at h2
  rcases h2 with ⟨rfl, rfl⟩
  · exact sx_CalV (n := 1) (ci := 1) (fun As w Q h => h.2 l D E B A hB) (fun As w Q h => by obtain ⟨n0, tl, fs, e1, e2, e3⟩ := h.1; exact ⟨n0, tl, fs, e1, by omega, e3⟩) rfl rfl (wy_in mEl_indexOf) rfl rfl rfl (List.mem_cons_of_mem _ mnEl_indexOf) (List.mem_cons_of_mem _ lkCo_65) (List.mem_cons_of_mem _ miEl_indexOf.1) (List.mem_cons_of_mem _ miEl_indexOf.2) (by decide +kernel) (by decide) rfl
theorem hCo_listPowers (l : Launch) (D : va_G) (E : sx_E) (B : Nat) (A : Nat → Prop) (hB : 29 ≤ B) : ∀ (pc : Nat) (i : Instr × Nat × Nat), sx_tab lCo_listPowers pc = some i → sx_isC i.1 = true → sx_Cal l yCo_listPowers.cls (wy yCo_listPowers prog_4_method_5_code 5 none) wn ({ frames := 3, cells := 0, slots := 0, locals := 68 }) D kinds A E B 5 prog_4_method_5_code i.1 (csAll i.2.1) := by
  intro pc i hF hi
  have h2 : (pc, i) ∈ lCo_listPowers.filter (fun q => sx_isC q.2.1) := List.mem_filter.mpr ⟨sx_tab_mem hF, hi⟩
  have h3 : lCo_listPowers.filter (fun q => sx_isC q.2.1) = [(6, .invokestatic 39, 119, 0), (54, .invokevirtual 69, 86, 0), (78, .invokestatic 61, 82, 0)] := rfl
  rw [h3] at h2
  simp only [List.mem_cons, List.not_mem_nil, or_false, Prod.mk.injEq] at h2
  rcases h2 with ⟨rfl, rfl⟩ | ⟨rfl, rfl⟩ | ⟨rfl, rfl⟩
  · exact sx_CalS (n := 2) (fun As w Q h => h l D E B A hB) (wy_in mAr_fill) rfl rfl rfl (List.mem_cons_of_mem _ mnAr_fill) (List.mem_cons_of_mem _ lkCo_39) (List.mem_cons_of_mem _ msAr_fill) (by decide +kernel) (by decide) rfl
  · exact sx_CalV (n := 2) (ci := 2) (fun As w Q h => h.2 l D E B A hB) (fun As w Q h => by obtain ⟨n0, tl, fs, e1, e2, e3⟩ := h.1; exact ⟨n0, tl, fs, e1, by omega, e3⟩) rfl rfl (wy_in mCo_classHolding) rfl rfl rfl (List.mem_cons_of_mem _ mnCo_classHolding) (List.mem_cons_of_mem _ lkCo_69) (List.mem_cons_of_mem _ miCo_classHolding.1) (List.mem_cons_of_mem _ miCo_classHolding.2) (by decide +kernel) (by decide) rfl
  · exact sx_CalS (n := 2) (fun As w Q h => h l D E B A hB) (wy_in mCd_product) rfl rfl rfl (List.mem_cons_of_mem _ mnCd_product) (List.mem_cons_of_mem _ lkCo_61) (List.mem_cons_of_mem _ msCd_product) (by decide +kernel) (by decide) rfl
theorem hCo_countPairs (l : Launch) (D : va_G) (E : sx_E) (B : Nat) (A : Nat → Prop) (hB : 29 ≤ B) : ∀ (pc : Nat) (i : Instr × Nat × Nat), sx_tab lCo_countPairs pc = some i → sx_isC i.1 = true → sx_Cal l yCo_countPairs.cls (wy yCo_countPairs prog_4_method_8_code 6 none) wn ({ frames := 3, cells := 0, slots := 0, locals := 68 }) D kinds A E B 6 prog_4_method_8_code i.1 (csAll i.2.1) := by
  intro pc i hF hi
  have h2 : (pc, i) ∈ lCo_countPairs.filter (fun q => sx_isC q.2.1) := List.mem_filter.mpr ⟨sx_tab_mem hF, hi⟩
  have h3 : lCo_countPairs.filter (fun q => sx_isC q.2.1) = [(5, .invokestatic 39, 119, 0), (24, .invokestatic 55, 83, 0), (49, .invokestatic 61, 82, 0), (53, .invokevirtual 69, 86, 0), (78, .invokestatic 73, 92, 0)] := rfl
  rw [h3] at h2
  simp only [List.mem_cons, List.not_mem_nil, or_false, Prod.mk.injEq] at h2
  rcases h2 with ⟨rfl, rfl⟩ | ⟨rfl, rfl⟩ | ⟨rfl, rfl⟩ | ⟨rfl, rfl⟩ | ⟨rfl, rfl⟩
  · exact sx_CalS (n := 2) (fun As w Q h => h l D E B A hB) (wy_in mAr_fill) rfl rfl rfl (List.mem_cons_of_mem _ mnAr_fill) (List.mem_cons_of_mem _ lkCo_39) (List.mem_cons_of_mem _ msAr_fill) (by decide +kernel) (by decide) rfl
  · exact sx_CalS (n := 1) (fun As w Q h => h l D E B A hB) (wy_in mCd_inverse) rfl rfl rfl (List.mem_cons_of_mem _ mnCd_inverse) (List.mem_cons_of_mem _ lkCo_55) (List.mem_cons_of_mem _ msCd_inverse) (by decide +kernel) (by decide) rfl
  · exact sx_CalS (n := 2) (fun As w Q h => h l D E B A hB) (wy_in mCd_product) rfl rfl rfl (List.mem_cons_of_mem _ mnCd_product) (List.mem_cons_of_mem _ lkCo_61) (List.mem_cons_of_mem _ msCd_product) (by decide +kernel) (by decide) rfl
  · exact sx_CalV (n := 2) (ci := 2) (fun As w Q h => h.2 l D E B A hB) (fun As w Q h => by obtain ⟨n0, tl, fs, e1, e2, e3⟩ := h.1; exact ⟨n0, tl, fs, e1, by omega, e3⟩) rfl rfl (wy_in mCo_classHolding) rfl rfl rfl (List.mem_cons_of_mem _ mnCo_classHolding) (List.mem_cons_of_mem _ lkCo_69) (List.mem_cons_of_mem _ miCo_classHolding.1) (List.mem_cons_of_mem _ miCo_classHolding.2) (by decide +kernel) (by decide) rfl
  · exact sx_CalS (n := 3) (fun As w Q h => h l D E B A hB) (wy_in mCo_pairPlace) rfl rfl rfl (List.mem_cons_of_mem _ mnCo_pairPlace) (List.mem_cons_of_mem _ lkCo_73) (List.mem_cons_of_mem _ msCo_pairPlace) (by decide +kernel) (by decide) rfl
theorem hCo_pairs (l : Launch) (D : va_G) (E : sx_E) (B : Nat) (A : Nat → Prop) (hB : 29 ≤ B) : ∀ (pc : Nat) (i : Instr × Nat × Nat), sx_tab lCo_pairs pc = some i → sx_isC i.1 = true → sx_Cal l yCo_pairs.cls (wy yCo_pairs prog_4_method_9_code 4 (some .int)) wn ({ frames := 1, cells := 0, slots := 0, locals := 22 }) D kinds A E B 4 prog_4_method_9_code i.1 (csAll i.2.1) := by
  intro pc i hF hi
  have h2 : (pc, i) ∈ lCo_pairs.filter (fun q => sx_isC q.2.1) := List.mem_filter.mpr ⟨sx_tab_mem hF, hi⟩
  have h3 : lCo_pairs.filter (fun q => sx_isC q.2.1) = [(7, .invokestatic 73, 92, 0)] := rfl
  rw [h3] at h2
  simp only [List.mem_cons, List.not_mem_nil, or_false, Prod.mk.injEq] at h2
  rcases h2 with ⟨rfl, rfl⟩
  · exact sx_CalS (n := 3) (fun As w Q h => h l D E B A hB) (wy_in mCo_pairPlace) rfl rfl rfl (List.mem_cons_of_mem _ mnCo_pairPlace) (List.mem_cons_of_mem _ lkCo_73) (List.mem_cons_of_mem _ msCo_pairPlace) (by decide +kernel) (by decide) rfl
theorem hEl_generate (l : Launch) (D : va_G) (E : sx_E) (B : Nat) (A : Nat → Prop) (hB : 29 ≤ B) : ∀ (pc : Nat) (i : Instr × Nat × Nat), sx_tab lEl_generate pc = some i → sx_isC i.1 = true → sx_Cal l yEl_generate.cls (wy yEl_generate prog_5_method_2_code 6 (some .boolean)) wn ({ frames := 2, cells := 0, slots := 0, locals := 46 }) D kinds A E B 6 prog_5_method_2_code i.1 (csAll i.2.1) := by
  intro pc i hF hi
  have h2 : (pc, i) ∈ lEl_generate.filter (fun q => sx_isC q.2.1) := List.mem_filter.mpr ⟨sx_tab_mem hF, hi⟩
  have h3 : lEl_generate.filter (fun q => sx_isC q.2.1) = [(8, .invokevirtual 25, 95, 0), (60, .invokestatic 29, 82, 0), (63, .invokevirtual 25, 95, 0)] := rfl
  rw [h3] at h2
  simp only [List.mem_cons, List.not_mem_nil, or_false, Prod.mk.injEq] at h2
  rcases h2 with ⟨rfl, rfl⟩ | ⟨rfl, rfl⟩ | ⟨rfl, rfl⟩
  · exact sx_CalV (n := 1) (ci := 1) (fun As w Q h => h.2 l D E B A hB) (fun As w Q h => by obtain ⟨n0, tl, fs, e1, e2, e3⟩ := h.1; exact ⟨n0, tl, fs, e1, by omega, e3⟩) rfl rfl (wy_in mEl_include) rfl rfl rfl (List.mem_cons_of_mem _ mnEl_include) (List.mem_cons_of_mem _ lkEl_25) (List.mem_cons_of_mem _ miEl_include.1) (List.mem_cons_of_mem _ miEl_include.2) (by decide +kernel) (by decide) rfl
  · exact sx_CalS (n := 2) (fun As w Q h => h l D E B A hB) (wy_in mCd_product) rfl rfl rfl (List.mem_cons_of_mem _ mnCd_product) (List.mem_cons_of_mem _ lkEl_29) (List.mem_cons_of_mem _ msCd_product) (by decide +kernel) (by decide) rfl
  · exact sx_CalV (n := 1) (ci := 1) (fun As w Q h => h.2 l D E B A hB) (fun As w Q h => by obtain ⟨n0, tl, fs, e1, e2, e3⟩ := h.1; exact ⟨n0, tl, fs, e1, by omega, e3⟩) rfl rfl (wy_in mEl_include) rfl rfl rfl (List.mem_cons_of_mem _ mnEl_include) (List.mem_cons_of_mem _ lkEl_25) (List.mem_cons_of_mem _ miEl_include.1) (List.mem_cons_of_mem _ miEl_include.2) (by decide +kernel) (by decide) rfl
theorem hEl_indexOf (l : Launch) (D : va_G) (E : sx_E) (B : Nat) (A : Nat → Prop) (hB : 29 ≤ B) : ∀ (pc : Nat) (i : Instr × Nat × Nat), sx_tab lEl_indexOf pc = some i → sx_isC i.1 = true → sx_Cal l yEl_indexOf.cls (wy yEl_indexOf prog_5_method_3_code 3 (some .int)) wn ({ frames := 1, cells := 0, slots := 0, locals := 23 }) D kinds A E B 3 prog_5_method_3_code i.1 (csAll i.2.1) := by
  intro pc i hF hi
  have h2 : (pc, i) ∈ lEl_indexOf.filter (fun q => sx_isC q.2.1) := List.mem_filter.mpr ⟨sx_tab_mem hF, hi⟩
  have h3 : lEl_indexOf.filter (fun q => sx_isC q.2.1) = [(2, .invokevirtual 33, 96, 0)] := rfl
  rw [h3] at h2
  simp only [List.mem_cons, List.not_mem_nil, or_false, Prod.mk.injEq] at h2
  rcases h2 with ⟨rfl, rfl⟩
  · exact sx_CalV (n := 1) (ci := 1) (fun As w Q h => h.2 l D E B A hB) (fun As w Q h => by obtain ⟨n0, tl, fs, e1, e2, e3⟩ := h.1; exact ⟨n0, tl, fs, e1, by omega, e3⟩) rfl rfl (wy_in mEl_firstNotBelow) rfl rfl rfl (List.mem_cons_of_mem _ mnEl_firstNotBelow) (List.mem_cons_of_mem _ lkEl_33) (List.mem_cons_of_mem _ miEl_firstNotBelow.1) (List.mem_cons_of_mem _ miEl_firstNotBelow.2) (by decide +kernel) (by decide) rfl
theorem hEl_include (l : Launch) (D : va_G) (E : sx_E) (B : Nat) (A : Nat → Prop) (hB : 29 ≤ B) : ∀ (pc : Nat) (i : Instr × Nat × Nat), sx_tab lEl_include pc = some i → sx_isC i.1 = true → sx_Cal l yEl_include.cls (wy yEl_include prog_5_method_4_code 4 (some .boolean)) wn ({ frames := 1, cells := 0, slots := 0, locals := 23 }) D kinds A E B 4 prog_5_method_4_code i.1 (csAll i.2.1) := by
  intro pc i hF hi
  have h2 : (pc, i) ∈ lEl_include.filter (fun q => sx_isC q.2.1) := List.mem_filter.mpr ⟨sx_tab_mem hF, hi⟩
  have h3 : lEl_include.filter (fun q => sx_isC q.2.1) = [(2, .invokevirtual 33, 96, 0)] := rfl
  rw [h3] at h2
  simp only [List.mem_cons, List.not_mem_nil, or_false, Prod.mk.injEq] at h2
  rcases h2 with ⟨rfl, rfl⟩
  · exact sx_CalV (n := 1) (ci := 1) (fun As w Q h => h.2 l D E B A hB) (fun As w Q h => by obtain ⟨n0, tl, fs, e1, e2, e3⟩ := h.1; exact ⟨n0, tl, fs, e1, by omega, e3⟩) rfl rfl (wy_in mEl_firstNotBelow) rfl rfl rfl (List.mem_cons_of_mem _ mnEl_firstNotBelow) (List.mem_cons_of_mem _ lkEl_33) (List.mem_cons_of_mem _ miEl_firstNotBelow.1) (List.mem_cons_of_mem _ miEl_firstNotBelow.2) (by decide +kernel) (by decide) rfl
theorem hRe_choose (l : Launch) (D : va_G) (E : sx_E) (B : Nat) (A : Nat → Prop) (hB : 29 ≤ B) : ∀ (pc : Nat) (i : Instr × Nat × Nat), sx_tab lRe_choose pc = some i → sx_isC i.1 = true → sx_Cal l yRe_choose.cls (wy yRe_choose prog_6_method_2_code 5 none) wn ({ frames := 2, cells := 0, slots := 0, locals := 45 }) D kinds A E B 5 prog_6_method_2_code i.1 (csAll i.2.1) := by
  intro pc i hF hi
  have h2 : (pc, i) ∈ lRe_choose.filter (fun q => sx_isC q.2.1) := List.mem_filter.mpr ⟨sx_tab_mem hF, hi⟩
  have h3 : lRe_choose.filter (fun q => sx_isC q.2.1) = [(32, .invokestatic 16, 98, 0), (50, .invokestatic 20, 118, 0), (79, .invokevirtual 26, 99, 0)] := rfl
  rw [h3] at h2
  simp only [List.mem_cons, List.not_mem_nil, or_false, Prod.mk.injEq] at h2
  rcases h2 with ⟨rfl, rfl⟩ | ⟨rfl, rfl⟩ | ⟨rfl, rfl⟩
  · exact sx_CalS (n := 1) (fun As w Q h => h l D E B A hB) (wy_in mRe_isPrime) rfl rfl rfl (List.mem_cons_of_mem _ mnRe_isPrime) (List.mem_cons_of_mem _ lkRe_16) (List.mem_cons_of_mem _ msRe_isPrime) (by decide +kernel) (by decide) rfl
  · exact sx_CalS (n := 2) (fun As w Q h => h l D E B A hB) (wy_in mMa_max) rfl rfl rfl (List.mem_cons_of_mem _ mnMa_max) (List.mem_cons_of_mem _ lkRe_20) (List.mem_cons_of_mem _ msMa_max) (by decide +kernel) (by decide) rfl
  · exact sx_CalV (n := 1) (ci := 3) (fun As w Q h => h.2 l D E B A hB) (fun As w Q h => by obtain ⟨n0, tl, fs, e1, e2, e3⟩ := h.1; exact ⟨n0, tl, fs, e1, by omega, e3⟩) rfl rfl (wy_in mRe_orderOf) rfl rfl rfl (List.mem_cons_of_mem _ mnRe_orderOf) (List.mem_cons_of_mem _ lkRe_26) (List.mem_cons_of_mem _ miRe_orderOf.1) (List.mem_cons_of_mem _ miRe_orderOf.2) (by decide +kernel) (by decide) rfl
theorem hRe_orderOf (l : Launch) (D : va_G) (E : sx_E) (B : Nat) (A : Nat → Prop) (hB : 29 ≤ B) : ∀ (pc : Nat) (i : Instr × Nat × Nat), sx_tab lRe_orderOf pc = some i → sx_isC i.1 = true → sx_Cal l yRe_orderOf.cls (wy yRe_orderOf prog_6_method_4_code 4 (some .int)) wn ({ frames := 1, cells := 0, slots := 0, locals := 22 }) D kinds A E B 4 prog_6_method_4_code i.1 (csAll i.2.1) := by
  intro pc i hF hi
  have h2 : (pc, i) ∈ lRe_orderOf.filter (fun q => sx_isC q.2.1) := List.mem_filter.mpr ⟨sx_tab_mem hF, hi⟩
  have h3 : lRe_orderOf.filter (fun q => sx_isC q.2.1) = [(20, .invokevirtual 30, 101, 0)] := rfl
  rw [h3] at h2
  simp only [List.mem_cons, List.not_mem_nil, or_false, Prod.mk.injEq] at h2
  rcases h2 with ⟨rfl, rfl⟩
  · exact sx_CalV (n := 2) (ci := 3) (fun As w Q h => h.2 l D E B A hB) (fun As w Q h => by obtain ⟨n0, tl, fs, e1, e2, e3⟩ := h.1; exact ⟨n0, tl, fs, e1, by omega, e3⟩) rfl rfl (wy_in mRe_times) rfl rfl rfl (List.mem_cons_of_mem _ mnRe_times) (List.mem_cons_of_mem _ lkRe_30) (List.mem_cons_of_mem _ miRe_times.1) (List.mem_cons_of_mem _ miRe_times.2) (by decide +kernel) (by decide) rfl
theorem hRe_reduce (l : Launch) (D : va_G) (E : sx_E) (B : Nat) (A : Nat → Prop) (hB : 29 ≤ B) : ∀ (pc : Nat) (i : Instr × Nat × Nat), sx_tab lRe_reduce pc = some i → sx_isC i.1 = true → sx_Cal l yRe_reduce.cls (wy yRe_reduce prog_6_method_5_code 2 (some .int)) wn ({ frames := 1, cells := 0, slots := 0, locals := 22 }) D kinds A E B 2 prog_6_method_5_code i.1 (csAll i.2.1) := by
  intro pc i hF hi
  have h2 : (pc, i) ∈ lRe_reduce.filter (fun q => sx_isC q.2.1) := List.mem_filter.mpr ⟨sx_tab_mem hF, hi⟩
  have h3 : lRe_reduce.filter (fun q => sx_isC q.2.1) = [(5, .invokestatic 33, 117, 0)] := rfl
  rw [h3] at h2
  simp only [List.mem_cons, List.not_mem_nil, or_false, Prod.mk.injEq] at h2
  rcases h2 with ⟨rfl, rfl⟩
  · exact sx_CalS (n := 2) (fun As w Q h => h l D E B A hB) (wy_in mMa_floorMod) rfl rfl rfl (List.mem_cons_of_mem _ mnMa_floorMod) (List.mem_cons_of_mem _ lkRe_33) (List.mem_cons_of_mem _ msMa_floorMod) (by decide +kernel) (by decide) rfl
theorem hRe_over (l : Launch) (D : va_G) (E : sx_E) (B : Nat) (A : Nat → Prop) (hB : 29 ≤ B) : ∀ (pc : Nat) (i : Instr × Nat × Nat), sx_tab lRe_over pc = some i → sx_isC i.1 = true → sx_Cal l yRe_over.cls (wy yRe_over prog_6_method_9_code 3 (some .int)) wn ({ frames := 1, cells := 0, slots := 0, locals := 29 }) D kinds A E B 3 prog_6_method_9_code i.1 (csAll i.2.1) := by
  intro pc i hF hi
  have h2 : (pc, i) ∈ lRe_over.filter (fun q => sx_isC q.2.1) := List.mem_filter.mpr ⟨sx_tab_mem hF, hi⟩
  have h3 : lRe_over.filter (fun q => sx_isC q.2.1) = [(4, .invokevirtual 36, 105, 0), (7, .invokevirtual 30, 101, 0)] := rfl
  rw [h3] at h2
  simp only [List.mem_cons, List.not_mem_nil, or_false, Prod.mk.injEq] at h2
  rcases h2 with ⟨rfl, rfl⟩ | ⟨rfl, rfl⟩
  · exact sx_CalV (n := 1) (ci := 3) (fun As w Q h => h.2 l D E B A hB) (fun As w Q h => by obtain ⟨n0, tl, fs, e1, e2, e3⟩ := h.1; exact ⟨n0, tl, fs, e1, by omega, e3⟩) rfl rfl (wy_in mRe_reciprocal) rfl rfl rfl (List.mem_cons_of_mem _ mnRe_reciprocal) (List.mem_cons_of_mem _ lkRe_36) (List.mem_cons_of_mem _ miRe_reciprocal.1) (List.mem_cons_of_mem _ miRe_reciprocal.2) (by decide +kernel) (by decide) rfl
  · exact sx_CalV (n := 2) (ci := 3) (fun As w Q h => h.2 l D E B A hB) (fun As w Q h => by obtain ⟨n0, tl, fs, e1, e2, e3⟩ := h.1; exact ⟨n0, tl, fs, e1, by omega, e3⟩) rfl rfl (wy_in mRe_times) rfl rfl rfl (List.mem_cons_of_mem _ mnRe_times) (List.mem_cons_of_mem _ lkRe_30) (List.mem_cons_of_mem _ miRe_times.1) (List.mem_cons_of_mem _ miRe_times.2) (by decide +kernel) (by decide) rfl
theorem hRe_raised (l : Launch) (D : va_G) (E : sx_E) (B : Nat) (A : Nat → Prop) (hB : 29 ≤ B) : ∀ (pc : Nat) (i : Instr × Nat × Nat), sx_tab lRe_raised pc = some i → sx_isC i.1 = true → sx_Cal l yRe_raised.cls (wy yRe_raised prog_6_method_11_code 5 (some .int)) wn ({ frames := 1, cells := 0, slots := 0, locals := 22 }) D kinds A E B 5 prog_6_method_11_code i.1 (csAll i.2.1) := by
  intro pc i hF hi
  have h2 : (pc, i) ∈ lRe_raised.filter (fun q => sx_isC q.2.1) := List.mem_filter.mpr ⟨sx_tab_mem hF, hi⟩
  have h3 : lRe_raised.filter (fun q => sx_isC q.2.1) = [(14, .invokevirtual 30, 101, 0)] := rfl
  rw [h3] at h2
  simp only [List.mem_cons, List.not_mem_nil, or_false, Prod.mk.injEq] at h2
  rcases h2 with ⟨rfl, rfl⟩
  · exact sx_CalV (n := 2) (ci := 3) (fun As w Q h => h.2 l D E B A hB) (fun As w Q h => by obtain ⟨n0, tl, fs, e1, e2, e3⟩ := h.1; exact ⟨n0, tl, fs, e1, by omega, e3⟩) rfl rfl (wy_in mRe_times) rfl rfl rfl (List.mem_cons_of_mem _ mnRe_times) (List.mem_cons_of_mem _ lkRe_30) (List.mem_cons_of_mem _ miRe_times.1) (List.mem_cons_of_mem _ miRe_times.2) (by decide +kernel) (by decide) rfl
theorem hRo_make (l : Launch) (D : va_G) (E : sx_E) (B : Nat) (A : Nat → Prop) (hB : 29 ≤ B) : ∀ (pc : Nat) (i : Instr × Nat × Nat), sx_tab lRo_make pc = some i → sx_isC i.1 = true → sx_Cal l yRo_make.cls (wy yRo_make prog_7_method_2_code 6 none) wn ({ frames := 4, cells := 0, slots := 0, locals := 96 }) D kinds A E B 6 prog_7_method_2_code i.1 (csAll i.2.1) := by
  intro pc i hF hi
  have h2 : (pc, i) ∈ lRo_make.filter (fun q => sx_isC q.2.1) := List.mem_filter.mpr ⟨sx_tab_mem hF, hi⟩
  have h3 : lRo_make.filter (fun q => sx_isC q.2.1) = [(34, .invokevirtual 47, 108, 0), (44, .invokevirtual 51, 110, 0), (50, .invokevirtual 55, 111, 0), (56, .invokevirtual 59, 112, 0), (66, .invokevirtual 62, 114, 0)] := rfl
  rw [h3] at h2
  simp only [List.mem_cons, List.not_mem_nil, or_false, Prod.mk.injEq] at h2
  rcases h2 with ⟨rfl, rfl⟩ | ⟨rfl, rfl⟩ | ⟨rfl, rfl⟩ | ⟨rfl, rfl⟩ | ⟨rfl, rfl⟩
  · exact sx_CalV (n := 5) (ci := 5) (fun As w Q h => h.2 l D E B A hB) (fun As w Q h => by obtain ⟨n0, tl, fs, e1, e2, e3⟩ := h.1; exact ⟨n0, tl, fs, e1, by omega, e3⟩) rfl rfl (wy_in mRo_setValues) rfl rfl rfl (List.mem_cons_of_mem _ mnRo_setValues) (List.mem_cons_of_mem _ lkRo_47) (List.mem_cons_of_mem _ miRo_setValues.1) (List.mem_cons_of_mem _ miRo_setValues.2) (by decide +kernel) (by decide) rfl
  · exact sx_CalV (n := 4) (ci := 5) (fun As w Q h => h.2 l D E B A hB) (fun As w Q h => by obtain ⟨n0, tl, fs, e1, e2, e3⟩ := h.1; exact ⟨n0, tl, fs, e1, by omega, e3⟩) rfl rfl (wy_in mRo_setIndicator) rfl rfl rfl (List.mem_cons_of_mem _ mnRo_setIndicator) (List.mem_cons_of_mem _ lkRo_51) (List.mem_cons_of_mem _ miRo_setIndicator.1) (List.mem_cons_of_mem _ miRo_setIndicator.2) (by decide +kernel) (by decide) rfl
  · exact sx_CalV (n := 1) (ci := 5) (fun As w Q h => h.2 l D E B A hB) (fun As w Q h => by obtain ⟨n0, tl, fs, e1, e2, e3⟩ := h.1; exact ⟨n0, tl, fs, e1, by omega, e3⟩) rfl rfl (wy_in mRo_setKernel) rfl rfl rfl (List.mem_cons_of_mem _ mnRo_setKernel) (List.mem_cons_of_mem _ lkRo_55) (List.mem_cons_of_mem _ miRo_setKernel.1) (List.mem_cons_of_mem _ miRo_setKernel.2) (by decide +kernel) (by decide) rfl
  · exact sx_CalV (n := 1) (ci := 5) (fun As w Q h => h.2 l D E B A hB) (fun As w Q h => by obtain ⟨n0, tl, fs, e1, e2, e3⟩ := h.1; exact ⟨n0, tl, fs, e1, by omega, e3⟩) rfl rfl (wy_in mRo_insertPlace) rfl rfl rfl (List.mem_cons_of_mem _ mnRo_insertPlace) (List.mem_cons_of_mem _ lkRo_59) (List.mem_cons_of_mem _ miRo_insertPlace.1) (List.mem_cons_of_mem _ miRo_insertPlace.2) (by decide +kernel) (by decide) rfl
  · exact sx_CalV (n := 0) (ci := 5) (fun As w Q h => h.2 l D E B A hB) (fun As w Q h => by obtain ⟨n0, tl, fs, e1, e2, e3⟩ := h.1; exact ⟨n0, tl, fs, e1, by omega, e3⟩) rfl rfl (wy_in mRo_listNormals) rfl rfl rfl (List.mem_cons_of_mem _ mnRo_listNormals) (List.mem_cons_of_mem _ lkRo_62) (List.mem_cons_of_mem _ miRo_listNormals.1) (List.mem_cons_of_mem _ miRo_listNormals.2) (by decide +kernel) (by decide) rfl
theorem hRo_setValues (l : Launch) (D : va_G) (E : sx_E) (B : Nat) (A : Nat → Prop) (hB : 29 ≤ B) : ∀ (pc : Nat) (i : Instr × Nat × Nat), sx_tab lRo_setValues pc = some i → sx_isC i.1 = true → sx_Cal l yRo_setValues.cls (wy yRo_setValues prog_7_method_3_code 9 none) wn ({ frames := 3, cells := 0, slots := 0, locals := 68 }) D kinds A E B 9 prog_7_method_3_code i.1 (csAll i.2.1) := by
  intro pc i hF hi
  have h2 : (pc, i) ∈ lRo_setValues.filter (fun q => sx_isC q.2.1) := List.mem_filter.mpr ⟨sx_tab_mem hF, hi⟩
  have h3 : lRo_setValues.filter (fun q => sx_isC q.2.1) = [(29, .invokevirtual 68, 104, 0), (56, .invokevirtual 74, 89, 0), (60, .invokevirtual 78, 102, 0), (81, .invokestatic 82, 109, 0), (122, .invokevirtual 86, 101, 0)] := rfl
  rw [h3] at h2
  simp only [List.mem_cons, List.not_mem_nil, or_false, Prod.mk.injEq] at h2
  rcases h2 with ⟨rfl, rfl⟩ | ⟨rfl, rfl⟩ | ⟨rfl, rfl⟩ | ⟨rfl, rfl⟩ | ⟨rfl, rfl⟩
  · exact sx_CalV (n := 2) (ci := 3) (fun As w Q h => h.2 l D E B A hB) (fun As w Q h => by obtain ⟨n0, tl, fs, e1, e2, e3⟩ := h.1; exact ⟨n0, tl, fs, e1, by omega, e3⟩) rfl rfl (wy_in mRe_over) rfl rfl rfl (List.mem_cons_of_mem _ mnRe_over) (List.mem_cons_of_mem _ lkRo_68) (List.mem_cons_of_mem _ miRe_over.1) (List.mem_cons_of_mem _ miRe_over.2) (by decide +kernel) (by decide) rfl
  · exact sx_CalV (n := 1) (ci := 2) (fun As w Q h => h.2 l D E B A hB) (fun As w Q h => by obtain ⟨n0, tl, fs, e1, e2, e3⟩ := h.1; exact ⟨n0, tl, fs, e1, by omega, e3⟩) rfl rfl (wy_in mCo_inverseOf) rfl rfl rfl (List.mem_cons_of_mem _ mnCo_inverseOf) (List.mem_cons_of_mem _ lkRo_74) (List.mem_cons_of_mem _ miCo_inverseOf.1) (List.mem_cons_of_mem _ miCo_inverseOf.2) (by decide +kernel) (by decide) rfl
  · exact sx_CalV (n := 3) (ci := 3) (fun As w Q h => h.2 l D E B A hB) (fun As w Q h => by obtain ⟨n0, tl, fs, e1, e2, e3⟩ := h.1; exact ⟨n0, tl, fs, e1, by omega, e3⟩) rfl rfl (wy_in mRe_plusTimes) rfl rfl rfl (List.mem_cons_of_mem _ mnRe_plusTimes) (List.mem_cons_of_mem _ lkRo_78) (List.mem_cons_of_mem _ miRe_plusTimes.1) (List.mem_cons_of_mem _ miRe_plusTimes.2) (by decide +kernel) (by decide) rfl
  · exact sx_CalS (n := 3) (fun As w Q h => h l D E B A hB) (wy_in mRo_degreeFor) rfl rfl rfl (List.mem_cons_of_mem _ mnRo_degreeFor) (List.mem_cons_of_mem _ lkRo_82) (List.mem_cons_of_mem _ msRo_degreeFor) (by decide +kernel) (by decide) rfl
  · exact sx_CalV (n := 2) (ci := 3) (fun As w Q h => h.2 l D E B A hB) (fun As w Q h => by obtain ⟨n0, tl, fs, e1, e2, e3⟩ := h.1; exact ⟨n0, tl, fs, e1, by omega, e3⟩) rfl rfl (wy_in mRe_times) rfl rfl rfl (List.mem_cons_of_mem _ mnRe_times) (List.mem_cons_of_mem _ lkRo_86) (List.mem_cons_of_mem _ miRe_times.1) (List.mem_cons_of_mem _ miRe_times.2) (by decide +kernel) (by decide) rfl
theorem hRo_degreeFor (l : Launch) (D : va_G) (E : sx_E) (B : Nat) (A : Nat → Prop) (hB : 29 ≤ B) : ∀ (pc : Nat) (i : Instr × Nat × Nat), sx_tab lRo_degreeFor pc = some i → sx_isC i.1 = true → sx_Cal l yRo_degreeFor.cls (wy yRo_degreeFor prog_7_method_4_code 6 (some .int)) wn ({ frames := 2, cells := 0, slots := 0, locals := 43 }) D kinds A E B 6 prog_7_method_4_code i.1 (csAll i.2.1) := by
  intro pc i hF hi
  have h2 : (pc, i) ∈ lRo_degreeFor.filter (fun q => sx_isC q.2.1) := List.mem_filter.mpr ⟨sx_tab_mem hF, hi⟩
  have h3 : lRo_degreeFor.filter (fun q => sx_isC q.2.1) = [(2, .invokevirtual 89, 100, 0), (32, .invokevirtual 86, 101, 0), (36, .invokevirtual 86, 101, 0)] := rfl
  rw [h3] at h2
  simp only [List.mem_cons, List.not_mem_nil, or_false, Prod.mk.injEq] at h2
  rcases h2 with ⟨rfl, rfl⟩ | ⟨rfl, rfl⟩ | ⟨rfl, rfl⟩
  · exact sx_CalV (n := 1) (ci := 3) (fun As w Q h => h.2 l D E B A hB) (fun As w Q h => by obtain ⟨n0, tl, fs, e1, e2, e3⟩ := h.1; exact ⟨n0, tl, fs, e1, by omega, e3⟩) rfl rfl (wy_in mRe_reduce) rfl rfl rfl (List.mem_cons_of_mem _ mnRe_reduce) (List.mem_cons_of_mem _ lkRo_89) (List.mem_cons_of_mem _ miRe_reduce.1) (List.mem_cons_of_mem _ miRe_reduce.2) (by decide +kernel) (by decide) rfl
  · exact sx_CalV (n := 2) (ci := 3) (fun As w Q h => h.2 l D E B A hB) (fun As w Q h => by obtain ⟨n0, tl, fs, e1, e2, e3⟩ := h.1; exact ⟨n0, tl, fs, e1, by omega, e3⟩) rfl rfl (wy_in mRe_times) rfl rfl rfl (List.mem_cons_of_mem _ mnRe_times) (List.mem_cons_of_mem _ lkRo_86) (List.mem_cons_of_mem _ miRe_times.1) (List.mem_cons_of_mem _ miRe_times.2) (by decide +kernel) (by decide) rfl
  · exact sx_CalV (n := 2) (ci := 3) (fun As w Q h => h.2 l D E B A hB) (fun As w Q h => by obtain ⟨n0, tl, fs, e1, e2, e3⟩ := h.1; exact ⟨n0, tl, fs, e1, by omega, e3⟩) rfl rfl (wy_in mRe_times) rfl rfl rfl (List.mem_cons_of_mem _ mnRe_times) (List.mem_cons_of_mem _ lkRo_86) (List.mem_cons_of_mem _ miRe_times.1) (List.mem_cons_of_mem _ miRe_times.2) (by decide +kernel) (by decide) rfl
theorem hRo_setIndicator (l : Launch) (D : va_G) (E : sx_E) (B : Nat) (A : Nat → Prop) (hB : 29 ≤ B) : ∀ (pc : Nat) (i : Instr × Nat × Nat), sx_tab lRo_setIndicator pc = some i → sx_isC i.1 = true → sx_Cal l yRo_setIndicator.cls (wy yRo_setIndicator prog_7_method_5_code 8 none) wn ({ frames := 2, cells := 0, slots := 0, locals := 51 }) D kinds A E B 8 prog_7_method_5_code i.1 (csAll i.2.1) := by
  intro pc i hF hi
  have h2 : (pc, i) ∈ lRo_setIndicator.filter (fun q => sx_isC q.2.1) := List.mem_filter.mpr ⟨sx_tab_mem hF, hi⟩
  have h3 : lRo_setIndicator.filter (fun q => sx_isC q.2.1) = [(19, .invokevirtual 95, 88, 0), (44, .invokevirtual 78, 102, 0), (60, .invokevirtual 68, 104, 0)] := rfl
  rw [h3] at h2
  simp only [List.mem_cons, List.not_mem_nil, or_false, Prod.mk.injEq] at h2
  rcases h2 with ⟨rfl, rfl⟩ | ⟨rfl, rfl⟩ | ⟨rfl, rfl⟩
  · exact sx_CalV (n := 2) (ci := 2) (fun As w Q h => h.2 l D E B A hB) (fun As w Q h => by obtain ⟨n0, tl, fs, e1, e2, e3⟩ := h.1; exact ⟨n0, tl, fs, e1, by omega, e3⟩) rfl rfl (wy_in mCo_classRaised) rfl rfl rfl (List.mem_cons_of_mem _ mnCo_classRaised) (List.mem_cons_of_mem _ lkRo_95) (List.mem_cons_of_mem _ miCo_classRaised.1) (List.mem_cons_of_mem _ miCo_classRaised.2) (by decide +kernel) (by decide) rfl
  · exact sx_CalV (n := 3) (ci := 3) (fun As w Q h => h.2 l D E B A hB) (fun As w Q h => by obtain ⟨n0, tl, fs, e1, e2, e3⟩ := h.1; exact ⟨n0, tl, fs, e1, by omega, e3⟩) rfl rfl (wy_in mRe_plusTimes) rfl rfl rfl (List.mem_cons_of_mem _ mnRe_plusTimes) (List.mem_cons_of_mem _ lkRo_78) (List.mem_cons_of_mem _ miRe_plusTimes.1) (List.mem_cons_of_mem _ miRe_plusTimes.2) (by decide +kernel) (by decide) rfl
  · exact sx_CalV (n := 2) (ci := 3) (fun As w Q h => h.2 l D E B A hB) (fun As w Q h => by obtain ⟨n0, tl, fs, e1, e2, e3⟩ := h.1; exact ⟨n0, tl, fs, e1, by omega, e3⟩) rfl rfl (wy_in mRe_over) rfl rfl rfl (List.mem_cons_of_mem _ mnRe_over) (List.mem_cons_of_mem _ lkRo_68) (List.mem_cons_of_mem _ miRe_over.1) (List.mem_cons_of_mem _ miRe_over.2) (by decide +kernel) (by decide) rfl
theorem hRo_insertPlace (l : Launch) (D : va_G) (E : sx_E) (B : Nat) (A : Nat → Prop) (hB : 29 ≤ B) : ∀ (pc : Nat) (i : Instr × Nat × Nat), sx_tab lRo_insertPlace pc = some i → sx_isC i.1 = true → sx_Cal l yRo_insertPlace.cls (wy yRo_insertPlace prog_7_method_7_code 3 none) wn ({ frames := 1, cells := 0, slots := 0, locals := 23 }) D kinds A E B 3 prog_7_method_7_code i.1 (csAll i.2.1) := by
  intro pc i hF hi
  have h2 : (pc, i) ∈ lRo_insertPlace.filter (fun q => sx_isC q.2.1) := List.mem_filter.mpr ⟨sx_tab_mem hF, hi⟩
  have h3 : lRo_insertPlace.filter (fun q => sx_isC q.2.1) = [(16, .invokevirtual 98, 113, 0)] := rfl
  rw [h3] at h2
  simp only [List.mem_cons, List.not_mem_nil, or_false, Prod.mk.injEq] at h2
  rcases h2 with ⟨rfl, rfl⟩
  · exact sx_CalV (n := 2) (ci := 5) (fun As w Q h => h.2 l D E B A hB) (fun As w Q h => by obtain ⟨n0, tl, fs, e1, e2, e3⟩ := h.1; exact ⟨n0, tl, fs, e1, by omega, e3⟩) rfl rfl (wy_in mRo_comesBefore) rfl rfl rfl (List.mem_cons_of_mem _ mnRo_comesBefore) (List.mem_cons_of_mem _ lkRo_98) (List.mem_cons_of_mem _ miRo_comesBefore.1) (List.mem_cons_of_mem _ miRo_comesBefore.2) (by decide +kernel) (by decide) rfl
theorem hRo_listNormals (l : Launch) (D : va_G) (E : sx_E) (B : Nat) (A : Nat → Prop) (hB : 29 ≤ B) : ∀ (pc : Nat) (i : Instr × Nat × Nat), sx_tab lRo_listNormals pc = some i → sx_isC i.1 = true → sx_Cal l yRo_listNormals.cls (wy yRo_listNormals prog_7_method_9_code 4 none) wn ({ frames := 1, cells := 0, slots := 0, locals := 22 }) D kinds A E B 4 prog_7_method_9_code i.1 (csAll i.2.1) := by
  intro pc i hF hi
  have h2 : (pc, i) ∈ lRo_listNormals.filter (fun q => sx_isC q.2.1) := List.mem_filter.mpr ⟨sx_tab_mem hF, hi⟩
  have h3 : lRo_listNormals.filter (fun q => sx_isC q.2.1) = [(27, .invokevirtual 102, 115, 0), (51, .invokevirtual 102, 115, 0)] := rfl
  rw [h3] at h2
  simp only [List.mem_cons, List.not_mem_nil, or_false, Prod.mk.injEq] at h2
  rcases h2 with ⟨rfl, rfl⟩ | ⟨rfl, rfl⟩
  · exact sx_CalV (n := 1) (ci := 5) (fun As w Q h => h.2 l D E B A hB) (fun As w Q h => by obtain ⟨n0, tl, fs, e1, e2, e3⟩ := h.1; exact ⟨n0, tl, fs, e1, by omega, e3⟩) rfl rfl (wy_in mRo_includeNormal) rfl rfl rfl (List.mem_cons_of_mem _ mnRo_includeNormal) (List.mem_cons_of_mem _ lkRo_102) (List.mem_cons_of_mem _ miRo_includeNormal.1) (List.mem_cons_of_mem _ miRo_includeNormal.2) (by decide +kernel) (by decide) rfl
  · exact sx_CalV (n := 1) (ci := 5) (fun As w Q h => h.2 l D E B A hB) (fun As w Q h => by obtain ⟨n0, tl, fs, e1, e2, e3⟩ := h.1; exact ⟨n0, tl, fs, e1, by omega, e3⟩) rfl rfl (wy_in mRo_includeNormal) rfl rfl rfl (List.mem_cons_of_mem _ mnRo_includeNormal) (List.mem_cons_of_mem _ lkRo_102) (List.mem_cons_of_mem _ miRo_includeNormal.1) (List.mem_cons_of_mem _ miRo_includeNormal.2) (by decide +kernel) (by decide) rfl
theorem hRo_timesOfRoot (l : Launch) (D : va_G) (E : sx_E) (B : Nat) (A : Nat → Prop) (hB : 29 ≤ B) : ∀ (pc : Nat) (i : Instr × Nat × Nat), sx_tab lRo_timesOfRoot pc = some i → sx_isC i.1 = true → sx_Cal l yRo_timesOfRoot.cls (wy yRo_timesOfRoot prog_7_method_11_code 11 (some .int)) wn ({ frames := 2, cells := 0, slots := 0, locals := 51 }) D kinds A E B 11 prog_7_method_11_code i.1 (csAll i.2.1) := by
  intro pc i hF hi
  have h2 : (pc, i) ∈ lRo_timesOfRoot.filter (fun q => sx_isC q.2.1) := List.mem_filter.mpr ⟨sx_tab_mem hF, hi⟩
  have h3 : lRo_timesOfRoot.filter (fun q => sx_isC q.2.1) = [(18, .invokevirtual 111, 106, 0), (54, .invokevirtual 95, 88, 0), (60, .invokevirtual 78, 102, 0), (71, .invokevirtual 86, 101, 0), (88, .invokevirtual 68, 104, 0)] := rfl
  rw [h3] at h2
  simp only [List.mem_cons, List.not_mem_nil, or_false, Prod.mk.injEq] at h2
  rcases h2 with ⟨rfl, rfl⟩ | ⟨rfl, rfl⟩ | ⟨rfl, rfl⟩ | ⟨rfl, rfl⟩ | ⟨rfl, rfl⟩
  · exact sx_CalV (n := 2) (ci := 3) (fun As w Q h => h.2 l D E B A hB) (fun As w Q h => by obtain ⟨n0, tl, fs, e1, e2, e3⟩ := h.1; exact ⟨n0, tl, fs, e1, by omega, e3⟩) rfl rfl (wy_in mRe_raised) rfl rfl rfl (List.mem_cons_of_mem _ mnRe_raised) (List.mem_cons_of_mem _ lkRo_111) (List.mem_cons_of_mem _ miRe_raised.1) (List.mem_cons_of_mem _ miRe_raised.2) (by decide +kernel) (by decide) rfl
  · exact sx_CalV (n := 2) (ci := 2) (fun As w Q h => h.2 l D E B A hB) (fun As w Q h => by obtain ⟨n0, tl, fs, e1, e2, e3⟩ := h.1; exact ⟨n0, tl, fs, e1, by omega, e3⟩) rfl rfl (wy_in mCo_classRaised) rfl rfl rfl (List.mem_cons_of_mem _ mnCo_classRaised) (List.mem_cons_of_mem _ lkRo_95) (List.mem_cons_of_mem _ miCo_classRaised.1) (List.mem_cons_of_mem _ miCo_classRaised.2) (by decide +kernel) (by decide) rfl
  · exact sx_CalV (n := 3) (ci := 3) (fun As w Q h => h.2 l D E B A hB) (fun As w Q h => by obtain ⟨n0, tl, fs, e1, e2, e3⟩ := h.1; exact ⟨n0, tl, fs, e1, by omega, e3⟩) rfl rfl (wy_in mRe_plusTimes) rfl rfl rfl (List.mem_cons_of_mem _ mnRe_plusTimes) (List.mem_cons_of_mem _ lkRo_78) (List.mem_cons_of_mem _ miRe_plusTimes.1) (List.mem_cons_of_mem _ miRe_plusTimes.2) (by decide +kernel) (by decide) rfl
  · exact sx_CalV (n := 2) (ci := 3) (fun As w Q h => h.2 l D E B A hB) (fun As w Q h => by obtain ⟨n0, tl, fs, e1, e2, e3⟩ := h.1; exact ⟨n0, tl, fs, e1, by omega, e3⟩) rfl rfl (wy_in mRe_times) rfl rfl rfl (List.mem_cons_of_mem _ mnRe_times) (List.mem_cons_of_mem _ lkRo_86) (List.mem_cons_of_mem _ miRe_times.1) (List.mem_cons_of_mem _ miRe_times.2) (by decide +kernel) (by decide) rfl
  · exact sx_CalV (n := 2) (ci := 3) (fun As w Q h => h.2 l D E B A hB) (fun As w Q h => by obtain ⟨n0, tl, fs, e1, e2, e3⟩ := h.1; exact ⟨n0, tl, fs, e1, by omega, e3⟩) rfl rfl (wy_in mRe_over) rfl rfl rfl (List.mem_cons_of_mem _ mnRe_over) (List.mem_cons_of_mem _ lkRo_68) (List.mem_cons_of_mem _ miRe_over.1) (List.mem_cons_of_mem _ miRe_over.2) (by decide +kernel) (by decide) rfl
end
section
-- ClassCharacters$Codes
def sh (m : Nat) : Int32 := Int32.ofInt (21 - 3 * (m : Int))
theorem sh_0 : (Int8.ofInt 21).toInt32 = sh 0 := by decide +kernel
theorem sh_s : ∀ m, m < 8 → sh m + Int32.ofInt (-3) = sh (m + 1) := by decide +kernel
theorem sh_n : ∀ m, m < 8 → ¬ sh m < 0 := by decide +kernel
theorem sh_8 : sh 8 < 0 := by decide +kernel
theorem sh_k : ∀ m, m < 8 → ((sh m &&& 31).toBitVec.smod 32).toNat = 21 - 3 * m := by decide +kernel
theorem sh_p : ∀ m, m < 8 → 2 ^ (21 - 3 * m) = 8 ^ (7 - m) := by decide +kernel
theorem sh_t : ∀ m, m < 8 → (Int8.ofInt 21).toInt32 - (Int32.ofInt 3) * nI m = sh m := by decide +kernel
theorem b7 : ((Int8.ofInt 7).toInt32).toBitVec.toNat = 2 ^ 3 - 1 := by decide +kernel
theorem dg_sh {a m : Nat} (ha : a < 8 ^ 8) (hm : m < 8) : (nI a >>> (sh m &&& 31)) &&& (Int8.ofInt 7).toInt32 = nI (dg a m) := by
  have h1 : a < 2 ^ 31 := Nat.lt_trans ha (by decide)
  rw [pk_shrN h1 _ _ (sh_k m hm), pk_andN (Nat.lt_of_le_of_lt (Nat.div_le_self _ _) (Nat.lt_trans h1 (by decide))) 3 b7, sh_p m hm]
  rfl
theorem or8 {c d : Nat} (hc : c < 8 ^ 7) (hd : d < 8) : (nI c <<< (Int32.ofInt 3 &&& 31)) ||| nI d = nI (c * 8 + d) := by
  have h0 : ((Int32.ofInt 3 &&& 31).toBitVec.smod 32).toNat = 3 := by decide +kernel
  have h1 : nI c <<< (Int32.ofInt 3 &&& 31) = nI (c * 2 ^ 3) := pk_shlN _ 3 h0 (by omega)
  rw [h1]
  have h2 : nI (c * 2 ^ 3) ||| nI d = nI (c * 2 ^ 3 ||| d) := by
    apply Int32.toBitVec_inj.mp
    apply BitVec.eq_of_toNat_eq
    rw [Int32.toBitVec_or, BitVec.toNat_or, pk_tn (by omega), pk_tn (by omega), pk_tn (Nat.or_lt_two_pow (by omega) (by omega))]
  rw [h2, Nat.mul_comm c, ← Nat.two_pow_add_eq_or_of_lt (show d < 2 ^ 3 from hd), Nat.mul_comm]
set_option maxHeartbeats 4000000 in
theorem enc_small {g : Nat → Nat} (hg : ∀ x, g x < 8) {m : Nat} (hm : m < 8) : encf g m < 8 ^ 7 := Nat.lt_of_lt_of_le (enc_lt hg m) (Nat.pow_le_pow_right (by decide) (by omega))
set_option maxHeartbeats 4000000 in
set_option maxRecDepth 100000 in
theorem c_Cd_product (l : Launch) (D : va_G) (E : sx_E) (B : Nat) (A : Nat → Prop) {a b : Nat} (ha : a < 8 ^ 8) (hb : b < 8 ^ 8) (w : sx_M) : sM l D E B A yCd_product prog_3_method_3_code 6 (some .int) 0 0 [.inl (nI a), .inl (nI b)] w (fun r w' => r = some (.inl (nI (pm a b))) ∧ w' = w) := by
  refine sx_m0 (ls := lCd_product) (cs := noCalls) (by decide) kCd_product (fun pc i h1 h2 => sx_nc (ls := lCd_product) (by decide) pc i h1 h2) (by simp) (fun w' h => by cases h.1) ?_
  intro Z hZ
  have loop : ∀ n m, n + m = 8 → ∀ x4 x5, Z 5 [some (.inl (nI a)), some (.inl (nI b)), some (.inl (nI (encf (fun x => dg b (dg a x)) m))), some (.inl (sh m)), x4, x5] [] w := by
    intro n
    induction n with
    | zero =>
      intro m hm x4 x5
      have hm8 : m = 8 := by omega
      subst hm8
      refine z_iload_n hZ gCd_product_5 rfl ?_
      refine z_iflt hZ gCd_product_6 (fun c6 => ?_) (fun c6 => absurd sh_8 c6)
      refine z_iload_n hZ gCd_product_44 rfl ?_
      refine z_iret hZ gCd_product_45 ?_
      exact ⟨rfl, rfl⟩
    | succ n ih =>
      intro m hm x4 x5
      have hm8 : m < 8 := by omega
      have hd := dg_lt a m
      refine z_iload_n hZ gCd_product_5 rfl ?_
      refine z_iflt hZ gCd_product_6 (fun c6 => absurd c6 (sh_n m hm8)) (fun c6 => ?_)
      refine z_iload_n hZ gCd_product_9 rfl ?_
      refine z_iload_n hZ gCd_product_10 rfl ?_
      refine z_ishr hZ gCd_product_11 _ rfl ?_
      refine z_bipush hZ gCd_product_12 _ rfl ?_
      refine z_iand hZ gCd_product_14 _ (dg_sh ha hm8) ?_
      refine z_istore hZ gCd_product_15 rfl ?_
      refine z_iload_n hZ gCd_product_17 rfl ?_
      refine z_bipush hZ gCd_product_18 _ rfl ?_
      refine z_iconst hZ gCd_product_20 _ rfl ?_
      refine z_iload hZ gCd_product_21 rfl ?_
      refine z_imul hZ gCd_product_23 _ rfl ?_
      refine z_isub hZ gCd_product_24 _ (sh_t _ hd) ?_
      refine z_ishr hZ gCd_product_25 _ rfl ?_
      refine z_bipush hZ gCd_product_26 _ rfl ?_
      refine z_iand hZ gCd_product_28 _ (dg_sh hb hd) ?_
      refine z_istore hZ gCd_product_29 rfl ?_
      refine z_iload_n hZ gCd_product_31 rfl ?_
      refine z_iconst hZ gCd_product_32 _ rfl ?_
      refine z_ishl hZ gCd_product_33 _ rfl ?_
      refine z_iload hZ gCd_product_34 rfl ?_
      refine z_ior hZ gCd_product_36 _ (or8 (enc_small (fun _ => dg_lt _ _) hm8) (dg_lt _ _)) ?_
      refine z_istore_n hZ gCd_product_37 rfl ?_
      refine z_iinc hZ gCd_product_38 rfl _ (sh_s m hm8) rfl ?_
      refine z_goto hZ gCd_product_41 ?_
      exact ih (m + 1) (by omega) _ _
  refine z_iconst hZ gCd_product_0 _ rfl ?_
  refine z_istore_n hZ gCd_product_1 rfl ?_
  refine z_bipush hZ gCd_product_2 _ sh_0 ?_
  refine z_istore_n hZ gCd_product_4 rfl ?_
  exact loop 8 0 rfl _ _

theorem nx_or {a b : Nat} (ha : a < 2 ^ 32) (hb : b < 2 ^ 32) : nI a ||| nI b = nI (a ||| b) := by
  apply Int32.toBitVec_inj.mp
  apply BitVec.eq_of_toNat_eq
  rw [Int32.toBitVec_or, BitVec.toNat_or, pk_tn ha, pk_tn hb, pk_tn (Nat.or_lt_two_pow ha hb)]
def msk (c : Nat) : Nat → Nat
  | 0 => 0
  | m + 1 => msk c m ||| 2 ^ dg c m
theorem msk_bit (c : Nat) : ∀ m y : Nat, (msk c m).testBit y = true ↔ ∃ j, j < m ∧ dg c j = y
  | 0, y => by simp [msk]
  | m + 1, y => by
    rw [msk, Nat.testBit_or, Bool.or_eq_true, msk_bit c m y, Nat.testBit_two_pow]
    constructor
    · rintro (⟨j, h1, h2⟩ | h)
      · exact ⟨j, by omega, h2⟩
      · exact ⟨m, by omega, of_decide_eq_true h⟩
    · rintro ⟨j, h1, h2⟩
      by_cases e : j = m
      · subst e; exact Or.inr (decide_eq_true h2)
      · exact Or.inl ⟨j, by omega, h2⟩
theorem msk_lt (c : Nat) : ∀ m : Nat, msk c m < 2 ^ 8
  | 0 => by simp [msk]
  | m + 1 => Nat.or_lt_two_pow (msk_lt c m) (Nat.pow_lt_pow_right (by decide) (dg_lt c m))
theorem msk_255 (c : Nat) : msk c 8 = 255 ↔ ∀ x, x < 8 → ∀ y, y < 8 → dg c x = dg c y → x = y := by
  constructor
  · intro h x hx y hy e
    refine Classical.byContradiction fun hne => ?_
    have h1 : List.range 8 ⊆ ((List.range 8).erase x).map (dg c) := fun z hz => by
      have hz8 := List.mem_range.mp hz
      have h2 : (msk c 8).testBit z = true := by
        rw [h]
        have : ∀ z, z < 8 → Nat.testBit 255 z = true := by decide
        exact this z hz8
      obtain ⟨j, hj, hjz⟩ := (msk_bit c 8 z).mp h2
      by_cases e2 : j = x
      · exact List.mem_map.mpr ⟨y, (List.nodup_range.mem_erase_iff).mpr ⟨fun e3 => hne e3.symm, List.mem_range.mpr hy⟩, by rw [← e, ← e2]; exact hjz⟩
      · exact List.mem_map.mpr ⟨j, (List.nodup_range.mem_erase_iff).mpr ⟨e2, List.mem_range.mpr hj⟩, hjz⟩
    have h3 := List.nodup_range.length_le_of_subset h1
    rw [List.length_map, List.length_erase, List.length_range] at h3
    simp [hx] at h3
  · intro h
    apply Nat.eq_of_testBit_eq
    intro y
    by_cases hy : y < 8
    · have h1 : (msk c 8).testBit y = true := by
        refine (msk_bit c 8 y).mpr ?_
        have h2 : isP (c % 8 ^ 8) := ⟨Nat.mod_lt _ (by decide), fun u hu v hv e => by
          have hd : ∀ z, z < 8 → dg (c % 8 ^ 8) z = dg c z := fun z hz => by
            unfold dg
            have e1 : 8 ^ 8 = 8 ^ (7 - z) * 8 ^ (z + 1) := by rw [← Nat.pow_add]; congr 1; omega
            rw [e1, Nat.mod_mul_right_div_self, Nat.pow_succ, Nat.mod_mul_left_mod]
          rw [hd u hu, hd v hv] at e
          exact h u hu v hv e⟩
        obtain ⟨x, hx, e⟩ := isP_on h2 hy
        refine ⟨x, hx, ?_⟩
        have hd : dg (c % 8 ^ 8) x = dg c x := by
          unfold dg
          have e1 : 8 ^ 8 = 8 ^ (7 - x) * 8 ^ (x + 1) := by rw [← Nat.pow_add]; congr 1; omega
          rw [e1, Nat.mod_mul_right_div_self, Nat.pow_succ, Nat.mod_mul_left_mod]
        rw [← hd]; exact e
      have h2 : ∀ z, z < 8 → Nat.testBit 255 z = true := by decide
      rw [h1, h2 y hy]
    · have h1 : msk c 8 < 2 ^ y := Nat.lt_of_lt_of_le (msk_lt c 8) (Nat.pow_le_pow_right (by decide) (by omega))
      have h2 : 255 < 2 ^ y := Nat.lt_of_lt_of_le (show 255 < 2 ^ 8 by decide) (Nat.pow_le_pow_right (by decide) (by omega))
      rw [Nat.testBit_lt_two_pow h1, Nat.testBit_lt_two_pow h2]
theorem sh_1 : ∀ d, d < 8 → Int32.ofInt 1 <<< (nI d &&& 31) = nI (2 ^ d) := by decide +kernel
theorem msk_s (c : Nat) (m : Nat) : nI (msk c m) ||| nI (2 ^ dg c m) = nI (msk c (m + 1)) := nx_or (Nat.lt_trans (msk_lt c m) (by decide)) (Nat.lt_trans (Nat.pow_lt_pow_right (by decide) (dg_lt c m)) (by decide))
theorem i255 : (Int16.ofInt 255).toInt32 = nI 255 := by decide +kernel
theorem lim_ok : (8 : Nat) ^ 8 = 16777216 := by decide
-- an int that is the code of a permutation
def isC (x : Int32) : Prop := ∃ c, isP c ∧ x = nI c
theorem isC_neg {x : Int32} (h : x < 0) : ¬ isC x := fun ⟨c, hc, e⟩ => by
  rw [e] at h
  exact nI_pos (Nat.lt_trans hc.1 (by decide)) h
theorem isC_big {c : Nat} (hc : c < 2 ^ 31) (h : ¬ c < 8 ^ 8) : ¬ isC (nI c) := fun ⟨d, hd, e⟩ => by
  have := (nI_eq hc (Nat.lt_trans hd.1 (by decide))).mp e
  rw [this] at h
  exact h hd.1
theorem isC_iff {c : Nat} (hc : c < 8 ^ 8) : isC (nI c) ↔ msk c 8 = 255 := by
  rw [msk_255]
  constructor
  · rintro ⟨d, hd, e⟩
    have := (nI_eq (Nat.lt_trans hc (by decide)) (Nat.lt_trans hd.1 (by decide))).mp e
    rw [this]; exact hd.2
  · intro h; exact ⟨c, ⟨hc, h⟩, rfl⟩
-- a boolean answer
def ans (r : Option sx_V) (P : Prop) : Prop := (r = some (.inl 1) ∧ P) ∨ (r = some (.inl 0) ∧ ¬ P)
theorem ans_rt {P : sx_M → Prop} {Q : sx_M → Prop} : sx_rt (some .boolean) (fun r w' => ans r (P w') ∧ Q w') := by
  refine ⟨fun w' h => ?_, fun x w' h => ?_⟩
  · have h1 : ans none (P w') := h.1
    rcases h1 with ⟨h2, _⟩ | ⟨h2, _⟩ <;> cases h2
  · have h1 : ans (some (.inl x)) (P w') := h.1
    rcases h1 with ⟨h2, _⟩ | ⟨h2, _⟩
    · right; cases h2; rfl
    · left; cases h2; rfl

set_option maxHeartbeats 4000000 in
set_option maxRecDepth 100000 in
theorem c_Cd_isPermutation (l : Launch) (D : va_G) (E : sx_E) (B : Nat) (A : Nat → Prop) (x : Int32) (w : sx_M) : sM l D E B A yCd_isPermutation prog_3_method_2_code 3 (some .boolean) 0 0 [.inl x] w (fun r w' => ans r (isC x) ∧ w' = w) := by
  refine sx_m0 (ls := lCd_isPermutation) (cs := noCalls) (by decide +kernel) kCd_isPermutation (fun pc i h1 h2 => sx_nc (ls := lCd_isPermutation) (by decide) pc i h1 h2) (by simp) ans_rt ?_
  intro Z hZ
  have loop : ∀ (c : Nat), c < 8 ^ 8 → x = nI c → ∀ n m, n + m = 8 → Z 17 [some (.inl x), some (.inl (nI (msk c m))), some (.inl (sh m))] [] w := by
    intro c hc hx n
    subst hx
    induction n with
    | zero =>
      intro m hm
      have hm8 : m = 8 := by omega
      subst hm8
      refine z_iload_n hZ gCd_isPermutation_17 rfl ?_
      refine z_iflt hZ gCd_isPermutation_18 (fun c18 => ?_) (fun c18 => absurd sh_8 c18)
      refine z_iload_n hZ gCd_isPermutation_38 rfl ?_
      refine z_sipush hZ gCd_isPermutation_39 _ i255 ?_
      refine z_cmpne hZ gCd_isPermutation_42 (fun c42 => ?_) (fun c42 => ?_)
      · have ct42 := c42
        refine z_iconst hZ gCd_isPermutation_49 _ rfl ?_
        refine z_iret hZ gCd_isPermutation_50 ?_
        have h9 := isC_iff hc
        first | exact ⟨Or.inr ⟨rfl, fun h => ct42 (by rw [h9.mp h])⟩, rfl⟩ | exact ⟨Or.inl ⟨rfl, h9.mpr ((nI_eq (Nat.lt_trans (msk_lt c 8) (by decide)) (by decide)).mp cf42)⟩, rfl⟩
      · have cf42 := c42
        refine z_iconst hZ gCd_isPermutation_45 _ rfl ?_
        refine z_goto hZ gCd_isPermutation_46 ?_
        refine z_iret hZ gCd_isPermutation_50 ?_
        have h9 := isC_iff hc
        first | exact ⟨Or.inr ⟨rfl, fun h => ct42 (by rw [h9.mp h])⟩, rfl⟩ | exact ⟨Or.inl ⟨rfl, h9.mpr ((nI_eq (Nat.lt_trans (msk_lt c 8) (by decide)) (by decide)).mp cf42)⟩, rfl⟩
    | succ n ih =>
      intro m hm
      have hm8 : m < 8 := by omega
      refine z_iload_n hZ gCd_isPermutation_17 rfl ?_
      refine z_iflt hZ gCd_isPermutation_18 (fun c18 => absurd c18 (sh_n m hm8)) (fun c18 => ?_)
      refine z_iload_n hZ gCd_isPermutation_21 rfl ?_
      refine z_iconst hZ gCd_isPermutation_22 _ rfl ?_
      refine z_iload_n hZ gCd_isPermutation_23 rfl ?_
      refine z_iload_n hZ gCd_isPermutation_24 rfl ?_
      refine z_ishr hZ gCd_isPermutation_25 _ rfl ?_
      refine z_bipush hZ gCd_isPermutation_26 _ rfl ?_
      refine z_iand hZ gCd_isPermutation_28 _ (dg_sh hc hm8) ?_
      refine z_ishl hZ gCd_isPermutation_29 _ (sh_1 _ (dg_lt c m)) ?_
      refine z_ior hZ gCd_isPermutation_30 _ (msk_s c m) ?_
      refine z_istore_n hZ gCd_isPermutation_31 rfl ?_
      refine z_iinc hZ gCd_isPermutation_32 rfl _ (sh_s m hm8) rfl ?_
      refine z_goto hZ gCd_isPermutation_35 ?_
      exact ih (m + 1) (by omega)
  refine z_iload_n hZ gCd_isPermutation_0 rfl ?_
  refine z_iflt hZ gCd_isPermutation_1 (fun c1 => ?_) (fun c1 => ?_)
  · have ct1 := c1
    refine z_iconst hZ gCd_isPermutation_10 _ rfl ?_
    refine z_iret hZ gCd_isPermutation_11 ?_
    first | exact ⟨Or.inr ⟨rfl, isC_neg ct1⟩, rfl⟩ | exact ⟨Or.inr ⟨rfl, by rw [hx]; exact isC_big hc hc8⟩, rfl⟩
  · have cf1 := c1
    refine z_iload_n hZ gCd_isPermutation_4 rfl ?_
    refine z_ldc hZ gCd_isPermutation_5 ?_
    refine z_cmplt hZ gCd_isPermutation_7 (fun c7 => ?_) (fun c7 => ?_)
    · have ct7 := c7
      have ⟨c, hc, hx⟩ := nI_of cf1
      have hc8 : c < 8 ^ 8 := by rw [hx] at ct7; exact (nI_ltI hc (by decide)).mp ct7
      refine z_iconst hZ gCd_isPermutation_12 _ rfl ?_
      refine z_istore_n hZ gCd_isPermutation_13 rfl ?_
      refine z_bipush hZ gCd_isPermutation_14 _ sh_0 ?_
      refine z_istore_n hZ gCd_isPermutation_16 rfl ?_
      exact loop c hc8 hx 8 0 rfl
    · have cf7 := c7
      have ⟨c, hc, hx⟩ := nI_of cf1
      have hc8 : ¬ c < 8 ^ 8 := fun h9 => cf7 (by rw [hx]; exact (nI_ltI hc (by decide)).mpr h9)
      refine z_iconst hZ gCd_isPermutation_10 _ rfl ?_
      refine z_iret hZ gCd_isPermutation_11 ?_
      first | exact ⟨Or.inr ⟨rfl, isC_neg ct1⟩, rfl⟩ | exact ⟨Or.inr ⟨rfl, by rw [hx]; exact isC_big hc hc8⟩, rfl⟩

def bk (a : Nat) : Nat → Nat
  | 0 => 0
  | m + 1 => bk a m ||| m * 8 ^ (7 - dg a m)
theorem dg_or (a b y : Nat) : dg (a ||| b) y = dg a y ||| dg b y := by
  unfold dg
  have e : 8 ^ (7 - y) = 2 ^ (3 * (7 - y)) := by rw [Nat.pow_mul]
  rw [e, Nat.or_div_two_pow, show (8 : Nat) = 2 ^ 3 from rfl, Nat.or_mod_two_pow]
theorem dg_one : ∀ y, y < 8 → ∀ z, z < 8 → ∀ v, v < 8 → dg (v * 8 ^ (7 - y)) z = if z = y then v else 0 := by decide +kernel
theorem bk_lt (a : Nat) : ∀ m, m ≤ 8 → bk a m < 2 ^ 24
  | 0, _ => by simp [bk]
  | m + 1, h => Nat.or_lt_two_pow (bk_lt a m (by omega)) (by
      have h1 : ∀ v, v < 8 → ∀ y, y < 8 → v * 8 ^ (7 - y) < 2 ^ 24 := by decide +kernel
      exact h1 m (by omega) _ (dg_lt a m))
theorem bk_0 {a : Nat} : ∀ m, m ≤ 8 → ∀ y, y < 8 → (∀ j, j < m → dg a j ≠ y) → dg (bk a m) y = 0
  | 0, _, y, _, _ => by simp [bk, dg]
  | m + 1, hm, y, hy, h => by
    rw [bk, dg_or, bk_0 m (by omega) y hy (fun j hj => h j (by omega)), dg_one _ (dg_lt a m) y hy m (by omega), if_neg (fun e => h m (by omega) e.symm)]
    rfl
theorem bk_d {a : Nat} (ha : isP a) : ∀ m, m ≤ 8 → ∀ j, j < m → dg (bk a m) (dg a j) = j
  | 0, _, j, h => absurd h (Nat.not_lt_zero j)
  | m + 1, hm, j, hj => by
    rw [bk, dg_or, dg_one _ (dg_lt a m) _ (dg_lt a j) m (by omega)]
    by_cases e : j = m
    · subst e
      rw [bk_0 j (by omega) _ (dg_lt a j) (fun i hi e2 => by have := ha.2 i (by omega) j (by omega) e2; omega), if_pos rfl, Nat.zero_or]
    · rw [bk_d ha m (by omega) j (by omega), if_neg (fun e2 => e (ha.2 j (by omega) m (by omega) e2)), Nat.or_zero]
def piv (a : Nat) : Nat := bk a 8
theorem piv_ok {a : Nat} (ha : isP a) : pinv a (piv a) := ⟨bk_lt a 8 (by decide), fun x hx => bk_d ha 8 (by decide) x hx⟩
theorem sh_2 : ∀ m, m < 8 → ∀ d, d < 8 → nI m <<< (sh d &&& 31) = nI (m * 8 ^ (7 - d)) := by decide +kernel
theorem bk_s (a : Nat) {m : Nat} (hm : m < 8) : nI (bk a m) ||| nI (m * 8 ^ (7 - dg a m)) = nI (bk a (m + 1)) := nx_or (Nat.lt_trans (bk_lt a m (by omega)) (by decide)) (by
  have h1 : ∀ v, v < 8 → ∀ y, y < 8 → v * 8 ^ (7 - y) < 2 ^ 32 := by decide +kernel
  exact h1 m hm _ (dg_lt a m))
theorem i7 : (Int8.ofInt 7).toInt32 = nI 7 := by decide +kernel
theorem i1 (m : Nat) : nI m + Int32.ofInt 1 = nI (m + 1) := nI_1 m

set_option maxHeartbeats 4000000 in
set_option maxRecDepth 100000 in
theorem c_Cd_inverse (l : Launch) (D : va_G) (E : sx_E) (B : Nat) (A : Nat → Prop) {a : Nat} (ha : isP a) (w : sx_M) : sM l D E B A yCd_inverse prog_3_method_4_code 4 (some .int) 0 0 [.inl (nI a)] w (fun r w' => r = some (.inl (nI (piv a))) ∧ w' = w) := by
  refine sx_m0 (ls := lCd_inverse) (cs := noCalls) (by decide +kernel) kCd_inverse (fun pc i h1 h2 => sx_nc (ls := lCd_inverse) (by decide) pc i h1 h2) (by simp) (fun w' h => by cases h.1) ?_
  intro Z hZ
  have loop : ∀ n m, n + m = 8 → ∀ x3, Z 4 [some (.inl (nI a)), some (.inl (nI (bk a m))), some (.inl (nI m)), x3] [] w := by
    intro n
    induction n with
    | zero =>
      intro m hm x3
      have hm8 : m = 8 := by omega
      subst hm8
      refine z_iload_n hZ gCd_inverse_4 rfl ?_
      refine z_bipush hZ gCd_inverse_5 _ i7 ?_
      refine z_cmpgt hZ gCd_inverse_7 (fun c7 => ?_) (fun c7 => absurd (show nI 7 < nI 8 by decide +kernel) c7)
      refine z_iload_n hZ gCd_inverse_39 rfl ?_
      refine z_iret hZ gCd_inverse_40 ?_
      exact ⟨rfl, rfl⟩
    | succ n ih =>
      intro m hm x3
      have hm8 : m < 8 := by omega
      have hd := dg_lt a m
      refine z_iload_n hZ gCd_inverse_4 rfl ?_
      refine z_bipush hZ gCd_inverse_5 _ i7 ?_
      refine z_cmpgt hZ gCd_inverse_7 (fun c7 => absurd c7 (nI_nlt (by omega) (by decide))) (fun c7 => ?_)
      refine z_iload_n hZ gCd_inverse_10 rfl ?_
      refine z_bipush hZ gCd_inverse_11 _ rfl ?_
      refine z_iconst hZ gCd_inverse_13 _ rfl ?_
      refine z_iload_n hZ gCd_inverse_14 rfl ?_
      refine z_imul hZ gCd_inverse_15 _ rfl ?_
      refine z_isub hZ gCd_inverse_16 _ (sh_t _ hm8) ?_
      refine z_ishr hZ gCd_inverse_17 _ rfl ?_
      refine z_bipush hZ gCd_inverse_18 _ rfl ?_
      refine z_iand hZ gCd_inverse_20 _ (dg_sh ha.1 hm8) ?_
      refine z_istore_n hZ gCd_inverse_21 rfl ?_
      refine z_iload_n hZ gCd_inverse_22 rfl ?_
      refine z_iload_n hZ gCd_inverse_23 rfl ?_
      refine z_bipush hZ gCd_inverse_24 _ rfl ?_
      refine z_iconst hZ gCd_inverse_26 _ rfl ?_
      refine z_iload_n hZ gCd_inverse_27 rfl ?_
      refine z_imul hZ gCd_inverse_28 _ rfl ?_
      refine z_isub hZ gCd_inverse_29 _ (sh_t _ hd) ?_
      refine z_ishl hZ gCd_inverse_30 _ (sh_2 m hm8 _ hd) ?_
      refine z_ior hZ gCd_inverse_31 _ (bk_s a hm8) ?_
      refine z_istore_n hZ gCd_inverse_32 rfl ?_
      refine z_iinc hZ gCd_inverse_33 rfl _ (i1 m) rfl ?_
      refine z_goto hZ gCd_inverse_36 ?_
      exact ih (m + 1) (by omega) _
  refine z_iconst hZ gCd_inverse_0 _ rfl ?_
  refine z_istore_n hZ gCd_inverse_1 rfl ?_
  refine z_iconst hZ gCd_inverse_2 _ rfl ?_
  refine z_istore_n hZ gCd_inverse_3 rfl ?_
  exact loop 8 0 rfl _
end
section
set_option maxHeartbeats 4000000 in
set_option maxRecDepth 100000 in
theorem c_Ma_max (l : Launch) (D : va_G) (E : sx_E) (B : Nat) (A : Nat → Prop) (x y : Int32) (w : sx_M) : sM l D E B A yMa_max prog_10_method_65_code 2 (some .int) 0 0 [.inl x, .inl y] w (fun r w' => r = some (.inl (if x < y then y else x)) ∧ w' = w) := by
  refine sx_m0 (ls := lMa_max) (cs := noCalls) (by decide +kernel) kMa_max (fun pc i h1 h2 => sx_nc (ls := lMa_max) (by decide) pc i h1 h2) (by simp) (fun w' h => by cases h.1) ?_
  intro Z hZ
  refine z_iload_n hZ gMa_max_0 rfl ?_
  refine z_iload_n hZ gMa_max_1 rfl ?_
  refine z_cmplt hZ gMa_max_2 (fun c2 => ?_) (fun c2 => ?_)
  · have ct2 := c2
    refine z_iload_n hZ gMa_max_9 rfl ?_
    refine z_iret hZ gMa_max_10 ?_
    first | exact ⟨by rw [if_pos ct2], rfl⟩ | exact ⟨by rw [if_neg cf2], rfl⟩
  · have cf2 := c2
    refine z_iload_n hZ gMa_max_5 rfl ?_
    refine z_goto hZ gMa_max_6 ?_
    refine z_iret hZ gMa_max_10 ?_
    first | exact ⟨by rw [if_pos ct2], rfl⟩ | exact ⟨by rw [if_neg cf2], rfl⟩

-- the remainder as a number from 0 on
theorem fm_rem {x : Int32} {p : Nat} (hp : 0 < p) (hp2 : p < 2 ^ 31) : (x - x / nI p * nI p).toInt = x.toInt.tmod (p : Int) := by
  have hpt := nI_toInt hp2
  have hx1 := x.toInt_lt
  have hx2 := x.le_toInt
  have hm := Int.tmod_add_tdiv_mul x.toInt (p : Int)
  have h3 := Int.tmod_lt_of_pos x.toInt (show (0 : Int) < (p : Int) by omega)
  have h4 := Int.lt_tmod_of_pos x.toInt (show (0 : Int) < (p : Int) by omega)
  have hs : (0 ≤ x.toInt → 0 ≤ x.toInt.tmod (p : Int) ∧ 0 ≤ x.toInt.tdiv (p : Int)) ∧ (x.toInt ≤ 0 → x.toInt.tmod (p : Int) ≤ 0 ∧ x.toInt.tdiv (p : Int) ≤ 0) := by
    refine ⟨fun h => ⟨Int.tmod_nonneg _ h, Int.tdiv_nonneg h (by omega)⟩, fun h => ?_⟩
    have h5 : 0 ≤ -x.toInt := by omega
    have h6 := Int.tmod_nonneg (p : Int) h5
    have h7 := Int.tdiv_nonneg h5 (show (0 : Int) ≤ (p : Int) by omega)
    rw [Int.neg_tmod] at h6
    rw [Int.neg_tdiv] at h7
    omega
  generalize hq : x.toInt.tdiv (p : Int) = q at *
  generalize ht : x.toInt.tmod (p : Int) = t at *
  have hq1 : -(2 ^ 31) ≤ q ∧ q < 2 ^ 31 := by
    rcases Int.le_total 0 x.toInt with h | h
    · have h8 := (hs.1 h).2
      have h9 : q * 1 ≤ q * (p : Int) := Int.mul_le_mul_of_nonneg_left (by omega) h8
      have := (hs.1 h).1
      omega
    · have h8 := (hs.2 h).2
      have h9 : q * (p : Int) ≤ q * 1 := Int.mul_le_mul_of_nonpos_left h8 (by omega)
      have := (hs.2 h).1
      omega
  have hqp : -(2 ^ 31) ≤ q * (p : Int) ∧ q * (p : Int) < 2 ^ 31 := by
    rcases Int.le_total 0 x.toInt with h | h
    · have h8 := hs.1 h
      have h9 : 0 ≤ q * (p : Int) := Int.mul_nonneg h8.2 (by omega)
      omega
    · have h8 := hs.2 h
      have h9 : q * (p : Int) ≤ 0 := Int.mul_nonpos_of_nonpos_of_nonneg h8.2 (by omega)
      omega
  have e1 : (x / nI p).toInt = q := by
    rw [Int32.toInt_div, hpt, hq]
    exact Int.bmod_eq_of_le (by omega) (by omega)
  have e2 : (x / nI p * nI p).toInt = q * (p : Int) := by
    rw [Int32.toInt_mul, e1, hpt]
    exact Int.bmod_eq_of_le (by omega) (by omega)
  rw [Int32.toInt_sub, e2]
  have e3 : x.toInt - q * (p : Int) = t := by omega
  rw [e3]
  exact Int.bmod_eq_of_le (by omega) (by omega)
theorem fm_nI {x : Int32} {n : Nat} (h : x.toInt = (n : Int)) : x = nI n := by
  have hx1 := x.toInt_lt
  apply Int32.toInt_inj.mp
  rw [h, nI_toInt (by omega)]
theorem fm_sg {x : Int32} {p : Nat} (hp2 : p < 2 ^ 31) : 0 ≤ x ^^^ nI p ↔ 0 ≤ x.toInt := by
  rw [Int32.le_iff_toInt_le, Int32.toInt_zero]
  have h1 : ∀ y : Int32, 0 ≤ y.toInt ↔ y.toBitVec.msb = false := fun y => by
    have : y.toInt = y.toBitVec.toInt := rfl
    rw [this, BitVec.toInt_eq_msb_cond]
    cases hm : y.toBitVec.msb with
    | false => simp
    | true =>
      have := y.toBitVec.isLt
      simp
      omega
  rw [h1, h1, Int32.toBitVec_xor, BitVec.msb_xor]
  have h2 : (nI p).toBitVec.msb = false := (h1 (nI p)).mp (by rw [nI_toInt hp2]; omega)
  rw [h2]
  simp

set_option maxHeartbeats 4000000 in
set_option maxRecDepth 100000 in
theorem c_Ma_floorMod (l : Launch) (D : va_G) (E : sx_E) (B : Nat) (A : Nat → Prop) (x : Int32) {p : Nat} (hp : 0 < p) (hp2 : p < 2 ^ 31) (w : sx_M) : sM l D E B A yMa_floorMod prog_10_method_50_code 3 (some .int) 0 0 [.inl x, .inl (nI p)] w (fun r w' => r = some (.inl (nI (x.toInt % (p : Int)).toNat)) ∧ w' = w) := by
  refine sx_m0 (ls := lMa_floorMod) (cs := noCalls) (by decide +kernel) kMa_floorMod (fun pc i h1 h2 => sx_nc (ls := lMa_floorMod) (by decide) pc i h1 h2) (by simp) (fun w' h => by cases h.1) ?_
  intro Z hZ
  refine z_iload_n hZ gMa_floorMod_0 rfl ?_
  refine z_iload_n hZ gMa_floorMod_1 rfl ?_
  refine z_irem hZ gMa_floorMod_2 (nI_ne0 hp hp2) _ rfl ?_
  refine z_istore_n hZ gMa_floorMod_3 rfl ?_
  refine z_iload_n hZ gMa_floorMod_4 rfl ?_
  refine z_iload_n hZ gMa_floorMod_5 rfl ?_
  refine z_ixor hZ gMa_floorMod_6 _ rfl ?_
  refine z_ifge hZ gMa_floorMod_7 (fun c7 => ?_) (fun c7 => ?_)
  · have ct7 := c7
    refine z_iload_n hZ gMa_floorMod_18 rfl ?_
    refine z_iret hZ gMa_floorMod_19 ?_
    refine ⟨congrArg (fun v => some (Sum.inl v)) (fm_nI ?_), rfl⟩
    have h1 := fm_rem (x := x) hp hp2
    have h3 := Int.emod_nonneg x.toInt (show (p : Int) ≠ 0 by omega)
    first
      | (rw [ct11, Int32.toInt_zero] at h1
         have h4 : x.toInt % (p : Int) = 0 := Int.emod_eq_zero_of_dvd (Int.dvd_of_tmod_eq_zero h1.symm)
         rw [h4, ct11]; rfl)
      | (have h2 : x.toInt.tmod (p : Int) = x.toInt % (p : Int) := Int.tmod_eq_emod_of_nonneg ((fm_sg hp2).mp ct7)
         rw [h1, h2]; omega)
  · have cf7 := c7
    refine z_iload_n hZ gMa_floorMod_10 rfl ?_
    refine z_ifeq hZ gMa_floorMod_11 (fun c11 => ?_) (fun c11 => ?_)
    · have ct11 := c11
      refine z_iload_n hZ gMa_floorMod_18 rfl ?_
      refine z_iret hZ gMa_floorMod_19 ?_
      refine ⟨congrArg (fun v => some (Sum.inl v)) (fm_nI ?_), rfl⟩
      have h1 := fm_rem (x := x) hp hp2
      have h3 := Int.emod_nonneg x.toInt (show (p : Int) ≠ 0 by omega)
      first
        | (rw [ct11, Int32.toInt_zero] at h1
           have h4 : x.toInt % (p : Int) = 0 := Int.emod_eq_zero_of_dvd (Int.dvd_of_tmod_eq_zero h1.symm)
           rw [h4, ct11]; rfl)
        | (have h2 : x.toInt.tmod (p : Int) = x.toInt % (p : Int) := Int.tmod_eq_emod_of_nonneg ((fm_sg hp2).mp ct7)
           rw [h1, h2]; omega)
    · have cf11 := c11
      refine z_iload_n hZ gMa_floorMod_14 rfl ?_
      refine z_iload_n hZ gMa_floorMod_15 rfl ?_
      refine z_iadd hZ gMa_floorMod_16 _ rfl ?_
      refine z_iret hZ gMa_floorMod_17 ?_
      refine ⟨congrArg (fun v => some (Sum.inl v)) (fm_nI ?_), rfl⟩
      have h0 : ¬ 0 ≤ x.toInt := fun h => cf7 ((fm_sg hp2).mpr h)
      have h1 := fm_rem (x := x) hp hp2
      have h3 := Int.tmod_lt_of_pos x.toInt (show (0 : Int) < (p : Int) by omega)
      have h4 := Int.lt_tmod_of_pos x.toInt (show (0 : Int) < (p : Int) by omega)
      have h5 : ¬ x.toInt.tmod (p : Int) = 0 := fun h9 => cf11 (by apply Int32.toInt_inj.mp; rw [h1, h9, Int32.toInt_zero])
      have h6 : x.toInt % (p : Int) = x.toInt.tmod (p : Int) + (p : Int) := by
        have h7 := Int.tmod_eq_emod (a := x.toInt) (b := (p : Int))
        have h8 := Int.emod_nonneg x.toInt (show (p : Int) ≠ 0 by omega)
        rw [if_neg] at h7
        · have : ((p : Int).natAbs : Int) = (p : Int) := by omega
          omega
        · rintro (h9 | h9)
          · exact h0 h9
          · exact h5 (Int.tmod_eq_zero_of_dvd h9)
      have h10 : x.toInt.tmod (p : Int) ≤ 0 := by
        have h11 := Int.tmod_nonneg (p : Int) (show 0 ≤ -x.toInt by omega)
        rw [Int.neg_tmod] at h11
        omega
      rw [Int32.toInt_add, h1, nI_toInt hp2, h6, Int.bmod_eq_of_le (by omega) (by omega)]
      omega

def fl (v : Int32) (i : Nat) (f : Nat → Int32) : Nat → Int32 := fun j => if j < i then v else f j
theorem fl_s (v : Int32) (i : Nat) (f : Nat → Int32) : upd (fl v i f) i v = fl v (i + 1) f := by
  funext j
  by_cases e : j = i
  · subst e; rw [pk_us]; simp [fl]
  · rw [pk_un e]; simp only [fl]
    by_cases h : j < i
    · rw [if_pos h, if_pos (by omega)]
    · rw [if_neg h, if_neg (by omega)]
theorem fl_0 (v : Int32) (f : Nat → Int32) : fl v 0 f = f := by funext j; simp [fl]
theorem va_uu {α : Type} (f : Nat → α) (k : Nat) (v w : α) : va_up (va_up f k v) k w = va_up f k w := bx_uu f k v w
theorem va_id {α : Type} (f : Nat → α) {k : Nat} {v : α} (h : f k = v) : va_up f k v = f := by
  funext j
  by_cases e : j = k
  · subst e; rw [va_up_self, h]
  · rw [va_up_ne f v e]

set_option maxHeartbeats 4000000 in
set_option maxRecDepth 100000 in
theorem c_Ar_fill (l : Launch) (D : va_G) (E : sx_E) (B : Nat) (A : Nat → Prop) {n N : Nat} {f : Nat → Int32} (hn : n < B) (hN : N < 2 ^ 31) (v : Int32) (w : sx_M) (hw : w n = .inl (N, f)) : sM l D E B A yAr_fill prog_12_method_103_code 4 none 0 0 [.inr (n, 0), .inl v] w (fun r w' => r = none ∧ w' = va_up w n (.inl (N, fl v N f))) := by
  refine sx_m0 (ls := lAr_fill) (cs := noCalls) (by decide +kernel) kAr_fill (fun pc i h1 h2 => sx_nc (ls := lAr_fill) (by decide) pc i h1 h2) (by simp) (fun x w' h => by cases h.1) ?_
  intro Z hZ
  have loop : ∀ m i, m + i = N → Z 5 [some (.inr (n, 0)), some (.inl v), some (.inl (nI i)), some (.inl (nI N))] [] (va_up w n (.inl (N, fl v i f))) := by
    intro m
    induction m with
    | zero =>
      intro i hi
      have e : i = N := by omega
      subst e
      refine z_iload_n hZ gAr_fill_5 rfl ?_
      refine z_iload_n hZ gAr_fill_6 rfl ?_
      refine z_cmpge hZ gAr_fill_7 (fun c7 => ?_) (fun c7 => absurd (nI_le (Nat.le_refl i) hN) c7)
      refine z_vret hZ gAr_fill_20 ?_
      exact ⟨rfl, rfl⟩
    | succ m ih =>
      intro i hi
      refine z_iload_n hZ gAr_fill_5 rfl ?_
      refine z_iload_n hZ gAr_fill_6 rfl ?_
      refine z_cmpge hZ gAr_fill_7 (fun c7 => absurd c7 (nI_ge (by omega) hN)) (fun c7 => ?_)
      refine z_aload_n hZ gAr_fill_10 rfl ?_
      refine z_iload_n hZ gAr_fill_11 rfl ?_
      refine z_iload_n hZ gAr_fill_12 rfl ?_
      refine z_iast hZ gAr_fill_13 hn (va_up_self _ _ _) (vp_in_nI (by omega) hN) ?_
      rw [nI_clamp (by omega), fl_s, va_uu]
      refine z_iinc hZ gAr_fill_14 rfl _ (i1 i) rfl ?_
      refine z_goto hZ gAr_fill_17 ?_
      exact ih (i + 1) (by omega)
  refine z_iconst hZ gAr_fill_0 _ rfl ?_
  refine z_istore_n hZ gAr_fill_1 rfl ?_
  refine z_aload_n hZ gAr_fill_2 rfl ?_
  refine z_alen hZ gAr_fill_3 hn hw ?_
  refine z_istore_n hZ gAr_fill_4 rfl ?_
  have h9 := loop N 0 rfl
  rw [fl_0, va_id w hw] at h9
  exact h9
end
section
-- the states: arrays, grids and numbers of an object of the checked program (cells 0 to 28), and of the reference (cells 0 to 10)
abbrev sA : Type := Nat → Nat → Int32
abbrev sG : Type := Nat → Nat → Nat → Int32
def cW (a : sA) (g : sG) (i : sA) : sx_M := fun n => match n with
  | 0 => .inr (.inr (0, [.inr (1, 0), .inl (i 0 1), .inl (i 0 2), .inr (2, 0), .inr (5, 0), .inr (12, 0), .inr (13, 0), .inr (22, 0)]))
  | 1 => .inl (4, a 1)
  | 2 => .inr (.inr (1, [.inr (3, 0), .inr (4, 0), .inl (i 2 2)]))
  | 3 => .inl (120, a 3)
  | 4 => .inl (120, a 4)
  | 5 => .inr (.inr (2, [.inl (i 5 0), .inr (6, 0), .inr (7, 0), .inr (8, 0), .inr (9, 0), .inr (10, 0), .inl (i 5 6), .inr (11, 0)]))
  | 6 => .inl (120, a 6)
  | 7 => .inl (16, a 7)
  | 8 => .inl (16, a 8)
  | 9 => .inr (.inl (16, 120, g 9))
  | 10 => .inl (16, a 10)
  | 11 => .inl (4096, a 11)
  | 12 => .inr (.inr (3, [.inl (i 12 0), .inl (i 12 1)]))
  | 13 => .inr (.inr (4, [.inl (i 13 0), .inr (14, 0), .inr (15, 0), .inr (16, 0), .inr (17, 0), .inr (18, 0), .inr (19, 0), .inr (20, 0), .inr (21, 0)]))
  | 14 => .inr (.inl (16, 16, g 14))
  | 15 => .inl (16, a 15)
  | 16 => .inl (16, a 16)
  | 17 => .inr (.inl (16, 16, g 17))
  | 18 => .inl (16, a 18)
  | 19 => .inr (.inl (16, 16, g 19))
  | 20 => .inr (.inl (16, 16, g 20))
  | 21 => .inl (16, a 21)
  | 22 => .inr (.inr (5, [.inl (i 22 0), .inr (23, 0), .inr (24, 0), .inr (25, 0), .inr (26, 0), .inr (27, 0), .inr (28, 0), .inl (i 22 7)]))
  | 23 => .inl (16, a 23)
  | 24 => .inr (.inl (16, 16, g 24))
  | 25 => .inl (16, a 25)
  | 26 => .inl (16, a 26)
  | 27 => .inl (16, a 27)
  | 28 => .inl (128, a 28)
  | _ => .inl (0, fun _ => 0)
theorem cW_i0_1 {a : sA} {g : sG} {i : sA} {x : Int32} : va_up (cW a g i) 0 (.inr (.inr (0, [.inr (1, 0), .inl x, .inl (i 0 2), .inr (2, 0), .inr (5, 0), .inr (12, 0), .inr (13, 0), .inr (22, 0)]))) = cW a g (va_up i 0 (va_up (i 0) 1 x)) := by
  funext k
  by_cases e : k = 0
  · subst e; rw [va_up_self]; simp [cW, va_up]
  · rw [va_up_ne _ _ e]; unfold cW; split <;> first | exact absurd rfl e | rfl | simp [va_up]
theorem cW_i0_2 {a : sA} {g : sG} {i : sA} {x : Int32} : va_up (cW a g i) 0 (.inr (.inr (0, [.inr (1, 0), .inl (i 0 1), .inl x, .inr (2, 0), .inr (5, 0), .inr (12, 0), .inr (13, 0), .inr (22, 0)]))) = cW a g (va_up i 0 (va_up (i 0) 2 x)) := by
  funext k
  by_cases e : k = 0
  · subst e; rw [va_up_self]; simp [cW, va_up]
  · rw [va_up_ne _ _ e]; unfold cW; split <;> first | exact absurd rfl e | rfl | simp [va_up]
theorem cW_a1 {a : sA} {g : sG} {i : sA} {f : Nat → Int32} : va_up (cW a g i) 1 (.inl (4, f)) = cW (va_up a 1 f) g i := by
  funext k
  by_cases e : k = 1
  · subst e; rw [va_up_self]; simp [cW, va_up]
  · rw [va_up_ne _ _ e]; unfold cW; split <;> first | exact absurd rfl e | rfl | simp [va_up]
theorem cW_i2_2 {a : sA} {g : sG} {i : sA} {x : Int32} : va_up (cW a g i) 2 (.inr (.inr (1, [.inr (3, 0), .inr (4, 0), .inl x]))) = cW a g (va_up i 2 (va_up (i 2) 2 x)) := by
  funext k
  by_cases e : k = 2
  · subst e; rw [va_up_self]; simp [cW, va_up]
  · rw [va_up_ne _ _ e]; unfold cW; split <;> first | exact absurd rfl e | rfl | simp [va_up]
theorem cW_a3 {a : sA} {g : sG} {i : sA} {f : Nat → Int32} : va_up (cW a g i) 3 (.inl (120, f)) = cW (va_up a 3 f) g i := by
  funext k
  by_cases e : k = 3
  · subst e; rw [va_up_self]; simp [cW, va_up]
  · rw [va_up_ne _ _ e]; unfold cW; split <;> first | exact absurd rfl e | rfl | simp [va_up]
theorem cW_a4 {a : sA} {g : sG} {i : sA} {f : Nat → Int32} : va_up (cW a g i) 4 (.inl (120, f)) = cW (va_up a 4 f) g i := by
  funext k
  by_cases e : k = 4
  · subst e; rw [va_up_self]; simp [cW, va_up]
  · rw [va_up_ne _ _ e]; unfold cW; split <;> first | exact absurd rfl e | rfl | simp [va_up]
theorem cW_i5_0 {a : sA} {g : sG} {i : sA} {x : Int32} : va_up (cW a g i) 5 (.inr (.inr (2, [.inl x, .inr (6, 0), .inr (7, 0), .inr (8, 0), .inr (9, 0), .inr (10, 0), .inl (i 5 6), .inr (11, 0)]))) = cW a g (va_up i 5 (va_up (i 5) 0 x)) := by
  funext k
  by_cases e : k = 5
  · subst e; rw [va_up_self]; simp [cW, va_up]
  · rw [va_up_ne _ _ e]; unfold cW; split <;> first | exact absurd rfl e | rfl | simp [va_up]
theorem cW_i5_6 {a : sA} {g : sG} {i : sA} {x : Int32} : va_up (cW a g i) 5 (.inr (.inr (2, [.inl (i 5 0), .inr (6, 0), .inr (7, 0), .inr (8, 0), .inr (9, 0), .inr (10, 0), .inl x, .inr (11, 0)]))) = cW a g (va_up i 5 (va_up (i 5) 6 x)) := by
  funext k
  by_cases e : k = 5
  · subst e; rw [va_up_self]; simp [cW, va_up]
  · rw [va_up_ne _ _ e]; unfold cW; split <;> first | exact absurd rfl e | rfl | simp [va_up]
theorem cW_a6 {a : sA} {g : sG} {i : sA} {f : Nat → Int32} : va_up (cW a g i) 6 (.inl (120, f)) = cW (va_up a 6 f) g i := by
  funext k
  by_cases e : k = 6
  · subst e; rw [va_up_self]; simp [cW, va_up]
  · rw [va_up_ne _ _ e]; unfold cW; split <;> first | exact absurd rfl e | rfl | simp [va_up]
theorem cW_a7 {a : sA} {g : sG} {i : sA} {f : Nat → Int32} : va_up (cW a g i) 7 (.inl (16, f)) = cW (va_up a 7 f) g i := by
  funext k
  by_cases e : k = 7
  · subst e; rw [va_up_self]; simp [cW, va_up]
  · rw [va_up_ne _ _ e]; unfold cW; split <;> first | exact absurd rfl e | rfl | simp [va_up]
theorem cW_a8 {a : sA} {g : sG} {i : sA} {f : Nat → Int32} : va_up (cW a g i) 8 (.inl (16, f)) = cW (va_up a 8 f) g i := by
  funext k
  by_cases e : k = 8
  · subst e; rw [va_up_self]; simp [cW, va_up]
  · rw [va_up_ne _ _ e]; unfold cW; split <;> first | exact absurd rfl e | rfl | simp [va_up]
theorem cW_g9 {a : sA} {g : sG} {i : sA} {f : Nat → Nat → Int32} : va_up (cW a g i) 9 (.inr (.inl (16, 120, f))) = cW a (va_up g 9 f) i := by
  funext k
  by_cases e : k = 9
  · subst e; rw [va_up_self]; simp [cW, va_up]
  · rw [va_up_ne _ _ e]; unfold cW; split <;> first | exact absurd rfl e | rfl | simp [va_up]
theorem cW_a10 {a : sA} {g : sG} {i : sA} {f : Nat → Int32} : va_up (cW a g i) 10 (.inl (16, f)) = cW (va_up a 10 f) g i := by
  funext k
  by_cases e : k = 10
  · subst e; rw [va_up_self]; simp [cW, va_up]
  · rw [va_up_ne _ _ e]; unfold cW; split <;> first | exact absurd rfl e | rfl | simp [va_up]
theorem cW_a11 {a : sA} {g : sG} {i : sA} {f : Nat → Int32} : va_up (cW a g i) 11 (.inl (4096, f)) = cW (va_up a 11 f) g i := by
  funext k
  by_cases e : k = 11
  · subst e; rw [va_up_self]; simp [cW, va_up]
  · rw [va_up_ne _ _ e]; unfold cW; split <;> first | exact absurd rfl e | rfl | simp [va_up]
theorem cW_i12_0 {a : sA} {g : sG} {i : sA} {x : Int32} : va_up (cW a g i) 12 (.inr (.inr (3, [.inl x, .inl (i 12 1)]))) = cW a g (va_up i 12 (va_up (i 12) 0 x)) := by
  funext k
  by_cases e : k = 12
  · subst e; rw [va_up_self]; simp [cW, va_up]
  · rw [va_up_ne _ _ e]; unfold cW; split <;> first | exact absurd rfl e | rfl | simp [va_up]
theorem cW_i12_1 {a : sA} {g : sG} {i : sA} {x : Int32} : va_up (cW a g i) 12 (.inr (.inr (3, [.inl (i 12 0), .inl x]))) = cW a g (va_up i 12 (va_up (i 12) 1 x)) := by
  funext k
  by_cases e : k = 12
  · subst e; rw [va_up_self]; simp [cW, va_up]
  · rw [va_up_ne _ _ e]; unfold cW; split <;> first | exact absurd rfl e | rfl | simp [va_up]
theorem cW_i13_0 {a : sA} {g : sG} {i : sA} {x : Int32} : va_up (cW a g i) 13 (.inr (.inr (4, [.inl x, .inr (14, 0), .inr (15, 0), .inr (16, 0), .inr (17, 0), .inr (18, 0), .inr (19, 0), .inr (20, 0), .inr (21, 0)]))) = cW a g (va_up i 13 (va_up (i 13) 0 x)) := by
  funext k
  by_cases e : k = 13
  · subst e; rw [va_up_self]; simp [cW, va_up]
  · rw [va_up_ne _ _ e]; unfold cW; split <;> first | exact absurd rfl e | rfl | simp [va_up]
theorem cW_g14 {a : sA} {g : sG} {i : sA} {f : Nat → Nat → Int32} : va_up (cW a g i) 14 (.inr (.inl (16, 16, f))) = cW a (va_up g 14 f) i := by
  funext k
  by_cases e : k = 14
  · subst e; rw [va_up_self]; simp [cW, va_up]
  · rw [va_up_ne _ _ e]; unfold cW; split <;> first | exact absurd rfl e | rfl | simp [va_up]
theorem cW_a15 {a : sA} {g : sG} {i : sA} {f : Nat → Int32} : va_up (cW a g i) 15 (.inl (16, f)) = cW (va_up a 15 f) g i := by
  funext k
  by_cases e : k = 15
  · subst e; rw [va_up_self]; simp [cW, va_up]
  · rw [va_up_ne _ _ e]; unfold cW; split <;> first | exact absurd rfl e | rfl | simp [va_up]
theorem cW_a16 {a : sA} {g : sG} {i : sA} {f : Nat → Int32} : va_up (cW a g i) 16 (.inl (16, f)) = cW (va_up a 16 f) g i := by
  funext k
  by_cases e : k = 16
  · subst e; rw [va_up_self]; simp [cW, va_up]
  · rw [va_up_ne _ _ e]; unfold cW; split <;> first | exact absurd rfl e | rfl | simp [va_up]
theorem cW_g17 {a : sA} {g : sG} {i : sA} {f : Nat → Nat → Int32} : va_up (cW a g i) 17 (.inr (.inl (16, 16, f))) = cW a (va_up g 17 f) i := by
  funext k
  by_cases e : k = 17
  · subst e; rw [va_up_self]; simp [cW, va_up]
  · rw [va_up_ne _ _ e]; unfold cW; split <;> first | exact absurd rfl e | rfl | simp [va_up]
theorem cW_a18 {a : sA} {g : sG} {i : sA} {f : Nat → Int32} : va_up (cW a g i) 18 (.inl (16, f)) = cW (va_up a 18 f) g i := by
  funext k
  by_cases e : k = 18
  · subst e; rw [va_up_self]; simp [cW, va_up]
  · rw [va_up_ne _ _ e]; unfold cW; split <;> first | exact absurd rfl e | rfl | simp [va_up]
theorem cW_g19 {a : sA} {g : sG} {i : sA} {f : Nat → Nat → Int32} : va_up (cW a g i) 19 (.inr (.inl (16, 16, f))) = cW a (va_up g 19 f) i := by
  funext k
  by_cases e : k = 19
  · subst e; rw [va_up_self]; simp [cW, va_up]
  · rw [va_up_ne _ _ e]; unfold cW; split <;> first | exact absurd rfl e | rfl | simp [va_up]
theorem cW_g20 {a : sA} {g : sG} {i : sA} {f : Nat → Nat → Int32} : va_up (cW a g i) 20 (.inr (.inl (16, 16, f))) = cW a (va_up g 20 f) i := by
  funext k
  by_cases e : k = 20
  · subst e; rw [va_up_self]; simp [cW, va_up]
  · rw [va_up_ne _ _ e]; unfold cW; split <;> first | exact absurd rfl e | rfl | simp [va_up]
theorem cW_a21 {a : sA} {g : sG} {i : sA} {f : Nat → Int32} : va_up (cW a g i) 21 (.inl (16, f)) = cW (va_up a 21 f) g i := by
  funext k
  by_cases e : k = 21
  · subst e; rw [va_up_self]; simp [cW, va_up]
  · rw [va_up_ne _ _ e]; unfold cW; split <;> first | exact absurd rfl e | rfl | simp [va_up]
theorem cW_i22_0 {a : sA} {g : sG} {i : sA} {x : Int32} : va_up (cW a g i) 22 (.inr (.inr (5, [.inl x, .inr (23, 0), .inr (24, 0), .inr (25, 0), .inr (26, 0), .inr (27, 0), .inr (28, 0), .inl (i 22 7)]))) = cW a g (va_up i 22 (va_up (i 22) 0 x)) := by
  funext k
  by_cases e : k = 22
  · subst e; rw [va_up_self]; simp [cW, va_up]
  · rw [va_up_ne _ _ e]; unfold cW; split <;> first | exact absurd rfl e | rfl | simp [va_up]
theorem cW_i22_7 {a : sA} {g : sG} {i : sA} {x : Int32} : va_up (cW a g i) 22 (.inr (.inr (5, [.inl (i 22 0), .inr (23, 0), .inr (24, 0), .inr (25, 0), .inr (26, 0), .inr (27, 0), .inr (28, 0), .inl x]))) = cW a g (va_up i 22 (va_up (i 22) 7 x)) := by
  funext k
  by_cases e : k = 22
  · subst e; rw [va_up_self]; simp [cW, va_up]
  · rw [va_up_ne _ _ e]; unfold cW; split <;> first | exact absurd rfl e | rfl | simp [va_up]
theorem cW_a23 {a : sA} {g : sG} {i : sA} {f : Nat → Int32} : va_up (cW a g i) 23 (.inl (16, f)) = cW (va_up a 23 f) g i := by
  funext k
  by_cases e : k = 23
  · subst e; rw [va_up_self]; simp [cW, va_up]
  · rw [va_up_ne _ _ e]; unfold cW; split <;> first | exact absurd rfl e | rfl | simp [va_up]
theorem cW_g24 {a : sA} {g : sG} {i : sA} {f : Nat → Nat → Int32} : va_up (cW a g i) 24 (.inr (.inl (16, 16, f))) = cW a (va_up g 24 f) i := by
  funext k
  by_cases e : k = 24
  · subst e; rw [va_up_self]; simp [cW, va_up]
  · rw [va_up_ne _ _ e]; unfold cW; split <;> first | exact absurd rfl e | rfl | simp [va_up]
theorem cW_a25 {a : sA} {g : sG} {i : sA} {f : Nat → Int32} : va_up (cW a g i) 25 (.inl (16, f)) = cW (va_up a 25 f) g i := by
  funext k
  by_cases e : k = 25
  · subst e; rw [va_up_self]; simp [cW, va_up]
  · rw [va_up_ne _ _ e]; unfold cW; split <;> first | exact absurd rfl e | rfl | simp [va_up]
theorem cW_a26 {a : sA} {g : sG} {i : sA} {f : Nat → Int32} : va_up (cW a g i) 26 (.inl (16, f)) = cW (va_up a 26 f) g i := by
  funext k
  by_cases e : k = 26
  · subst e; rw [va_up_self]; simp [cW, va_up]
  · rw [va_up_ne _ _ e]; unfold cW; split <;> first | exact absurd rfl e | rfl | simp [va_up]
theorem cW_a27 {a : sA} {g : sG} {i : sA} {f : Nat → Int32} : va_up (cW a g i) 27 (.inl (16, f)) = cW (va_up a 27 f) g i := by
  funext k
  by_cases e : k = 27
  · subst e; rw [va_up_self]; simp [cW, va_up]
  · rw [va_up_ne _ _ e]; unfold cW; split <;> first | exact absurd rfl e | rfl | simp [va_up]
theorem cW_a28 {a : sA} {g : sG} {i : sA} {f : Nat → Int32} : va_up (cW a g i) 28 (.inl (128, f)) = cW (va_up a 28 f) g i := by
  funext k
  by_cases e : k = 28
  · subst e; rw [va_up_self]; simp [cW, va_up]
  · rw [va_up_ne _ _ e]; unfold cW; split <;> first | exact absurd rfl e | rfl | simp [va_up]
def mW (a : sA) (i : sA) : sx_M := fun n => match n with
  | 0 => .inr (.inr (6, [.inl (i 0 0), .inr (1, 0), .inl (i 0 2), .inl (i 0 3), .inr (2, 0), .inr (3, 0), .inl (i 0 6), .inr (4, 0), .inr (5, 0), .inr (6, 0), .inl (i 0 10), .inl (i 0 11), .inl (i 0 12), .inr (7, 0), .inl (i 0 14), .inr (8, 0), .inr (9, 0), .inr (10, 0)]))
  | 1 => .inl (4, a 1)
  | 2 => .inl (120, a 2)
  | 3 => .inl (120, a 3)
  | 4 => .inl (16, a 4)
  | 5 => .inl (16, a 5)
  | 6 => .inl (4096, a 6)
  | 7 => .inl (640, a 7)
  | 8 => .inl (16, a 8)
  | 9 => .inl (256, a 9)
  | 10 => .inl (200, a 10)
  | _ => .inl (0, fun _ => 0)
theorem mW_i0_0 {a : sA} {i : sA} {x : Int32} : va_up (mW a i) 0 (.inr (.inr (6, [.inl x, .inr (1, 0), .inl (i 0 2), .inl (i 0 3), .inr (2, 0), .inr (3, 0), .inl (i 0 6), .inr (4, 0), .inr (5, 0), .inr (6, 0), .inl (i 0 10), .inl (i 0 11), .inl (i 0 12), .inr (7, 0), .inl (i 0 14), .inr (8, 0), .inr (9, 0), .inr (10, 0)]))) = mW a (va_up i 0 (va_up (i 0) 0 x)) := by
  funext k
  by_cases e : k = 0
  · subst e; rw [va_up_self]; simp [mW, va_up]
  · rw [va_up_ne _ _ e]; unfold mW; split <;> first | exact absurd rfl e | rfl | simp [va_up]
theorem mW_i0_2 {a : sA} {i : sA} {x : Int32} : va_up (mW a i) 0 (.inr (.inr (6, [.inl (i 0 0), .inr (1, 0), .inl x, .inl (i 0 3), .inr (2, 0), .inr (3, 0), .inl (i 0 6), .inr (4, 0), .inr (5, 0), .inr (6, 0), .inl (i 0 10), .inl (i 0 11), .inl (i 0 12), .inr (7, 0), .inl (i 0 14), .inr (8, 0), .inr (9, 0), .inr (10, 0)]))) = mW a (va_up i 0 (va_up (i 0) 2 x)) := by
  funext k
  by_cases e : k = 0
  · subst e; rw [va_up_self]; simp [mW, va_up]
  · rw [va_up_ne _ _ e]; unfold mW; split <;> first | exact absurd rfl e | rfl | simp [va_up]
theorem mW_i0_3 {a : sA} {i : sA} {x : Int32} : va_up (mW a i) 0 (.inr (.inr (6, [.inl (i 0 0), .inr (1, 0), .inl (i 0 2), .inl x, .inr (2, 0), .inr (3, 0), .inl (i 0 6), .inr (4, 0), .inr (5, 0), .inr (6, 0), .inl (i 0 10), .inl (i 0 11), .inl (i 0 12), .inr (7, 0), .inl (i 0 14), .inr (8, 0), .inr (9, 0), .inr (10, 0)]))) = mW a (va_up i 0 (va_up (i 0) 3 x)) := by
  funext k
  by_cases e : k = 0
  · subst e; rw [va_up_self]; simp [mW, va_up]
  · rw [va_up_ne _ _ e]; unfold mW; split <;> first | exact absurd rfl e | rfl | simp [va_up]
theorem mW_i0_6 {a : sA} {i : sA} {x : Int32} : va_up (mW a i) 0 (.inr (.inr (6, [.inl (i 0 0), .inr (1, 0), .inl (i 0 2), .inl (i 0 3), .inr (2, 0), .inr (3, 0), .inl x, .inr (4, 0), .inr (5, 0), .inr (6, 0), .inl (i 0 10), .inl (i 0 11), .inl (i 0 12), .inr (7, 0), .inl (i 0 14), .inr (8, 0), .inr (9, 0), .inr (10, 0)]))) = mW a (va_up i 0 (va_up (i 0) 6 x)) := by
  funext k
  by_cases e : k = 0
  · subst e; rw [va_up_self]; simp [mW, va_up]
  · rw [va_up_ne _ _ e]; unfold mW; split <;> first | exact absurd rfl e | rfl | simp [va_up]
theorem mW_i0_10 {a : sA} {i : sA} {x : Int32} : va_up (mW a i) 0 (.inr (.inr (6, [.inl (i 0 0), .inr (1, 0), .inl (i 0 2), .inl (i 0 3), .inr (2, 0), .inr (3, 0), .inl (i 0 6), .inr (4, 0), .inr (5, 0), .inr (6, 0), .inl x, .inl (i 0 11), .inl (i 0 12), .inr (7, 0), .inl (i 0 14), .inr (8, 0), .inr (9, 0), .inr (10, 0)]))) = mW a (va_up i 0 (va_up (i 0) 10 x)) := by
  funext k
  by_cases e : k = 0
  · subst e; rw [va_up_self]; simp [mW, va_up]
  · rw [va_up_ne _ _ e]; unfold mW; split <;> first | exact absurd rfl e | rfl | simp [va_up]
theorem mW_i0_11 {a : sA} {i : sA} {x : Int32} : va_up (mW a i) 0 (.inr (.inr (6, [.inl (i 0 0), .inr (1, 0), .inl (i 0 2), .inl (i 0 3), .inr (2, 0), .inr (3, 0), .inl (i 0 6), .inr (4, 0), .inr (5, 0), .inr (6, 0), .inl (i 0 10), .inl x, .inl (i 0 12), .inr (7, 0), .inl (i 0 14), .inr (8, 0), .inr (9, 0), .inr (10, 0)]))) = mW a (va_up i 0 (va_up (i 0) 11 x)) := by
  funext k
  by_cases e : k = 0
  · subst e; rw [va_up_self]; simp [mW, va_up]
  · rw [va_up_ne _ _ e]; unfold mW; split <;> first | exact absurd rfl e | rfl | simp [va_up]
theorem mW_i0_12 {a : sA} {i : sA} {x : Int32} : va_up (mW a i) 0 (.inr (.inr (6, [.inl (i 0 0), .inr (1, 0), .inl (i 0 2), .inl (i 0 3), .inr (2, 0), .inr (3, 0), .inl (i 0 6), .inr (4, 0), .inr (5, 0), .inr (6, 0), .inl (i 0 10), .inl (i 0 11), .inl x, .inr (7, 0), .inl (i 0 14), .inr (8, 0), .inr (9, 0), .inr (10, 0)]))) = mW a (va_up i 0 (va_up (i 0) 12 x)) := by
  funext k
  by_cases e : k = 0
  · subst e; rw [va_up_self]; simp [mW, va_up]
  · rw [va_up_ne _ _ e]; unfold mW; split <;> first | exact absurd rfl e | rfl | simp [va_up]
theorem mW_i0_14 {a : sA} {i : sA} {x : Int32} : va_up (mW a i) 0 (.inr (.inr (6, [.inl (i 0 0), .inr (1, 0), .inl (i 0 2), .inl (i 0 3), .inr (2, 0), .inr (3, 0), .inl (i 0 6), .inr (4, 0), .inr (5, 0), .inr (6, 0), .inl (i 0 10), .inl (i 0 11), .inl (i 0 12), .inr (7, 0), .inl x, .inr (8, 0), .inr (9, 0), .inr (10, 0)]))) = mW a (va_up i 0 (va_up (i 0) 14 x)) := by
  funext k
  by_cases e : k = 0
  · subst e; rw [va_up_self]; simp [mW, va_up]
  · rw [va_up_ne _ _ e]; unfold mW; split <;> first | exact absurd rfl e | rfl | simp [va_up]
theorem mW_a1 {a : sA} {i : sA} {f : Nat → Int32} : va_up (mW a i) 1 (.inl (4, f)) = mW (va_up a 1 f) i := by
  funext k
  by_cases e : k = 1
  · subst e; rw [va_up_self]; simp [mW, va_up]
  · rw [va_up_ne _ _ e]; unfold mW; split <;> first | exact absurd rfl e | rfl | simp [va_up]
theorem mW_a2 {a : sA} {i : sA} {f : Nat → Int32} : va_up (mW a i) 2 (.inl (120, f)) = mW (va_up a 2 f) i := by
  funext k
  by_cases e : k = 2
  · subst e; rw [va_up_self]; simp [mW, va_up]
  · rw [va_up_ne _ _ e]; unfold mW; split <;> first | exact absurd rfl e | rfl | simp [va_up]
theorem mW_a3 {a : sA} {i : sA} {f : Nat → Int32} : va_up (mW a i) 3 (.inl (120, f)) = mW (va_up a 3 f) i := by
  funext k
  by_cases e : k = 3
  · subst e; rw [va_up_self]; simp [mW, va_up]
  · rw [va_up_ne _ _ e]; unfold mW; split <;> first | exact absurd rfl e | rfl | simp [va_up]
theorem mW_a4 {a : sA} {i : sA} {f : Nat → Int32} : va_up (mW a i) 4 (.inl (16, f)) = mW (va_up a 4 f) i := by
  funext k
  by_cases e : k = 4
  · subst e; rw [va_up_self]; simp [mW, va_up]
  · rw [va_up_ne _ _ e]; unfold mW; split <;> first | exact absurd rfl e | rfl | simp [va_up]
theorem mW_a5 {a : sA} {i : sA} {f : Nat → Int32} : va_up (mW a i) 5 (.inl (16, f)) = mW (va_up a 5 f) i := by
  funext k
  by_cases e : k = 5
  · subst e; rw [va_up_self]; simp [mW, va_up]
  · rw [va_up_ne _ _ e]; unfold mW; split <;> first | exact absurd rfl e | rfl | simp [va_up]
theorem mW_a6 {a : sA} {i : sA} {f : Nat → Int32} : va_up (mW a i) 6 (.inl (4096, f)) = mW (va_up a 6 f) i := by
  funext k
  by_cases e : k = 6
  · subst e; rw [va_up_self]; simp [mW, va_up]
  · rw [va_up_ne _ _ e]; unfold mW; split <;> first | exact absurd rfl e | rfl | simp [va_up]
theorem mW_a7 {a : sA} {i : sA} {f : Nat → Int32} : va_up (mW a i) 7 (.inl (640, f)) = mW (va_up a 7 f) i := by
  funext k
  by_cases e : k = 7
  · subst e; rw [va_up_self]; simp [mW, va_up]
  · rw [va_up_ne _ _ e]; unfold mW; split <;> first | exact absurd rfl e | rfl | simp [va_up]
theorem mW_a8 {a : sA} {i : sA} {f : Nat → Int32} : va_up (mW a i) 8 (.inl (16, f)) = mW (va_up a 8 f) i := by
  funext k
  by_cases e : k = 8
  · subst e; rw [va_up_self]; simp [mW, va_up]
  · rw [va_up_ne _ _ e]; unfold mW; split <;> first | exact absurd rfl e | rfl | simp [va_up]
theorem mW_a9 {a : sA} {i : sA} {f : Nat → Int32} : va_up (mW a i) 9 (.inl (256, f)) = mW (va_up a 9 f) i := by
  funext k
  by_cases e : k = 9
  · subst e; rw [va_up_self]; simp [mW, va_up]
  · rw [va_up_ne _ _ e]; unfold mW; split <;> first | exact absurd rfl e | rfl | simp [va_up]
theorem mW_a10 {a : sA} {i : sA} {f : Nat → Int32} : va_up (mW a i) 10 (.inl (200, f)) = mW (va_up a 10 f) i := by
  funext k
  by_cases e : k = 10
  · subst e; rw [va_up_self]; simp [mW, va_up]
  · rw [va_up_ne _ _ e]; unfold mW; split <;> first | exact absurd rfl e | rfl | simp [va_up]
end
section
section ZT
variable {B : Nat} {cs : Nat → sx_S} {Rt : Option sx_V → sx_M → Prop} {F : sx_F} {Z : sx_K} {h : Nat × Nat} {pc : Nat} {L : List (Option sx_V)} {st r : List sx_V} {w w' : sx_M} {x y : Int32}
theorem z_putW (hZ : sx_Cl B cs Rt F Z) {i ci kf n : Nat} (hF : F pc = some (.putfield i, ci, kf)) {fs : List sx_V} (hn : n < B) (hw : w n = .inr (.inr (ci % 100, fs))) (hb : ci < 100 ∨ x = 0 ∨ x = 1) (hv : kf < fs.length) (e : va_up w n (.inr (.inr (ci % 100, fs.set kf (.inl x)))) = w') (k : Z (pc + 3) L r w') : Z pc L (.inl x :: .inr (n, 0) :: r) w := z_put hZ hF hn hw hb hv (by rw [e]; exact k)
theorem z_iastW (hZ : sx_Cl B cs Rt F Z) (hF : F pc = some (.iastore, h)) {n N : Nat} {f : Nat → Int32} (hn : n < B) (hw : w n = .inl (N, f)) (hi : vp_in x N) (e : va_up w n (.inl (N, upd f x.toNatClampNeg y)) = w') (k : Z (pc + 1) L r w') : Z pc L (.inl y :: .inl x :: .inr (n, 0) :: r) w := z_iast hZ hF hn hw hi (by rw [e]; exact k)
theorem z_iasgW (hZ : sx_Cl B cs Rt F Z) (hF : F pc = some (.iastore, h)) {n N M j : Nat} {f : Nat → Nat → Int32} (hn : n < B) (hw : w n = .inr (.inl (N, M, f))) (hj : j < N) (hi : vp_in x M) (e : va_up w n (.inr (.inl (N, M, va_up f j (upd (f j) x.toNatClampNeg y)))) = w') (k : Z (pc + 1) L r w') : Z pc L (.inl y :: .inl x :: .inr (n, j + 1) :: r) w := z_iasg hZ hF hn hw hj hi (by rw [e]; exact k)
end ZT
theorem i0 : Int32.ofInt 0 = nI 0 := by decide +kernel
theorem ic1 : Int32.ofInt 1 = nI 1 := by decide +kernel
theorem ic2 : Int32.ofInt 2 = nI 2 := by decide +kernel
theorem ic3 : Int32.ofInt 3 = nI 3 := by decide +kernel
theorem ic4 : Int32.ofInt 4 = nI 4 := by decide +kernel
theorem i64 : (Int8.ofInt 64).toInt32 = nI 64 := by decide +kernel
theorem i120 : (Int8.ofInt 120).toInt32 = nI 120 := by decide +kernel
theorem im1 : Int32.ofInt (-1) = -1 := by decide +kernel
theorem nI_sub1 {n : Nat} (h : 0 < n) : nI n - Int32.ofInt 1 = nI (n - 1) := by rw [ic1]; exact pk_sub h
theorem nI_dec {n : Nat} (h : 0 < n) : nI n + Int32.ofInt (-1) = nI (n - 1) := by rw [im1]; exact sb_m1 h
-- how many of the first n are below x
def kf (f : Nat → Int32) (x : Int32) : Nat → Nat
  | 0 => 0
  | n + 1 => if f n < x then n + 1 else kf f x n
-- increasing
def inc (f : Nat → Int32) (n : Nat) : Prop := ∀ i j, i < j → j < n → f i < f j
theorem kf_le (f : Nat → Int32) (x : Int32) : ∀ n, kf f x n ≤ n
  | 0 => Nat.le_refl 0
  | n + 1 => by
    unfold kf
    by_cases h : f n < x
    · rw [if_pos h]; exact Nat.le_refl _
    · rw [if_neg h]; exact Nat.le_succ_of_le (kf_le f x n)
theorem lt_tr {x y z : Int32} (h : x < y) (h2 : y < z) : x < z := by
  rw [Int32.lt_iff_toInt_lt] at *
  omega
theorem kf_lo {f : Nat → Int32} (x : Int32) : ∀ n, inc f n → ∀ j, j < kf f x n → f j < x
  | 0, _, j, h => absurd h (Nat.not_lt_zero j)
  | n + 1, hi, j, h => by
    unfold kf at h
    by_cases hx : f n < x
    · rw [if_pos hx] at h
      by_cases e : j = n
      · subst e; exact hx
      · exact lt_tr (hi j n (by omega) (by omega)) hx
    · rw [if_neg hx] at h
      exact kf_lo x n (fun i j h1 h2 => hi i j h1 (by omega)) j h
theorem kf_hi {f : Nat → Int32} (x : Int32) : ∀ n j, kf f x n ≤ j → j < n → ¬ f j < x
  | 0, j, _, h => absurd h (Nat.not_lt_zero j)
  | n + 1, j, h, hj => by
    unfold kf at h
    by_cases hx : f n < x
    · rw [if_pos hx] at h
      omega
    · rw [if_neg hx] at h
      by_cases e : j = n
      · subst e; exact hx
      · exact kf_hi x n j h (by omega)
end
section
set_option maxHeartbeats 4000000 in
set_option maxRecDepth 100000 in
theorem c_El_firstNotBelow (l : Launch) (D : va_G) (E : sx_E) (B : Nat) (A : Nat → Prop) (hB : 29 ≤ B) {a : sA} {g : sG} {i : sA} {cnt : Nat} (hc : i 2 2 = nI cnt) (hcn : cnt ≤ 120) (hs : inc (a 3) cnt) (x : Int32) : sM l D E B A yEl_firstNotBelow prog_5_method_5_code 4 (some .int) 0 0 [.inr (2, 0), .inl x] (cW a g i) (fun r w' => r = some (.inl (nI (kf (a 3) x cnt))) ∧ w' = cW a g i) := by
  refine sx_m0 (ls := lEl_firstNotBelow) (cs := noCalls) (by decide +kernel) kEl_firstNotBelow (fun pc i h1 h2 => sx_nc (ls := lEl_firstNotBelow) (by decide) pc i h1 h2) (by simp) (fun w' h => by cases h.1) ?_
  intro Z hZ
  have hK := kf_le (a 3) x cnt
  generalize hKe : kf (a 3) x cnt = K at hK
  have h1 : ∀ j, j < K → a 3 j < x := by rw [← hKe]; exact kf_lo x cnt hs
  have h2 : ∀ j, K ≤ j → j < cnt → ¬ a 3 j < x := by rw [← hKe]; exact kf_hi x cnt
  have loop : ∀ n m b, n + m = 7 → b ≤ K → K < b + 128 / 2 ^ m → Z 5 [some (.inr (2, 0)), some (.inl x), some (.inl (nI b)), some (.inl (nI (64 / 2 ^ m)))] [] (cW a g i) := by
    intro n
    induction n with
    | zero =>
      intro m b hm hb hb2
      have e : m = 7 := by omega
      subst e
      have e2 : b = K := by
        have : (128 : Nat) / 2 ^ 7 = 1 := by decide
        omega
      subst e2
      refine z_iload_n hZ gEl_firstNotBelow_5 rfl ?_
      refine z_ifle hZ gEl_firstNotBelow_6 (fun c6 => ?_) (fun c6 => absurd (show nI (64 / 2 ^ 7) ≤ 0 by decide +kernel) c6)
      refine z_iload_n hZ gEl_firstNotBelow_44 rfl ?_
      refine z_iret hZ gEl_firstNotBelow_45 ?_
      exact ⟨by rw [hKe], rfl⟩
    | succ n ih =>
      intro m b hm hb hb2
      have hm7 : m < 7 := by omega
      have hp : ∀ m, m < 7 → 0 < 64 / 2 ^ m ∧ 64 / 2 ^ m ≤ 64 ∧ 128 / 2 ^ m = 2 * (64 / 2 ^ m) ∧ 64 / 2 ^ m / 2 = 64 / 2 ^ (m + 1) ∧ 128 / 2 ^ (m + 1) = 64 / 2 ^ m := by decide
      obtain ⟨p1, p2, p3, p4, p5⟩ := hp m hm7
      generalize 64 / 2 ^ m = t at *
      have hd : nI t / Int32.ofInt 2 = nI (64 / 2 ^ (m + 1)) := by rw [ic2, pk_div (by omega) (by decide) (by decide), p4]
      refine z_iload_n hZ gEl_firstNotBelow_5 rfl ?_
      refine z_ifle hZ gEl_firstNotBelow_6 (fun c6 => absurd c6 (nI_nle p1 (by omega))) (fun c6 => ?_)
      refine z_iload_n hZ gEl_firstNotBelow_9 rfl ?_
      refine z_iload_n hZ gEl_firstNotBelow_10 rfl ?_
      refine z_iadd hZ gEl_firstNotBelow_11 _ (nI_add b t) ?_
      refine z_aload_n hZ gEl_firstNotBelow_12 rfl ?_
      refine z_get hZ gEl_firstNotBelow_13 (by omega) rfl (by rw [hc]; rfl) ?_
      refine z_cmpgt hZ gEl_firstNotBelow_16 (fun c16 => ?_) (fun c16 => ?_)
      · have ct16 := c16
        have hgt : cnt < b + t := (nI_ltI (by omega) (by omega)).mp ct16
        refine z_iload_n hZ gEl_firstNotBelow_37 rfl ?_
        refine z_iconst hZ gEl_firstNotBelow_38 _ rfl ?_
        refine z_idiv hZ gEl_firstNotBelow_39 (by decide) _ hd ?_
        refine z_istore_n hZ gEl_firstNotBelow_40 rfl ?_
        refine z_goto hZ gEl_firstNotBelow_41 ?_
        first | exact ih (m + 1) b (by omega) hb (by omega) | exact ih (m + 1) (b + t) (by omega) hlt (by omega)
      · have cf16 := c16
        have hle : b + t ≤ cnt := Nat.not_lt.mp fun h9 => cf16 ((nI_ltI (by omega) (by omega)).mpr h9)
        refine z_aload_n hZ gEl_firstNotBelow_19 rfl ?_
        refine z_get hZ gEl_firstNotBelow_20 (by omega) rfl rfl ?_
        refine z_iload_n hZ gEl_firstNotBelow_23 rfl ?_
        refine z_iload_n hZ gEl_firstNotBelow_24 rfl ?_
        refine z_iadd hZ gEl_firstNotBelow_25 _ (nI_add b t) ?_
        refine z_iconst hZ gEl_firstNotBelow_26 _ rfl ?_
        refine z_isub hZ gEl_firstNotBelow_27 _ (nI_sub1 (by omega)) ?_
        refine z_iald hZ gEl_firstNotBelow_28 (by omega) rfl (vp_in_nI (by omega) (by decide)) ?_
        refine z_iload_n hZ gEl_firstNotBelow_29 rfl ?_
        refine z_cmpge hZ gEl_firstNotBelow_30 (fun c30 => ?_) (fun c30 => ?_)
        · have ct30 := c30
          have hge : K ≤ b + t - 1 := Nat.not_lt.mp fun h9 => by
            have := h1 _ h9
            rw [nI_clamp (by omega)] at ct30
            rw [Int32.le_iff_toInt_le] at ct30
            rw [Int32.lt_iff_toInt_lt] at this
            omega
          refine z_iload_n hZ gEl_firstNotBelow_37 rfl ?_
          refine z_iconst hZ gEl_firstNotBelow_38 _ rfl ?_
          refine z_idiv hZ gEl_firstNotBelow_39 (by decide) _ hd ?_
          refine z_istore_n hZ gEl_firstNotBelow_40 rfl ?_
          refine z_goto hZ gEl_firstNotBelow_41 ?_
          first | exact ih (m + 1) b (by omega) hb (by omega) | exact ih (m + 1) (b + t) (by omega) hlt (by omega)
        · have cf30 := c30
          have hlt : b + t ≤ K := Nat.not_lt.mp fun h9 => by
            rw [nI_clamp (by omega)] at cf30
            exact h2 (b + t - 1) (by omega) (by omega) (by
              rw [Int32.lt_iff_toInt_lt]
              rw [Int32.le_iff_toInt_le] at cf30
              omega)
          refine z_iload_n hZ gEl_firstNotBelow_33 rfl ?_
          refine z_iload_n hZ gEl_firstNotBelow_34 rfl ?_
          refine z_iadd hZ gEl_firstNotBelow_35 _ (nI_add b t) ?_
          refine z_istore_n hZ gEl_firstNotBelow_36 rfl ?_
          refine z_iload_n hZ gEl_firstNotBelow_37 rfl ?_
          refine z_iconst hZ gEl_firstNotBelow_38 _ rfl ?_
          refine z_idiv hZ gEl_firstNotBelow_39 (by decide) _ hd ?_
          refine z_istore_n hZ gEl_firstNotBelow_40 rfl ?_
          refine z_goto hZ gEl_firstNotBelow_41 ?_
          first | exact ih (m + 1) b (by omega) hb (by omega) | exact ih (m + 1) (b + t) (by omega) hlt (by omega)
  refine z_iconst hZ gEl_firstNotBelow_0 _ rfl ?_
  refine z_istore_n hZ gEl_firstNotBelow_1 rfl ?_
  refine z_bipush hZ gEl_firstNotBelow_2 _ i64 ?_
  refine z_istore_n hZ gEl_firstNotBelow_4 rfl ?_
  exact loop 7 0 0 rfl (Nat.zero_le _) (by omega)
end
section
theorem kf_mem {f : Nat → Int32} {x : Int32} {n : Nat} (hi : inc f n) : (∃ j, j < n ∧ f j = x) ↔ (kf f x n < n ∧ f (kf f x n) = x) := by
  constructor
  · rintro ⟨j, hj, e⟩
    have irr : ∀ y : Int32, ¬ y < y := fun y h => by rw [Int32.lt_iff_toInt_lt] at h; omega
    have h1 : kf f x n ≤ j := Nat.not_lt.mp fun h9 => by
      have := kf_lo x n hi j h9
      rw [e] at this
      exact irr _ this
    have h2 : ¬ kf f x n < j := fun h9 => by
      have h3 := hi _ j h9 hj
      rw [e] at h3
      exact kf_hi x n _ (Nat.le_refl _) (by omega) h3
    have h4 : kf f x n = j := by omega
    rw [h4]; exact ⟨hj, e⟩
  · rintro ⟨h1, h2⟩; exact ⟨_, h1, h2⟩
-- room is made at K, x comes in
def shf (f : Nat → Int32) (k n : Nat) : Nat → Int32 := fun j => if k < j ∧ j ≤ n then f (j - 1) else f j
def ins (f : Nat → Int32) (K n : Nat) (x : Int32) : Nat → Int32 := fun j => if j < K then f j else if j = K then x else if j ≤ n then f (j - 1) else f j
theorem shf_0 (f : Nat → Int32) (n : Nat) : shf f n n = f := by
  funext j
  unfold shf
  rw [if_neg (by omega)]
theorem shf_s {f : Nat → Int32} {k n : Nat} (h0 : 0 < k) (hk : k ≤ n) : upd (shf f k n) k (shf f k n (k - 1)) = shf f (k - 1) n := by
  funext j
  by_cases e : j = k
  · subst e
    rw [pk_us]
    unfold shf
    rw [if_neg (by omega), if_pos (by omega)]
  · rw [pk_un e]
    unfold shf
    by_cases h : k < j ∧ j ≤ n
    · rw [if_pos h, if_pos (by omega)]
    · rw [if_neg h, if_neg (by omega)]
theorem shf_e {f : Nat → Int32} {K n : Nat} (x : Int32) : upd (shf f K n) K x = ins f K n x := by
  funext j
  by_cases e : j = K
  · subst e
    rw [pk_us]
    unfold ins
    rw [if_neg (by omega), if_pos rfl]
  · rw [pk_un e]
    unfold shf ins
    by_cases h : j < K
    · rw [if_neg (by omega), if_pos h]
    · rw [if_neg h, if_neg e]
      by_cases h2 : j ≤ n
      · rw [if_pos (by omega), if_pos h2]
      · rw [if_neg (by omega), if_neg h2]
abbrev inW (a : sA) (g : sG) (i : sA) (cnt : Nat) (x : Int32) : sx_M := cW (va_up (va_up a 3 (ins (a 3) (kf (a 3) x cnt) cnt x)) 4 (upd (a 4) cnt x)) g (va_up i 2 (va_up (i 2) 2 (nI (cnt + 1))))

set_option maxHeartbeats 4000000 in
set_option maxRecDepth 100000 in
theorem c_El_indexOf (l : Launch) (D : va_G) (E : sx_E) (B : Nat) (A : Nat → Prop) (hB : 29 ≤ B) {a : sA} {g : sG} {i : sA} {cnt : Nat} (hc : i 2 2 = nI cnt) (hcn : cnt ≤ 120) (hs : inc (a 3) cnt) (x : Int32) : sM l D E B A yEl_indexOf prog_5_method_3_code 3 (some .int) 1 23 [.inr (2, 0), .inl x] (cW a g i) (fun r w' => ((∃ j, j < cnt ∧ a 3 j = x ∧ r = some (.inl (nI j))) ∨ (r = some (.inl (-1)) ∧ ¬ ∃ j, j < cnt ∧ a 3 j = x)) ∧ w' = cW a g i) := by
  refine sx_m0 (ls := lEl_indexOf) (cs := csAll) (by decide +kernel) kEl_indexOf (hEl_indexOf l D E B A hB) (by simp) (fun w' h => by rcases h.1 with ⟨_, _, _, h⟩ | ⟨h, _⟩ <;> cases h) ?_
  intro Z hZ
  have hm := kf_mem (x := x) hs
  have hK := kf_le (a 3) x cnt
  generalize hKe : kf (a 3) x cnt = K at *
  refine z_aload_n hZ gEl_indexOf_0 rfl ?_
  refine z_iload_n hZ gEl_indexOf_1 rfl ?_
  refine z_cv hZ gEl_indexOf_2 rfl rfl (Nat.le_of_ble_eq_true rfl) (Nat.le_of_ble_eq_true rfl) ⟨⟨2, _, _, rfl, by decide, rfl⟩, fun l D E B A hB => c_El_firstNotBelow l D E B A hB hc hcn hs x⟩ (fun r2 w2 p2 => ?_)
  obtain ⟨rfl, rfl⟩ := p2
  rw [hKe]
  show Z (2 + 3) _ (.inl (nI K) :: []) _
  refine z_istore_n hZ gEl_indexOf_5 rfl ?_
  refine z_iload_n hZ gEl_indexOf_6 rfl ?_
  refine z_aload_n hZ gEl_indexOf_7 rfl ?_
  refine z_get hZ gEl_indexOf_8 (by omega) rfl (by rw [hc]; rfl) ?_
  refine z_cmpge hZ gEl_indexOf_11 (fun c11 => ?_) (fun c11 => ?_)
  · have ct11 := c11
    have hge : cnt ≤ K := (nI_leI (by omega) (by omega)).mp ct11
    refine z_iconst hZ gEl_indexOf_28 _ rfl ?_
    refine z_iret hZ gEl_indexOf_29 ?_
    first
      | exact ⟨Or.inr ⟨rfl, fun h => by have := (hm.mp h).1; omega⟩, rfl⟩
      | exact ⟨Or.inr ⟨rfl, fun h => by
          rw [nI_clamp (by omega)] at ct21
          exact ct21 (hm.mp h).2⟩, rfl⟩
      | exact ⟨Or.inl ⟨K, hlt, by rw [nI_clamp (by omega)] at cf21; exact cf21, rfl⟩, rfl⟩
  · have cf11 := c11
    have hlt : K < cnt := Nat.not_le.mp fun h9 => cf11 ((nI_leI (by omega) (by omega)).mpr h9)
    refine z_aload_n hZ gEl_indexOf_14 rfl ?_
    refine z_get hZ gEl_indexOf_15 (by omega) rfl rfl ?_
    refine z_iload_n hZ gEl_indexOf_18 rfl ?_
    refine z_iald hZ gEl_indexOf_19 (by omega) rfl (vp_in_nI (by omega) (by decide)) ?_
    refine z_iload_n hZ gEl_indexOf_20 rfl ?_
    refine z_cmpne hZ gEl_indexOf_21 (fun c21 => ?_) (fun c21 => ?_)
    · have ct21 := c21
      refine z_iconst hZ gEl_indexOf_28 _ rfl ?_
      refine z_iret hZ gEl_indexOf_29 ?_
      first
        | exact ⟨Or.inr ⟨rfl, fun h => by have := (hm.mp h).1; omega⟩, rfl⟩
        | exact ⟨Or.inr ⟨rfl, fun h => by
            rw [nI_clamp (by omega)] at ct21
            exact ct21 (hm.mp h).2⟩, rfl⟩
        | exact ⟨Or.inl ⟨K, hlt, by rw [nI_clamp (by omega)] at cf21; exact cf21, rfl⟩, rfl⟩
    · have cf21 := c21
      refine z_iload_n hZ gEl_indexOf_24 rfl ?_
      refine z_goto hZ gEl_indexOf_25 ?_
      refine z_iret hZ gEl_indexOf_29 ?_
      first
        | exact ⟨Or.inr ⟨rfl, fun h => by have := (hm.mp h).1; omega⟩, rfl⟩
        | exact ⟨Or.inr ⟨rfl, fun h => by
            rw [nI_clamp (by omega)] at ct21
            exact ct21 (hm.mp h).2⟩, rfl⟩
        | exact ⟨Or.inl ⟨K, hlt, by rw [nI_clamp (by omega)] at cf21; exact cf21, rfl⟩, rfl⟩

set_option maxHeartbeats 4000000 in
set_option maxRecDepth 100000 in
theorem c_El_include (l : Launch) (D : va_G) (E : sx_E) (B : Nat) (A : Nat → Prop) (hB : 29 ≤ B) {a : sA} {g : sG} {i : sA} {cnt : Nat} (hc : i 2 2 = nI cnt) (hcn : cnt ≤ 120) (hs : inc (a 3) cnt) (x : Int32) : sM l D E B A yEl_include prog_5_method_4_code 4 (some .boolean) 1 23 [.inr (2, 0), .inl x] (cW a g i) (fun r w' => (r = some (.inl 1) ∧ (∃ j, j < cnt ∧ a 3 j = x) ∧ w' = cW a g i) ∨ (r = some (.inl 0) ∧ (¬ ∃ j, j < cnt ∧ a 3 j = x) ∧ cnt = 120 ∧ w' = cW a g i) ∨ (r = some (.inl 1) ∧ (¬ ∃ j, j < cnt ∧ a 3 j = x) ∧ cnt < 120 ∧ w' = inW a g i cnt x)) := by
  refine sx_m0 (ls := lEl_include) (cs := csAll) (by decide +kernel) kEl_include (hEl_include l D E B A hB) (by simp) ⟨fun w' h => (by rcases h with ⟨h, _⟩ | ⟨h, _⟩ | ⟨h, _⟩ <;> cases h), fun y w' h => (by rcases h with ⟨h, _⟩ | ⟨h, _⟩ | ⟨h, _⟩ <;> cases h <;> decide)⟩ ?_
  intro Z hZ
  have hm := kf_mem (x := x) hs
  have hK := kf_le (a 3) x cnt
  generalize hKe : kf (a 3) x cnt = K at *
  have loop : ∀ n k, k = K + n → k ≤ cnt → cnt < 120 → (¬ ∃ j, j < cnt ∧ a 3 j = x) → Z 42 [some (.inr (2, 0)), some (.inl x), some (.inl (nI K)), some (.inl (nI k))] [] (cW (va_up a 3 (shf (a 3) k cnt)) g i) := by
    intro n
    induction n with
    | zero =>
      intro k hk hk2 hlt hno
      have e : k = K := by omega
      subst e
      refine z_iload_n hZ gEl_include_42 rfl ?_
      refine z_iload_n hZ gEl_include_43 rfl ?_
      refine z_cmple hZ gEl_include_44 (fun c44 => ?_) (fun c44 => absurd (nI_le (Nat.le_refl k) (by omega)) c44)
      refine z_aload_n hZ gEl_include_67 rfl ?_
      refine z_get hZ gEl_include_68 (by omega) rfl rfl ?_
      refine z_iload_n hZ gEl_include_71 rfl ?_
      refine z_iload_n hZ gEl_include_72 rfl ?_
      refine z_iastW hZ gEl_include_73 (by omega) rfl (vp_in_nI (by omega) (by decide)) cW_a3 ?_
      refine z_aload_n hZ gEl_include_74 rfl ?_
      refine z_get hZ gEl_include_75 (by omega) rfl rfl ?_
      refine z_aload_n hZ gEl_include_78 rfl ?_
      refine z_get hZ gEl_include_79 (by omega) rfl (by rw [hc]; rfl) ?_
      refine z_iload_n hZ gEl_include_82 rfl ?_
      refine z_iastW hZ gEl_include_83 (by omega) rfl (vp_in_nI (by omega) (by decide)) cW_a4 ?_
      refine z_aload_n hZ gEl_include_84 rfl ?_
      refine z_dup hZ gEl_include_85 ?_
      refine z_get hZ gEl_include_86 (by omega) rfl (by rw [hc]; rfl) ?_
      refine z_iconst hZ gEl_include_89 _ rfl ?_
      refine z_iadd hZ gEl_include_90 _ (i1 cnt) ?_
      refine z_putW hZ gEl_include_91 (by omega) rfl (Or.inl (by decide)) (Nat.le_of_ble_eq_true rfl) cW_i2_2 ?_
      refine z_iconst hZ gEl_include_94 _ rfl ?_
      refine z_iret hZ gEl_include_95 ?_
      refine Or.inr (Or.inr ⟨rfl, hno, hlt, ?_⟩)
      rw [nI_clamp (by omega), nI_clamp (by omega)]
      show cW _ _ _ = cW _ _ _
      congr 1
      rw [va_up_self, shf_e, va_uu, va_up_ne _ _ (by decide), hKe]
    | succ n ih =>
      intro k hk hk2 hlt hno
      refine z_iload_n hZ gEl_include_42 rfl ?_
      refine z_iload_n hZ gEl_include_43 rfl ?_
      refine z_cmple hZ gEl_include_44 (fun c44 => absurd c44 (nI_ge (by omega) (by omega))) (fun c44 => ?_)
      refine z_aload_n hZ gEl_include_47 rfl ?_
      refine z_get hZ gEl_include_48 (by omega) rfl rfl ?_
      refine z_iload_n hZ gEl_include_51 rfl ?_
      refine z_aload_n hZ gEl_include_52 rfl ?_
      refine z_get hZ gEl_include_53 (by omega) rfl rfl ?_
      refine z_iload_n hZ gEl_include_56 rfl ?_
      refine z_iconst hZ gEl_include_57 _ rfl ?_
      refine z_isub hZ gEl_include_58 _ (nI_sub1 (by omega)) ?_
      refine z_iald hZ gEl_include_59 (by omega) rfl (vp_in_nI (by omega) (by decide)) ?_
      refine z_iastW hZ gEl_include_60 (by omega) rfl (vp_in_nI (by omega) (by decide)) cW_a3 ?_
      rw [nI_clamp (by omega), nI_clamp (by omega), va_up_self, shf_s (by omega) hk2, va_uu]
      refine z_iinc hZ gEl_include_61 rfl _ (nI_dec (by omega)) rfl ?_
      refine z_goto hZ gEl_include_64 ?_
      exact ih (k - 1) (by omega) (by omega) hlt hno
  refine z_aload_n hZ gEl_include_0 rfl ?_
  refine z_iload_n hZ gEl_include_1 rfl ?_
  refine z_cv hZ gEl_include_2 rfl rfl (Nat.le_of_ble_eq_true rfl) (Nat.le_of_ble_eq_true rfl) ⟨⟨2, _, _, rfl, by decide, rfl⟩, fun l D E B A hB => c_El_firstNotBelow l D E B A hB hc hcn hs x⟩ (fun r2 w2 p2 => ?_)
  obtain ⟨rfl, rfl⟩ := p2
  rw [hKe]
  show Z (2 + 3) _ (.inl (nI K) :: []) _
  refine z_istore_n hZ gEl_include_5 rfl ?_
  refine z_iload_n hZ gEl_include_6 rfl ?_
  refine z_aload_n hZ gEl_include_7 rfl ?_
  refine z_get hZ gEl_include_8 (by omega) rfl (by rw [hc]; rfl) ?_
  refine z_cmpge hZ gEl_include_11 (fun c11 => ?_) (fun c11 => ?_)
  · have ct11 := c11
    have hge : cnt ≤ K := (nI_leI (by omega) (by omega)).mp ct11
    have hno : ¬ ∃ j, j < cnt ∧ a 3 j = x := fun h => by have := (hm.mp h).1; omega
    refine z_aload_n hZ gEl_include_26 rfl ?_
    refine z_get hZ gEl_include_27 (by omega) rfl (by rw [hc]; rfl) ?_
    refine z_bipush hZ gEl_include_30 _ i120 ?_
    refine z_cmplt hZ gEl_include_32 (fun c32 => ?_) (fun c32 => ?_)
    · have ct32 := c32
      have hl120 : cnt < 120 := (nI_ltI (by omega) (by decide)).mp ct32
      refine z_aload_n hZ gEl_include_37 rfl ?_
      refine z_get hZ gEl_include_38 (by omega) rfl (by rw [hc]; rfl) ?_
      refine z_istore_n hZ gEl_include_41 rfl ?_
      have h9 := loop (cnt - K) cnt (by omega) (Nat.le_refl _) hl120 hno
      rw [shf_0, va_id a rfl] at h9
      exact h9
    · have cf32 := c32
      have hg120 : cnt = 120 := by
        have : ¬ cnt < 120 := fun h9 => cf32 ((nI_ltI (by omega) (by decide)).mpr h9)
        omega
      refine z_iconst hZ gEl_include_35 _ rfl ?_
      refine z_iret hZ gEl_include_36 ?_
      exact Or.inr (Or.inl ⟨rfl, hno, hg120, rfl⟩)
  · have cf11 := c11
    have hlt : K < cnt := Nat.not_le.mp fun h9 => cf11 ((nI_leI (by omega) (by omega)).mpr h9)
    refine z_aload_n hZ gEl_include_14 rfl ?_
    refine z_get hZ gEl_include_15 (by omega) rfl rfl ?_
    refine z_iload_n hZ gEl_include_18 rfl ?_
    refine z_iald hZ gEl_include_19 (by omega) rfl (vp_in_nI (by omega) (by decide)) ?_
    refine z_iload_n hZ gEl_include_20 rfl ?_
    refine z_cmpne hZ gEl_include_21 (fun c21 => ?_) (fun c21 => ?_)
    · have ct21 := c21
      have hno : ¬ ∃ j, j < cnt ∧ a 3 j = x := fun h => by
        rw [nI_clamp (by omega)] at ct21
        exact ct21 (hm.mp h).2
      refine z_aload_n hZ gEl_include_26 rfl ?_
      refine z_get hZ gEl_include_27 (by omega) rfl (by rw [hc]; rfl) ?_
      refine z_bipush hZ gEl_include_30 _ i120 ?_
      refine z_cmplt hZ gEl_include_32 (fun c32 => ?_) (fun c32 => ?_)
      · have ct32 := c32
        have hl120 : cnt < 120 := (nI_ltI (by omega) (by decide)).mp ct32
        refine z_aload_n hZ gEl_include_37 rfl ?_
        refine z_get hZ gEl_include_38 (by omega) rfl (by rw [hc]; rfl) ?_
        refine z_istore_n hZ gEl_include_41 rfl ?_
        have h9 := loop (cnt - K) cnt (by omega) (Nat.le_refl _) hl120 hno
        rw [shf_0, va_id a rfl] at h9
        exact h9
      · have cf32 := c32
        have hg120 : cnt = 120 := by
          have : ¬ cnt < 120 := fun h9 => cf32 ((nI_ltI (by omega) (by decide)).mpr h9)
          omega
        refine z_iconst hZ gEl_include_35 _ rfl ?_
        refine z_iret hZ gEl_include_36 ?_
        exact Or.inr (Or.inl ⟨rfl, hno, hg120, rfl⟩)
    · have cf21 := c21
      refine z_iconst hZ gEl_include_24 _ rfl ?_
      refine z_iret hZ gEl_include_25 ?_
      exact Or.inl ⟨rfl, hm.mpr ⟨hlt, by rw [nI_clamp (by omega)] at cf21; exact cf21⟩, rfl⟩
end
section
-- the group that the generators make
def gw (gen : Nat → Nat) : List Nat → Nat
  | [] => pid
  | k :: ls => pm (gw gen ls) (gen k)
def inS (gen : Nat → Nat) (gc c : Nat) : Prop := ∃ ls : List Nat, (∀ k, k ∈ ls → k < gc) ∧ gw gen ls = c
theorem inS_id (gen : Nat → Nat) (gc : Nat) : inS gen gc pid := ⟨[], fun k h => (by cases h), rfl⟩
theorem inS_mul {gen : Nat → Nat} {gc c k : Nat} (h : inS gen gc c) (hk : k < gc) : inS gen gc (pm c (gen k)) := by
  obtain ⟨ls, h1, h2⟩ := h
  refine ⟨k :: ls, fun j hj => ?_, by show pm (gw gen ls) (gen k) = _; rw [h2]⟩
  rcases List.mem_cons.mp hj with rfl | hj
  · exact hk
  · exact h1 j hj
theorem gw_P {gen : Nat → Nat} {gc : Nat} (hg : ∀ k, k < gc → isP (gen k)) : ∀ ls : List Nat, (∀ k, k ∈ ls → k < gc) → isP (gw gen ls)
  | [], _ => isP_id
  | k :: ls, h => isP_pm (gw_P hg ls (fun j hj => h j (List.mem_cons_of_mem _ hj))) (hg k (h k List.mem_cons_self))
theorem inS_P {gen : Nat → Nat} {gc c : Nat} (hg : ∀ k, k < gc → isP (gen k)) (h : inS gen gc c) : isP c := by
  obtain ⟨ls, h1, rfl⟩ := h
  exact gw_P hg ls h1
theorem inS_all {gen : Nat → Nat} {gc : Nat} {P : Nat → Prop} (h0 : P pid) (hs : ∀ c k, P c → k < gc → P (pm c (gen k))) {c : Nat} (h : inS gen gc c) : P c := by
  obtain ⟨ls, h1, rfl⟩ := h
  induction ls with
  | nil => exact h0
  | cons k ls ih => exact hs _ _ (ih (fun j hj => h1 j (List.mem_cons_of_mem _ hj))) (h1 k List.mem_cons_self)
-- inserting keeps the order
theorem ins_lo {f : Nat → Int32} {K n j : Nat} {x : Int32} (h : j < K) : ins f K n x j = f j := if_pos h
theorem ins_at {f : Nat → Int32} {K n : Nat} {x : Int32} : ins f K n x K = x := by unfold ins; rw [if_neg (Nat.lt_irrefl _), if_pos rfl]
theorem ins_hi {f : Nat → Int32} {K n j : Nat} {x : Int32} (h : K < j) (h2 : j ≤ n) : ins f K n x j = f (j - 1) := by unfold ins; rw [if_neg (by omega), if_neg (by omega), if_pos h2]
theorem ins_inc {f : Nat → Int32} {n : Nat} {x : Int32} (hi : inc f n) (hno : ¬ ∃ j, j < n ∧ f j = x) : inc (ins f (kf f x n) n x) (n + 1) := by
  have hK := kf_le f x n
  have hlo := kf_lo x n hi
  have hhi : ∀ j, kf f x n ≤ j → j < n → x < f j := fun j h1 h2 => by
    have h3 := kf_hi x n j h1 h2
    have h4 : ¬ f j = x := fun e => hno ⟨j, h2, e⟩
    rw [Int32.lt_iff_toInt_lt] at h3 ⊢
    have h5 : (f j).toInt ≠ x.toInt := fun e => h4 (Int32.toInt_inj.mp e)
    omega
  generalize kf f x n = K at *
  intro i j hij hj
  by_cases h1 : j < K
  · rw [ins_lo h1, ins_lo (by omega)]; exact hi i j hij (by omega)
  · by_cases h2 : j = K
    · subst h2; rw [ins_at, ins_lo hij]; exact hlo i hij
    · rw [ins_hi (j := j) (by omega) (by omega)]
      by_cases h3 : i < K
      · rw [ins_lo h3]; exact hi i (j - 1) (by omega) (by omega)
      · by_cases h4 : i = K
        · subst h4; rw [ins_at]; exact hhi _ (by omega) (by omega)
        · rw [ins_hi (j := i) (by omega) (by omega)]; exact hi (i - 1) (j - 1) (by omega) (by omega)
-- the world while elements come in
abbrev eW (a : sA) (g : sG) (i : sA) (f3 f4 : Nat → Int32) (cnt : Nat) : sx_M := cW (va_up (va_up a 3 f3) 4 f4) g (va_up i 2 (va_up (i 2) 2 (nI cnt)))
theorem eW_in (a : sA) (g : sG) (i : sA) (f3 f4 : Nat → Int32) (cnt : Nat) (x : Int32) : inW (va_up (va_up a 3 f3) 4 f4) g (va_up i 2 (va_up (i 2) 2 (nI cnt))) cnt x = eW a g i (ins f3 (kf f3 x cnt) cnt x) (upd f4 cnt x) (cnt + 1) := by
  have e1 : (va_up (va_up a 3 f3) 4 f4) 3 = f3 := by rw [va_up_ne _ _ (by decide), va_up_self]
  have e2 : (va_up (va_up a 3 f3) 4 f4) 4 = f4 := va_up_self _ _ _
  show cW _ _ _ = cW _ _ _
  rw [e1, e2]
  congr 1
  · funext n
    by_cases h4 : n = 4
    · subst h4; rw [va_up_self, va_up_self]
    · rw [va_up_ne _ _ h4, va_up_ne _ _ h4]
      by_cases h3 : n = 3
      · subst h3; rw [va_up_self, va_up_self]
      · rw [va_up_ne _ _ h3, va_up_ne _ _ h4, va_up_ne _ _ h3, va_up_ne _ _ h3]
  · rw [va_up_self, va_uu, va_uu]
-- what is known of the elements found
def gI (gen : Nat → Nat) (gc : Nat) (f3 f4 : Nat → Int32) (e : Nat → Nat) (cnt : Nat) : Prop :=
  cnt ≤ 120 ∧ 1 ≤ cnt ∧ inc f3 cnt ∧ (∀ j, j < cnt → f4 j = nI (e j) ∧ inS gen gc (e j)) ∧ (∀ j, j < cnt → ∃ k, k < cnt ∧ f3 j = nI (e k)) ∧ (∀ k, k < cnt → ∃ j, j < cnt ∧ f3 j = nI (e k)) ∧ (∀ j k, j < cnt → k < cnt → e j = e k → j = k) ∧ e 0 = pid
theorem gI_new {gen : Nat → Nat} {gc cnt c : Nat} {f3 f4 : Nat → Int32} {e : Nat → Nat} (hg : ∀ k, k < gc → isP (gen k)) (h : gI gen gc f3 f4 e cnt) (hlt : cnt < 120) (hc : inS gen gc c) (hno : ¬ ∃ j, j < cnt ∧ f3 j = nI c) : gI gen gc (ins f3 (kf f3 (nI c) cnt) cnt (nI c)) (upd f4 cnt (nI c)) (va_up e cnt c) (cnt + 1) := by
  obtain ⟨h1, h2, h3, h4, h5, h6, h7, h8⟩ := h
  have hK := kf_le f3 (nI c) cnt
  have hne : ∀ j, j < cnt → e j ≠ c := fun j hj e9 => by
    obtain ⟨k, hk, e2⟩ := h6 j hj
    exact hno ⟨k, hk, by rw [e2, e9]⟩
  refine ⟨by omega, by omega, ins_inc h3 hno, fun j hj => ?_, fun j hj => ?_, fun k hk => ?_, fun j k hj hk e9 => ?_, ?_⟩
  · by_cases e1 : j = cnt
    · subst e1; rw [pk_us, va_up_self]; exact ⟨rfl, hc⟩
    · rw [pk_un e1, va_up_ne _ _ e1]; exact h4 j (by omega)
  · generalize kf f3 (nI c) cnt = K at *
    have old : ∀ j, j < cnt → ∃ k, k < cnt + 1 ∧ f3 j = nI (va_up e cnt c k) := fun j hj => by
      obtain ⟨k, hk, e2⟩ := h5 j hj
      exact ⟨k, by omega, by rw [va_up_ne _ _ (by omega)]; exact e2⟩
    by_cases e1 : j < K
    · rw [ins_lo e1]; exact old j (by omega)
    · by_cases e2 : j = K
      · subst e2; rw [ins_at]; exact ⟨cnt, by omega, by rw [va_up_self]⟩
      · rw [ins_hi (by omega) (by omega)]; exact old (j - 1) (by omega)
  · generalize kf f3 (nI c) cnt = K at *
    by_cases e1 : k = cnt
    · subst e1; rw [va_up_self]; exact ⟨K, by omega, ins_at⟩
    · rw [va_up_ne _ _ e1]
      obtain ⟨j, hj, e2⟩ := h6 k (by omega)
      by_cases e3 : j < K
      · exact ⟨j, by omega, by rw [ins_lo e3]; exact e2⟩
      · exact ⟨j + 1, by omega, by rw [ins_hi (by omega) (by omega)]; exact e2⟩
  · by_cases e1 : j = cnt
    · by_cases e2 : k = cnt
      · omega
      · subst e1; rw [va_up_self, va_up_ne _ _ e2] at e9; exact absurd e9.symm (hne k (by omega))
    · by_cases e2 : k = cnt
      · subst e2; rw [va_up_self, va_up_ne _ _ e1] at e9; exact absurd e9 (hne j (by omega))
      · rw [va_up_ne _ _ e1, va_up_ne _ _ e2] at e9; exact h7 j k (by omega) (by omega) e9
  · rw [va_up_ne _ _ (by omega)]; exact h8
theorem gI_mem {gen : Nat → Nat} {gc cnt c : Nat} {f3 f4 : Nat → Int32} {e : Nat → Nat} (hg : ∀ k, k < gc → isP (gen k)) (h : gI gen gc f3 f4 e cnt) (hc : isP c) : (∃ j, j < cnt ∧ f3 j = nI c) ↔ ∃ k, k < cnt ∧ e k = c := by
  obtain ⟨h1, h2, h3, h4, h5, h6, h7, h8⟩ := h
  constructor
  · rintro ⟨j, hj, e1⟩
    obtain ⟨k, hk, e2⟩ := h5 j hj
    have h9 := inS_P hg (h4 k hk).2
    exact ⟨k, hk, (nI_eq (Nat.lt_trans h9.1 (by decide)) (Nat.lt_trans hc.1 (by decide))).mp (by rw [← e2, e1])⟩
  · rintro ⟨k, hk, rfl⟩
    obtain ⟨j, hj, e1⟩ := h6 k hk
    exact ⟨j, hj, e1⟩
-- the elements are all there, or there are more than 120
def gClosed (gen : Nat → Nat) (gc : Nat) (e : Nat → Nat) (cnt nx : Nat) : Prop := ∀ n, n < nx → ∀ k, k < gc → ∃ m, m < cnt ∧ e m = pm (e n) (gen k)
def gMany (gen : Nat → Nat) (gc : Nat) : Prop := ∃ es : List Nat, es.length = 121 ∧ es.Nodup ∧ ∀ c, c ∈ es → inS gen gc c
theorem gMany_of {gen : Nat → Nat} {gc c : Nat} {f3 f4 : Nat → Int32} {e : Nat → Nat} (h : gI gen gc f3 f4 e 120) (hc : inS gen gc c) (hno : ∀ k, k < 120 → e k ≠ c) : gMany gen gc := by
  obtain ⟨h1, h2, h3, h4, h5, h6, h7, h8⟩ := h
  refine ⟨c :: (List.range 120).map e, by simp, List.nodup_cons.mpr ⟨fun h9 => ?_, ?_⟩, fun x hx => ?_⟩
  · obtain ⟨k, hk, e9⟩ := List.mem_map.mp h9
    exact hno k (List.mem_range.mp hk) e9
  · exact List.pairwise_map.mpr (List.Pairwise.imp_of_mem (fun {u v} hu hv huv he => by
      have := h7 u v (List.mem_range.mp hu) (List.mem_range.mp hv) he
      omega) List.pairwise_lt_range)
  · rcases List.mem_cons.mp hx with rfl | hx
    · exact hc
    · obtain ⟨k, hk, rfl⟩ := List.mem_map.mp hx
      exact (h4 k (List.mem_range.mp hk)).2
theorem gAll {gen : Nat → Nat} {gc cnt : Nat} {f3 f4 : Nat → Int32} {e : Nat → Nat} (h : gI gen gc f3 f4 e cnt) (hcl : gClosed gen gc e cnt cnt) {c : Nat} (hc : inS gen gc c) : ∃ k, k < cnt ∧ e k = c := by
  obtain ⟨h1, h2, h3, h4, h5, h6, h7, h8⟩ := h
  refine inS_all (P := fun c => ∃ k, k < cnt ∧ e k = c) ⟨0, by omega, h8⟩ (fun c k hc hk => ?_) hc
  obtain ⟨m, hm, rfl⟩ := hc
  exact hcl m hm k hk

set_option maxHeartbeats 4000000 in
set_option maxRecDepth 100000 in
theorem c_El_generate (l : Launch) (D : va_G) (E : sx_E) (B : Nat) (A : Nat → Prop) (hB : 29 ≤ B) {a : sA} {g : sG} {i : sA} {gen : Nat → Nat} {gc : Nat} (hgc : gc ≤ 4) (h1 : ∀ k, k < gc → a 1 k = nI (gen k)) (hg : ∀ k, k < gc → isP (gen k)) : sM l D E B A yEl_generate prog_5_method_2_code 6 (some .boolean) 2 46 [.inr (2, 0), .inr (1, 0), .inl (nI gc)] (cW a g i) (fun r w' => ∃ (f3 f4 : Nat → Int32) (cnt : Nat), w' = eW a g i f3 f4 cnt ∧ ((r = some (.inl 1) ∧ ∃ e : Nat → Nat, gI gen gc f3 f4 e cnt ∧ gClosed gen gc e cnt cnt) ∨ (r = some (.inl 0) ∧ gMany gen gc))) := by
  refine sx_m0 (ls := lEl_generate) (cs := csAll) (by decide +kernel) kEl_generate (hEl_generate l D E B A hB) (by simp) ⟨fun w' h => (by obtain ⟨_, _, _, _, ⟨h, _⟩ | ⟨h, _⟩⟩ := h <;> cases h), fun y w' h => (by obtain ⟨_, _, _, _, ⟨h, _⟩ | ⟨h, _⟩⟩ := h <;> cases h <;> decide)⟩ ?_
  intro Z hZ
  -- inside, the elements found so far times the generators before k are there
  have inner : ∀ d nx, (∀ (e : Nat → Nat) (cnt : Nat) (f3 f4 : Nat → Int32) x5, gI gen gc f3 f4 e cnt → nx < cnt → gClosed gen gc e cnt (nx + 1) → Z 73 [some (.inr (2, 0)), some (.inr (1, 0)), some (.inl (nI gc)), some (.inl 1), some (.inl (nI nx)), x5] [] (eW a g i f3 f4 cnt)) → (∀ (f3 f4 : Nat → Int32) (cnt : Nat) x5, gMany gen gc → Z 73 [some (.inr (2, 0)), some (.inr (1, 0)), some (.inl (nI gc)), some (.inl 0), some (.inl (nI nx)), x5] [] (eW a g i f3 f4 cnt)) →
      ∀ k e cnt f3 f4, d + k = gc → gI gen gc f3 f4 e cnt → nx < cnt → gClosed gen gc e cnt nx → (∀ j, j < k → ∃ m, m < cnt ∧ e m = pm (e nx) (gen j)) → Z 38 [some (.inr (2, 0)), some (.inr (1, 0)), some (.inl (nI gc)), some (.inl 1), some (.inl (nI nx)), some (.inl (nI k))] [] (eW a g i f3 f4 cnt) := by
    intro d nx kT kF
    induction d with
    | zero =>
      intro k e cnt f3 f4 hd hI hnx hcl hk
      have hk2 : k = gc := by omega
      subst hk2
      refine z_iload_n hZ gEl_generate_38 rfl ?_
      refine z_ifeq hZ gEl_generate_39 (fun c39 => absurd c39 (by decide)) (fun c39 => ?_)
      refine z_iload hZ gEl_generate_42 rfl ?_
      refine z_iload_n hZ gEl_generate_44 rfl ?_
      refine z_cmpge hZ gEl_generate_45 (fun c45 => ?_) (fun c45 => absurd (nI_le (Nat.le_refl k) (by omega)) c45)
      refine kT e cnt f3 f4 _ hI hnx (fun n hn j hj => ?_)
      by_cases e9 : n = nx
      · subst e9; exact hk j hj
      · exact hcl n (by omega) j hj
    | succ d ih =>
      intro k e cnt f3 f4 hd hI hnx hcl hkk
      have hk : k < gc := by omega
      have h120 := hI.1
      have e3a : (va_up (va_up a 3 f3) 4 f4) 3 = f3 := by rw [va_up_ne _ _ (by decide), va_up_self]
      have e4n := (hI.2.2.2.1 nx hnx)
      have hPn := inS_P hg e4n.2
      have hS := inS_mul e4n.2 hk
      have hmem := gI_mem hg hI (isP_pm hPn (hg k hk))
      have ec : (nI nx).toNatClampNeg = nx := nI_clamp (by omega)
      have ek : (nI k).toNatClampNeg = k := nI_clamp (by omega)
      refine z_iload_n hZ gEl_generate_38 rfl ?_
      refine z_ifeq hZ gEl_generate_39 (fun c39 => absurd c39 (by decide)) (fun c39 => ?_)
      refine z_iload hZ gEl_generate_42 rfl ?_
      refine z_iload_n hZ gEl_generate_44 rfl ?_
      refine z_cmpge hZ gEl_generate_45 (fun c45 => absurd c45 (nI_ge (by omega) (by omega))) (fun c45 => ?_)
      refine z_aload_n hZ gEl_generate_48 rfl ?_
      refine z_aload_n hZ gEl_generate_49 rfl ?_
      refine z_get hZ gEl_generate_50 (by omega) rfl rfl ?_
      refine z_iload hZ gEl_generate_53 rfl ?_
      refine z_iald hZ gEl_generate_55 (by omega) rfl (vp_in_nI (by omega) (by decide)) ?_
      rw [ec]
      have e4 : (va_up (va_up a 3 f3) 4 f4) 4 nx = nI (e nx) := by rw [va_up_self]; exact e4n.1
      rw [e4]
      refine z_aload_n hZ gEl_generate_56 rfl ?_
      refine z_iload hZ gEl_generate_57 rfl ?_
      refine z_iald hZ gEl_generate_59 (by omega) rfl (vp_in_nI (by omega) (by decide)) ?_
      rw [ek]
      have e1 : (va_up (va_up a 3 f3) 4 f4) 1 k = nI (gen k) := by rw [va_up_ne _ _ (by decide), va_up_ne _ _ (by decide)]; exact h1 k hk
      rw [e1]
      refine z_cs hZ gEl_generate_60 rfl rfl (Nat.le_of_ble_eq_true rfl) (Nat.le_of_ble_eq_true rfl) (fun l D E B A hB => c_Cd_product l D E B A hPn.1 (hg _ hk).1 _) (fun r60 w60 p60 => ?_)
      obtain ⟨rfl, rfl⟩ := p60
      show Z (60 + 3) _ (.inl (nI (pm (e nx) (gen k))) :: .inr (2, 0) :: []) _
      refine z_cv hZ gEl_generate_63 rfl rfl (Nat.le_of_ble_eq_true rfl) (Nat.le_of_ble_eq_true rfl) ⟨⟨2, _, _, rfl, by decide, rfl⟩, fun l D E B A hB => c_El_include l D E B A hB (by rw [va_up_self, va_up_self]) hI.1 (by rw [e3a]; exact hI.2.2.1) _⟩ (fun r63 w63 p63 => ?_)
      rw [e3a, hmem] at p63
      rcases p63 with ⟨rfl, hin, rfl⟩ | ⟨rfl, hno, h120e, rfl⟩ | ⟨rfl, hno, hlt, rfl⟩
      rotate_left
      · show Z (63 + 3) _ (.inl 0 :: []) _
        refine z_istore_n hZ gEl_generate_66 rfl ?_
        refine z_iinc hZ gEl_generate_67 rfl _ (i1 k) rfl ?_
        refine z_goto hZ gEl_generate_70 ?_
        refine z_iload_n hZ gEl_generate_38 rfl ?_
        refine z_ifeq hZ gEl_generate_39 (fun c39 => ?_) (fun c39 => absurd rfl c39)
        subst h120e
        exact kF f3 f4 _ _ (gMany_of hI hS (fun j hj e9 => hno ⟨j, hj, e9⟩))
      · show Z (63 + 3) _ (.inl 1 :: []) _
        rw [eW_in]
        refine z_istore_n hZ gEl_generate_66 rfl ?_
        refine z_iinc hZ gEl_generate_67 rfl _ (i1 k) rfl ?_
        refine z_goto hZ gEl_generate_70 ?_
        have hI2 := gI_new hg hI hlt hS (fun h9 => hno (hmem.mp h9))
        have up : ∀ m, m < cnt → va_up e cnt (pm (e nx) (gen k)) m = e m := fun m hm => va_up_ne _ _ (by omega)
        refine ih (k + 1) _ (cnt + 1) _ _ (by omega) hI2 (by omega) (fun n hn j hj => ?_) (fun j hj => ?_)
        · obtain ⟨m, hm, e9⟩ := hcl n hn j hj
          exact ⟨m, by omega, by rw [up m hm, up n (by omega)]; exact e9⟩
        · rw [up nx hnx]
          by_cases e9 : j = k
          · subst e9; exact ⟨cnt, by omega, va_up_self _ _ _⟩
          · obtain ⟨m, hm, e10⟩ := hkk j (by omega)
            exact ⟨m, by omega, by rw [up m hm]; exact e10⟩
      show Z (63 + 3) _ (.inl 1 :: []) _
      refine z_istore_n hZ gEl_generate_66 rfl ?_
      refine z_iinc hZ gEl_generate_67 rfl _ (i1 k) rfl ?_
      refine z_goto hZ gEl_generate_70 ?_
      refine ih (k + 1) e cnt f3 f4 (by omega) hI hnx hcl (fun j hj => ?_)
      by_cases e9 : j = k
      · subst e9; exact hin
      · exact hkk j (by omega)
  have bad : ∀ (f3 f4 : Nat → Int32) (cnt nx : Nat) x5, nx < 2 ^ 20 → gMany gen gc → Z 15 [some (.inr (2, 0)), some (.inr (1, 0)), some (.inl (nI gc)), some (.inl 0), some (.inl (nI nx)), x5] [] (eW a g i f3 f4 cnt) := by
    intro f3 f4 cnt nx x5 hnx hm
    have fin : Z 79 [some (.inr (2, 0)), some (.inr (1, 0)), some (.inl (nI gc)), some (.inl 0), some (.inl (nI nx)), x5] [] (eW a g i f3 f4 cnt) := by
      refine z_iload_n hZ gEl_generate_79 rfl ?_
      refine z_iret hZ gEl_generate_80 ?_
      exact ⟨f3, f4, cnt, rfl, Or.inr ⟨rfl, hm⟩⟩
    refine z_iload hZ gEl_generate_15 rfl ?_
    refine z_bipush hZ gEl_generate_17 _ i120 ?_
    refine z_cmpge hZ gEl_generate_19 (fun c19 => ?_) (fun c19 => ?_)
    · have ct19 := c19
      exact fin
    · have cf19 := c19
      refine z_iload_n hZ gEl_generate_22 rfl ?_
      refine z_ifeq hZ gEl_generate_23 (fun c23 => ?_) (fun c23 => absurd rfl c23)
      exact fin
  have outer : ∀ d nx e cnt f3 f4 x5, d + nx = 120 → gI gen gc f3 f4 e cnt → nx ≤ cnt → gClosed gen gc e cnt nx → Z 15 [some (.inr (2, 0)), some (.inr (1, 0)), some (.inl (nI gc)), some (.inl 1), some (.inl (nI nx)), x5] [] (eW a g i f3 f4 cnt) := by
    intro d
    induction d with
    | zero =>
      intro nx e cnt f3 f4 x5 hd hI hnx hcl
      have h120 := hI.1
      have e9 : nx = cnt := by omega
      have e10 : nx = 120 := by omega
      refine z_iload hZ gEl_generate_15 rfl ?_
      refine z_bipush hZ gEl_generate_17 _ i120 ?_
      refine z_cmpge hZ gEl_generate_19 (fun c19 => ?_) (fun c19 => absurd (nI_le (by omega) (by omega)) c19)
      refine z_iload_n hZ gEl_generate_79 rfl ?_
      refine z_iret hZ gEl_generate_80 ?_
      exact ⟨f3, f4, cnt, rfl, Or.inl ⟨rfl, e, hI, by rw [e9] at hcl; exact hcl⟩⟩
    | succ d ih =>
      intro nx e cnt f3 f4 x5 hd hI hnx hcl
      have h120 := hI.1
      refine z_iload hZ gEl_generate_15 rfl ?_
      refine z_bipush hZ gEl_generate_17 _ i120 ?_
      refine z_cmpge hZ gEl_generate_19 (fun c19 => absurd c19 (nI_ge (by omega) (by decide))) (fun c19 => ?_)
      refine z_iload_n hZ gEl_generate_22 rfl ?_
      refine z_ifeq hZ gEl_generate_23 (fun c23 => absurd c23 (by decide)) (fun c23 => ?_)
      refine z_iload hZ gEl_generate_26 rfl ?_
      refine z_aload_n hZ gEl_generate_28 rfl ?_
      refine z_get hZ gEl_generate_29 (by omega) rfl (by rw [va_up_self, va_up_self]; rfl) ?_
      refine z_cmpge hZ gEl_generate_32 (fun c32 => ?_) (fun c32 => ?_)
      · have ct32 := c32
        have hge : cnt ≤ nx := (nI_leI (by omega) (by omega)).mp ct32
        refine z_iload_n hZ gEl_generate_79 rfl ?_
        refine z_iret hZ gEl_generate_80 ?_
        have e9 : nx = cnt := by omega
        exact ⟨f3, f4, cnt, rfl, Or.inl ⟨rfl, e, hI, by rw [e9] at hcl; exact hcl⟩⟩
      · have cf32 := c32
        have hlt : nx < cnt := Nat.not_le.mp fun h9 => cf32 ((nI_leI (by omega) (by omega)).mpr h9)
        refine z_iconst hZ gEl_generate_35 _ rfl ?_
        refine z_istore hZ gEl_generate_36 rfl ?_
        refine inner gc nx (fun e cnt f3 f4 x5 hI hnx hcl => ?_) (fun f3 f4 cnt x5 hm => ?_) 0 e cnt f3 f4 rfl hI hlt hcl (fun j hj => absurd hj (Nat.not_lt_zero j))
        · refine z_iinc hZ gEl_generate_73 rfl _ (i1 nx) rfl ?_
          refine z_goto hZ gEl_generate_76 ?_
          exact ih (nx + 1) e cnt f3 f4 _ (by omega) hI hnx hcl
        · refine z_iinc hZ gEl_generate_73 rfl _ (i1 nx) rfl ?_
          refine z_goto hZ gEl_generate_76 ?_
          exact bad f3 f4 cnt (nx + 1) _ (by omega) hm
  have start : gI gen gc (ins (a 3) (kf (a 3) (nI pid) 0) 0 (nI pid)) (upd (a 4) 0 (nI pid)) (fun _ => pid) 1 := by
    have hk0 : kf (a 3) (nI pid) 0 = 0 := rfl
    rw [hk0]
    refine ⟨by decide, Nat.le_refl 1, fun u v h1 h2 => by omega, fun j hj => ?_, fun j hj => ?_, fun k hk => ?_, fun j k hj hk _ => by omega, rfl⟩
    · have : j = 0 := by omega
      subst this; rw [pk_us]; exact ⟨rfl, inS_id _ _⟩
    · have : j = 0 := by omega
      subst this; exact ⟨0, by omega, ins_at⟩
    · exact ⟨0, by omega, ins_at⟩
  refine z_aload_n hZ gEl_generate_0 rfl ?_
  refine z_iconst hZ gEl_generate_1 _ i0 ?_
  refine z_putW hZ gEl_generate_2 (by omega) rfl (Or.inl (by decide)) (Nat.le_of_ble_eq_true rfl) cW_i2_2 ?_
  refine z_aload_n hZ gEl_generate_5 rfl ?_
  refine z_ldc hZ gEl_generate_6 ?_
  refine z_cv hZ gEl_generate_8 rfl rfl (Nat.le_of_ble_eq_true rfl) (Nat.le_of_ble_eq_true rfl) ⟨⟨2, _, _, rfl, by decide, rfl⟩, fun l D E B A hB => c_El_include l D E B A hB (a := a) (i := va_up i 2 (va_up (i 2) 2 (nI 0))) (by rw [va_up_self, va_up_self]) (by decide) (fun u v h1 h2 => absurd h2 (Nat.not_lt_zero v)) _⟩ (fun r8 w8 p8 => ?_)
  rcases p8 with ⟨_, ⟨j, hj, _⟩, _⟩ | ⟨_, _, h9, _⟩ | ⟨rfl, _, _, rfl⟩
  · exact absurd hj (Nat.not_lt_zero j)
  · exact absurd h9 (by decide)
  show Z (8 + 3) _ (.inl 1 :: []) _
  have e9 := eW_in a g i (a 3) (a 4) 0 (nI pid)
  rw [va_id a (k := 3) rfl, va_id a (k := 4) rfl] at e9
  rw [show nI 342391 = nI pid from rfl, e9]
  refine z_istore_n hZ gEl_generate_11 rfl ?_
  refine z_iconst hZ gEl_generate_12 _ rfl ?_
  refine z_istore hZ gEl_generate_13 rfl ?_
  exact outer 120 0 (fun _ => pid) 1 _ _ _ rfl start (Nat.zero_le 1) (fun n hn => absurd hn (Nat.not_lt_zero n))
end
section
theorem pp_lt {p : Nat} (h : p * p < 2 ^ 31) : p < 2 ^ 16 := Nat.lt_of_not_le fun h9 => by
  have := Nat.mul_le_mul h9 h9
  omega
theorem mm_lt {p a b : Nat} (hpp : p * p < 2 ^ 31) (ha : a ≤ p) (hb : b ≤ p) : a * b ≤ p * p := Nat.mul_le_mul ha hb

set_option maxHeartbeats 4000000 in
set_option maxRecDepth 100000 in
theorem c_Re_times (l : Launch) (D : va_G) (E : sx_E) (B : Nat) (A : Nat → Prop) (hB : 29 ≤ B) {a : sA} {g : sG} {i : sA} {p : Nat} (hm : i 12 0 = nI p) (hp0 : 0 < p) (hpp : p * p < 2 ^ 31) {x y : Nat} (hxy : x * y < 2 ^ 31) : sM l D E B A yRe_times prog_6_method_6_code 3 (some .int) 0 0 [.inr (12, 0), .inl (nI x), .inl (nI y)] (cW a g i) (fun r w' => r = some (.inl (nI (x * y % p))) ∧ w' = cW a g i) := by
  refine sx_m0 (ls := lRe_times) (cs := noCalls) (by decide +kernel) kRe_times (fun pc i h1 h2 => sx_nc (ls := lRe_times) (by decide) pc i h1 h2) (by simp) (fun w' h => by cases h.1) ?_
  intro Z hZ
  have hp2 := pp_lt hpp
  refine z_iload_n hZ gRe_times_0 rfl ?_
  refine z_iload_n hZ gRe_times_1 rfl ?_
  refine z_imul hZ gRe_times_2 _ (pk_mul x y) ?_
  refine z_aload_n hZ gRe_times_3 rfl ?_
  refine z_get hZ gRe_times_4 (by omega) rfl (by rw [hm]; rfl) ?_
  refine z_irem hZ gRe_times_7 (nI_ne0 hp0 (by omega)) _ (pk_rem hxy hp0 (by omega)) ?_
  refine z_iret hZ gRe_times_8 ?_
  exact ⟨rfl, rfl⟩

set_option maxHeartbeats 4000000 in
set_option maxRecDepth 100000 in
theorem c_Re_plusTimes (l : Launch) (D : va_G) (E : sx_E) (B : Nat) (A : Nat → Prop) (hB : 29 ≤ B) {a : sA} {g : sG} {i : sA} {p : Nat} (hm : i 12 0 = nI p) (hp0 : 0 < p) (hpp : p * p < 2 ^ 31) {s x y : Nat} (hxy : s + x * y < 2 ^ 31) : sM l D E B A yRe_plusTimes prog_6_method_7_code 4 (some .int) 0 0 [.inr (12, 0), .inl (nI s), .inl (nI x), .inl (nI y)] (cW a g i) (fun r w' => r = some (.inl (nI ((s + x * y) % p))) ∧ w' = cW a g i) := by
  refine sx_m0 (ls := lRe_plusTimes) (cs := noCalls) (by decide +kernel) kRe_plusTimes (fun pc i h1 h2 => sx_nc (ls := lRe_plusTimes) (by decide) pc i h1 h2) (by simp) (fun w' h => by cases h.1) ?_
  intro Z hZ
  have hp2 := pp_lt hpp
  refine z_iload_n hZ gRe_plusTimes_0 rfl ?_
  refine z_iload_n hZ gRe_plusTimes_1 rfl ?_
  refine z_iload_n hZ gRe_plusTimes_2 rfl ?_
  refine z_imul hZ gRe_plusTimes_3 _ (pk_mul x y) ?_
  refine z_iadd hZ gRe_plusTimes_4 _ (nI_add s (x * y)) ?_
  refine z_aload_n hZ gRe_plusTimes_5 rfl ?_
  refine z_get hZ gRe_plusTimes_6 (by omega) rfl (by rw [hm]; rfl) ?_
  refine z_irem hZ gRe_plusTimes_9 (nI_ne0 hp0 (by omega)) _ (pk_rem hxy hp0 (by omega)) ?_
  refine z_iret hZ gRe_plusTimes_10 ?_
  exact ⟨rfl, rfl⟩

set_option maxHeartbeats 4000000 in
set_option maxRecDepth 100000 in
theorem c_Re_minusTimes (l : Launch) (D : va_G) (E : sx_E) (B : Nat) (A : Nat → Prop) (hB : 29 ≤ B) {a : sA} {g : sG} {i : sA} {p : Nat} (hm : i 12 0 = nI p) (hp0 : 0 < p) (hpp : p * p < 2 ^ 31) {s x y : Nat} (hx : x ≤ p) (hxy : s + (p - x) * y < 2 ^ 31) : sM l D E B A yRe_minusTimes prog_6_method_8_code 4 (some .int) 0 0 [.inr (12, 0), .inl (nI s), .inl (nI x), .inl (nI y)] (cW a g i) (fun r w' => r = some (.inl (nI ((s + (p - x) * y) % p))) ∧ w' = cW a g i) := by
  refine sx_m0 (ls := lRe_minusTimes) (cs := noCalls) (by decide +kernel) kRe_minusTimes (fun pc i h1 h2 => sx_nc (ls := lRe_minusTimes) (by decide) pc i h1 h2) (by simp) (fun w' h => by cases h.1) ?_
  intro Z hZ
  have hp2 := pp_lt hpp
  refine z_iload_n hZ gRe_minusTimes_0 rfl ?_
  refine z_aload_n hZ gRe_minusTimes_1 rfl ?_
  refine z_get hZ gRe_minusTimes_2 (by omega) rfl (by rw [hm]; rfl) ?_
  refine z_iload_n hZ gRe_minusTimes_5 rfl ?_
  refine z_isub hZ gRe_minusTimes_6 _ (pk_sub hx) ?_
  refine z_iload_n hZ gRe_minusTimes_7 rfl ?_
  refine z_imul hZ gRe_minusTimes_8 _ (pk_mul (p - x) y) ?_
  refine z_iadd hZ gRe_minusTimes_9 _ (nI_add s ((p - x) * y)) ?_
  refine z_aload_n hZ gRe_minusTimes_10 rfl ?_
  refine z_get hZ gRe_minusTimes_11 (by omega) rfl (by rw [hm]; rfl) ?_
  refine z_irem hZ gRe_minusTimes_14 (nI_ne0 hp0 (by omega)) _ (pk_rem hxy hp0 (by omega)) ?_
  refine z_iret hZ gRe_minusTimes_15 ?_
  exact ⟨rfl, rfl⟩

set_option maxHeartbeats 4000000 in
set_option maxRecDepth 100000 in
theorem c_Re_reduce (l : Launch) (D : va_G) (E : sx_E) (B : Nat) (A : Nat → Prop) (hB : 29 ≤ B) {a : sA} {g : sG} {i : sA} {p : Nat} (hm : i 12 0 = nI p) (hp0 : 0 < p) (hpp : p * p < 2 ^ 31) (x : Int32) : sM l D E B A yRe_reduce prog_6_method_5_code 2 (some .int) 1 22 [.inr (12, 0), .inl x] (cW a g i) (fun r w' => r = some (.inl (nI (x.toInt % (p : Int)).toNat)) ∧ w' = cW a g i) := by
  refine sx_m0 (ls := lRe_reduce) (cs := csAll) (by decide +kernel) kRe_reduce (hRe_reduce l D E B A hB) (by simp) (fun w' h => by cases h.1) ?_
  intro Z hZ
  have hp2 := pp_lt hpp
  refine z_iload_n hZ gRe_reduce_0 rfl ?_
  refine z_aload_n hZ gRe_reduce_1 rfl ?_
  refine z_get hZ gRe_reduce_2 (by omega) rfl (by rw [hm]; rfl) ?_
  refine z_cs hZ gRe_reduce_5 rfl rfl (Nat.le_of_ble_eq_true rfl) (Nat.le_of_ble_eq_true rfl) (fun l D E B A hB => c_Ma_floorMod l D E B A x hp0 (by omega) _) (fun r5 w5 p5 => ?_)
  obtain ⟨rfl, rfl⟩ := p5
  show Z (5 + 3) _ (.inl (nI (x.toInt % (p : Int)).toNat) :: []) _
  refine z_iret hZ gRe_reduce_8 ?_
  exact ⟨rfl, rfl⟩

-- numbers with a sign
def zI (z : Int) : Int32 := Int32.ofInt z
def sg (b : Bool) (n : Nat) : Int := if b = true then -(n : Int) else (n : Int)
theorem zI_n (n : Nat) : nI n = zI (n : Int) := Int32.ofInt_eq_ofNat.symm
theorem zI_t {z : Int} (h1 : -(2 ^ 31) ≤ z) (h2 : z < 2 ^ 31) : (zI z).toInt = z := by
  exact Int32.toInt_ofInt_of_le h1 h2
theorem zI_step (b : Bool) (f0 f1 q : Nat) : zI (sg b f0) - nI q * zI (sg (!b) f1) = zI (sg b (f0 + q * f1)) := by
  have h1 : sg b (f0 + q * f1) = sg b f0 - (q : Int) * sg (!b) f1 := by
    cases b
    · simp [sg]; grind
    · simp [sg]; grind
  rw [h1, zI_n q]
  unfold zI
  rw [Int32.ofInt_sub, Int32.ofInt_mul]
theorem sg_b (b : Bool) (n : Nat) : sg b n ≤ n ∧ -(n : Int) ≤ sg b n := by cases b <;> simp [sg] <;> omega

set_option maxHeartbeats 4000000 in
set_option maxRecDepth 100000 in
theorem c_Re_reciprocal (l : Launch) (D : va_G) (E : sx_E) (B : Nat) (A : Nat → Prop) (hB : 29 ≤ B) {a : sA} {g : sG} {i : sA} {p : Nat} (hm : i 12 0 = nI p) (hp0 : 0 < p) (hpp : p * p < 2 ^ 31) {num : Nat} (hnum : num < 2 ^ 31) : sM l D E B A yRe_reciprocal prog_6_method_10_code 10 (some .int) 0 0 [.inr (12, 0), .inl (nI num)] (cW a g i) (fun r w' => ∃ q : Nat, r = some (.inl (nI q)) ∧ q < p ∧ (p ∣ num → q = 0) ∧ ((∀ m, m ∣ p → m = 1 ∨ m = p) → 1 < p → ¬ p ∣ num → (p : Int) ∣ (q : Int) * (num : Int) - 1) ∧ w' = cW a g i) := by
  refine sx_m0 (ls := lRe_reciprocal) (cs := noCalls) (by decide +kernel) kRe_reciprocal (fun pc i h1 h2 => sx_nc (ls := lRe_reciprocal) (by decide) pc i h1 h2) (by simp) (fun w' h => (by obtain ⟨_, h, _⟩ := h; cases h)) ?_
  intro Z hZ
  have hp2 := pp_lt hpp
  have fin : ∀ R0 f0 b x3 x5 x6 x7 x8 x9, R0 ≤ p → (p : Int) ∣ sg b f0 * (num : Int) - (R0 : Int) → (∃ f1, f1 * R0 = p) → 2 * f0 ≤ p → (R0 = p → f0 = 0 ∧ num % p = 0) → (p ∣ num → f0 = 0) → Z 74 [some (.inr (12, 0)), some (.inl (nI num)), some (.inl (nI R0)), x3, some (.inl (zI (sg b f0))), x5, x6, x7, x8, x9] [] (cW a g i) := by
    intro R0 f0 b x3 x5 x6 x7 x8 x9 hR hd hf h2 hR0 hpn
    have hb := sg_b b f0
    have ht : (zI (sg b f0)).toInt = sg b f0 := zI_t (by omega) (by omega)
    have key : ∀ q : Nat, q < p → (p : Int) ∣ (q : Int) - sg b f0 → (f0 = 0 → q = 0) → ((∀ m, m ∣ p → m = 1 ∨ m = p) → 1 < p → ¬ p ∣ num → (p : Int) ∣ (q : Int) * (num : Int) - 1) := fun q hq hqd _ hpr h1p hnd => by
      obtain ⟨f1, hf1⟩ := hf
      have hR1 : R0 = 1 := by
        rcases hpr R0 ⟨f1, by rw [Nat.mul_comm]; exact hf1.symm⟩ with e | e
        · exact e
        · exact absurd (Nat.dvd_of_mod_eq_zero (hR0 e).2) hnd
      rw [hR1] at hd
      obtain ⟨c1, hc1⟩ := hd
      obtain ⟨c2, hc2⟩ := hqd
      exact ⟨c1 + c2 * num, by grind⟩
    refine z_iload hZ gRe_reciprocal_74 rfl ?_
    refine z_ifge hZ gRe_reciprocal_76 (fun c76 => ?_) (fun c76 => ?_)
    · have ct76 := c76
      have hs : 0 ≤ sg b f0 := by
        rw [Int32.le_iff_toInt_le, Int32.toInt_zero, ht] at ct76
        exact ct76
      have hq : ∃ q : Nat, (q : Int) = sg b f0 := ⟨(sg b f0).toNat, by omega⟩
      obtain ⟨q, hq⟩ := hq
      rw [← hq, ← zI_n]
      refine z_iload hZ gRe_reciprocal_89 rfl ?_
      refine z_iret hZ gRe_reciprocal_91 ?_
      first
        | (refine ⟨q, rfl, by omega, fun h9 => ?_, key q (by omega) ⟨0, by omega⟩ (fun h9 => by omega), rfl⟩
           have := hpn h9
           subst this
           cases b <;> simp [sg] at hq <;> omega)
        | (refine ⟨q, rfl, by omega, fun h9 => ?_, key q (by omega) ⟨1, by omega⟩ (fun h9 => ?_), rfl⟩
           · have := hpn h9
             subst this
             cases b <;> simp [sg] at hs
           · subst h9
             cases b <;> simp [sg] at hs)
    · have cf76 := c76
      have hs : sg b f0 < 0 := by
        rw [Int32.le_iff_toInt_le, Int32.toInt_zero, ht] at cf76
        omega
      have hq : ∃ q : Nat, (q : Int) = sg b f0 + (p : Int) := ⟨(sg b f0 + (p : Int)).toNat, by omega⟩
      obtain ⟨q, hq⟩ := hq
      have hadd : zI (sg b f0) + nI p = nI q := by
        rw [zI_n p, zI_n q, hq]
        unfold zI
        rw [Int32.ofInt_add]
      refine z_iload hZ gRe_reciprocal_79 rfl ?_
      refine z_aload_n hZ gRe_reciprocal_81 rfl ?_
      refine z_get hZ gRe_reciprocal_82 (by omega) rfl (by rw [hm]; rfl) ?_
      refine z_iadd hZ gRe_reciprocal_85 _ hadd ?_
      refine z_goto hZ gRe_reciprocal_86 ?_
      refine z_iret hZ gRe_reciprocal_91 ?_
      first
        | (refine ⟨q, rfl, by omega, fun h9 => ?_, key q (by omega) ⟨0, by omega⟩ (fun h9 => by omega), rfl⟩
           have := hpn h9
           subst this
           cases b <;> simp [sg] at hq <;> omega)
        | (refine ⟨q, rfl, by omega, fun h9 => ?_, key q (by omega) ⟨1, by omega⟩ (fun h9 => ?_), rfl⟩
           · have := hpn h9
             subst this
             cases b <;> simp [sg] at hs
           · subst h9
             cases b <;> simp [sg] at hs)
  have loop : ∀ n st, n + st = 64 → ∀ R0 R1 f0 f1 b c x7 x8 x9, c = !b → R1 < R0 → R0 ≤ p → (p : Int) ∣ sg b f0 * (num : Int) - (R0 : Int) → (p : Int) ∣ sg c f1 * (num : Int) - (R1 : Int) → f0 * R1 + f1 * R0 = p → 2 * f0 ≤ p → R0 * R1 * 2 ^ st ≤ p * p → (R0 = p → f0 = 0 ∧ R1 = num % p) → (p ∣ num → f0 = 0 ∧ R1 = 0) → Z 21 [some (.inr (12, 0)), some (.inl (nI num)), some (.inl (nI R0)), some (.inl (nI R1)), some (.inl (zI (sg b f0))), some (.inl (zI (sg c f1))), some (.inl (nI st)), x7, x8, x9] [] (cW a g i) := by
    intro n
    induction n with
    | zero =>
      intro st hst R0 R1 f0 f1 b c x7 x8 x9 hcb h1 h2 h3 h4 h5 h6 h7 h8 h9
      subst hcb
      have e64 : st = 64 := by omega
      subst e64
      have hR1 : R1 = 0 := by
        refine Classical.byContradiction fun hne => ?_
        have hR01 : 1 ≤ R0 * R1 := Nat.mul_pos (by omega) (by omega)
        have : 1 * 2 ^ 64 ≤ R0 * R1 * 2 ^ 64 := Nat.mul_le_mul_right _ hR01
        omega
      subst hR1
      refine z_iload hZ gRe_reciprocal_21 rfl ?_
      refine z_bipush hZ gRe_reciprocal_23 _ i64 ?_
      refine z_cmpge hZ gRe_reciprocal_25 (fun c25 => ?_) (fun c25 => absurd (nI_le (Nat.le_refl 64) (by decide)) c25)
      exact fin R0 f0 b _ _ _ _ _ _ h2 h3 ⟨f1, by omega⟩ h6 (fun e => ⟨(h8 e).1, (h8 e).2.symm⟩) (fun h => (h9 h).1)
    | succ n ih =>
      intro st hst R0 R1 f0 f1 b c x7 x8 x9 hcb h1 h2 h3 h4 h5 h6 h7 h8 h9
      subst hcb
      refine z_iload hZ gRe_reciprocal_21 rfl ?_
      refine z_bipush hZ gRe_reciprocal_23 _ i64 ?_
      refine z_cmpge hZ gRe_reciprocal_25 (fun c25 => absurd c25 (nI_ge (by omega) (by decide))) (fun c25 => ?_)
      refine z_iload_n hZ gRe_reciprocal_28 rfl ?_
      refine z_ifle hZ gRe_reciprocal_29 (fun c29 => ?_) (fun c29 => ?_)
      · have ct29 := c29
        have hR1 : R1 = 0 := Nat.eq_zero_of_not_pos fun h => nI_nle h (by omega) ct29
        subst hR1
        exact fin R0 f0 b _ _ _ _ _ _ h2 h3 ⟨f1, by omega⟩ h6 (fun e => ⟨(h8 e).1, (h8 e).2.symm⟩) (fun h => (h9 h).1)
      · have cf29 := c29
        have hR1 : 0 < R1 := Nat.pos_of_ne_zero fun h => cf29 (by rw [h]; exact Int32.le_refl _)
        have hq1 : R0 / R1 * R1 ≤ R0 := Nat.div_mul_le_self R0 R1
        have hmod : R0 - R0 / R1 * R1 = R0 % R1 := by
          have := Nat.mod_add_div R0 R1
          rw [Nat.mul_comm R1] at this
          omega
        have hml := Nat.mod_lt R0 hR1
        have hda := Nat.mod_add_div R0 R1
        have hqp : 1 ≤ R0 / R1 := (Nat.one_le_div_iff hR1).mpr (by omega)
        generalize hqe : R0 / R1 = q at *
        have hqR : q ≤ R0 := by
          have : q * 1 ≤ q * R1 := Nat.mul_le_mul_left q hR1
          omega
        refine z_iload_n hZ gRe_reciprocal_32 rfl ?_
        refine z_iload_n hZ gRe_reciprocal_33 rfl ?_
        refine z_idiv hZ gRe_reciprocal_34 (nI_ne0 hR1 (by omega)) _ (by rw [pk_div (by omega) hR1 (by omega), hqe]) ?_
        refine z_istore hZ gRe_reciprocal_35 rfl ?_
        refine z_iload_n hZ gRe_reciprocal_37 rfl ?_
        refine z_iload hZ gRe_reciprocal_38 rfl ?_
        refine z_iload_n hZ gRe_reciprocal_40 rfl ?_
        refine z_imul hZ gRe_reciprocal_41 _ (pk_mul q R1) ?_
        refine z_isub hZ gRe_reciprocal_42 _ (by rw [pk_sub hq1, hmod]) ?_
        refine z_istore hZ gRe_reciprocal_43 rfl ?_
        refine z_iload hZ gRe_reciprocal_45 rfl ?_
        refine z_iload hZ gRe_reciprocal_47 rfl ?_
        refine z_iload hZ gRe_reciprocal_49 rfl ?_
        refine z_imul hZ gRe_reciprocal_51 _ rfl ?_
        refine z_isub hZ gRe_reciprocal_52 _ rfl ?_
        rw [zI_step b f0 f1 q]
        refine z_istore hZ gRe_reciprocal_53 rfl ?_
        refine z_iload_n hZ gRe_reciprocal_55 rfl ?_
        refine z_istore_n hZ gRe_reciprocal_56 rfl ?_
        refine z_iload hZ gRe_reciprocal_57 rfl ?_
        refine z_istore hZ gRe_reciprocal_59 rfl ?_
        refine z_iload hZ gRe_reciprocal_61 rfl ?_
        refine z_istore_n hZ gRe_reciprocal_63 rfl ?_
        refine z_iload hZ gRe_reciprocal_64 rfl ?_
        refine z_istore hZ gRe_reciprocal_66 rfl ?_
        refine z_iinc hZ gRe_reciprocal_68 rfl _ (i1 st) rfl ?_
        refine z_goto hZ gRe_reciprocal_71 ?_
        have h9' : ¬ p ∣ num := fun h => by have := (h9 h).2; omega
        have hB1 : f1 * (R0 % R1) + (f0 + q * f1) * R1 = p := by
          rw [Nat.add_mul, ← h5]
          have e1 : f1 * R0 = f1 * (R0 % R1) + f1 * (R1 * q) := by rw [← Nat.mul_add, hda]
          rw [e1, Nat.mul_comm q f1, Nat.mul_assoc, Nat.mul_comm q R1]
          omega
        have hf1 : f1 * R0 ≤ p := by omega
        have hf2 : 2 * f1 ≤ p := by
          have : f1 * 2 ≤ f1 * R0 := Nat.mul_le_mul_left f1 (by omega)
          omega
        refine ih (st + 1) (by omega) R1 (R0 % R1) f1 (f0 + q * f1) (!b) b _ _ _ (by cases b <;> rfl) hml (by omega) h4 ?_ hB1 hf2 ?_ (fun e => absurd e (by omega)) (fun h => absurd h h9')
        · have e2 : sg b (f0 + q * f1) = sg b f0 - (q : Int) * sg (!b) f1 := by
            cases b
            · simp [sg]; grind
            · simp [sg]; grind
          rw [e2]
          obtain ⟨c1, hc1⟩ := h3
          obtain ⟨c2, hc2⟩ := h4
          have e3 : ((R0 % R1 : Nat) : Int) = (R0 : Int) - (q : Int) * (R1 : Int) := by
            have : (R0 : Int) = ((R0 % R1 : Nat) : Int) + (R1 : Int) * (q : Int) := by
              rw [← Int.natCast_mul, ← Int.natCast_add, hda]
            rw [this, Int.mul_comm (q : Int)]
            omega
          rw [e3]
          exact ⟨c1 - q * c2, by grind⟩
        · have e4 : R1 * (R0 % R1) * 2 ≤ R0 * R1 := by
            have e5 : R1 + R0 % R1 ≤ R0 := by
              have : R1 * 1 ≤ R1 * q := Nat.mul_le_mul_left R1 hqp
              omega
            have e6 : (R1 + R0 % R1) * R1 ≤ R0 * R1 := Nat.mul_le_mul_right _ e5
            have e7 : R0 % R1 * (R0 % R1) ≤ R0 % R1 * R1 := Nat.mul_le_mul_left _ (by omega)
            have e8 : R1 * (R0 % R1) ≤ R1 * R1 := Nat.mul_le_mul_left _ (by omega)
            rw [Nat.add_mul, Nat.mul_comm (R0 % R1) R1] at e6
            omega
          have e9 : R1 * (R0 % R1) * 2 ^ (st + 1) = R1 * (R0 % R1) * 2 * 2 ^ st := by rw [Nat.pow_succ, Nat.mul_comm (2 ^ st) 2, ← Nat.mul_assoc]
          rw [e9]
          exact Nat.le_trans (Nat.mul_le_mul_right _ e4) h7
  have hrm : nI num - nI num / nI p * nI p = nI (num % p) := pk_rem hnum hp0 (by omega)
  have hml := Nat.mod_lt num hp0
  refine z_aload_n hZ gRe_reciprocal_0 rfl ?_
  refine z_get hZ gRe_reciprocal_1 (by omega) rfl (by rw [hm]; rfl) ?_
  refine z_istore_n hZ gRe_reciprocal_4 rfl ?_
  refine z_iload_n hZ gRe_reciprocal_5 rfl ?_
  refine z_aload_n hZ gRe_reciprocal_6 rfl ?_
  refine z_get hZ gRe_reciprocal_7 (by omega) rfl (by rw [hm]; rfl) ?_
  refine z_irem hZ gRe_reciprocal_10 (nI_ne0 hp0 (by omega)) _ hrm ?_
  refine z_istore_n hZ gRe_reciprocal_11 rfl ?_
  refine z_iconst hZ gRe_reciprocal_12 _ (show Int32.ofInt 0 = zI (sg true 0) from rfl) ?_
  refine z_istore hZ gRe_reciprocal_13 rfl ?_
  refine z_iconst hZ gRe_reciprocal_15 _ (show Int32.ofInt 1 = zI (sg (!true) 1) from rfl) ?_
  refine z_istore hZ gRe_reciprocal_16 rfl ?_
  refine z_iconst hZ gRe_reciprocal_18 _ i0 ?_
  refine z_istore hZ gRe_reciprocal_19 rfl ?_
  refine loop 64 0 rfl p (num % p) 0 1 true false _ _ _ rfl hml (Nat.le_refl p) ⟨-1, by simp [sg]⟩ ?_ (by omega) (by omega) ?_ (fun _ => ⟨rfl, rfl⟩) (fun h => ⟨rfl, Nat.mod_eq_zero_of_dvd h⟩)
  · refine ⟨((num / p : Nat) : Int), ?_⟩
    have : (num : Int) = ((num % p : Nat) : Int) + (p : Int) * ((num / p : Nat) : Int) := by rw [← Int.natCast_mul, ← Int.natCast_add, Nat.mod_add_div]
    have e1 : sg false 1 = 1 := rfl
    rw [e1, Int.one_mul]
    omega
  · rw [Nat.pow_zero, Nat.mul_one]
    exact Nat.mul_le_mul_left _ (by omega)

theorem ov_ok {p x q num : Nat} (h : (p : Int) ∣ (q : Int) * (num : Int) - 1) : (p : Int) ∣ ((x * q % p : Nat) : Int) * (num : Int) - (x : Int) := by
  obtain ⟨c, hc⟩ := h
  have h1 : ((x * q : Nat) : Int) = ((x * q % p : Nat) : Int) + (p : Int) * ((x * q / p : Nat) : Int) := by rw [← Int.natCast_mul, ← Int.natCast_add, Nat.mod_add_div]
  rw [Int.natCast_mul] at h1
  exact ⟨x * c - ((x * q / p : Nat) : Int) * num, by grind⟩

set_option maxHeartbeats 4000000 in
set_option maxRecDepth 100000 in
theorem c_Re_over (l : Launch) (D : va_G) (E : sx_E) (B : Nat) (A : Nat → Prop) (hB : 29 ≤ B) {a : sA} {g : sG} {i : sA} {p : Nat} (hm : i 12 0 = nI p) (hp0 : 0 < p) (hpp : p * p < 2 ^ 31) {x num : Nat} (hx : x ≤ p) (hnum : num < 2 ^ 31) : sM l D E B A yRe_over prog_6_method_9_code 3 (some .int) 1 29 [.inr (12, 0), .inl (nI x), .inl (nI num)] (cW a g i) (fun r w' => ∃ v : Nat, r = some (.inl (nI v)) ∧ v < p ∧ (p ∣ num → v = 0) ∧ ((∀ m, m ∣ p → m = 1 ∨ m = p) → 1 < p → ¬ p ∣ num → (p : Int) ∣ (v : Int) * (num : Int) - (x : Int)) ∧ w' = cW a g i) := by
  refine sx_m0 (ls := lRe_over) (cs := csAll) (by decide +kernel) kRe_over (hRe_over l D E B A hB) (by simp) (fun w' h => (by obtain ⟨_, h, _⟩ := h; cases h)) ?_
  intro Z hZ
  have hp2 := pp_lt hpp
  refine z_aload_n hZ gRe_over_0 rfl ?_
  refine z_iload_n hZ gRe_over_1 rfl ?_
  refine z_aload_n hZ gRe_over_2 rfl ?_
  refine z_iload_n hZ gRe_over_3 rfl ?_
  refine z_cv hZ gRe_over_4 rfl rfl (Nat.le_of_ble_eq_true rfl) (Nat.le_of_ble_eq_true rfl) ⟨⟨12, _, _, rfl, by decide, rfl⟩, fun l D E B A hB => c_Re_reciprocal l D E B A hB hm hp0 hpp hnum⟩ (fun r4 w4 p4 => ?_)
  obtain ⟨q, rfl, hq, hq0, hqi, rfl⟩ := p4
  show Z (4 + 3) _ (.inl (nI q) :: .inl (nI x) :: .inr (12, 0) :: []) _
  have hxq : x * q < 2 ^ 31 := Nat.lt_of_le_of_lt (Nat.mul_le_mul hx (Nat.le_of_lt hq)) hpp
  refine z_cv hZ gRe_over_7 rfl rfl (Nat.le_of_ble_eq_true rfl) (Nat.le_of_ble_eq_true rfl) ⟨⟨12, _, _, rfl, by decide, rfl⟩, fun l D E B A hB => c_Re_times l D E B A hB hm hp0 hpp hxq⟩ (fun r7 w7 p7 => ?_)
  obtain ⟨rfl, rfl⟩ := p7
  show Z (7 + 3) _ (.inl (nI (x * q % p)) :: []) _
  refine z_iret hZ gRe_over_10 ?_
  exact ⟨x * q % p, rfl, Nat.mod_lt _ hp0, fun h => by rw [hq0 h, Nat.mul_zero, Nat.zero_mod], fun h1 h2 h3 => ov_ok (hqi h1 h2 h3), rfl⟩

set_option maxHeartbeats 4000000 in
set_option maxRecDepth 100000 in
theorem c_Re_raised (l : Launch) (D : va_G) (E : sx_E) (B : Nat) (A : Nat → Prop) (hB : 29 ≤ B) {a : sA} {g : sG} {i : sA} {p : Nat} (hm : i 12 0 = nI p) (hp0 : 0 < p) (hpp : p * p < 2 ^ 31) (hp1 : 1 < p) {b m : Nat} (hb : b ≤ p) (hm2 : m < 2 ^ 31) : sM l D E B A yRe_raised prog_6_method_11_code 5 (some .int) 1 22 [.inr (12, 0), .inl (nI b), .inl (nI m)] (cW a g i) (fun r w' => r = some (.inl (nI (b ^ m % p))) ∧ w' = cW a g i) := by
  refine sx_m0 (ls := lRe_raised) (cs := csAll) (by decide +kernel) kRe_raised (hRe_raised l D E B A hB) (by simp) (fun w' h => by cases h.1) ?_
  intro Z hZ
  have hp2 := pp_lt hpp
  have loop : ∀ n k, n + k = m → Z 5 [some (.inr (12, 0)), some (.inl (nI b)), some (.inl (nI m)), some (.inl (nI (b ^ k % p))), some (.inl (nI k))] [] (cW a g i) := by
    intro n
    induction n with
    | zero =>
      intro k hk
      have e : k = m := by omega
      subst e
      refine z_iload hZ gRe_raised_5 rfl ?_
      refine z_iload_n hZ gRe_raised_7 rfl ?_
      refine z_cmpge hZ gRe_raised_8 (fun c8 => ?_) (fun c8 => absurd (nI_le (Nat.le_refl k) hm2) c8)
      refine z_iload_n hZ gRe_raised_24 rfl ?_
      refine z_iret hZ gRe_raised_25 ?_
      exact ⟨rfl, rfl⟩
    | succ n ih =>
      intro k hk
      have h1 : b ^ k % p * b < 2 ^ 31 := Nat.lt_of_le_of_lt (Nat.mul_le_mul (Nat.le_of_lt (Nat.mod_lt _ hp0)) hb) hpp
      have h2 : b ^ k % p * b % p = b ^ (k + 1) % p := by rw [Nat.pow_succ, Nat.mod_mul_mod]
      refine z_iload hZ gRe_raised_5 rfl ?_
      refine z_iload_n hZ gRe_raised_7 rfl ?_
      refine z_cmpge hZ gRe_raised_8 (fun c8 => absurd c8 (nI_ge (by omega) hm2)) (fun c8 => ?_)
      refine z_aload_n hZ gRe_raised_11 rfl ?_
      refine z_iload_n hZ gRe_raised_12 rfl ?_
      refine z_iload_n hZ gRe_raised_13 rfl ?_
      refine z_cv hZ gRe_raised_14 rfl rfl (Nat.le_of_ble_eq_true rfl) (Nat.le_of_ble_eq_true rfl) ⟨⟨12, _, _, rfl, by decide, rfl⟩, fun l D E B A hB => c_Re_times l D E B A hB hm hp0 hpp h1⟩ (fun r14 w14 p14 => ?_)
      obtain ⟨rfl, rfl⟩ := p14
      rw [h2]
      show Z (14 + 3) _ (.inl (nI (b ^ (k + 1) % p)) :: []) _
      refine z_istore_n hZ gRe_raised_17 rfl ?_
      refine z_iinc hZ gRe_raised_18 rfl _ (i1 k) rfl ?_
      refine z_goto hZ gRe_raised_21 ?_
      exact ih (k + 1) (by omega)
  refine z_iconst hZ gRe_raised_0 _ (show Int32.ofInt 1 = nI (b ^ 0 % p) by rw [Nat.pow_zero, Nat.mod_eq_of_lt hp1]; exact ic1) ?_
  refine z_istore_n hZ gRe_raised_1 rfl ?_
  refine z_iconst hZ gRe_raised_2 _ i0 ?_
  refine z_istore hZ gRe_raised_3 rfl ?_
  exact loop m 0 rfl

set_option maxHeartbeats 4000000 in
set_option maxRecDepth 100000 in
theorem c_Re_orderOf (l : Launch) (D : va_G) (E : sx_E) (B : Nat) (A : Nat → Prop) (hB : 29 ≤ B) {a : sA} {g : sG} {i : sA} {p : Nat} (hm : i 12 0 = nI p) (hp0 : 0 < p) (hpp : p * p < 2 ^ 31) {b : Nat} (hbl : b < p) : sM l D E B A yRe_orderOf prog_6_method_4_code 4 (some .int) 1 22 [.inr (12, 0), .inl (nI b)] (cW a g i) (fun r w' => ∃ k : Nat, r = some (.inl (nI k)) ∧ 1 ≤ k ∧ k ≤ p ∧ (∀ j, 1 ≤ j → j < k → b ^ j % p ≠ 1) ∧ (b ^ k % p = 1 ∨ k = p) ∧ w' = cW a g i) := by
  refine sx_m0 (ls := lRe_orderOf) (cs := csAll) (by decide +kernel) kRe_orderOf (hRe_orderOf l D E B A hB) (by simp) (fun w' h => (by obtain ⟨_, h, _⟩ := h; cases h)) ?_
  intro Z hZ
  have hb : b ≤ p := Nat.le_of_lt hbl
  have hp2 := pp_lt hpp
  have loop : ∀ n k, n + k = p → 1 ≤ k → (∀ j, 1 ≤ j → j < k → b ^ j % p ≠ 1) → Z 4 [some (.inr (12, 0)), some (.inl (nI b)), some (.inl (nI (b ^ k % p))), some (.inl (nI k))] [] (cW a g i) := by
    intro n
    induction n with
    | zero =>
      intro k hk hk1 hn
      have e : k = p := by omega
      subst e
      refine z_iload_n hZ gRe_orderOf_4 rfl ?_
      refine z_iconst hZ gRe_orderOf_5 _ ic1 ?_
      refine z_cmpeq hZ gRe_orderOf_6 (fun c6 => ?_) (fun c6 => ?_)
      · have ct6 := c6
        refine z_iload_n hZ gRe_orderOf_30 rfl ?_
        refine z_iret hZ gRe_orderOf_31 ?_
        exact ⟨k, rfl, hk1, Nat.le_refl _, hn, Or.inr rfl, rfl⟩
      · have cf6 := c6
        refine z_iload_n hZ gRe_orderOf_9 rfl ?_
        refine z_aload_n hZ gRe_orderOf_10 rfl ?_
        refine z_get hZ gRe_orderOf_11 (by omega) rfl (by rw [hm]; rfl) ?_
        refine z_cmpge hZ gRe_orderOf_14 (fun c14 => ?_) (fun c14 => absurd (nI_le (Nat.le_refl k) (by omega)) c14)
        refine z_iload_n hZ gRe_orderOf_30 rfl ?_
        refine z_iret hZ gRe_orderOf_31 ?_
        exact ⟨k, rfl, hk1, Nat.le_refl _, hn, Or.inr rfl, rfl⟩
    | succ n ih =>
      intro k hk hk1 hn
      have hmk := Nat.mod_lt (b ^ k) hp0
      have h1 : b ^ k % p * b < 2 ^ 31 := Nat.lt_of_le_of_lt (Nat.mul_le_mul (Nat.le_of_lt hmk) hb) hpp
      have h2 : b ^ k % p * b % p = b ^ (k + 1) % p := by rw [Nat.pow_succ, Nat.mod_mul_mod]
      refine z_iload_n hZ gRe_orderOf_4 rfl ?_
      refine z_iconst hZ gRe_orderOf_5 _ ic1 ?_
      refine z_cmpeq hZ gRe_orderOf_6 (fun c6 => ?_) (fun c6 => ?_)
      · have ct6 := c6
        have e1 : b ^ k % p = 1 := (nI_eq (by omega) (by decide)).mp ct6
        refine z_iload_n hZ gRe_orderOf_30 rfl ?_
        refine z_iret hZ gRe_orderOf_31 ?_
        exact ⟨k, rfl, hk1, by omega, hn, Or.inl e1, rfl⟩
      · have cf6 := c6
        have e1 : b ^ k % p ≠ 1 := fun h => cf6 (by rw [h])
        refine z_iload_n hZ gRe_orderOf_9 rfl ?_
        refine z_aload_n hZ gRe_orderOf_10 rfl ?_
        refine z_get hZ gRe_orderOf_11 (by omega) rfl (by rw [hm]; rfl) ?_
        refine z_cmpge hZ gRe_orderOf_14 (fun c14 => absurd c14 (nI_ge (by omega) (by omega))) (fun c14 => ?_)
        refine z_aload_n hZ gRe_orderOf_17 rfl ?_
        refine z_iload_n hZ gRe_orderOf_18 rfl ?_
        refine z_iload_n hZ gRe_orderOf_19 rfl ?_
        refine z_cv hZ gRe_orderOf_20 rfl rfl (Nat.le_of_ble_eq_true rfl) (Nat.le_of_ble_eq_true rfl) ⟨⟨12, _, _, rfl, by decide, rfl⟩, fun l D E B A hB => c_Re_times l D E B A hB hm hp0 hpp h1⟩ (fun r20 w20 p20 => ?_)
        obtain ⟨rfl, rfl⟩ := p20
        rw [h2]
        show Z (20 + 3) _ (.inl (nI (b ^ (k + 1) % p)) :: []) _
        refine z_istore_n hZ gRe_orderOf_23 rfl ?_
        refine z_iinc hZ gRe_orderOf_24 rfl _ (i1 k) rfl ?_
        refine z_goto hZ gRe_orderOf_27 ?_
        refine ih (k + 1) (by omega) (by omega) (fun j hj1 hj2 => ?_)
        by_cases e9 : j = k
        · subst e9; exact e1
        · exact hn j hj1 (by omega)
  refine z_iload_n hZ gRe_orderOf_0 rfl ?_
  refine z_istore_n hZ gRe_orderOf_1 rfl ?_
  refine z_iconst hZ gRe_orderOf_2 _ ic1 ?_
  refine z_istore_n hZ gRe_orderOf_3 rfl ?_
  have h9 := loop (p - 1) 1 (by omega) (Nat.le_refl 1) (fun j h1 h2 => absurd h1 (by omega))
  rw [Nat.pow_one, Nat.mod_eq_of_lt hbl] at h9
  exact h9

def isPr (p : Nat) : Prop := 1 < p ∧ ∀ m, m ∣ p → m = 1 ∨ m = p
theorem isPr_no {n f : Nat} (h1 : 2 ≤ f) (h2 : f * f ≤ n) (h3 : n % f = 0) : ¬ isPr n := fun h => by
  rcases h.2 f (Nat.dvd_of_mod_eq_zero h3) with e | e
  · omega
  · subst e
    have : f * 2 ≤ f * f := Nat.mul_le_mul_left f h1
    omega
theorem isPr_yes {n f : Nat} (h1 : 1 < n) (h2 : n < f * f) (h3 : ∀ k, 2 ≤ k → k < f → n % k ≠ 0) : isPr n := by
  refine ⟨h1, fun m hm => ?_⟩
  obtain ⟨k, hk⟩ := hm
  have h0 : ∀ u v : Nat, n = u * v → u ≠ 1 → u < f → False := fun u v huv hu1 huf => by
    have hu0 : u ≠ 0 := fun e => by rw [e, Nat.zero_mul] at huv; omega
    exact h3 u (by omega) huf (by rw [huv]; exact Nat.mul_mod_right u v)
  by_cases hm1 : m = 1
  · exact Or.inl hm1
  · by_cases hk1 : k = 1
    · right; rw [hk, hk1, Nat.mul_one]
    · exfalso
      by_cases hmf : m < f
      · exact h0 m k hk hm1 hmf
      · by_cases hkf : k < f
        · exact h0 k m (by rw [hk, Nat.mul_comm]) hk1 hkf
        · have : f * f ≤ m * k := Nat.mul_le_mul (by omega) (by omega)
          omega

set_option maxHeartbeats 4000000 in
set_option maxRecDepth 100000 in
theorem c_Re_isPrime (l : Launch) (D : va_G) (E : sx_E) (B : Nat) (A : Nat → Prop) {n : Nat} (hn : n < 4000000) (w : sx_M) : sM l D E B A yRe_isPrime prog_6_method_3_code 2 (some .boolean) 0 0 [.inl (nI n)] w (fun r w' => ans r (isPr n) ∧ w' = w) := by
  refine sx_m0 (ls := lRe_isPrime) (cs := noCalls) (by decide +kernel) kRe_isPrime (fun pc i h1 h2 => sx_nc (ls := lRe_isPrime) (by decide) pc i h1 h2) (by simp) ans_rt ?_
  intro Z hZ
  have loop : ∀ d f, f + d = 2000 → 2 ≤ f → (∀ k, 2 ≤ k → k < f → n % k ≠ 0) → Z 2 [some (.inl (nI n)), some (.inl (nI f))] [] w := by
    intro d
    induction d with
    | zero =>
      intro f hf hf2 hk
      have e : f = 2000 := by omega
      subst e
      have hfin : ans (if 1 < n then some (.inl 1) else some (.inl 0)) (isPr n) := by
        by_cases h1 : 1 < n
        · rw [if_pos h1]; exact Or.inl ⟨rfl, isPr_yes h1 (f := 2000) (by omega) hk⟩
        · rw [if_neg h1]; exact Or.inr ⟨rfl, fun h => h1 h.1⟩
      refine z_iload_n hZ gRe_isPrime_2 rfl ?_
      refine z_iload_n hZ gRe_isPrime_3 rfl ?_
      refine z_imul hZ gRe_isPrime_4 _ (pk_mul 2000 2000) ?_
      refine z_iload_n hZ gRe_isPrime_5 rfl ?_
      refine z_cmpgt hZ gRe_isPrime_6 (fun c6 => ?_) (fun c6 => absurd (nI_lt (by omega) (by decide)) c6)
      refine z_iload_n hZ gRe_isPrime_23 rfl ?_
      refine z_iconst hZ gRe_isPrime_24 _ ic1 ?_
      refine z_cmple hZ gRe_isPrime_25 (fun c25 => ?_) (fun c25 => ?_)
      · have ct25 := c25
        have h1 : ¬ 1 < n := Nat.not_lt.mpr ((nI_leI (by omega) (by decide)).mp ct25)
        refine z_iconst hZ gRe_isPrime_32 _ rfl ?_
        refine z_iret hZ gRe_isPrime_33 ?_
        first | (rw [if_neg h1] at hfin; exact ⟨hfin, rfl⟩) | (rw [if_pos h1] at hfin; exact ⟨hfin, rfl⟩)
      · have cf25 := c25
        have h1 : 1 < n := Nat.not_le.mp fun h9 => cf25 ((nI_leI (by omega) (by decide)).mpr h9)
        refine z_iconst hZ gRe_isPrime_28 _ rfl ?_
        refine z_goto hZ gRe_isPrime_29 ?_
        refine z_iret hZ gRe_isPrime_33 ?_
        first | (rw [if_neg h1] at hfin; exact ⟨hfin, rfl⟩) | (rw [if_pos h1] at hfin; exact ⟨hfin, rfl⟩)
    | succ d ih =>
      intro f hf hf2 hk
      have hff : f * f ≤ 2000 * 2000 := Nat.mul_le_mul (by omega) (by omega)
      refine z_iload_n hZ gRe_isPrime_2 rfl ?_
      refine z_iload_n hZ gRe_isPrime_3 rfl ?_
      refine z_imul hZ gRe_isPrime_4 _ (pk_mul f f) ?_
      refine z_iload_n hZ gRe_isPrime_5 rfl ?_
      refine z_cmpgt hZ gRe_isPrime_6 (fun c6 => ?_) (fun c6 => ?_)
      · have ct6 := c6
        have hlt : n < f * f := (nI_ltI (by omega) (by omega)).mp ct6
        have hfin : ans (if 1 < n then some (.inl 1) else some (.inl 0)) (isPr n) := by
          by_cases h1 : 1 < n
          · rw [if_pos h1]; exact Or.inl ⟨rfl, isPr_yes h1 hlt hk⟩
          · rw [if_neg h1]; exact Or.inr ⟨rfl, fun h => h1 h.1⟩
        refine z_iload_n hZ gRe_isPrime_23 rfl ?_
        refine z_iconst hZ gRe_isPrime_24 _ ic1 ?_
        refine z_cmple hZ gRe_isPrime_25 (fun c25 => ?_) (fun c25 => ?_)
        · have ct25 := c25
          have h1 : ¬ 1 < n := Nat.not_lt.mpr ((nI_leI (by omega) (by decide)).mp ct25)
          refine z_iconst hZ gRe_isPrime_32 _ rfl ?_
          refine z_iret hZ gRe_isPrime_33 ?_
          first | (rw [if_neg h1] at hfin; exact ⟨hfin, rfl⟩) | (rw [if_pos h1] at hfin; exact ⟨hfin, rfl⟩)
        · have cf25 := c25
          have h1 : 1 < n := Nat.not_le.mp fun h9 => cf25 ((nI_leI (by omega) (by decide)).mpr h9)
          refine z_iconst hZ gRe_isPrime_28 _ rfl ?_
          refine z_goto hZ gRe_isPrime_29 ?_
          refine z_iret hZ gRe_isPrime_33 ?_
          first | (rw [if_neg h1] at hfin; exact ⟨hfin, rfl⟩) | (rw [if_pos h1] at hfin; exact ⟨hfin, rfl⟩)
      · have cf6 := c6
        have hle : f * f ≤ n := Nat.not_lt.mp fun h9 => cf6 ((nI_ltI (by omega) (by omega)).mpr h9)
        refine z_iload_n hZ gRe_isPrime_9 rfl ?_
        refine z_iload_n hZ gRe_isPrime_10 rfl ?_
        refine z_irem hZ gRe_isPrime_11 (nI_ne0 (by omega) (by omega)) _ (pk_rem (by omega) (by omega) (by omega)) ?_
        refine z_ifne hZ gRe_isPrime_12 (fun c12 => ?_) (fun c12 => ?_)
        · have ct12 := c12
          have hne : n % f ≠ 0 := fun h => ct12 (by rw [h]; rfl)
          refine z_iinc hZ gRe_isPrime_17 rfl _ (i1 f) rfl ?_
          refine z_goto hZ gRe_isPrime_20 ?_
          refine ih (f + 1) (by omega) (by omega) (fun k h1 h2 => ?_)
          by_cases e9 : k = f
          · subst e9; exact hne
          · exact hk k h1 (by omega)
        · have cf12 := c12
          have he : n % f = 0 := by
            have h9 : nI (n % f) = nI 0 := cf12
            exact (nI_eq (Nat.lt_of_le_of_lt (Nat.mod_le _ _) (by omega)) (by decide)).mp h9
          refine z_iconst hZ gRe_isPrime_15 _ rfl ?_
          refine z_iret hZ gRe_isPrime_16 ?_
          exact ⟨Or.inr ⟨rfl, isPr_no hf2 hle he⟩, rfl⟩
  refine z_iconst hZ gRe_isPrime_0 _ ic2 ?_
  refine z_istore_n hZ gRe_isPrime_1 rfl ?_
  exact loop 1998 2 rfl (Nat.le_refl 2) (fun k h1 h2 => absurd h1 (by omega))
end
section
theorem i16 : (Int8.ofInt 16).toInt32 = nI 16 := by decide +kernel

set_option maxHeartbeats 4000000 in
set_option maxRecDepth 100000 in
theorem c_Co_pairPlace (l : Launch) (D : va_G) (E : sx_E) (B : Nat) (A : Nat → Prop) (x y z : Nat) (w : sx_M) : sM l D E B A yCo_pairPlace prog_4_method_10_code 3 (some .int) 0 0 [.inl (nI x), .inl (nI y), .inl (nI z)] w (fun r w' => r = some (.inl (nI ((x * 16 + y) * 16 + z))) ∧ w' = w) := by
  refine sx_m0 (ls := lCo_pairPlace) (cs := noCalls) (by decide +kernel) kCo_pairPlace (fun pc i h1 h2 => sx_nc (ls := lCo_pairPlace) (by decide) pc i h1 h2) (by simp) (fun w' h => by cases h.1) ?_
  intro Z hZ
  refine z_iload_n hZ gCo_pairPlace_0 rfl ?_
  refine z_bipush hZ gCo_pairPlace_1 _ i16 ?_
  refine z_imul hZ gCo_pairPlace_3 _ (pk_mul x 16) ?_
  refine z_iload_n hZ gCo_pairPlace_4 rfl ?_
  refine z_iadd hZ gCo_pairPlace_5 _ (nI_add (x * 16) y) ?_
  refine z_bipush hZ gCo_pairPlace_6 _ i16 ?_
  refine z_imul hZ gCo_pairPlace_8 _ (pk_mul (x * 16 + y) 16) ?_
  refine z_iload_n hZ gCo_pairPlace_9 rfl ?_
  refine z_iadd hZ gCo_pairPlace_10 _ (nI_add ((x * 16 + y) * 16) z) ?_
  refine z_iret hZ gCo_pairPlace_11 ?_
  exact ⟨rfl, rfl⟩

set_option maxHeartbeats 4000000 in
set_option maxRecDepth 100000 in
theorem c_Co_pairs (l : Launch) (D : va_G) (E : sx_E) (B : Nat) (A : Nat → Prop) (hB : 29 ≤ B) {a : sA} {g : sG} {i : sA} {x y z : Nat} (hx : x < 16) (hy : y < 16) (hz : z < 16) : sM l D E B A yCo_pairs prog_4_method_9_code 4 (some .int) 1 22 [.inr (5, 0), .inl (nI x), .inl (nI y), .inl (nI z)] (cW a g i) (fun r w' => r = some (.inl (a 11 ((x * 16 + y) * 16 + z))) ∧ w' = cW a g i) := by
  refine sx_m0 (ls := lCo_pairs) (cs := csAll) (by decide +kernel) kCo_pairs (hCo_pairs l D E B A hB) (by simp) (fun w' h => by cases h.1) ?_
  intro Z hZ
  refine z_aload_n hZ gCo_pairs_0 rfl ?_
  refine z_get hZ gCo_pairs_1 (by omega) rfl rfl ?_
  refine z_iload_n hZ gCo_pairs_4 rfl ?_
  refine z_iload_n hZ gCo_pairs_5 rfl ?_
  refine z_iload_n hZ gCo_pairs_6 rfl ?_
  refine z_cs hZ gCo_pairs_7 rfl rfl (Nat.le_of_ble_eq_true rfl) (Nat.le_of_ble_eq_true rfl) (fun l D E B A hB => c_Co_pairPlace l D E B A x y z _) (fun r7 w7 p7 => ?_)
  obtain ⟨rfl, rfl⟩ := p7
  show Z (7 + 3) _ (.inl (nI ((x * 16 + y) * 16 + z)) :: .inr (11, 0) :: []) _
  refine z_iald hZ gCo_pairs_10 (by omega) rfl (vp_in_nI (by omega) (by decide)) ?_
  refine z_iret hZ gCo_pairs_11 ?_
  rw [nI_clamp (by omega)]
  exact ⟨rfl, rfl⟩

set_option maxHeartbeats 4000000 in
set_option maxRecDepth 100000 in
theorem c_Co_classRaised (l : Launch) (D : va_G) (E : sx_E) (B : Nat) (A : Nat → Prop) (hB : 29 ≤ B) {a : sA} {g : sG} {i : sA} {e c m : Nat} (he : i 5 6 = nI e) (he0 : 0 < e) (he1 : e ≤ 120) (hc : c < 16) (hm : m < 2 ^ 31) : sM l D E B A yCo_classRaised prog_4_method_6_code 3 (some .int) 0 0 [.inr (5, 0), .inl (nI c), .inl (nI m)] (cW a g i) (fun r w' => r = some (.inl (g 9 c (m % e))) ∧ w' = cW a g i) := by
  refine sx_m0 (ls := lCo_classRaised) (cs := noCalls) (by decide +kernel) kCo_classRaised (fun pc i h1 h2 => sx_nc (ls := lCo_classRaised) (by decide) pc i h1 h2) (by simp) (fun w' h => by cases h.1) ?_
  intro Z hZ
  refine z_aload_n hZ gCo_classRaised_0 rfl ?_
  refine z_get hZ gCo_classRaised_1 (by omega) rfl rfl ?_
  refine z_iload_n hZ gCo_classRaised_4 rfl ?_
  refine z_aald hZ gCo_classRaised_5 (by omega) rfl (vp_in_nI (by omega) (by decide)) ?_
  refine z_iload_n hZ gCo_classRaised_6 rfl ?_
  refine z_aload_n hZ gCo_classRaised_7 rfl ?_
  refine z_get hZ gCo_classRaised_8 (by omega) rfl (by rw [he]; rfl) ?_
  refine z_irem hZ gCo_classRaised_11 (nI_ne0 he0 (by omega)) _ (pk_rem hm he0 (by omega)) ?_
  rw [nI_clamp (n := c) (by omega)]
  have hmod := Nat.mod_lt m he0
  refine z_ialg hZ gCo_classRaised_12 (by omega) rfl hc (vp_in_nI (by omega) (by decide)) ?_
  refine z_iret hZ gCo_classRaised_13 ?_
  rw [nI_clamp (by omega)]
  exact ⟨rfl, rfl⟩

set_option maxHeartbeats 4000000 in
set_option maxRecDepth 100000 in
theorem c_Co_inverseOf (l : Launch) (D : va_G) (E : sx_E) (B : Nat) (A : Nat → Prop) (hB : 29 ≤ B) {a : sA} {g : sG} {i : sA} {e c : Nat} (he : i 5 6 = nI e) (he0 : 0 < e) (he1 : e ≤ 120) (hc : c < 16) : sM l D E B A yCo_inverseOf prog_4_method_7_code 2 (some .int) 0 0 [.inr (5, 0), .inl (nI c)] (cW a g i) (fun r w' => r = some (.inl (g 9 c (e - 1))) ∧ w' = cW a g i) := by
  refine sx_m0 (ls := lCo_inverseOf) (cs := noCalls) (by decide +kernel) kCo_inverseOf (fun pc i h1 h2 => sx_nc (ls := lCo_inverseOf) (by decide) pc i h1 h2) (by simp) (fun w' h => by cases h.1) ?_
  intro Z hZ
  refine z_aload_n hZ gCo_inverseOf_0 rfl ?_
  refine z_get hZ gCo_inverseOf_1 (by omega) rfl rfl ?_
  refine z_iload_n hZ gCo_inverseOf_4 rfl ?_
  refine z_aald hZ gCo_inverseOf_5 (by omega) rfl (vp_in_nI (by omega) (by decide)) ?_
  refine z_aload_n hZ gCo_inverseOf_6 rfl ?_
  refine z_get hZ gCo_inverseOf_7 (by omega) rfl (by rw [he]; rfl) ?_
  refine z_iconst hZ gCo_inverseOf_10 _ rfl ?_
  refine z_isub hZ gCo_inverseOf_11 _ (nI_sub1 he0) ?_
  rw [nI_clamp (n := c) (by omega)]
  refine z_ialg hZ gCo_inverseOf_12 (by omega) rfl hc (vp_in_nI (by omega) (by decide)) ?_
  refine z_iret hZ gCo_inverseOf_13 ?_
  rw [nI_clamp (by omega)]
  exact ⟨rfl, rfl⟩

-- the elements as the object holds them: s 0 < s 1 < .. , n of them
def elH (a i : sA) (s : Nat → Nat) (n : Nat) : Prop := i 2 2 = nI n ∧ n ≤ 120 ∧ (∀ j, j < n → a 3 j = nI (s j)) ∧ (∀ j k, j < k → k < n → s j < s k) ∧ (∀ j, j < n → s j < 8 ^ 8)
theorem elH_inc {a i : sA} {s : Nat → Nat} {n : Nat} (h : elH a i s n) : inc (a 3) n := fun j k hjk hk => by
  rw [h.2.2.1 j (by omega), h.2.2.1 k hk]
  exact nI_lt (h.2.2.2.1 j k hjk hk) (Nat.lt_trans (h.2.2.2.2 k hk) (by decide))
theorem elH_eq {a i : sA} {s : Nat → Nat} {n : Nat} (h : elH a i s n) {c j : Nat} (hc : c < 8 ^ 8) (hj : j < n) : a 3 j = nI c ↔ s j = c := by
  rw [h.2.2.1 j hj]
  exact nI_eq (Nat.lt_trans (h.2.2.2.2 j hj) (by decide)) (Nat.lt_trans hc (by decide))
theorem elH_inj {a i : sA} {s : Nat → Nat} {n : Nat} (h : elH a i s n) {j k : Nat} (hj : j < n) (hk : k < n) (e : s j = s k) : j = k := by
  rcases Nat.lt_trichotomy j k with h1 | h1 | h1
  · have := h.2.2.2.1 j k h1 hk; omega
  · exact h1
  · have := h.2.2.2.1 k j h1 hj; omega
theorem nI_m1 {n : Nat} (h : n < 2 ^ 31) : ¬ nI n = -1 := fun e => by
  have h1 := nI_pos h
  rw [e] at h1
  exact h1 (by decide)

set_option maxHeartbeats 4000000 in
set_option maxRecDepth 100000 in
theorem c_Co_classHolding (l : Launch) (D : va_G) (E : sx_E) (B : Nat) (A : Nat → Prop) (hB : 29 ≤ B) {a : sA} {g : sG} {i : sA} {s : Nat → Nat} {n : Nat} (hel : elH a i s n) (x : Int32) : sM l D E B A yCo_classHolding prog_4_method_4_code 4 (some .int) 2 45 [.inr (5, 0), .inl x, .inr (2, 0)] (cW a g i) (fun r w' => ((∃ j, j < n ∧ a 3 j = x ∧ r = some (.inl (a 6 j))) ∨ (r = some (.inl (-1)) ∧ ¬ ∃ j, j < n ∧ a 3 j = x)) ∧ w' = cW a g i) := by
  refine sx_m0 (ls := lCo_classHolding) (cs := csAll) (by decide +kernel) kCo_classHolding (hCo_classHolding l D E B A hB) (by simp) (fun w' h => (by rcases h.1 with ⟨_, _, _, h⟩ | ⟨h, _⟩ <;> cases h)) ?_
  intro Z hZ
  refine z_aload_n hZ gCo_classHolding_0 rfl ?_
  refine z_iload_n hZ gCo_classHolding_1 rfl ?_
  refine z_cv hZ gCo_classHolding_2 rfl rfl (Nat.le_of_ble_eq_true rfl) (Nat.le_of_ble_eq_true rfl) ⟨⟨2, _, _, rfl, by decide, rfl⟩, fun l D E B A hB => c_El_indexOf l D E B A hB hel.1 hel.2.1 (elH_inc hel) x⟩ (fun r2 w2 p2 => ?_)
  obtain ⟨h2, rfl⟩ := p2
  have hn := hel.2.1
  rcases h2 with ⟨j, hj, hjx, rfl⟩ | ⟨rfl, hno⟩
  rotate_left
  · show Z (2 + 3) _ (.inl (-1) :: []) _
    refine z_istore_n hZ gCo_classHolding_5 rfl ?_
    refine z_iload_n hZ gCo_classHolding_6 rfl ?_
    refine z_iconst hZ gCo_classHolding_7 _ rfl ?_
    refine z_cmpne hZ gCo_classHolding_8 (fun c8 => absurd rfl c8) (fun c8 => ?_)
    refine z_iconst hZ gCo_classHolding_11 _ rfl ?_
    refine z_goto hZ gCo_classHolding_12 ?_
    refine z_iret hZ gCo_classHolding_21 ?_
    exact ⟨Or.inr ⟨rfl, hno⟩, rfl⟩
  show Z (2 + 3) _ (.inl (nI j) :: []) _
  refine z_istore_n hZ gCo_classHolding_5 rfl ?_
  refine z_iload_n hZ gCo_classHolding_6 rfl ?_
  refine z_iconst hZ gCo_classHolding_7 _ im1 ?_
  refine z_cmpne hZ gCo_classHolding_8 (fun c8 => ?_) (fun c8 => absurd c8 (nI_m1 (by omega)))
  refine z_aload_n hZ gCo_classHolding_15 rfl ?_
  refine z_get hZ gCo_classHolding_16 (by omega) rfl rfl ?_
  refine z_iload_n hZ gCo_classHolding_19 rfl ?_
  refine z_iald hZ gCo_classHolding_20 (by omega) rfl (vp_in_nI (by omega) (by decide)) ?_
  refine z_iret hZ gCo_classHolding_21 ?_
  rw [nI_clamp (by omega)]
  exact ⟨Or.inl ⟨j, hj, hjx, rfl⟩, rfl⟩

-- gathering a class: a mirror of the loop (ix k: the place of the k-th conjugate)
def ga6 (f : Nat → Int32) (v : Int32) (ix : Nat → Nat) : Nat → Nat → Int32
  | 0 => f
  | k + 1 => if ga6 f v ix k (ix k) = -1 then upd (ga6 f v ix k) (ix k) v else ga6 f v ix k
def gaN (f : Nat → Int32) (v : Int32) (ix : Nat → Nat) : Nat → Nat
  | 0 => 0
  | k + 1 => if ga6 f v ix k (ix k) = -1 then gaN f v ix k + 1 else gaN f v ix k
theorem gaN_le (f : Nat → Int32) (v : Int32) (ix : Nat → Nat) : ∀ k, gaN f v ix k ≤ k
  | 0 => Nat.le_refl 0
  | k + 1 => by
    have := gaN_le f v ix k
    unfold gaN
    by_cases h : ga6 f v ix k (ix k) = -1
    · rw [if_pos h]; omega
    · rw [if_neg h]; omega
abbrev gaW (a : sA) (g : sG) (i : sA) (f6 : Nat → Int32) (f7 : Nat → Int32) (f8 : Nat → Int32) : sx_M := cW (va_up (va_up (va_up a 8 f8) 7 f7) 6 f6) g i
theorem gaW_6 (a : sA) (g : sG) (i : sA) (f6 f7 f8 h : Nat → Int32) : cW (va_up (va_up (va_up (va_up a 8 f8) 7 f7) 6 f6) 6 h) g i = gaW a g i h f7 f8 := by rw [va_uu]
theorem gaW_7 (a : sA) (g : sG) (i : sA) (f6 f7 f8 h : Nat → Int32) : cW (va_up (va_up (va_up (va_up a 8 f8) 7 f7) 6 f6) 7 h) g i = gaW a g i f6 h f8 := by
  show cW _ _ _ = cW _ _ _
  congr 1
  funext n
  by_cases h7 : n = 7
  · subst h7; rw [va_up_self, va_up_ne _ _ (by decide), va_up_self]
  · rw [va_up_ne _ _ h7]
    by_cases h6 : n = 6
    · subst h6; rw [va_up_self, va_up_self]
    · rw [va_up_ne _ _ h6, va_up_ne _ _ h6, va_up_ne _ _ h7, va_up_ne _ _ h7]
theorem upd_u (f : Nat → Int32) (k : Nat) (x y : Int32) : upd (upd f k x) k y = upd f k y := by
  funext j
  by_cases e : j = k
  · subst e; rw [pk_us, pk_us]
  · rw [pk_un e, pk_un e, pk_un e]

set_option maxHeartbeats 4000000 in
set_option maxRecDepth 100000 in
theorem c_Co_gather (l : Launch) (D : va_G) (E : sx_E) (B : Nat) (A : Nat → Prop) (hB : 29 ≤ B) {a : sA} {g : sG} {i : sA} {s ix : Nat → Nat} {n cnt c0 : Nat} (hel : elH a i s n) (hcn : i 5 0 = nI cnt) (hc16 : cnt < 16) (hP : ∀ j, j < n → isP (s j)) (hP0 : isP c0) (hix : ∀ k, k < n → ix k < n ∧ s (ix k) = pm (pm (piv (s k)) c0) (s k)) : sM l D E B A yCo_gather prog_4_method_3_code 7 none 2 45 [.inr (5, 0), .inl (nI c0), .inr (2, 0)] (cW a g i) (fun r w' => r = none ∧ w' = gaW a g (va_up i 5 (va_up (i 5) 0 (nI (cnt + 1)))) (ga6 (a 6) (nI cnt) ix n) (upd (a 7) cnt (nI (gaN (a 6) (nI cnt) ix n))) (upd (a 8) cnt (nI c0))) := by
  refine sx_m0 (ls := lCo_gather) (cs := csAll) (by decide +kernel) kCo_gather (hCo_gather l D E B A hB) (by simp) (fun x w' h => by cases h.1) ?_
  intro Z hZ
  have hn := hel.2.1
  have loop : ∀ d k x4 x5 x6, d + k = n → Z 22 [some (.inr (5, 0)), some (.inl (nI c0)), some (.inr (2, 0)), some (.inl (nI k)), x4, x5, x6] [] (gaW a g i (ga6 (a 6) (nI cnt) ix k) (upd (a 7) cnt (nI (gaN (a 6) (nI cnt) ix k))) (upd (a 8) cnt (nI c0))) := by
    intro d
    induction d with
    | zero =>
      intro k x4 x5 x6 hk
      have e : k = n := by omega
      subst e
      refine z_iload_n hZ gCo_gather_22 rfl ?_
      refine z_aload_n hZ gCo_gather_23 rfl ?_
      refine z_get hZ gCo_gather_24 (by omega) rfl (by rw [hel.1]; rfl) ?_
      refine z_cmpge hZ gCo_gather_27 (fun c27 => ?_) (fun c27 => absurd (nI_le (Nat.le_refl k) (by omega)) c27)
      refine z_aload_n hZ gCo_gather_109 rfl ?_
      refine z_dup hZ gCo_gather_110 ?_
      refine z_get hZ gCo_gather_111 (by omega) rfl (by rw [hcn]; rfl) ?_
      refine z_iconst hZ gCo_gather_114 _ rfl ?_
      refine z_iadd hZ gCo_gather_115 _ (i1 cnt) ?_
      refine z_putW hZ gCo_gather_116 (by omega) rfl (Or.inl (by decide)) (Nat.le_of_ble_eq_true rfl) cW_i5_0 ?_
      refine z_vret hZ gCo_gather_119 ?_
      exact ⟨rfl, rfl⟩
    | succ d ih =>
      intro k x4 x5 x6 hk
      have hkn : k < n := by omega
      have hsk := hP k hkn
      have hpi := isP_inv hsk (piv_ok hsk)
      have h1 := isP_pm hpi hP0
      obtain ⟨hx1, hx2⟩ := hix k hkn
      have hN := gaN_le (a 6) (nI cnt) ix k
      have e3 : (va_up (va_up (va_up a 8 (upd (a 8) cnt (nI c0))) 7 (upd (a 7) cnt (nI (gaN (a 6) (nI cnt) ix k)))) 6 (ga6 (a 6) (nI cnt) ix k)) 3 = a 3 := by rw [va_up_ne _ _ (by decide), va_up_ne _ _ (by decide), va_up_ne _ _ (by decide)]
      have hel2 : elH (va_up (va_up (va_up a 8 (upd (a 8) cnt (nI c0))) 7 (upd (a 7) cnt (nI (gaN (a 6) (nI cnt) ix k)))) 6 (ga6 (a 6) (nI cnt) ix k)) i s n := by
        unfold elH; rw [e3]; exact hel
      refine z_iload_n hZ gCo_gather_22 rfl ?_
      refine z_aload_n hZ gCo_gather_23 rfl ?_
      refine z_get hZ gCo_gather_24 (by omega) rfl (by rw [hel.1]; rfl) ?_
      refine z_cmpge hZ gCo_gather_27 (fun c27 => absurd c27 (nI_ge (by omega) (by omega))) (fun c27 => ?_)
      refine z_aload_n hZ gCo_gather_30 rfl ?_
      refine z_get hZ gCo_gather_31 (by omega) rfl rfl ?_
      refine z_iload_n hZ gCo_gather_34 rfl ?_
      refine z_iald hZ gCo_gather_35 (by omega) rfl (vp_in_nI (by omega) (by decide)) ?_
      rw [nI_clamp (by omega), e3, hel.2.2.1 k hkn]
      refine z_istore hZ gCo_gather_36 rfl ?_
      refine z_iload hZ gCo_gather_38 rfl ?_
      refine z_cs hZ gCo_gather_40 rfl rfl (Nat.le_of_ble_eq_true rfl) (Nat.le_of_ble_eq_true rfl) (fun l D E B A hB => c_Cd_inverse l D E B A hsk _) (fun r40 w40 p40 => ?_)
      obtain ⟨rfl, rfl⟩ := p40
      show Z (40 + 3) _ (.inl (nI (piv (s k))) :: []) _
      refine z_iload_n hZ gCo_gather_43 rfl ?_
      refine z_cs hZ gCo_gather_44 rfl rfl (Nat.le_of_ble_eq_true rfl) (Nat.le_of_ble_eq_true rfl) (fun l D E B A hB => c_Cd_product l D E B A hpi.1 hP0.1 _) (fun r44 w44 p44 => ?_)
      obtain ⟨rfl, rfl⟩ := p44
      show Z (44 + 3) _ (.inl (nI (pm (piv (s k)) c0)) :: []) _
      refine z_iload hZ gCo_gather_47 rfl ?_
      refine z_cs hZ gCo_gather_49 rfl rfl (Nat.le_of_ble_eq_true rfl) (Nat.le_of_ble_eq_true rfl) (fun l D E B A hB => c_Cd_product l D E B A h1.1 hsk.1 _) (fun r49 w49 p49 => ?_)
      obtain ⟨rfl, rfl⟩ := p49
      show Z (49 + 3) _ (.inl (nI (pm (pm (piv (s k)) c0) (s k))) :: []) _
      refine z_istore hZ gCo_gather_52 rfl ?_
      refine z_aload_n hZ gCo_gather_54 rfl ?_
      refine z_iload hZ gCo_gather_55 rfl ?_
      refine z_cv hZ gCo_gather_57 rfl rfl (Nat.le_of_ble_eq_true rfl) (Nat.le_of_ble_eq_true rfl) ⟨⟨2, _, _, rfl, by decide, rfl⟩, fun l D E B A hB => c_El_indexOf l D E B A hB hel2.1 hel2.2.1 (elH_inc hel2) (nI (pm (pm (piv (s k)) c0) (s k)))⟩ (fun r57 w57 p57 => ?_)
      obtain ⟨h57, rfl⟩ := p57
      have hcj : pm (pm (piv (s k)) c0) (s k) < 8 ^ 8 := pm_lt _ _
      have hj : r57 = some (.inl (nI (ix k))) := by
        rcases h57 with ⟨j, hj, hjx, hr⟩ | ⟨_, hno⟩
        · have e1 := (elH_eq hel2 hcj hj).mp hjx
          have e2 : j = ix k := elH_inj hel hj hx1 (by rw [e1, hx2])
          rw [hr, e2]
        · exact absurd ⟨ix k, hx1, (elH_eq hel2 hcj hx1).mpr hx2⟩ hno
      subst hj
      show Z (57 + 3) _ (.inl (nI (ix k)) :: []) _
      refine z_istore hZ gCo_gather_60 rfl ?_
      refine z_iload hZ gCo_gather_62 rfl ?_
      refine z_iconst hZ gCo_gather_64 _ im1 ?_
      refine z_cmpeq hZ gCo_gather_65 (fun c65 => absurd c65 (nI_m1 (by omega))) (fun c65 => ?_)
      refine z_aload_n hZ gCo_gather_68 rfl ?_
      refine z_get hZ gCo_gather_69 (by omega) rfl rfl ?_
      refine z_iload hZ gCo_gather_72 rfl ?_
      refine z_iald hZ gCo_gather_74 (by omega) rfl (vp_in_nI (by omega) (by decide)) ?_
      rw [nI_clamp (by omega), va_up_self]
      refine z_iconst hZ gCo_gather_75 _ im1 ?_
      refine z_cmpne hZ gCo_gather_76 (fun c76 => ?_) (fun c76 => ?_)
      · have ct76 := c76
        have e6 : ga6 (a 6) (nI cnt) ix (k + 1) = ga6 (a 6) (nI cnt) ix k := if_neg ct76
        have e7 : gaN (a 6) (nI cnt) ix (k + 1) = gaN (a 6) (nI cnt) ix k := if_neg ct76
        first | rw [nI_clamp (by omega), e77, upd_u, ← e7, gaW_7] | skip
        refine z_iinc hZ gCo_gather_103 rfl _ (i1 k) rfl ?_
        refine z_goto hZ gCo_gather_106 ?_
        first | exact ih (k + 1) _ _ _ (by omega) | (have h9 := ih (k + 1) (some (.inl (nI (s k)))) (some (.inl (nI (pm (pm (piv (s k)) c0) (s k))))) (some (.inl (nI (ix k)))) (by omega); rw [e6, e7] at h9; exact h9)
      · have cf76 := c76
        have e6 : ga6 (a 6) (nI cnt) ix (k + 1) = upd (ga6 (a 6) (nI cnt) ix k) (ix k) (nI cnt) := if_pos cf76
        have e7 : gaN (a 6) (nI cnt) ix (k + 1) = gaN (a 6) (nI cnt) ix k + 1 := if_pos cf76
        refine z_aload_n hZ gCo_gather_79 rfl ?_
        refine z_get hZ gCo_gather_80 (by omega) rfl rfl ?_
        refine z_iload hZ gCo_gather_83 rfl ?_
        refine z_aload_n hZ gCo_gather_85 rfl ?_
        refine z_get hZ gCo_gather_86 (by omega) rfl (by rw [hcn]; rfl) ?_
        refine z_iastW hZ gCo_gather_89 (by omega) rfl (vp_in_nI (by omega) (by decide)) cW_a6 ?_
        rw [nI_clamp (by omega), va_up_self, ← e6, gaW_6]
        refine z_aload_n hZ gCo_gather_90 rfl ?_
        refine z_get hZ gCo_gather_91 (by omega) rfl rfl ?_
        refine z_aload_n hZ gCo_gather_94 rfl ?_
        refine z_get hZ gCo_gather_95 (by omega) rfl (by rw [hcn]; rfl) ?_
        refine z_dup2 hZ gCo_gather_98 ?_
        refine z_iald hZ gCo_gather_99 (by omega) rfl (vp_in_nI (by omega) (by decide)) ?_
        rw [nI_clamp (by omega)]
        have e77 : (va_up (va_up (va_up a 8 (upd (a 8) cnt (nI c0))) 7 (upd (a 7) cnt (nI (gaN (a 6) (nI cnt) ix k)))) 6 (ga6 (a 6) (nI cnt) ix (k + 1))) 7 = upd (a 7) cnt (nI (gaN (a 6) (nI cnt) ix k)) := by rw [va_up_ne _ _ (by decide), va_up_self]
        rw [e77, pk_us]
        refine z_iconst hZ gCo_gather_100 _ rfl ?_
        refine z_iadd hZ gCo_gather_101 _ (i1 _) ?_
        refine z_iastW hZ gCo_gather_102 (by omega) rfl (vp_in_nI (by omega) (by decide)) cW_a7 ?_
        first | rw [nI_clamp (by omega), e77, upd_u, ← e7, gaW_7] | skip
        refine z_iinc hZ gCo_gather_103 rfl _ (i1 k) rfl ?_
        refine z_goto hZ gCo_gather_106 ?_
        first | exact ih (k + 1) _ _ _ (by omega) | (have h9 := ih (k + 1) (some (.inl (nI (s k)))) (some (.inl (nI (pm (pm (piv (s k)) c0) (s k))))) (some (.inl (nI (ix k)))) (by omega); rw [e6, e7] at h9; exact h9)
  refine z_aload_n hZ gCo_gather_0 rfl ?_
  refine z_get hZ gCo_gather_1 (by omega) rfl rfl ?_
  refine z_aload_n hZ gCo_gather_4 rfl ?_
  refine z_get hZ gCo_gather_5 (by omega) rfl (by rw [hcn]; rfl) ?_
  refine z_iload_n hZ gCo_gather_8 rfl ?_
  refine z_iastW hZ gCo_gather_9 (by omega) rfl (vp_in_nI (by omega) (by decide)) cW_a8 ?_
  refine z_aload_n hZ gCo_gather_10 rfl ?_
  refine z_get hZ gCo_gather_11 (by omega) rfl rfl ?_
  refine z_aload_n hZ gCo_gather_14 rfl ?_
  refine z_get hZ gCo_gather_15 (by omega) rfl (by rw [hcn]; rfl) ?_
  refine z_iconst hZ gCo_gather_18 _ i0 ?_
  refine z_iastW hZ gCo_gather_19 (by omega) rfl (vp_in_nI (by omega) (by decide)) cW_a7 ?_
  refine z_iconst hZ gCo_gather_20 _ rfl ?_
  refine z_istore_n hZ gCo_gather_21 rfl ?_
  have h9 := loop n 0 none none none (by omega)
  rw [nI_clamp (by omega)]
  have e1 : cW (va_up (va_up a 8 (upd (a 8) cnt (nI c0))) 7 (upd ((va_up a 8 (upd (a 8) cnt (nI c0))) 7) cnt (nI 0))) g i = gaW a g i (ga6 (a 6) (nI cnt) ix 0) (upd (a 7) cnt (nI (gaN (a 6) (nI cnt) ix 0))) (upd (a 8) cnt (nI c0)) := by
    show cW _ _ _ = cW _ _ _
    congr 1
    show _ = va_up _ 6 (a 6)
    rw [va_id (k := 6)]
    · rw [va_up_ne _ _ (by decide)]; rfl
    · rw [va_up_ne _ _ (by decide), va_up_ne _ _ (by decide)]
  rw [e1]
  exact h9
end
section
-- pure: the elements in their order make a group; its classes by their least elements
def elS (gen : Nat → Nat) (gc : Nat) (s : Nat → Nat) (n : Nat) : Prop := 1 ≤ n ∧ n ≤ 120 ∧ (∀ j k, j < k → k < n → s j < s k) ∧ (∀ c, inS gen gc c ↔ ∃ j, j < n ∧ s j = c)
abbrev Gl (s : Nat → Nat) (n : Nat) : List Nat := (List.range n).map s
theorem Gl_mem {s : Nat → Nat} {n x : Nat} : x ∈ Gl s n ↔ ∃ j, j < n ∧ s j = x := by
  unfold Gl
  rw [List.mem_map]
  constructor
  · rintro ⟨j, h1, h2⟩; exact ⟨j, List.mem_range.mp h1, h2⟩
  · rintro ⟨j, h1, h2⟩; exact ⟨j, List.mem_range.mpr h1, h2⟩
theorem up_inj {s : Nat → Nat} {n : Nat} (h : ∀ j k, j < k → k < n → s j < s k) {j k : Nat} (hj : j < n) (hk : k < n) (e : s j = s k) : j = k := by
  rcases Nat.lt_trichotomy j k with h1 | h1 | h1
  · have := h j k h1 hk; omega
  · exact h1
  · have := h k j h1 hj; omega
theorem Gl_nd {s : Nat → Nat} {n : Nat} (h : ∀ j k, j < k → k < n → s j < s k) : (Gl s n).Nodup := List.pairwise_map.mpr (List.Pairwise.imp_of_mem (fun {u v} hu hv huv he => by
  have := up_inj h (List.mem_range.mp hu) (List.mem_range.mp hv) he
  omega) List.pairwise_lt_range)
theorem inS_pm {gen : Nat → Nat} {gc c : Nat} (hc : inS gen gc c) {d : Nat} (hd : inS gen gc d) (hP : ∀ x, inS gen gc x → x < 8 ^ 8) : inS gen gc (pm c d) := by
  refine inS_all (P := fun d => inS gen gc (pm c d)) ?_ (fun d k hd hk => ?_) hd
  · rw [pm_r1 (hP c hc)]; exact hc
  · rw [← pm_as]; exact inS_mul hd hk
theorem elS_P {gen : Nat → Nat} {gc : Nat} (hg : ∀ k, k < gc → isP (gen k)) {s : Nat → Nat} {n : Nat} (h : elS gen gc s n) {x : Nat} (hx : x ∈ Gl s n) : isP x := by
  obtain ⟨j, hj, rfl⟩ := Gl_mem.mp hx
  exact inS_P hg ((h.2.2.2 _).mpr ⟨j, hj, rfl⟩)
theorem elS_gg {gen : Nat → Nat} {gc : Nat} (hg : ∀ k, k < gc → isP (gen k)) {s : Nat → Nat} {n : Nat} (h : elS gen gc s n) : gg_ok (Gl s n) pm pid piv := by
  have hP : ∀ x, x ∈ Gl s n → isP x := fun x hx => elS_P hg h hx
  have hm : ∀ x, x ∈ Gl s n ↔ inS gen gc x := fun x => by rw [Gl_mem, h.2.2.2]
  have hmul : ∀ x, x ∈ Gl s n → ∀ y, y ∈ Gl s n → pm x y ∈ Gl s n := fun x hx y hy => (hm _).mpr (inS_pm ((hm x).mp hx) ((hm y).mp hy) (fun z hz => (hP z ((hm z).mpr hz)).1))
  have hnd := Gl_nd h.2.2.1
  have hone : pid ∈ Gl s n := (hm _).mpr (inS_id gen gc)
  have hlc : ∀ x, x ∈ Gl s n → ∀ y, y ∈ Gl s n → ∀ z, z ∈ Gl s n → pm x y = pm x z → y = z := fun x hx y hy z hz e => by
    have e2 := congrArg (pm (piv x)) e
    rw [← pm_as, ← pm_as, pinv_l (hP x hx) (piv_ok (hP x hx)), pm_l1 (hP y hy).1, pm_l1 (hP z hz).1] at e2
    exact e2
  have hinv : ∀ x, x ∈ Gl s n → piv x ∈ Gl s n := fun x hx => by
    -- multiplying by x is onto
    have h1 : ((Gl s n).map (pm x)).Nodup := List.pairwise_map.mpr (List.Pairwise.imp_of_mem (fun {u v} hu hv huv he => huv (hlc x hx u hu v hv he)) hnd)
    have h2 : pid ∈ (Gl s n).map (pm x) := Classical.byContradiction fun hn => by
      have h3 : (pid :: (Gl s n).map (pm x)).Nodup := List.nodup_cons.mpr ⟨hn, h1⟩
      have h4 := h3.length_le_of_subset (l₂ := Gl s n) (fun y hy => by
        rcases List.mem_cons.mp hy with rfl | hy
        · exact hone
        · obtain ⟨z, hz, rfl⟩ := List.mem_map.mp hy
          exact hmul x hx z hz)
      rw [List.length_cons, List.length_map] at h4
      omega
    obtain ⟨y, hy, e⟩ := List.mem_map.mp h2
    have e2 : y = piv x := by
      have e3 := congrArg (pm (piv x)) e
      rw [← pm_as, pinv_l (hP x hx) (piv_ok (hP x hx)), pm_l1 (hP y hy).1, pm_r1 (piv_ok (hP x hx)).1] at e3
      exact e3
    rw [← e2]; exact hy
  exact ⟨hnd, hone, hmul, hinv, pm_as, fun x hx => pm_l1 (hP x hx).1, fun x hx => pm_r1 (hP x hx).1, fun x hx => pinv_l (hP x hx) (piv_ok (hP x hx)), fun x hx => pinv_r (piv_ok (hP x hx))⟩
-- the identity has the least code
theorem pid_le {c : Nat} (hc : isP c) : pid ≤ c := by
  have h1 : ∀ x, x ≤ 8 → (∀ y, y < x → dg c y = y) ∨ encf (fun y => y) x < encf (dg c) x := by
    intro x
    induction x with
    | zero => intro _; left; intro y hy; exact absurd hy (Nat.not_lt_zero y)
    | succ x ih =>
      intro hx
      have hd := dg_lt c x
      rcases ih (by omega) with h | h
      · have h2 : x ≤ dg c x := Nat.not_lt.mp fun h9 => by
          have h3 := h (dg c x) h9
          have := hc.2 (dg c x) (by omega) x (by omega) h3
          omega
        by_cases e : dg c x = x
        · left
          intro y hy
          by_cases e2 : y = x
          · subst e2; exact e
          · exact h y (by omega)
        · right
          have h4 : encf (fun y => y) x = encf (dg c) x := by
            have h5 : ∀ z, z ≤ x → encf (fun y => y) z = encf (dg c) z := by
              intro z
              induction z with
              | zero => intro _; rfl
              | succ z ihz =>
                intro hz
                show encf (fun y => y) z * 8 + z = encf (dg c) z * 8 + dg c z
                rw [ihz (by omega), h z (by omega)]
            exact h5 x (Nat.le_refl x)
          show encf (fun y => y) x * 8 + x < encf (dg c) x * 8 + dg c x
          omega
      · right
        show encf (fun y => y) x * 8 + x < encf (dg c) x * 8 + dg c x
        omega
  have e0 : encf (fun y => y) 8 = pid := by decide
  have e1 := enc_of c 8 8 (Nat.le_refl 8)
  rw [Nat.sub_self, Nat.pow_zero, Nat.div_one, Nat.mod_eq_of_lt hc.1] at e1
  have e2 : encf (dg c) 8 = c := e1
  rcases h1 8 (Nat.le_refl 8) with h | h
  · have : pid = c := dg_ext (by decide) hc.1 fun x hx => by rw [pid_dg x hx, h x hx]
    omega
  · rw [e0, e2] at h; omega
-- classes
def clS (s : Nat → Nat) (n k : Nat) (kl re : Nat → Nat) : Prop := kc_ok (Gl s n) pm pid piv k kl re ∧ (∀ x, x ∈ Gl s n → re (kl x) ≤ x) ∧ (∀ l l', l < l' → l' < k → re l < re l')
def cnj (s : Nat → Nat) (n x y : Nat) : Prop := ∃ g, g ∈ Gl s n ∧ pm g y = pm x g
section CN
variable {s : Nat → Nat} {n : Nat}
theorem cnj_rfl (h : gg_ok (Gl s n) pm pid piv) {x : Nat} (hx : x ∈ Gl s n) : cnj s n x x := ⟨pid, gg_1 h, by rw [gg_l1 h hx, gg_r1 h hx]⟩
theorem cnj_symm (h : gg_ok (Gl s n) pm pid piv) {x y : Nat} (hx : x ∈ Gl s n) (hy : y ∈ Gl s n) (c : cnj s n x y) : cnj s n y x := by
  obtain ⟨g, hg, e⟩ := c
  refine ⟨piv g, gg_i h hg, ?_⟩
  have e1 := congrArg (fun z => pm (pm (piv g) z) (piv g)) e
  simp only [gg_as h] at e1
  rw [gg_ri h hg, gg_r1 h hx, ← gg_as h (piv g) g, gg_li h hg, gg_l1 h (gg_m h hy (gg_i h hg))] at e1
  exact e1.symm
theorem cnj_trans (h : gg_ok (Gl s n) pm pid piv) {x y z : Nat} (c : cnj s n x y) (d : cnj s n y z) : cnj s n x z := by
  obtain ⟨g, hg, e⟩ := c
  obtain ⟨k, hk, f⟩ := d
  refine ⟨pm g k, gg_m h hg hk, ?_⟩
  rw [gg_as h, f, ← gg_as h, e, gg_as h]
-- the conjugates of c
theorem cnj_by (h : gg_ok (Gl s n) pm pid piv) {x c : Nat} (hx : x ∈ Gl s n) (hc : c ∈ Gl s n) : cnj s n c x ↔ ∃ k, k < n ∧ pm (pm (piv (s k)) c) (s k) = x := by
  constructor
  · rintro ⟨g, hg, e⟩
    obtain ⟨k, hk, rfl⟩ := Gl_mem.mp hg
    exact ⟨k, hk, by rw [gg_as h, ← e, ← gg_as h, gg_li h hg, gg_l1 h hx]⟩
  · rintro ⟨k, hk, e⟩
    have hg : s k ∈ Gl s n := Gl_mem.mpr ⟨k, hk, rfl⟩
    exact ⟨s k, hg, by rw [← e, ← gg_as h, ← gg_as h, gg_ri h hg, gg_l1 h hc]⟩
end CN
-- what gathering does
theorem ga6_eq {f : Nat → Int32} {v : Int32} (hv : v ≠ -1) {ix : Nat → Nat} (j : Nat) : ∀ k, ((∃ q, q < k ∧ ix q = j) → f j = -1 → ga6 f v ix k j = v) ∧ ((¬ ∃ q, q < k ∧ ix q = j) → ga6 f v ix k j = f j) ∧ (f j ≠ -1 → ga6 f v ix k j = f j)
  | 0 => ⟨fun ⟨q, h, _⟩ => absurd h (Nat.not_lt_zero q), fun _ => rfl, fun _ => rfl⟩
  | k + 1 => by
    obtain ⟨h1, h2, h3⟩ := ga6_eq hv (f := f) (ix := ix) j k
    unfold ga6
    by_cases hc : ga6 f v ix k (ix k) = -1
    · rw [if_pos hc]
      by_cases e : j = ix k
      · subst e
        rw [pk_us]
        refine ⟨fun _ _ => rfl, fun hn => absurd ⟨k, Nat.lt_succ_self k, rfl⟩ hn, fun hf => ?_⟩
        rw [h3 hf] at hc
        exact absurd hc hf
      · rw [pk_un e]
        refine ⟨fun ⟨q, hq, he⟩ hf => h1 ⟨q, ?_, he⟩ hf, fun hn => h2 fun ⟨q, hq, he⟩ => hn ⟨q, by omega, he⟩, h3⟩
        by_cases e2 : q = k
        · subst e2; exact absurd he.symm e
        · omega
    · rw [if_neg hc]
      refine ⟨fun ⟨q, hq, he⟩ hf => ?_, fun hn => h2 fun ⟨q, hq, he⟩ => hn ⟨q, by omega, he⟩, h3⟩
      by_cases e2 : q = k
      · subst e2
        subst he
        by_cases e3 : ∃ q', q' < q ∧ ix q' = ix q
        · exact h1 e3 hf
        · rw [h2 e3] at hc; exact absurd hf hc
      · exact h1 ⟨q, by omega, he⟩ hf
-- how many were gathered
theorem gaN_eq {f : Nat → Int32} {v : Int32} (hv : v ≠ -1) {ix : Nat → Nat} {n : Nat} : ∀ k, (∀ q, q < k → ix q < n) → gaN f v ix k = (List.range n).countP (fun j => decide (f j = -1) && decide (ga6 f v ix k j ≠ -1))
  | 0, _ => by
    show 0 = _
    refine (List.countP_eq_zero.mpr fun j _ => ?_).symm
    show ¬ (decide (f j = -1) && decide (f j ≠ -1)) = true
    by_cases h : f j = -1 <;> simp [h]
  | k + 1, hk => by
    have ih := gaN_eq hv (f := f) (ix := ix) (n := n) k (fun q hq => hk q (by omega))
    have eN : gaN f v ix (k + 1) = if ga6 f v ix k (ix k) = -1 then gaN f v ix k + 1 else gaN f v ix k := rfl
    have e6 : ga6 f v ix (k + 1) = if ga6 f v ix k (ix k) = -1 then upd (ga6 f v ix k) (ix k) v else ga6 f v ix k := rfl
    rw [eN, e6]
    by_cases hc : ga6 f v ix k (ix k) = -1
    · rw [if_pos hc, if_pos hc, ih]
      have hfk : f (ix k) = -1 := Classical.byContradiction fun h => by
        rw [((ga6_eq hv (ix k) k).2.2 h)] at hc
        exact h hc
      -- one more: the place ix k
      have h1 : ∀ j, (decide (f j = -1) && decide (upd (ga6 f v ix k) (ix k) v j ≠ -1)) = ((decide (f j = -1) && decide (ga6 f v ix k j ≠ -1)) || decide (j = ix k)) := fun j => by
        by_cases e : j = ix k
        · subst e; rw [pk_us, hfk]; simp [hv]
        · rw [pk_un e]; simp [e]
      have h2 : (List.range n).countP (fun j => decide (f j = -1) && decide (upd (ga6 f v ix k) (ix k) v j ≠ -1)) = (List.range n).countP (fun j => decide (f j = -1) && decide (ga6 f v ix k j ≠ -1)) + (List.range n).countP (fun j => decide (j = ix k)) := by
        have h3 : ∀ L : List Nat, L.countP (fun j => decide (f j = -1) && decide (upd (ga6 f v ix k) (ix k) v j ≠ -1)) = L.countP (fun j => decide (f j = -1) && decide (ga6 f v ix k j ≠ -1)) + L.countP (fun j => decide (j = ix k)) := by
          intro L
          induction L with
          | nil => rfl
          | cons j L ihL =>
            rw [List.countP_cons, List.countP_cons, List.countP_cons, ihL, h1 j]
            by_cases e : j = ix k
            · subst e; simp [hc]; omega
            · simp [e]; omega
        exact h3 _
      have h4 : (List.range n).countP (fun j => decide (j = ix k)) = 1 := by
        have h5 := si_count (fun j => decide (j = ix k)) (List.range n)
        have h6 := si_one (fun _ => (1 : Int)) (ix k) List.nodup_range (List.mem_range.mpr (hk k (by omega)))
        simp only [Int.mul_one] at h6
        rw [h6] at h5
        omega
      rw [h2, h4]
    · rw [if_neg hc, if_neg hc, ih]
end
