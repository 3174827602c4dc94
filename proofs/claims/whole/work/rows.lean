section
-- ===== PART A: goes FIRST, ahead of the names: the tables' words, and 'selects' of the private methods out of them =====
/-- a private method of a class that the tables say can be made, by its rows of tables_1 -/
def lw_okq (q : MethodName × Nat) : Prop := (q.1.cls ≠ "java/lang/invoke/MethodHandle" ∧ q.1.cls ≠ "java/lang/invoke/VarHandle") ∧ Cond.instantiable q.1.cls q.2 ∈ tables_1 ∧ Cond.privateMethod q.1 ∈ tables_1 ∧ Cond.instanceMethod q.1 ∈ tables_1
theorem lw_p0 : lw_okq (⟨"ClassCharacters", "workOut", "()I"⟩, 8) := ⟨⟨by decide +kernel, by decide +kernel⟩, List.mem_of_getElem? (i := 13) (by decide +kernel), List.mem_of_getElem? (i := 216) (by decide +kernel), List.mem_of_getElem? (i := 217) (by decide +kernel)⟩
theorem lw_p1 : lw_okq (⟨"ClassCharacters$Elements", "include", "(I)Z"⟩, 3) := ⟨⟨by decide +kernel, by decide +kernel⟩, List.mem_of_getElem? (i := 21) (by decide +kernel), List.mem_of_getElem? (i := 225) (by decide +kernel), List.mem_of_getElem? (i := 226) (by decide +kernel)⟩
theorem lw_p2 : lw_okq (⟨"ClassCharacters$Elements", "firstNotBelow", "(I)I"⟩, 3) := ⟨⟨by decide +kernel, by decide +kernel⟩, List.mem_of_getElem? (i := 21) (by decide +kernel), List.mem_of_getElem? (i := 229) (by decide +kernel), List.mem_of_getElem? (i := 230) (by decide +kernel)⟩
theorem lw_p3 : lw_okq (⟨"ClassCharacters$Conjugates", "gather", "(ILClassCharacters$Elements;)V"⟩, 8) := ⟨⟨by decide +kernel, by decide +kernel⟩, List.mem_of_getElem? (i := 42) (by decide +kernel), List.mem_of_getElem? (i := 243) (by decide +kernel), List.mem_of_getElem? (i := 244) (by decide +kernel)⟩
theorem lw_p4 : lw_okq (⟨"ClassCharacters$Residues", "orderOf", "(I)I"⟩, 2) := ⟨⟨by decide +kernel, by decide +kernel⟩, List.mem_of_getElem? (i := 83) (by decide +kernel), List.mem_of_getElem? (i := 281) (by decide +kernel), List.mem_of_getElem? (i := 282) (by decide +kernel)⟩
theorem lw_p5 : lw_okq (⟨"ClassCharacters$CentralMaps", "startWhole", "()V"⟩, 9) := ⟨⟨by decide +kernel, by decide +kernel⟩, List.mem_of_getElem? (i := 101) (by decide +kernel), List.mem_of_getElem? (i := 293) (by decide +kernel), List.mem_of_getElem? (i := 294) (by decide +kernel)⟩
theorem lw_p6 : lw_okq (⟨"ClassCharacters$CentralMaps", "setAction", "(IILClassCharacters$Conjugates;LClassCharacters$Residues;)V"⟩, 9) := ⟨⟨by decide +kernel, by decide +kernel⟩, List.mem_of_getElem? (i := 101) (by decide +kernel), List.mem_of_getElem? (i := 298) (by decide +kernel), List.mem_of_getElem? (i := 299) (by decide +kernel)⟩
theorem lw_p7 : lw_okq (⟨"ClassCharacters$CentralMaps", "split", "(IILClassCharacters$Residues;)V"⟩, 9) := ⟨⟨by decide +kernel, by decide +kernel⟩, List.mem_of_getElem? (i := 101) (by decide +kernel), List.mem_of_getElem? (i := 310) (by decide +kernel), List.mem_of_getElem? (i := 311) (by decide +kernel)⟩
theorem lw_p8 : lw_okq (⟨"ClassCharacters$CentralMaps", "setSystem", "(IILClassCharacters$Residues;)V"⟩, 9) := ⟨⟨by decide +kernel, by decide +kernel⟩, List.mem_of_getElem? (i := 101) (by decide +kernel), List.mem_of_getElem? (i := 314) (by decide +kernel), List.mem_of_getElem? (i := 315) (by decide +kernel)⟩
theorem lw_p9 : lw_okq (⟨"ClassCharacters$CentralMaps", "solve", "(ILClassCharacters$Residues;)V"⟩, 9) := ⟨⟨by decide +kernel, by decide +kernel⟩, List.mem_of_getElem? (i := 101) (by decide +kernel), List.mem_of_getElem? (i := 328) (by decide +kernel), List.mem_of_getElem? (i := 329) (by decide +kernel)⟩
theorem lw_p10 : lw_okq (⟨"ClassCharacters$CentralMaps", "swapRows", "(III)V"⟩, 9) := ⟨⟨by decide +kernel, by decide +kernel⟩, List.mem_of_getElem? (i := 101) (by decide +kernel), List.mem_of_getElem? (i := 332) (by decide +kernel), List.mem_of_getElem? (i := 333) (by decide +kernel)⟩
theorem lw_p11 : lw_okq (⟨"ClassCharacters$CentralMaps", "clearColumn", "(IIILClassCharacters$Residues;)V"⟩, 9) := ⟨⟨by decide +kernel, by decide +kernel⟩, List.mem_of_getElem? (i := 101) (by decide +kernel), List.mem_of_getElem? (i := 336) (by decide +kernel), List.mem_of_getElem? (i := 337) (by decide +kernel)⟩
theorem lw_p12 : lw_okq (⟨"ClassCharacters$CentralMaps", "takeSolution", "(IIIILClassCharacters$Residues;)V"⟩, 9) := ⟨⟨by decide +kernel, by decide +kernel⟩, List.mem_of_getElem? (i := 101) (by decide +kernel), List.mem_of_getElem? (i := 349) (by decide +kernel), List.mem_of_getElem? (i := 350) (by decide +kernel)⟩
theorem lw_p13 : lw_okq (⟨"ClassCharacters$CentralMaps", "scale", "(LClassCharacters$Residues;)V"⟩, 9) := ⟨⟨by decide +kernel, by decide +kernel⟩, List.mem_of_getElem? (i := 101) (by decide +kernel), List.mem_of_getElem? (i := 354) (by decide +kernel), List.mem_of_getElem? (i := 355) (by decide +kernel)⟩
theorem lw_p14 : lw_okq (⟨"ClassCharacters$Rows", "setValues", "(II[ILClassCharacters$Conjugates;LClassCharacters$Residues;)V"⟩, 8) := ⟨⟨by decide +kernel, by decide +kernel⟩, List.mem_of_getElem? (i := 137) (by decide +kernel), List.mem_of_getElem? (i := 362) (by decide +kernel), List.mem_of_getElem? (i := 363) (by decide +kernel)⟩
theorem lw_p15 : lw_okq (⟨"ClassCharacters$Rows", "setIndicator", "(IILClassCharacters$Conjugates;LClassCharacters$Residues;)V"⟩, 8) := ⟨⟨by decide +kernel, by decide +kernel⟩, List.mem_of_getElem? (i := 137) (by decide +kernel), List.mem_of_getElem? (i := 381) (by decide +kernel), List.mem_of_getElem? (i := 382) (by decide +kernel)⟩
def lw_privs_1 : List (MethodName × Nat) := [(⟨"ClassCharacters", "workOut", "()I"⟩, 8), (⟨"ClassCharacters$Elements", "include", "(I)Z"⟩, 3), (⟨"ClassCharacters$Elements", "firstNotBelow", "(I)I"⟩, 3), (⟨"ClassCharacters$Conjugates", "gather", "(ILClassCharacters$Elements;)V"⟩, 8), (⟨"ClassCharacters$Residues", "orderOf", "(I)I"⟩, 2), (⟨"ClassCharacters$CentralMaps", "startWhole", "()V"⟩, 9), (⟨"ClassCharacters$CentralMaps", "setAction", "(IILClassCharacters$Conjugates;LClassCharacters$Residues;)V"⟩, 9), (⟨"ClassCharacters$CentralMaps", "split", "(IILClassCharacters$Residues;)V"⟩, 9), (⟨"ClassCharacters$CentralMaps", "setSystem", "(IILClassCharacters$Residues;)V"⟩, 9), (⟨"ClassCharacters$CentralMaps", "solve", "(ILClassCharacters$Residues;)V"⟩, 9), (⟨"ClassCharacters$CentralMaps", "swapRows", "(III)V"⟩, 9), (⟨"ClassCharacters$CentralMaps", "clearColumn", "(IIILClassCharacters$Residues;)V"⟩, 9), (⟨"ClassCharacters$CentralMaps", "takeSolution", "(IIIILClassCharacters$Residues;)V"⟩, 9), (⟨"ClassCharacters$CentralMaps", "scale", "(LClassCharacters$Residues;)V"⟩, 9), (⟨"ClassCharacters$Rows", "setValues", "(II[ILClassCharacters$Conjugates;LClassCharacters$Residues;)V"⟩, 8), (⟨"ClassCharacters$Rows", "setIndicator", "(IILClassCharacters$Conjugates;LClassCharacters$Residues;)V"⟩, 8)]
theorem lw_r1 : ∀ q ∈ lw_privs_1, lw_okq q := List.forall_mem_cons.mpr ⟨lw_p0, List.forall_mem_cons.mpr ⟨lw_p1, List.forall_mem_cons.mpr ⟨lw_p2, List.forall_mem_cons.mpr ⟨lw_p3, List.forall_mem_cons.mpr ⟨lw_p4, List.forall_mem_cons.mpr ⟨lw_p5, List.forall_mem_cons.mpr ⟨lw_p6, List.forall_mem_cons.mpr ⟨lw_p7, List.forall_mem_cons.mpr ⟨lw_p8, List.forall_mem_cons.mpr ⟨lw_p9, List.forall_mem_cons.mpr ⟨lw_p10, List.forall_mem_cons.mpr ⟨lw_p11, List.forall_mem_cons.mpr ⟨lw_p12, List.forall_mem_cons.mpr ⟨lw_p13, List.forall_mem_cons.mpr ⟨lw_p14, List.forall_mem_cons.mpr ⟨lw_p15, fun _ h => absurd h List.not_mem_nil⟩⟩⟩⟩⟩⟩⟩⟩⟩⟩⟩⟩⟩⟩⟩⟩
theorem lw_p16 : lw_okq (⟨"ClassCharacters$Rows", "setKernel", "(I)V"⟩, 8) := ⟨⟨by decide +kernel, by decide +kernel⟩, List.mem_of_getElem? (i := 137) (by decide +kernel), List.mem_of_getElem? (i := 389) (by decide +kernel), List.mem_of_getElem? (i := 390) (by decide +kernel)⟩
theorem lw_p17 : lw_okq (⟨"ClassCharacters$Rows", "insertPlace", "(I)V"⟩, 8) := ⟨⟨by decide +kernel, by decide +kernel⟩, List.mem_of_getElem? (i := 137) (by decide +kernel), List.mem_of_getElem? (i := 393) (by decide +kernel), List.mem_of_getElem? (i := 394) (by decide +kernel)⟩
theorem lw_p18 : lw_okq (⟨"ClassCharacters$Rows", "comesBefore", "(II)Z"⟩, 8) := ⟨⟨by decide +kernel, by decide +kernel⟩, List.mem_of_getElem? (i := 137) (by decide +kernel), List.mem_of_getElem? (i := 397) (by decide +kernel), List.mem_of_getElem? (i := 398) (by decide +kernel)⟩
theorem lw_p19 : lw_okq (⟨"ClassCharacters$Rows", "listNormals", "()V"⟩, 8) := ⟨⟨by decide +kernel, by decide +kernel⟩, List.mem_of_getElem? (i := 137) (by decide +kernel), List.mem_of_getElem? (i := 401) (by decide +kernel), List.mem_of_getElem? (i := 402) (by decide +kernel)⟩
theorem lw_p20 : lw_okq (⟨"ClassCharacters$Rows", "includeNormal", "(I)V"⟩, 8) := ⟨⟨by decide +kernel, by decide +kernel⟩, List.mem_of_getElem? (i := 137) (by decide +kernel), List.mem_of_getElem? (i := 405) (by decide +kernel), List.mem_of_getElem? (i := 406) (by decide +kernel)⟩
theorem lw_p21 : lw_okq (⟨"ClassCharacters", "isBuilt", "()Z"⟩, 8) := ⟨⟨by decide +kernel, by decide +kernel⟩, List.mem_of_getElem? (i := 13) (by decide +kernel), List.mem_of_getElem? (i := 413) (by decide +kernel), List.mem_of_getElem? (i := 414) (by decide +kernel)⟩
theorem lw_p22 : lw_okq (⟨"ClassCharacters", "isClass", "(I)Z"⟩, 8) := ⟨⟨by decide +kernel, by decide +kernel⟩, List.mem_of_getElem? (i := 13) (by decide +kernel), List.mem_of_getElem? (i := 434) (by decide +kernel), List.mem_of_getElem? (i := 435) (by decide +kernel)⟩
theorem lw_p23 : lw_okq (⟨"ClassCharactersModel", "close", "()Z"⟩, 18) := ⟨⟨by decide +kernel, by decide +kernel⟩, List.mem_of_getElem? (i := 496) (by decide +kernel), List.mem_of_getElem? (i := 576) (by decide +kernel), List.mem_of_getElem? (i := 577) (by decide +kernel)⟩
theorem lw_p24 : lw_okq (⟨"ClassCharactersModel", "find", "(I)I"⟩, 18) := ⟨⟨by decide +kernel, by decide +kernel⟩, List.mem_of_getElem? (i := 496) (by decide +kernel), List.mem_of_getElem? (i := 584) (by decide +kernel), List.mem_of_getElem? (i := 585) (by decide +kernel)⟩
theorem lw_p25 : lw_okq (⟨"ClassCharactersModel", "classify", "()Z"⟩, 18) := ⟨⟨by decide +kernel, by decide +kernel⟩, List.mem_of_getElem? (i := 496) (by decide +kernel), List.mem_of_getElem? (i := 588) (by decide +kernel), List.mem_of_getElem? (i := 589) (by decide +kernel)⟩
theorem lw_p26 : lw_okq (⟨"ClassCharactersModel", "count", "()V"⟩, 18) := ⟨⟨by decide +kernel, by decide +kernel⟩, List.mem_of_getElem? (i := 496) (by decide +kernel), List.mem_of_getElem? (i := 595) (by decide +kernel), List.mem_of_getElem? (i := 596) (by decide +kernel)⟩
theorem lw_p27 : lw_okq (⟨"ClassCharactersModel", "numbers", "()V"⟩, 18) := ⟨⟨by decide +kernel, by decide +kernel⟩, List.mem_of_getElem? (i := 496) (by decide +kernel), List.mem_of_getElem? (i := 599) (by decide +kernel), List.mem_of_getElem? (i := 600) (by decide +kernel)⟩
theorem lw_p28 : lw_okq (⟨"ClassCharactersModel", "allAtOnce", "(I)Z"⟩, 18) := ⟨⟨by decide +kernel, by decide +kernel⟩, List.mem_of_getElem? (i := 496) (by decide +kernel), List.mem_of_getElem? (i := 603) (by decide +kernel), List.mem_of_getElem? (i := 604) (by decide +kernel)⟩
theorem lw_p29 : lw_okq (⟨"ClassCharactersModel", "powerOf", "(II)I"⟩, 18) := ⟨⟨by decide +kernel, by decide +kernel⟩, List.mem_of_getElem? (i := 496) (by decide +kernel), List.mem_of_getElem? (i := 607) (by decide +kernel), List.mem_of_getElem? (i := 608) (by decide +kernel)⟩
theorem lw_p30 : lw_okq (⟨"ClassCharactersModel", "isRoot", "(I)Z"⟩, 18) := ⟨⟨by decide +kernel, by decide +kernel⟩, List.mem_of_getElem? (i := 496) (by decide +kernel), List.mem_of_getElem? (i := 614) (by decide +kernel), List.mem_of_getElem? (i := 615) (by decide +kernel)⟩
theorem lw_p31 : lw_okq (⟨"ClassCharactersModel", "takeApart", "()V"⟩, 18) := ⟨⟨by decide +kernel, by decide +kernel⟩, List.mem_of_getElem? (i := 496) (by decide +kernel), List.mem_of_getElem? (i := 618) (by decide +kernel), List.mem_of_getElem? (i := 619) (by decide +kernel)⟩
def lw_privs_2 : List (MethodName × Nat) := [(⟨"ClassCharacters$Rows", "setKernel", "(I)V"⟩, 8), (⟨"ClassCharacters$Rows", "insertPlace", "(I)V"⟩, 8), (⟨"ClassCharacters$Rows", "comesBefore", "(II)Z"⟩, 8), (⟨"ClassCharacters$Rows", "listNormals", "()V"⟩, 8), (⟨"ClassCharacters$Rows", "includeNormal", "(I)V"⟩, 8), (⟨"ClassCharacters", "isBuilt", "()Z"⟩, 8), (⟨"ClassCharacters", "isClass", "(I)Z"⟩, 8), (⟨"ClassCharactersModel", "close", "()Z"⟩, 18), (⟨"ClassCharactersModel", "find", "(I)I"⟩, 18), (⟨"ClassCharactersModel", "classify", "()Z"⟩, 18), (⟨"ClassCharactersModel", "count", "()V"⟩, 18), (⟨"ClassCharactersModel", "numbers", "()V"⟩, 18), (⟨"ClassCharactersModel", "allAtOnce", "(I)Z"⟩, 18), (⟨"ClassCharactersModel", "powerOf", "(II)I"⟩, 18), (⟨"ClassCharactersModel", "isRoot", "(I)Z"⟩, 18), (⟨"ClassCharactersModel", "takeApart", "()V"⟩, 18)]
theorem lw_r2 : ∀ q ∈ lw_privs_2, lw_okq q := List.forall_mem_cons.mpr ⟨lw_p16, List.forall_mem_cons.mpr ⟨lw_p17, List.forall_mem_cons.mpr ⟨lw_p18, List.forall_mem_cons.mpr ⟨lw_p19, List.forall_mem_cons.mpr ⟨lw_p20, List.forall_mem_cons.mpr ⟨lw_p21, List.forall_mem_cons.mpr ⟨lw_p22, List.forall_mem_cons.mpr ⟨lw_p23, List.forall_mem_cons.mpr ⟨lw_p24, List.forall_mem_cons.mpr ⟨lw_p25, List.forall_mem_cons.mpr ⟨lw_p26, List.forall_mem_cons.mpr ⟨lw_p27, List.forall_mem_cons.mpr ⟨lw_p28, List.forall_mem_cons.mpr ⟨lw_p29, List.forall_mem_cons.mpr ⟨lw_p30, List.forall_mem_cons.mpr ⟨lw_p31, fun _ h => absurd h List.not_mem_nil⟩⟩⟩⟩⟩⟩⟩⟩⟩⟩⟩⟩⟩⟩⟩⟩
theorem lw_p32 : lw_okq (⟨"ClassCharactersModel", "split", "(II)V"⟩, 18) := ⟨⟨by decide +kernel, by decide +kernel⟩, List.mem_of_getElem? (i := 496) (by decide +kernel), List.mem_of_getElem? (i := 622) (by decide +kernel), List.mem_of_getElem? (i := 623) (by decide +kernel)⟩
theorem lw_p33 : lw_okq (⟨"ClassCharactersModel", "ratio", "(II)I"⟩, 18) := ⟨⟨by decide +kernel, by decide +kernel⟩, List.mem_of_getElem? (i := 496) (by decide +kernel), List.mem_of_getElem? (i := 626) (by decide +kernel), List.mem_of_getElem? (i := 627) (by decide +kernel)⟩
theorem lw_p34 : lw_okq (⟨"ClassCharactersModel", "multiply", "(III)V"⟩, 18) := ⟨⟨by decide +kernel, by decide +kernel⟩, List.mem_of_getElem? (i := 496) (by decide +kernel), List.mem_of_getElem? (i := 630) (by decide +kernel), List.mem_of_getElem? (i := 631) (by decide +kernel)⟩
theorem lw_p35 : lw_okq (⟨"ClassCharactersModel", "over", "(II)I"⟩, 18) := ⟨⟨by decide +kernel, by decide +kernel⟩, List.mem_of_getElem? (i := 496) (by decide +kernel), List.mem_of_getElem? (i := 634) (by decide +kernel), List.mem_of_getElem? (i := 635) (by decide +kernel)⟩
theorem lw_p36 : lw_okq (⟨"ClassCharactersModel", "mod", "(I)I"⟩, 18) := ⟨⟨by decide +kernel, by decide +kernel⟩, List.mem_of_getElem? (i := 496) (by decide +kernel), List.mem_of_getElem? (i := 638) (by decide +kernel), List.mem_of_getElem? (i := 639) (by decide +kernel)⟩
theorem lw_p37 : lw_okq (⟨"ClassCharactersModel", "raised", "(II)I"⟩, 18) := ⟨⟨by decide +kernel, by decide +kernel⟩, List.mem_of_getElem? (i := 496) (by decide +kernel), List.mem_of_getElem? (i := 642) (by decide +kernel), List.mem_of_getElem? (i := 643) (by decide +kernel)⟩
theorem lw_p38 : lw_okq (⟨"ClassCharactersModel", "fermat", "()V"⟩, 18) := ⟨⟨by decide +kernel, by decide +kernel⟩, List.mem_of_getElem? (i := 496) (by decide +kernel), List.mem_of_getElem? (i := 646) (by decide +kernel), List.mem_of_getElem? (i := 647) (by decide +kernel)⟩
theorem lw_p39 : lw_okq (⟨"ClassCharactersModel", "copy", "(II)V"⟩, 18) := ⟨⟨by decide +kernel, by decide +kernel⟩, List.mem_of_getElem? (i := 496) (by decide +kernel), List.mem_of_getElem? (i := 650) (by decide +kernel), List.mem_of_getElem? (i := 651) (by decide +kernel)⟩
theorem lw_p40 : lw_okq (⟨"ClassCharactersModel", "makeRow", "(I)V"⟩, 18) := ⟨⟨by decide +kernel, by decide +kernel⟩, List.mem_of_getElem? (i := 496) (by decide +kernel), List.mem_of_getElem? (i := 654) (by decide +kernel), List.mem_of_getElem? (i := 655) (by decide +kernel)⟩
theorem lw_p41 : lw_okq (⟨"ClassCharactersModel", "inverseOf", "(I)I"⟩, 18) := ⟨⟨by decide +kernel, by decide +kernel⟩, List.mem_of_getElem? (i := 496) (by decide +kernel), List.mem_of_getElem? (i := 658) (by decide +kernel), List.mem_of_getElem? (i := 659) (by decide +kernel)⟩
theorem lw_p42 : lw_okq (⟨"ClassCharactersModel", "comesBefore", "(II)Z"⟩, 18) := ⟨⟨by decide +kernel, by decide +kernel⟩, List.mem_of_getElem? (i := 496) (by decide +kernel), List.mem_of_getElem? (i := 662) (by decide +kernel), List.mem_of_getElem? (i := 663) (by decide +kernel)⟩
theorem lw_p43 : lw_okq (⟨"ClassCharactersModel", "exchange", "(II)V"⟩, 18) := ⟨⟨by decide +kernel, by decide +kernel⟩, List.mem_of_getElem? (i := 496) (by decide +kernel), List.mem_of_getElem? (i := 666) (by decide +kernel), List.mem_of_getElem? (i := 667) (by decide +kernel)⟩
theorem lw_p44 : lw_okq (⟨"ClassCharactersModel", "isClass", "(I)Z"⟩, 18) := ⟨⟨by decide +kernel, by decide +kernel⟩, List.mem_of_getElem? (i := 496) (by decide +kernel), List.mem_of_getElem? (i := 690) (by decide +kernel), List.mem_of_getElem? (i := 691) (by decide +kernel)⟩
theorem lw_p45 : lw_okq (⟨"ClassCharactersModel", "insert", "(II)I"⟩, 18) := ⟨⟨by decide +kernel, by decide +kernel⟩, List.mem_of_getElem? (i := 496) (by decide +kernel), List.mem_of_getElem? (i := 744) (by decide +kernel), List.mem_of_getElem? (i := 745) (by decide +kernel)⟩
def lw_privs_3 : List (MethodName × Nat) := [(⟨"ClassCharactersModel", "split", "(II)V"⟩, 18), (⟨"ClassCharactersModel", "ratio", "(II)I"⟩, 18), (⟨"ClassCharactersModel", "multiply", "(III)V"⟩, 18), (⟨"ClassCharactersModel", "over", "(II)I"⟩, 18), (⟨"ClassCharactersModel", "mod", "(I)I"⟩, 18), (⟨"ClassCharactersModel", "raised", "(II)I"⟩, 18), (⟨"ClassCharactersModel", "fermat", "()V"⟩, 18), (⟨"ClassCharactersModel", "copy", "(II)V"⟩, 18), (⟨"ClassCharactersModel", "makeRow", "(I)V"⟩, 18), (⟨"ClassCharactersModel", "inverseOf", "(I)I"⟩, 18), (⟨"ClassCharactersModel", "comesBefore", "(II)Z"⟩, 18), (⟨"ClassCharactersModel", "exchange", "(II)V"⟩, 18), (⟨"ClassCharactersModel", "isClass", "(I)Z"⟩, 18), (⟨"ClassCharactersModel", "insert", "(II)I"⟩, 18)]
theorem lw_r3 : ∀ q ∈ lw_privs_3, lw_okq q := List.forall_mem_cons.mpr ⟨lw_p32, List.forall_mem_cons.mpr ⟨lw_p33, List.forall_mem_cons.mpr ⟨lw_p34, List.forall_mem_cons.mpr ⟨lw_p35, List.forall_mem_cons.mpr ⟨lw_p36, List.forall_mem_cons.mpr ⟨lw_p37, List.forall_mem_cons.mpr ⟨lw_p38, List.forall_mem_cons.mpr ⟨lw_p39, List.forall_mem_cons.mpr ⟨lw_p40, List.forall_mem_cons.mpr ⟨lw_p41, List.forall_mem_cons.mpr ⟨lw_p42, List.forall_mem_cons.mpr ⟨lw_p43, List.forall_mem_cons.mpr ⟨lw_p44, List.forall_mem_cons.mpr ⟨lw_p45, fun _ h => absurd h List.not_mem_nil⟩⟩⟩⟩⟩⟩⟩⟩⟩⟩⟩⟩⟩⟩
def lw_privs : List (MethodName × Nat) := lw_privs_1 ++ (lw_privs_2 ++ (lw_privs_3))
def lw_tbl : List Cond := k2_sels lw_privs ++ tables_1
theorem lw_privs_ok : ∀ q ∈ lw_privs, lw_okq q := by
  show ∀ q ∈ lw_privs_1 ++ (lw_privs_2 ++ (lw_privs_3)), lw_okq q
  exact List.forall_mem_append.mpr ⟨lw_r1, List.forall_mem_append.mpr ⟨lw_r2, lw_r3⟩⟩
end
section
-- the walker: a method's code as a list, its verification condition by computation (sx_go), and the row that turns it into W
-- a value: an int, or a reference: cell n itself (n, 0), or row j of the grid n: (n, j + 1)
abbrev sx_V : Type := Int32 ⊕ (Nat × Nat)
-- a cell: an int array (length, contents); a grid (rows, columns, contents); an object (number of its kind, fields)
abbrev sx_C : Type := (Nat × (Nat → Int32)) ⊕ ((Nat × Nat × (Nat → Nat → Int32)) ⊕ (Nat × List sx_V))
abbrev sx_M : Type := Nat → sx_C
-- addresses of cells, of rows; the kinds int[] and int[][]
abbrev sx_E : Type := (Nat → Nat) × (Nat → Nat → Nat) × ClassId × ClassId
def sx_v (E : sx_E) : sx_V → Value
  | .inl x => .int x
  | .inr (n, 0) => .ref (E.1 n)
  | .inr (n, j + 1) => .ref (E.2.1 n j)
def sx_c (E : sx_E) (n : Nat) : sx_C → va_W
  | .inl (k, f) => [(E.1 n, .inl (E.2.2.1, k, .inl f))]
  | .inr (.inl (N, k, M)) => (E.1 n, .inl (E.2.2.2, N, .inr (.inr (.inr (.inr (fun i => if i < N then some (E.2.1 n i) else none)))))) :: (List.range N).map (fun i => (E.2.1 n i, .inl (E.2.2.1, k, .inl (M i))))
  | .inr (.inr (ci, fs)) => [(E.1 n, .inr (ci, fs.map (sx_v E)))]
def sx_w (E : sx_E) (B : Nat) (w : sx_M) : va_W := (List.range B).flatMap (fun n => sx_c E n (w n))
theorem sx_w_succ (E : sx_E) (B : Nat) (w : sx_M) : sx_w E (B + 1) w = sx_w E B w ++ sx_c E B (w B) := by
  simp [sx_w, List.range_succ, List.flatMap_append]
theorem sx_w_congr (E : sx_E) {w w' : sx_M} : ∀ B : Nat, (∀ n, n < B → w n = w' n) → sx_w E B w = sx_w E B w'
  | 0, _ => rfl
  | B + 1, h => by
    rw [sx_w_succ, sx_w_succ, sx_w_congr E B (fun n hn => h n (Nat.lt_succ_of_lt hn)), h B (Nat.lt_succ_self B)]
theorem sx_off (E : sx_E) (w : sx_M) (n : Nat) : ∀ B : Nat, n < B → ∃ o : Nat, (∀ (j : Nat) (q : Nat × va_E), (sx_c E n (w n))[j]? = some q → (sx_w E B w)[o + j]? = some q) ∧ ∀ (j : Nat) (q : Nat × va_E) (c' : sx_C), j < (sx_c E n (w n)).length → (sx_c E n (w n)).set j q = sx_c E n c' → (sx_w E B w).set (o + j) q = sx_w E B (va_up w n c')
  | 0, h => absurd h (Nat.not_lt_zero n)
  | B + 1, h => by
    by_cases e : n = B
    · subst e
      refine ⟨(sx_w E n w).length, fun j q hq => ?_, fun j q c' hj hs => ?_⟩
      · rw [sx_w_succ, List.getElem?_append_right (Nat.le_add_right _ _), Nat.add_sub_cancel_left]; exact hq
      · rw [sx_w_succ, sx_w_succ, List.set_append_right _ _ (Nat.le_add_right _ _), Nat.add_sub_cancel_left, hs, va_up_self,
          sx_w_congr E (w := va_up w n c') (w' := w) n (fun k hk => va_up_ne w c' (Nat.ne_of_lt hk))]
    · obtain ⟨o, h1, h2⟩ := sx_off E w n B (by omega)
      have hlt : ∀ j, j < (sx_c E n (w n)).length → o + j < (sx_w E B w).length := fun j hj => by
        have := h1 j _ (List.getElem?_eq_getElem hj)
        exact (List.getElem?_eq_some_iff.mp this).1
      refine ⟨o, fun j q hq => ?_, fun j q c' hj hs => ?_⟩
      · rw [sx_w_succ, List.getElem?_append_left (hlt j (List.getElem?_eq_some_iff.mp hq).1)]; exact h1 j q hq
      · rw [sx_w_succ, sx_w_succ, List.set_append_left _ _ (hlt j hj), h2 j q c' hj hs, va_up_ne w c' (fun z => e z.symm)]
-- locals
def sx_l (E : sx_E) : Nat → List (Option sx_V) → List (Nat × Value)
  | _, [] => []
  | i, none :: L => sx_l E (i + 1) L
  | i, some v :: L => (i, sx_v E v) :: sx_l E (i + 1) L
theorem sx_l_mem (E : sx_E) : ∀ (L : List (Option sx_V)) (b : Nat) (q : Nat × Value), q ∈ sx_l E b L ↔ ∃ (k : Nat) (x : sx_V), L[k]? = some (some x) ∧ q = (b + k, sx_v E x)
  | [], b, q => by simp [sx_l]
  | none :: L, b, q => by
    rw [sx_l, sx_l_mem E L (b + 1) q]
    constructor
    · rintro ⟨k, x, h1, h2⟩
      exact ⟨k + 1, x, by simpa using h1, by rw [h2, Nat.add_assoc, Nat.add_comm 1 k]⟩
    · rintro ⟨k, x, h1, h2⟩
      cases k with
      | zero => simp at h1
      | succ k => exact ⟨k, x, by simpa using h1, by rw [h2, Nat.add_assoc, Nat.add_comm 1 k]⟩
  | some v :: L, b, q => by
    rw [sx_l, List.mem_cons, sx_l_mem E L (b + 1) q]
    constructor
    · rintro (h | ⟨k, x, h1, h2⟩)
      · exact ⟨0, v, by simp, by rw [h, Nat.add_zero]⟩
      · exact ⟨k + 1, x, by simpa using h1, by rw [h2, Nat.add_assoc, Nat.add_comm 1 k]⟩
    · rintro ⟨k, x, h1, h2⟩
      cases k with
      | zero =>
        left
        simp at h1
        rw [h2, ← h1, Nat.add_zero]
      | succ k => right; exact ⟨k, x, by simpa using h1, by rw [h2, Nat.add_assoc, Nat.add_comm 1 k]⟩
theorem sx_lv_mono {ls : Array Slot} {nL : Nat} {l l' : List (Nat × Value)} (h : lv_has ls nL l) (hs : ∀ q, q ∈ l' → q ∈ l) : lv_has ls nL l' := ⟨h.1, h.2.1, fun q hq => h.2.2 q (hs q hq)⟩
theorem sx_lv_at {E : sx_E} {ls : Array Slot} {nL : Nat} {L : List (Option sx_V)} (h : lv_has ls nL (sx_l E 0 L)) {k : Nat} {x : sx_V} (hk : L[k]? = some (some x)) : ls[k]? = some (.val (sx_v E x)) := by
  have := h.2.2 (0 + k, sx_v E x) ((sx_l_mem E L 0 _).mpr ⟨k, x, hk, rfl⟩)
  simpa using this
theorem sx_v_cat (E : sx_E) : ∀ v : sx_V, (sx_v E v).category = 1
  | .inl _ => rfl
  | .inr (_, 0) => rfl
  | .inr (_, _ + 1) => rfl
theorem sx_lv_put {E : sx_E} {ls : Array Slot} {nL : Nat} {L : List (Option sx_V)} {i : Nat} {x : sx_V} (hi : i < L.length) (h : lv_has ls nL ((i, sx_v E x) :: (sx_l E 0 L).filter (fun q => !(q.1 == i) && !(q.1 + 1 == i && q.2.category == 2)))) : lv_has ls nL (sx_l E 0 (L.set i (some x))) := by
  refine sx_lv_mono h fun q hq => ?_
  obtain ⟨k, y, h1, h2⟩ := (sx_l_mem E _ 0 q).mp hq
  rw [Nat.zero_add] at h2
  rw [List.getElem?_set] at h1
  by_cases e : i = k
  · subst e
    rw [if_pos rfl, if_pos hi] at h1
    obtain rfl := Option.some.inj (Option.some.inj h1)
    rw [h2]; exact List.mem_cons_self
  · rw [if_neg e] at h1
    refine List.mem_cons_of_mem _ (List.mem_filter.mpr ⟨(sx_l_mem E L 0 q).mpr ⟨k, y, h1, by rw [Nat.zero_add]; exact h2⟩, ?_⟩)
    subst h2
    have h3 := sx_v_cat E y
    simp [h3, Ne.symm e]
-- one instruction: its condition, and where it goes on
abbrev sx_K : Type := Nat → List (Option sx_V) → List sx_V → sx_M → Prop
abbrev sx_S : Type := Nat × (List sx_V → sx_M → Prop) × (List sx_V → sx_M → Option sx_V → sx_M → Prop)
def sx_ldi (L : List (Option sx_V)) (i : Nat) (k : Int32 → Prop) : Prop := match L[i]? with
  | some (some (.inl x)) => k x
  | _ => False
def sx_lda (L : List (Option sx_V)) (i : Nat) (k : Nat × Nat → Prop) : Prop := match L[i]? with
  | some (some (.inr x)) => k x
  | _ => False
def sx_t1 (st : List sx_V) (k : Int32 → List sx_V → Prop) : Prop := match st with
  | .inl x :: r => k x r
  | _ => False
def sx_t2 (st : List sx_V) (k : Int32 → Int32 → List sx_V → Prop) : Prop := match st with
  | .inl y :: .inl x :: r => k x y r
  | _ => False
def sx_ta (st : List sx_V) (k : Nat × Nat → List sx_V → Prop) : Prop := match st with
  | .inr a :: r => k a r
  | _ => False
def sx_if (c : ClassFile.Cond) (x y : Int32) (a b : Prop) : Prop := match c with
  | .eq => (x = y → a) ∧ (¬ x = y → b)
  | .ne => (¬ x = y → a) ∧ (x = y → b)
  | .lt => (x < y → a) ∧ (¬ x < y → b)
  | .ge => (y ≤ x → a) ∧ (¬ y ≤ x → b)
  | .gt => (y < x → a) ∧ (¬ y < x → b)
  | .le => (x ≤ y → a) ∧ (¬ x ≤ y → b)
-- fields, arrays
def sx_gf (B : Nat) (h : Nat × Nat) (w : sx_M) (a : Nat × Nat) (k : sx_V → Prop) : Prop := match a.2, w a.1 with
  | 0, .inr (.inr (ci, fs)) => a.1 < B ∧ ci = h.1 ∧ (match fs[h.2]? with
    | some v => k v
    | none => False)
  | _, _ => False
def sx_pf (B : Nat) (h : Nat × Nat) (w : sx_M) (a : Nat × Nat) (x : Int32) (k : sx_M → Prop) : Prop := match a.2, w a.1 with
  | 0, .inr (.inr (ci, fs)) => a.1 < B ∧ ci = h.1 ∧ h.2 < fs.length ∧ k (va_up w a.1 (.inr (.inr (ci, fs.set h.2 (.inl x)))))
  | _, _ => False
def sx_ga (B : Nat) (w : sx_M) (a : Nat × Nat) (i : Int32) (k : Int32 → Prop) : Prop := match a.2, w a.1 with
  | 0, .inl (n, f) => a.1 < B ∧ vp_in i n ∧ k (f i.toNatClampNeg)
  | j + 1, .inr (.inl (N, n, M)) => a.1 < B ∧ j < N ∧ vp_in i n ∧ k (M j i.toNatClampNeg)
  | _, _ => False
def sx_pa (B : Nat) (w : sx_M) (a : Nat × Nat) (i x : Int32) (k : sx_M → Prop) : Prop := match a.2, w a.1 with
  | 0, .inl (n, f) => a.1 < B ∧ vp_in i n ∧ k (va_up w a.1 (.inl (n, upd f i.toNatClampNeg x)))
  | j + 1, .inr (.inl (N, n, M)) => a.1 < B ∧ j < N ∧ vp_in i n ∧ k (va_up w a.1 (.inr (.inl (N, n, va_up M j (upd (M j) i.toNatClampNeg x)))))
  | _, _ => False
def sx_gr (B : Nat) (w : sx_M) (a : Nat × Nat) (i : Int32) (k : sx_V → Prop) : Prop := match a.2, w a.1 with
  | 0, .inr (.inl (N, _, _)) => a.1 < B ∧ vp_in i N ∧ k (.inr (a.1, i.toNatClampNeg + 1))
  | _, _ => False
def sx_al (B : Nat) (w : sx_M) (a : Nat × Nat) (k : Int32 → Prop) : Prop := match a.2, w a.1 with
  | 0, .inl (n, _) => a.1 < B ∧ k (nI n)
  | 0, .inr (.inl (N, _, _)) => a.1 < B ∧ k (nI N)
  | j + 1, .inr (.inl (N, n, _)) => a.1 < B ∧ j < N ∧ k (nI n)
  | _, _ => False
def sx_call (S : sx_S) (pc : Nat) (L : List (Option sx_V)) (st : List sx_V) (w : sx_M) (K : sx_K) : Prop :=
  S.1 ≤ st.length ∧ (st.drop S.1).length ≤ 8 ∧ S.2.1 (st.take S.1).reverse w ∧ ∀ (r : Option sx_V) (w' : sx_M), S.2.2 (st.take S.1).reverse w r w' → K (pc + 3) L (r.toList ++ st.drop S.1) w'
def sx_1 (B : Nat) (cs : Nat → sx_S) (Rt : Option sx_V → sx_M → Prop) (i : Instr) (h : Nat × Nat) (pc : Nat) (L : List (Option sx_V)) (st : List sx_V) (w : sx_M) (K : sx_K) : Prop := match i with
  | .iconst v => K (pc + 1) L (.inl (Int32.ofInt v) :: st) w
  | .bipush v => K (pc + 2) L (.inl (Int8.ofInt v).toInt32 :: st) w
  | .sipush v => K (pc + 3) L (.inl (Int16.ofInt v).toInt32 :: st) w
  | .ldc _ => K (pc + 2) L (.inl (nI h.1) :: st) w
  | .iload_n k => sx_ldi L k.val fun x => K (pc + 1) L (.inl x :: st) w
  | .iload k => sx_ldi L k fun x => K (pc + 2) L (.inl x :: st) w
  | .aload_n k => sx_lda L k.val fun a => K (pc + 1) L (.inr a :: st) w
  | .aload k => sx_lda L k fun a => K (pc + 2) L (.inr a :: st) w
  | .istore_n k => sx_t1 st fun x r => K (pc + 1) (L.set k.val (some (.inl x))) r w
  | .istore k => sx_t1 st fun x r => K (pc + 2) (L.set k (some (.inl x))) r w
  | .astore_n k => sx_ta st fun a r => K (pc + 1) (L.set k.val (some (.inr a))) r w
  | .astore k => sx_ta st fun a r => K (pc + 2) (L.set k (some (.inr a))) r w
  | .iinc k n => sx_ldi L k fun x => K (pc + 3) (L.set k (some (.inl (x + Int32.ofInt n)))) st w
  | .iadd => sx_t2 st fun x y r => K (pc + 1) L (.inl (x + y) :: r) w
  | .isub => sx_t2 st fun x y r => K (pc + 1) L (.inl (x - y) :: r) w
  | .imul => sx_t2 st fun x y r => K (pc + 1) L (.inl (x * y) :: r) w
  | .idiv => sx_t2 st fun x y r => ¬ y = 0 ∧ K (pc + 1) L (.inl (x / y) :: r) w
  | .irem => sx_t2 st fun x y r => ¬ y = 0 ∧ K (pc + 1) L (.inl (x - x / y * y) :: r) w
  | .iand => sx_t2 st fun x y r => K (pc + 1) L (.inl (x &&& y) :: r) w
  | .ior => sx_t2 st fun x y r => K (pc + 1) L (.inl (x ||| y) :: r) w
  | .ixor => sx_t2 st fun x y r => K (pc + 1) L (.inl (x ^^^ y) :: r) w
  | .ishl => sx_t2 st fun x y r => K (pc + 1) L (.inl (x <<< (y &&& 31)) :: r) w
  | .ishr => sx_t2 st fun x y r => K (pc + 1) L (.inl (x >>> (y &&& 31)) :: r) w
  | .iushr => sx_t2 st fun x y r => K (pc + 1) L (.inl (x.toUInt32 >>> (y.toUInt32 &&& Int32.toUInt32 31)).toInt32 :: r) w
  | .ineg => sx_t1 st fun x r => K (pc + 1) L (.inl (-x) :: r) w
  | .dup => match st with
    | a :: r => K (pc + 1) L (a :: a :: r) w
    | _ => False
  | .dup_x1 => match st with
    | a :: b :: r => K (pc + 1) L (a :: b :: a :: r) w
    | _ => False
  | .dup_x2 => match st with
    | a :: b :: d :: r => K (pc + 1) L (a :: b :: d :: a :: r) w
    | _ => False
  | .dup2 => match st with
    | a :: b :: r => K (pc + 1) L (a :: b :: a :: b :: r) w
    | _ => False
  | .pop => match st with
    | _ :: r => K (pc + 1) L r w
    | _ => False
  | .ifCond c _ => sx_t1 st fun x r => sx_if c x 0 (K h.1 L r w) (K (pc + 3) L r w)
  | .if_icmp c _ => sx_t2 st fun x y r => sx_if c x y (K h.1 L r w) (K (pc + 3) L r w)
  | .goto _ => K h.1 L st w
  | .getfield _ => sx_ta st fun a r => sx_gf B h w a fun v => K (pc + 3) L (v :: r) w
  | .putfield _ => sx_t1 st fun x r => sx_ta r fun a r => sx_pf B h w a x fun w' => K (pc + 3) L r w'
  | .iaload => sx_t1 st fun i r => sx_ta r fun a r => sx_ga B w a i fun v => K (pc + 1) L (.inl v :: r) w
  | .iastore => sx_t2 st fun i x r => sx_ta r fun a r => sx_pa B w a i x fun w' => K (pc + 1) L r w'
  | .aaload => sx_t1 st fun i r => sx_ta r fun a r => sx_gr B w a i fun v => K (pc + 1) L (v :: r) w
  | .arraylength => sx_ta st fun a r => sx_al B w a fun v => K (pc + 1) L (.inl v :: r) w
  | .invokestatic _ => sx_call (cs h.1) pc L st w K
  | .invokevirtual _ => sx_call (cs h.1) pc L st w K
  | .invokespecial _ => sx_call (cs h.1) pc L st w K
  | .ireturn => match st with
    | [.inl x] => Rt (some (.inl x)) w
    | _ => False
  | .return_ => match st with
    | [] => Rt none w
    | _ => False
  | _ => False
-- the run: up to a cut, or n instructions
abbrev sx_F : Type := Nat → Option (Instr × Nat × Nat)
def sx_go (B : Nat) (cs : Nat → sx_S) (Rt : Option sx_V → sx_M → Prop) (F : sx_F) (cut : Nat → Bool) (Z : sx_K) : Nat → sx_K
  | 0, pc, L, st, w => Z pc L st w
  | n + 1, pc, L, st, w => match F pc with
    | some i => sx_1 B cs Rt i.1 i.2 pc L st w (fun pc' L' st' w' => if cut pc' = true then Z pc' L' st' w' else sx_go B cs Rt F cut Z n pc' L' st' w')
    | none => False
-- Z is closed under the method's instructions
def sx_Cl (B : Nat) (cs : Nat → sx_S) (Rt : Option sx_V → sx_M → Prop) (F : sx_F) (Z : sx_K) : Prop :=
  ∀ K : sx_K, (∀ pc L st w, K pc L st w → Z pc L st w) → ∀ pc i L st w, F pc = some i → sx_1 B cs Rt i.1 i.2 pc L st w K → Z pc L st w
theorem sx_run {B : Nat} {cs : Nat → sx_S} {Rt : Option sx_V → sx_M → Prop} {F : sx_F} {Z : sx_K} (hZ : sx_Cl B cs Rt F Z) (cut : Nat → Bool) : ∀ (n pc : Nat) (L : List (Option sx_V)) (st : List sx_V) (w : sx_M), sx_go B cs Rt F cut Z n pc L st w → Z pc L st w
  | 0, _, _, _, _, h => h
  | n + 1, pc, L, st, w, h => by
    unfold sx_go at h
    cases hF : F pc with
    | none => rw [hF] at h; exact False.elim h
    | some i =>
      rw [hF] at h
      refine hZ _ (fun pc' L' st' w' h' => ?_) pc i L st w hF h
      by_cases hc : cut pc' = true
      · rw [if_pos hc] at h'; exact h'
      · rw [if_neg hc] at h'; exact sx_run hZ cut n pc' L' st' w' h'
def sx_len : Instr → Nat
  | .bipush _ => 2
  | .sipush _ => 3
  | .ldc _ => 2
  | .iload _ => 2
  | .aload _ => 2
  | .istore _ => 2
  | .astore _ => 2
  | .iinc _ _ => 3
  | .ifCond _ _ => 3
  | .if_icmp _ _ => 3
  | .goto _ => 3
  | .getfield _ => 3
  | .putfield _ => 3
  | .invokestatic _ => 3
  | .invokevirtual _ => 3
  | .invokespecial _ => 3
  | _ => 1
def sx_lk (own host : String) (Ts : List Cond) (ix : Nat) (r : vw_C) (k : Nat) : Bool :=
  decide (k < r.2.2) && decide ((r.2.1 k).1 = r.1) && (u_ws r.1 r.2.1 r.2.2).all (fun w => decide (w ∈ Ts)) &&
  (if own = r.1 then decide (Cond.fieldLink own ix r.1 (r.2.1 k).2.1 (r.2.1 k).2.2.1 ∈ Ts) else decide (Cond.fieldLinkNest own ix r.1 (r.2.1 k).2.1 (r.2.1 k).2.2.1 host ∈ Ts))
def sx_ok (own host : String) (cl : List vw_C) (Ts : List Cond) (nL pc : Nat) (i : Instr) (h : Nat × Nat) : Bool := match i with
  | .ldc ix => decide (Cond.constant own ix (nI h.1) ∈ Ts)
  | .istore_n k => decide (k.val < nL)
  | .istore k => decide (k < nL)
  | .astore_n k => decide (k.val < nL)
  | .astore k => decide (k < nL)
  | .iinc k _ => decide (k < nL)
  | .ifCond _ off => decide ((pc : Int) + off = (h.1 : Int))
  | .if_icmp _ off => decide ((pc : Int) + off = (h.1 : Int))
  | .goto off => decide ((pc : Int) + off = (h.1 : Int))
  | .getfield ix => match cl[h.1]? with
    | some r => sx_lk own host Ts ix r h.2
    | none => false
  | .putfield ix => match cl[h.1]? with
    | some r => sx_lk own host Ts ix r h.2 && decide ((r.2.1 h.2).2.2.2 = false) && decide ((r.2.1 h.2).2.2.1 = "I")
    | none => false
  | _ => true
def sx_isC : Instr → Bool
  | .invokestatic _ => true
  | .invokevirtual _ => true
  | .invokespecial _ => true
  | _ => false
abbrev sx_ty (E : sx_E) : List (ClassId × FieldType) := [(E.2.2.1, .int), (E.2.2.2, .array .int)]
def sx_Pc (E : sx_E) (B : Nat) (D : va_G) (cl : List vw_C) (A : Nat → Prop) (As : List sx_V) (w : sx_M) : Array Value → State → Prop :=
  va_Pc (As.map (sx_v E)) (fun U => va_P D cl (sx_w E B w) U.heap ∧ va_K D cl (sx_ty E) U ∧ va_D A (sx_w E B w))
def sx_Qc (E : sx_E) (B : Nat) (D : va_G) (cl : List vw_C) (A : Nat → Prop) (Rt : Option sx_V → sx_M → Prop) : Array Value → State → Outcome → State → Prop :=
  fun _ st oc t => (∃ (r : Option sx_V) (w' : sx_M), oc = .returned (r.map (sx_v E)) ∧ Rt r w' ∧ va_P D cl (sx_w E B w') t.heap ∧ va_K D cl (sx_ty E) t ∧ va_D A (sx_w E B w')) ∧ va_F A st t
def sx_Z (p : Program) (l : Launch) (e : Env) (R : Room) (s : State) (m : MethodId) (args : Array Value) (below : List Frame) (meth : Method) (c : Code) (Q : State → Prop) (D : va_G) (cl : List vw_C) (A : Nat → Prop) (H0 : Heap) (E : sx_E) (B nL : Nat) : sx_K :=
  fun pc L st w => ∀ (H : Heap) (locs : List Loc) (ls : Array Slot), L.length = nL → lv_has ls nL (sx_l E 0 L) → va_P D cl (sx_w E B w) H → va_D A (sx_w E B w) → va_S A H0 H locs → W p l e R s m args below meth c H locs 0 0 Q (F0 m pc ls (st.map (sx_v E)))
-- a call site's closure
def sx_Cal (l : Launch) (own : String) (Ts : List Cond) (R : Room) (D : va_G) (cl : List vw_C) (A : Nat → Prop) (E : sx_E) (B nL : Nat) (cc : ByteArray) (i : Instr) (S : sx_S) : Prop :=
  ∀ (p : Program) (e : Env) (s : State) (m : MethodId) (args : Array Value) (below : List Frame) (meth : Method) (c : Code) (Q : State → Prop) (H0 : Heap),
    CallFix p m c cc nL s args Ts own → va_K D cl (sx_ty E) s →
    ∀ K : sx_K, (∀ pc L st w, K pc L st w → sx_Z p l e R s m args below meth c Q D cl A H0 E B nL pc L st w) →
    ∀ (pc : Nat) (L : List (Option sx_V)) (st : List sx_V) (w : sx_M), decode cc pc = .ok (i, 3) → sx_call S pc L st w K → sx_Z p l e R s m args below meth c Q D cl A H0 E B nL pc L st w
theorem sx_v_ref (E : sx_E) : ∀ a : Nat × Nat, ∃ x : Nat, sx_v E (.inr a) = .ref x
  | (n, 0) => ⟨E.1 n, rfl⟩
  | (n, j + 1) => ⟨E.2.1 n j, rfl⟩
theorem sx_rset {α : Type} (f : Nat → α) (N j : Nat) (x : α) : ((List.range N).map f).set j x = (List.range N).map (va_up f j x) := by
  apply List.ext_getElem?
  intro k
  rw [List.getElem?_set, List.getElem?_map, List.getElem?_map]
  by_cases hk : k < N
  · rw [List.getElem?_range hk]
    by_cases e : j = k
    · subst e
      simp [va_up, hk]
    · simp [va_up, e, Ne.symm e]
  · have : (List.range N)[k]? = none := by simp; omega
    rw [this]
    by_cases e : j = k
    · subst e; simp [hk]
    · simp [e]
section SX
variable {p : Program} {l : Launch} {e : Env} {R : Room} {s : State} {m : MethodId} {args : Array Value} {below : List Frame} {meth : Method} {c : Code} {Q : State → Prop} {H : Heap} {locs : List Loc} {ls : Array Slot}
variable {cc : ByteArray} {D : va_G} {cl : List vw_C} {A : Nat → Prop} {H0 : Heap} {E : sx_E} {B nL pc : Nat} {Ts : List Cond} {own host : String} {rest : List Value} {w : sx_M}
theorem sx_w_ga (hx : p.tables.exec = Jvm.exec) (hb : c.code = cc) (hK : va_K D cl (sx_ty E) s) (hP : va_P D cl (sx_w E B w) H) {a : Nat × Nat} {i : Int32} {k : Int32 → Prop} (hdg : decode cc pc = .ok (.iaload, 1)) (hg : sx_ga B w a i k)
    (kk : ∀ v : Int32, k v → W p l e R s m args below meth c H locs 0 0 Q (F0 m (pc + 1) ls (.int v :: rest))) : W p l e R s m args below meth c H locs 0 0 Q (F0 m pc ls (.int i :: sx_v E (.inr a) :: rest)) := by
  obtain ⟨n, j⟩ := a
  cases j with
  | zero =>
    cases hw : w n with
    | inl q =>
      obtain ⟨N, f⟩ := q
      simp only [sx_ga, hw] at hg
      obtain ⟨hn, hi, hg⟩ := hg
      obtain ⟨o, h1, -⟩ := sx_off E w n B hn
      have h1 := h1 0 (E.1 n, .inl (E.2.2.1, N, .inl f)) (by rw [hw]; rfl)
      exact va_iald hx hb hK hP (o + 0) 0 h1 rfl hi hdg (kk _ hg)
    | inr q => simp only [sx_ga, hw] at hg
  | succ j =>
    cases hw : w n with
    | inl q => simp only [sx_ga, hw] at hg
    | inr q =>
      cases q with
      | inr q => simp only [sx_ga, hw] at hg
      | inl q =>
        obtain ⟨N, k', M⟩ := q
        simp only [sx_ga, hw] at hg
        obtain ⟨hn, hj, hi, hg⟩ := hg
        obtain ⟨o, h1, -⟩ := sx_off E w n B hn
        have h1 := h1 (j + 1) (E.2.1 n j, .inl (E.2.2.1, k', .inl (M j))) (by rw [hw]; simp [sx_c, List.getElem?_range hj])
        exact va_iald hx hb hK hP (o + (j + 1)) 0 h1 rfl hi hdg (kk _ hg)
theorem sx_w_pa (hx : p.tables.exec = Jvm.exec) (hb : c.code = cc) (hK : va_K D cl (sx_ty E) s) (hP : va_P D cl (sx_w E B w) H) (hD : va_D A (sx_w E B w)) (hS : va_S A H0 H locs) {a : Nat × Nat} {i x : Int32} {k : sx_M → Prop} (hdg : decode cc pc = .ok (.iastore, 1)) (hg : sx_pa B w a i x k)
    (kk : ∀ (w' : sx_M) (H1 : Heap) (locs1 : List Loc), k w' → va_P D cl (sx_w E B w') H1 → va_D A (sx_w E B w') → va_S A H0 H1 locs1 → W p l e R s m args below meth c H1 locs1 0 0 Q (F0 m (pc + 1) ls rest)) : W p l e R s m args below meth c H locs 0 0 Q (F0 m pc ls (.int x :: .int i :: sx_v E (.inr a) :: rest)) := by
  obtain ⟨n, j⟩ := a
  cases j with
  | zero =>
    cases hw : w n with
    | inl q =>
      obtain ⟨N, f⟩ := q
      simp only [sx_pa, hw] at hg
      obtain ⟨hn, hi, hg⟩ := hg
      obtain ⟨o, h1, h2⟩ := sx_off E w n B hn
      have h1 := h1 0 (E.1 n, .inl (E.2.2.1, N, .inl f)) (by rw [hw]; rfl)
      have h2 := h2 0 (E.1 n, .inl (E.2.2.1, N, .inl (upd f i.toNatClampNeg x))) (.inl (N, upd f i.toNatClampNeg x)) (by rw [hw]; simp [sx_c]) (by rw [hw]; rfl)
      refine va_iast hx hb hK hP hD hS (o + 0) 0 h1 rfl hi hdg (fun H1 locs1 hP1 hD1 hS1 => ?_)
      rw [h2] at hP1 hD1
      exact kk _ H1 locs1 hg hP1 hD1 hS1
    | inr q => simp only [sx_pa, hw] at hg
  | succ j =>
    cases hw : w n with
    | inl q => simp only [sx_pa, hw] at hg
    | inr q =>
      cases q with
      | inr q => simp only [sx_pa, hw] at hg
      | inl q =>
        obtain ⟨N, k', M⟩ := q
        simp only [sx_pa, hw] at hg
        obtain ⟨hn, hj, hi, hg⟩ := hg
        obtain ⟨o, h1, h2⟩ := sx_off E w n B hn
        have h1 := h1 (j + 1) (E.2.1 n j, .inl (E.2.2.1, k', .inl (M j))) (by rw [hw]; simp [sx_c, List.getElem?_range hj])
        have h2 := h2 (j + 1) (E.2.1 n j, .inl (E.2.2.1, k', .inl (upd (M j) i.toNatClampNeg x))) (.inr (.inl (N, k', va_up M j (upd (M j) i.toNatClampNeg x)))) (by rw [hw]; simp [sx_c]; omega) (by
          rw [hw]
          simp only [sx_c, List.set_cons_succ]
          rw [sx_rset]
          refine congrArg _ (List.map_congr_left fun b _ => ?_)
          by_cases hb9 : b = j
          · subst hb9; simp [va_up]
          · simp [va_up, hb9])
        refine va_iast hx hb hK hP hD hS (o + (j + 1)) 0 h1 rfl hi hdg (fun H1 locs1 hP1 hD1 hS1 => ?_)
        rw [h2] at hP1 hD1
        exact kk _ H1 locs1 hg hP1 hD1 hS1
theorem sx_ald {ws : va_W} {tys : List (ClassId × FieldType)} {a : Nat} (hexec : p.tables.exec = Jvm.exec) (hb : c.code = cc) (hK : va_K D cl tys s) (hP : va_P D cl ws H) (q0 t0 : Nat) {cA : ClassId} {t : FieldType} {n : Nat} {f : Nat → Option Nat} (ha : ws[q0]? = some (a, .inl (cA, n, .inr (.inr (.inr (.inr f)))))) (ht : tys[t0]? = some (cA, .array t)) {i : Int32} (hin : vp_in i n) (hdg : decode cc pc = .ok (.aaload, 1))
    (kk : W p l e R s m args below meth c H locs 0 0 Q (F0 m (pc + 1) ls (va_rf (f i.toNatClampNeg) :: rest))) : W p l e R s m args below meth c H locs 0 0 Q (F0 m pc ls (.int i :: .ref a :: rest)) := by
  have hlt : i.toNatClampNeg < n := Nat.not_le.mp fun q => hin (Or.inr q)
  exact W.aald (v := va_rf (f i.toNatClampNeg)) (ty := .array t) hexec hb (hP q0 _ ha) ((hK.2 t0 _ ht).1 n (fun j => va_rf (f j))) rfl (fun q => by cases q) (by show ¬ (i < 0 ∨ (arrV _ _ _).slots.size ≤ _); rw [arrV_size]; exact hin) (by show (arrV _ _ _).slots[_]? = _; rw [arrV_read _ _ hlt]) rfl rfl hdg kk
theorem sx_w_gr (hx : p.tables.exec = Jvm.exec) (hb : c.code = cc) (hK : va_K D cl (sx_ty E) s) (hP : va_P D cl (sx_w E B w) H) {a : Nat × Nat} {i : Int32} {k : sx_V → Prop} (hdg : decode cc pc = .ok (.aaload, 1)) (hg : sx_gr B w a i k)
    (kk : ∀ v : sx_V, k v → W p l e R s m args below meth c H locs 0 0 Q (F0 m (pc + 1) ls (sx_v E v :: rest))) : W p l e R s m args below meth c H locs 0 0 Q (F0 m pc ls (.int i :: sx_v E (.inr a) :: rest)) := by
  obtain ⟨n, j⟩ := a
  cases j with
  | succ j => cases hw : w n <;> simp only [sx_gr, hw] at hg
  | zero =>
    cases hw : w n with
    | inl q => simp only [sx_gr, hw] at hg
    | inr q =>
      cases q with
      | inr q => simp only [sx_gr, hw] at hg
      | inl q =>
        obtain ⟨N, k', M⟩ := q
        simp only [sx_gr, hw] at hg
        obtain ⟨hn, hi, hg⟩ := hg
        obtain ⟨o, h1, -⟩ := sx_off E w n B hn
        have h1 := h1 0 (E.1 n, .inl (E.2.2.2, N, .inr (.inr (.inr (.inr (fun i => if i < N then some (E.2.1 n i) else none)))))) (by rw [hw]; rfl)
        have h3 := kk _ hg
        have hlt : i.toNatClampNeg < N := Nat.not_le.mp fun q => hi (Or.inr q)
        exact sx_ald hx hb hK hP (o + 0) 1 h1 rfl hi hdg (by simp only [hlt, if_true, va_rf]; exact h3)
theorem sx_w_al (hx : p.tables.exec = Jvm.exec) (hb : c.code = cc) (hK : va_K D cl (sx_ty E) s) (hP : va_P D cl (sx_w E B w) H) {a : Nat × Nat} {k : Int32 → Prop} (hdg : decode cc pc = .ok (.arraylength, 1)) (hg : sx_al B w a k)
    (kk : ∀ v : Int32, k v → W p l e R s m args below meth c H locs 0 0 Q (F0 m (pc + 1) ls (.int v :: rest))) : W p l e R s m args below meth c H locs 0 0 Q (F0 m pc ls (sx_v E (.inr a) :: rest)) := by
  obtain ⟨n, j⟩ := a
  cases j with
  | zero =>
    cases hw : w n with
    | inl q =>
      obtain ⟨N, f⟩ := q
      simp only [sx_al, hw] at hg
      obtain ⟨hn, hg⟩ := hg
      obtain ⟨o, h1, -⟩ := sx_off E w n B hn
      have h1 := h1 0 (E.1 n, .inl (E.2.2.1, N, .inl f)) (by rw [hw]; rfl)
      exact va_alen hx hb hK hP (o + 0) 0 h1 rfl rfl hdg (kk _ hg)
    | inr q =>
      cases q with
      | inr q => simp only [sx_al, hw] at hg
      | inl q =>
        obtain ⟨N, k', M⟩ := q
        simp only [sx_al, hw] at hg
        obtain ⟨hn, hg⟩ := hg
        obtain ⟨o, h1, -⟩ := sx_off E w n B hn
        have h1 := h1 0 (E.1 n, .inl (E.2.2.2, N, .inr (.inr (.inr (.inr (fun i => if i < N then some (E.2.1 n i) else none)))))) (by rw [hw]; rfl)
        exact va_alen hx hb hK hP (o + 0) 1 h1 rfl rfl hdg (kk _ hg)
  | succ j =>
    cases hw : w n with
    | inl q => simp only [sx_al, hw] at hg
    | inr q =>
      cases q with
      | inr q => simp only [sx_al, hw] at hg
      | inl q =>
        obtain ⟨N, k', M⟩ := q
        simp only [sx_al, hw] at hg
        obtain ⟨hn, hj, hg⟩ := hg
        obtain ⟨o, h1, -⟩ := sx_off E w n B hn
        have h1 := h1 (j + 1) (E.2.1 n j, .inl (E.2.2.1, k', .inl (M j))) (by rw [hw]; simp [sx_c, List.getElem?_range hj])
        exact va_alen hx hb hK hP (o + (j + 1)) 0 h1 rfl rfl hdg (kk _ hg)
theorem sx_lk_of {ix : Nat} {r : vw_C} {k : Nat} (h : sx_lk own host Ts ix r k = true) : k < r.2.2 ∧ (r.2.1 k).1 = r.1 ∧ (∀ w ∈ u_ws r.1 r.2.1 r.2.2, w ∈ Ts) ∧ ((own = r.1 ∧ Cond.fieldLink own ix r.1 (r.2.1 k).2.1 (r.2.1 k).2.2.1 ∈ Ts) ∨ Cond.fieldLinkNest own ix r.1 (r.2.1 k).2.1 (r.2.1 k).2.2.1 host ∈ Ts) := by
  unfold sx_lk at h
  rw [Bool.and_eq_true, Bool.and_eq_true, Bool.and_eq_true] at h
  obtain ⟨⟨⟨h1, h2⟩, h3⟩, h4⟩ := h
  refine ⟨of_decide_eq_true h1, of_decide_eq_true h2, fun w hw => of_decide_eq_true (List.all_eq_true.mp h3 w hw), ?_⟩
  by_cases e : own = r.1
  · rw [if_pos e] at h4; exact Or.inl ⟨e, of_decide_eq_true h4⟩
  · rw [if_neg e] at h4; exact Or.inr (of_decide_eq_true h4)
theorem sx_w_gf (hx : p.tables.exec = Jvm.exec) (hb : c.code = cc) (hts : ∀ w ∈ Ts, w.before args s = true) (hown : s.vm.findClass own = some m.cls) (hK : va_K D cl (sx_ty E) s) (hP : va_P D cl (sx_w E B w) H) {a : Nat × Nat} {h : Nat × Nat} {ix : Nat} {k : sx_V → Prop} {r : vw_C} (hr : cl[h.1]? = some r) (hlk : sx_lk own host Ts ix r h.2 = true) (hdg : decode cc pc = .ok (.getfield ix, 3)) (hg : sx_gf B h w a k)
    (kk : ∀ v : sx_V, k v → W p l e R s m args below meth c H locs 0 0 Q (F0 m (pc + 3) ls (sx_v E v :: rest))) : W p l e R s m args below meth c H locs 0 0 Q (F0 m pc ls (sx_v E (.inr a) :: rest)) := by
  obtain ⟨n, j⟩ := a
  cases j with
  | succ j => cases hw : w n <;> simp only [sx_gf, hw] at hg
  | zero =>
    cases hw : w n with
    | inl q => simp only [sx_gf, hw] at hg
    | inr q =>
      cases q with
      | inl q => simp only [sx_gf, hw] at hg
      | inr q =>
        obtain ⟨ci, fs⟩ := q
        simp only [sx_gf, hw] at hg
        obtain ⟨hn, rfl, hg⟩ := hg
        cases hf : fs[h.2]? with
        | none => rw [hf] at hg; exact False.elim hg
        | some v =>
          rw [hf] at hg
          obtain ⟨o, h1, -⟩ := sx_off E w n B hn
          have h1 := h1 0 (E.1 n, .inr (h.1, fs.map (sx_v E))) (by rw [hw]; rfl)
          obtain ⟨e1, e2, e3, e4⟩ := sx_lk_of hlk
          have hv : (fs.map (sx_v E))[h.2]? = some (sx_v E v) := by rw [List.getElem?_map, hf]; rfl
          obtain ⟨C, T, N⟩ := r
          rcases e4 with ⟨-, e4⟩ | e4
          · exact va_get hx hb hts e3 hown hK hP (o + 0) h1 hr h.2 e1 (hts _ e4) (fun x9 h9 => by rw [e2] at h9; exact h9) hv hdg (kk v hg)
          · exact va_getN hx hb hts e3 hown hK hP (o + 0) h1 hr h.2 e1 (hts _ e4) (fun x9 h9 => by rw [e2] at h9; exact h9) hv hdg (kk v hg)
def sx_Tb (cl : List vw_C) : Prop := ∀ (ci : Nat) (r : vw_C), cl[ci]? = some r → (∃ ty0 : Nat → FieldType, ∀ k, k < r.2.2 → parseFieldDescriptor (r.2.1 k).2.2.1 = some (ty0 k)) ∧ (∀ a, a < r.2.2 → ∀ b, b < r.2.2 → a ≠ b → (r.2.1 a).2.1 ≠ (r.2.1 b).2.1)
theorem sx_dI : parseFieldDescriptor "I" = some .int := by decide +kernel
theorem sx_w_pf (hx : p.tables.exec = Jvm.exec) (hb : c.code = cc) (hts : ∀ w ∈ Ts, w.before args s = true) (hown : s.vm.findClass own = some m.cls) (hK : va_K D cl (sx_ty E) s) (hcl : sx_Tb cl) (hP : va_P D cl (sx_w E B w) H) (hD : va_D A (sx_w E B w)) (hS : va_S A H0 H locs) {a : Nat × Nat} {h : Nat × Nat} {ix : Nat} {x : Int32} {k : sx_M → Prop} {r : vw_C} (hr : cl[h.1]? = some r) (hlk : sx_lk own host Ts ix r h.2 = true) (hfin : (r.2.1 h.2).2.2.2 = false) (hI : (r.2.1 h.2).2.2.1 = "I") (hdg : decode cc pc = .ok (.putfield ix, 3)) (hg : sx_pf B h w a x k)
    (kk : ∀ (w' : sx_M) (H1 : Heap) (locs1 : List Loc), k w' → va_P D cl (sx_w E B w') H1 → va_D A (sx_w E B w') → va_S A H0 H1 locs1 → W p l e R s m args below meth c H1 locs1 0 0 Q (F0 m (pc + 3) ls rest)) : W p l e R s m args below meth c H locs 0 0 Q (F0 m pc ls (.int x :: sx_v E (.inr a) :: rest)) := by
  obtain ⟨n, j⟩ := a
  cases j with
  | succ j => cases hw : w n <;> simp only [sx_pf, hw] at hg
  | zero =>
    cases hw : w n with
    | inl q => simp only [sx_pf, hw] at hg
    | inr q =>
      cases q with
      | inl q => simp only [sx_pf, hw] at hg
      | inr q =>
        obtain ⟨ci, fs⟩ := q
        simp only [sx_pf, hw] at hg
        obtain ⟨hn, rfl, hlen, hg⟩ := hg
        obtain ⟨o, h1, h2⟩ := sx_off E w n B hn
        have h1 := h1 0 (E.1 n, .inr (h.1, fs.map (sx_v E))) (by rw [hw]; rfl)
        have h2 := h2 0 (E.1 n, .inr (h.1, (fs.map (sx_v E)).set h.2 (.int x))) (.inr (.inr (h.1, fs.set h.2 (.inl x)))) (by rw [hw]; simp [sx_c]) (by rw [hw]; simp [sx_c, List.map_set, sx_v])
        obtain ⟨e1, e2, e3, e4⟩ := sx_lk_of hlk
        obtain ⟨⟨ty0, hty⟩, hnm⟩ := hcl h.1 r hr
        obtain ⟨C, T, N⟩ := r
        have hd9 : parseFieldDescriptor (T h.2).2.2.1 = some .int := by
          have h9 : (T h.2).2.2.1 = "I" := hI
          rw [h9]; exact sx_dI
        rcases e4 with ⟨-, e4⟩ | e4
        · refine va_put hx hb hts e3 ty0 hty hnm hown hK hP hD hS (o + 0) h1 hr h.2 e1 (hts _ e4) (fun x9 h9 => by rw [e2] at h9; exact h9) hfin hd9 rfl rfl (by rw [List.length_map]; exact hlen) hdg (fun H1 locs1 hP1 hD1 hS1 => ?_)
          rw [h2] at hP1 hD1
          exact kk _ H1 locs1 hg hP1 hD1 hS1
        · refine va_putN hx hb hts e3 ty0 hty hnm hown hK hP hD hS (o + 0) h1 hr h.2 e1 (hts _ e4) (fun x9 h9 => by rw [e2] at h9; exact h9) hfin hd9 rfl rfl (by rw [List.length_map]; exact hlen) hdg (fun H1 locs1 hP1 hD1 hS1 => ?_)
          rw [h2] at hP1 hD1
          exact kk _ H1 locs1 hg hP1 hD1 hS1
end SX
end
section
-- the row of an instruction: its condition gives W
section SX2
variable {p : Program} {l : Launch} {e : Env} {R : Room} {s : State} {m : MethodId} {args : Array Value} {below : List Frame} {meth : Method} {c : Code} {Q : State → Prop}
variable {cc : ByteArray} {D : va_G} {cl : List vw_C} {A : Nat → Prop} {H0 : Heap} {E : sx_E} {B nL : Nat} {Ts : List Cond} {own host : String} {cs : Nat → sx_S} {Rt : Option sx_V → sx_M → Prop}
-- what a return owes
def sx_Ret (p : Program) (l : Launch) (e : Env) (R : Room) (s : State) (m : MethodId) (args : Array Value) (below : List Frame) (meth : Method) (c : Code) (Q : State → Prop) (D : va_G) (cl : List vw_C) (A : Nat → Prop) (H0 : Heap) (E : sx_E) (B : Nat) (cc : ByteArray) (Rt : Option sx_V → sx_M → Prop) : Prop :=
  (∀ (pc : Nat) (x : Int32) (w : sx_M) (H : Heap) (locs : List Loc) (ls : Array Slot), decode cc pc = .ok (.ireturn, 1) → Rt (some (.inl x)) w → va_P D cl (sx_w E B w) H → va_D A (sx_w E B w) → va_S A H0 H locs → W p l e R s m args below meth c H locs 0 0 Q (F0 m pc ls [.int x])) ∧
  (∀ (pc : Nat) (w : sx_M) (H : Heap) (locs : List Loc) (ls : Array Slot), decode cc pc = .ok (.return_, 1) → Rt none w → va_P D cl (sx_w E B w) H → va_D A (sx_w E B w) → va_S A H0 H locs → W p l e R s m args below meth c H locs 0 0 Q (F0 m pc ls []))
set_option maxHeartbeats 4000000 in
set_option maxRecDepth 100000 in
theorem sx_sound (hx : p.tables.exec = Jvm.exec) (hb : c.code = cc) (hts : ∀ w ∈ Ts, w.before args s = true) (hown : s.vm.findClass own = some m.cls) (hK : va_K D cl (sx_ty E) s) (hcl : sx_Tb cl)
    (hRt : sx_Ret p l e R s m args below meth c Q D cl A H0 E B cc Rt) {K : sx_K} (hk : ∀ pc L st w, K pc L st w → sx_Z p l e R s m args below meth c Q D cl A H0 E B nL pc L st w)
    {i : Instr} {h : Nat × Nat} {pc : Nat} {L : List (Option sx_V)} {st : List sx_V} {w : sx_M} (hd : decode cc pc = .ok (i, sx_len i)) (hok : sx_ok own host cl Ts nL pc i h = true)
    (hcall : sx_isC i = true → sx_call (cs h.1) pc L st w K → sx_Z p l e R s m args below meth c Q D cl A H0 E B nL pc L st w)
    (hv : sx_1 B cs Rt i h pc L st w K) : sx_Z p l e R s m args below meth c Q D cl A H0 E B nL pc L st w := by
  cases i with
  | iconst v => exact fun H locs ls hL hl hP hD hS => lv_iconst hx hb hd rfl (hk _ _ _ _ hv H locs ls hL hl hP hD hS)
  | bipush v => exact fun H locs ls hL hl hP hD hS => lv_bipush hx hb hd rfl (hk _ _ _ _ hv H locs ls hL hl hP hD hS)
  | sipush v => exact fun H locs ls hL hl hP hD hS => lv_sipush hx hb hd rfl (hk _ _ _ _ hv H locs ls hL hl hP hD hS)
  | ldc ix => exact fun H locs ls hL hl hP hD hS => lv_ldc hx hb hown (hts _ (of_decide_eq_true hok)) hd (hk _ _ _ _ hv H locs ls hL hl hP hD hS)
  | iload_n k =>
    simp only [sx_1, sx_ldi] at hv
    split at hv
    · next heq => exact fun H locs ls hL hl hP hD hS => lv_iload_n hx hb hd rfl (sx_lv_at hl heq) (hk _ _ _ _ hv H locs ls hL hl hP hD hS)
    · exact False.elim hv
  | iload k =>
    simp only [sx_1, sx_ldi] at hv
    split at hv
    · next heq => exact fun H locs ls hL hl hP hD hS => lv_iload hx hb hd (sx_lv_at hl heq) (hk _ _ _ _ hv H locs ls hL hl hP hD hS)
    · exact False.elim hv
  | aload_n k =>
    simp only [sx_1, sx_lda] at hv
    split at hv
    · next a heq =>
      obtain ⟨x, hx9⟩ := sx_v_ref E a
      refine fun H locs ls hL hl hP hD hS => lv_aload_n hx hb hd rfl (by rw [← hx9]; exact sx_lv_at hl heq) ?_
      have h9 := hk _ _ _ _ hv H locs ls hL hl hP hD hS
      rw [List.map_cons, hx9] at h9
      exact h9
    · exact False.elim hv
  | aload k =>
    simp only [sx_1, sx_lda] at hv
    split at hv
    · next a heq =>
      obtain ⟨x, hx9⟩ := sx_v_ref E a
      refine fun H locs ls hL hl hP hD hS => lv_aload hx hb hd (by rw [← hx9]; exact sx_lv_at hl heq) ?_
      have h9 := hk _ _ _ _ hv H locs ls hL hl hP hD hS
      rw [List.map_cons, hx9] at h9
      exact h9
    · exact False.elim hv
  | istore_n k =>
    simp only [sx_1, sx_t1] at hv
    split at hv
    · next x r =>
      have hkn : k.val < nL := of_decide_eq_true hok
      exact fun H locs ls hL hl hP hD hS => lv_istore_n hx hb hd rfl hl hkn rfl (fun ls' hl' => hk _ _ _ _ hv H locs ls' (by rw [List.length_set]; exact hL) (sx_lv_put (by rw [hL]; exact hkn) hl') hP hD hS)
    · exact False.elim hv
  | istore k =>
    simp only [sx_1, sx_t1] at hv
    split at hv
    · next x r =>
      have hkn : k < nL := of_decide_eq_true hok
      exact fun H locs ls hL hl hP hD hS => lv_istore hx hb hd hl hkn rfl (fun ls' hl' => hk _ _ _ _ hv H locs ls' (by rw [List.length_set]; exact hL) (sx_lv_put (by rw [hL]; exact hkn) hl') hP hD hS)
    · exact False.elim hv
  | astore_n k =>
    simp only [sx_1, sx_ta] at hv
    split at hv
    · next a r =>
      have hkn : k.val < nL := of_decide_eq_true hok
      obtain ⟨x, hx9⟩ := sx_v_ref E a
      intro H locs ls hL hl hP hD hS
      rw [List.map_cons, hx9]
      exact lv_astore_n hx hb hd rfl hl hkn rfl (fun ls' hl' => hk _ _ _ _ hv H locs ls' (by rw [List.length_set]; exact hL) (sx_lv_put (by rw [hL]; exact hkn) (by rw [hx9]; exact hl')) hP hD hS)
    · exact False.elim hv
  | astore k =>
    simp only [sx_1, sx_ta] at hv
    split at hv
    · next a r =>
      have hkn : k < nL := of_decide_eq_true hok
      obtain ⟨x, hx9⟩ := sx_v_ref E a
      intro H locs ls hL hl hP hD hS
      rw [List.map_cons, hx9]
      exact lv_astore hx hb hd hl hkn rfl (fun ls' hl' => hk _ _ _ _ hv H locs ls' (by rw [List.length_set]; exact hL) (sx_lv_put (by rw [hL]; exact hkn) (by rw [hx9]; exact hl')) hP hD hS)
    · exact False.elim hv
  | iinc k n =>
    simp only [sx_1, sx_ldi] at hv
    split at hv
    · next x heq =>
      have hkn : k < nL := of_decide_eq_true hok
      intro H locs ls hL hl hP hD hS
      obtain ⟨j, hj⟩ := List.mem_iff_getElem?.mp ((sx_l_mem E L 0 (0 + k, sx_v E (.inl x))).mpr ⟨k, _, heq, rfl⟩)
      rw [Nat.zero_add] at hj
      exact lv_iinc hx hb hd hl hj rfl hkn rfl (fun ls' hl' => hk _ _ _ _ hv H locs ls' (by rw [List.length_set]; exact hL) (sx_lv_put (by rw [hL]; exact hkn) hl') hP hD hS)
    · exact False.elim hv
  | iadd =>
    simp only [sx_1, sx_t2] at hv
    split at hv
    · exact fun H locs ls hL hl hP hD hS => lv_iadd hx hb hd (hk _ _ _ _ hv H locs ls hL hl hP hD hS)
    · exact False.elim hv
  | isub =>
    simp only [sx_1, sx_t2] at hv
    split at hv
    · exact fun H locs ls hL hl hP hD hS => lv_isub hx hb hd (hk _ _ _ _ hv H locs ls hL hl hP hD hS)
    · exact False.elim hv
  | imul =>
    simp only [sx_1, sx_t2] at hv
    split at hv
    · exact fun H locs ls hL hl hP hD hS => lv_imul hx hb hd (hk _ _ _ _ hv H locs ls hL hl hP hD hS)
    · exact False.elim hv
  | idiv =>
    simp only [sx_1, sx_t2] at hv
    split at hv
    · exact fun H locs ls hL hl hP hD hS => lv_idiv hx hb hd hv.1 (hk _ _ _ _ hv.2 H locs ls hL hl hP hD hS)
    · exact False.elim hv
  | irem =>
    simp only [sx_1, sx_t2] at hv
    split at hv
    · exact fun H locs ls hL hl hP hD hS => lv_irem hx hb hd hv.1 (hk _ _ _ _ hv.2 H locs ls hL hl hP hD hS)
    · exact False.elim hv
  | iand =>
    simp only [sx_1, sx_t2] at hv
    split at hv
    · exact fun H locs ls hL hl hP hD hS => lv_iand hx hb hd (hk _ _ _ _ hv H locs ls hL hl hP hD hS)
    · exact False.elim hv
  | ior =>
    simp only [sx_1, sx_t2] at hv
    split at hv
    · exact fun H locs ls hL hl hP hD hS => lv_ior hx hb hd (hk _ _ _ _ hv H locs ls hL hl hP hD hS)
    · exact False.elim hv
  | ixor =>
    simp only [sx_1, sx_t2] at hv
    split at hv
    · exact fun H locs ls hL hl hP hD hS => lv_ixor hx hb hd (hk _ _ _ _ hv H locs ls hL hl hP hD hS)
    · exact False.elim hv
  | ishl =>
    simp only [sx_1, sx_t2] at hv
    split at hv
    · exact fun H locs ls hL hl hP hD hS => lv_ishl hx hb hd (hk _ _ _ _ hv H locs ls hL hl hP hD hS)
    · exact False.elim hv
  | ishr =>
    simp only [sx_1, sx_t2] at hv
    split at hv
    · exact fun H locs ls hL hl hP hD hS => lv_ishr hx hb hd (hk _ _ _ _ hv H locs ls hL hl hP hD hS)
    · exact False.elim hv
  | iushr =>
    simp only [sx_1, sx_t2] at hv
    split at hv
    · exact fun H locs ls hL hl hP hD hS => lv_iushr hx hb hd rfl (hk _ _ _ _ hv H locs ls hL hl hP hD hS)
    · exact False.elim hv
  | ineg =>
    simp only [sx_1, sx_t1] at hv
    split at hv
    · exact fun H locs ls hL hl hP hD hS => lv_ineg hx hb hd (hk _ _ _ _ hv H locs ls hL hl hP hD hS)
    · exact False.elim hv
  | dup =>
    simp only [sx_1] at hv
    split at hv
    · exact fun H locs ls hL hl hP hD hS => lv_dup hx hb hd (sx_v_cat E _) (hk _ _ _ _ hv H locs ls hL hl hP hD hS)
    · exact False.elim hv
  | dup_x1 =>
    simp only [sx_1] at hv
    split at hv
    · exact fun H locs ls hL hl hP hD hS => lv_dup_x1 hx hb hd (sx_v_cat E _) (sx_v_cat E _) (hk _ _ _ _ hv H locs ls hL hl hP hD hS)
    · exact False.elim hv
  | dup_x2 =>
    simp only [sx_1] at hv
    split at hv
    · exact fun H locs ls hL hl hP hD hS => lv_dup_x2 hx hb hd (sx_v_cat E _) (sx_v_cat E _) (sx_v_cat E _) (hk _ _ _ _ hv H locs ls hL hl hP hD hS)
    · exact False.elim hv
  | dup2 =>
    simp only [sx_1] at hv
    split at hv
    · exact fun H locs ls hL hl hP hD hS => lv_dup2_11 hx hb hd (sx_v_cat E _) (sx_v_cat E _) (hk _ _ _ _ hv H locs ls hL hl hP hD hS)
    · exact False.elim hv
  | pop =>
    simp only [sx_1] at hv
    split at hv
    · exact fun H locs ls hL hl hP hD hS => lv_pop hx hb hd (sx_v_cat E _) (hk _ _ _ _ hv H locs ls hL hl hP hD hS)
    · exact False.elim hv
  | ifCond cd off =>
    have ht := of_decide_eq_true hok
    simp only [sx_1, sx_t1] at hv
    split at hv
    · cases cd with
      | eq => exact fun H locs ls hL hl hP hD hS => lv_if_eq hx hb hd ht (fun q => hk _ _ _ _ (hv.1 q) H locs ls hL hl hP hD hS) (fun q => hk _ _ _ _ (hv.2 q) H locs ls hL hl hP hD hS)
      | ne => exact fun H locs ls hL hl hP hD hS => lv_if_ne hx hb hd ht (fun q => hk _ _ _ _ (hv.1 q) H locs ls hL hl hP hD hS) (fun q => hk _ _ _ _ (hv.2 q) H locs ls hL hl hP hD hS)
      | lt => exact fun H locs ls hL hl hP hD hS => lv_if_lt hx hb hd ht (fun q => hk _ _ _ _ (hv.1 q) H locs ls hL hl hP hD hS) (fun q => hk _ _ _ _ (hv.2 q) H locs ls hL hl hP hD hS)
      | ge => exact fun H locs ls hL hl hP hD hS => lv_if_ge hx hb hd ht (fun q => hk _ _ _ _ (hv.1 q) H locs ls hL hl hP hD hS) (fun q => hk _ _ _ _ (hv.2 q) H locs ls hL hl hP hD hS)
      | gt => exact fun H locs ls hL hl hP hD hS => lv_if_gt hx hb hd ht (fun q => hk _ _ _ _ (hv.1 q) H locs ls hL hl hP hD hS) (fun q => hk _ _ _ _ (hv.2 q) H locs ls hL hl hP hD hS)
      | le => exact fun H locs ls hL hl hP hD hS => lv_if_le hx hb hd ht (fun q => hk _ _ _ _ (hv.1 q) H locs ls hL hl hP hD hS) (fun q => hk _ _ _ _ (hv.2 q) H locs ls hL hl hP hD hS)
    · exact False.elim hv
  | if_icmp cd off =>
    have ht := of_decide_eq_true hok
    simp only [sx_1, sx_t2] at hv
    split at hv
    · cases cd with
      | eq => exact fun H locs ls hL hl hP hD hS => lv_icmp_eq hx hb hd ht (fun q => hk _ _ _ _ (hv.1 q) H locs ls hL hl hP hD hS) (fun q => hk _ _ _ _ (hv.2 q) H locs ls hL hl hP hD hS)
      | ne => exact fun H locs ls hL hl hP hD hS => lv_icmp_ne hx hb hd ht (fun q => hk _ _ _ _ (hv.1 q) H locs ls hL hl hP hD hS) (fun q => hk _ _ _ _ (hv.2 q) H locs ls hL hl hP hD hS)
      | lt => exact fun H locs ls hL hl hP hD hS => lv_icmp_lt hx hb hd ht (fun q => hk _ _ _ _ (hv.1 q) H locs ls hL hl hP hD hS) (fun q => hk _ _ _ _ (hv.2 q) H locs ls hL hl hP hD hS)
      | ge => exact fun H locs ls hL hl hP hD hS => lv_icmp_ge hx hb hd ht (fun q => hk _ _ _ _ (hv.1 q) H locs ls hL hl hP hD hS) (fun q => hk _ _ _ _ (hv.2 q) H locs ls hL hl hP hD hS)
      | gt => exact fun H locs ls hL hl hP hD hS => lv_icmp_gt hx hb hd ht (fun q => hk _ _ _ _ (hv.1 q) H locs ls hL hl hP hD hS) (fun q => hk _ _ _ _ (hv.2 q) H locs ls hL hl hP hD hS)
      | le => exact fun H locs ls hL hl hP hD hS => lv_icmp_le hx hb hd ht (fun q => hk _ _ _ _ (hv.1 q) H locs ls hL hl hP hD hS) (fun q => hk _ _ _ _ (hv.2 q) H locs ls hL hl hP hD hS)
    · exact False.elim hv
  | goto off =>
    have ht := of_decide_eq_true hok
    exact fun H locs ls hL hl hP hD hS => lv_goto hx hb hd ht (hk _ _ _ _ hv H locs ls hL hl hP hD hS)
  | getfield ix =>
    simp only [sx_ok] at hok
    split at hok
    · next r hr =>
      simp only [sx_1, sx_ta] at hv
      split at hv
      · exact fun H locs ls hL hl hP hD hS => sx_w_gf (host := host) hx hb hts hown hK hP hr hok hd hv (fun v h9 => hk _ _ _ _ h9 H locs ls hL hl hP hD hS)
      · exact False.elim hv
    · cases hok
  | putfield ix =>
    simp only [sx_ok] at hok
    split at hok
    · next r hr =>
      rw [Bool.and_eq_true, Bool.and_eq_true] at hok
      simp only [sx_1, sx_t1] at hv
      split at hv
      · simp only [sx_ta] at hv
        split at hv
        · exact fun H locs ls hL hl hP hD hS => sx_w_pf (host := host) hx hb hts hown hK hcl hP hD hS hr hok.1.1 (of_decide_eq_true hok.1.2) (of_decide_eq_true hok.2) hd hv (fun w' H1 locs1 h9 hP1 hD1 hS1 => hk _ _ _ _ h9 H1 locs1 ls hL hl hP1 hD1 hS1)
        · exact False.elim hv
      · exact False.elim hv
    · cases hok
  | iaload =>
    simp only [sx_1, sx_t1] at hv
    split at hv
    · simp only [sx_ta] at hv
      split at hv
      · exact fun H locs ls hL hl hP hD hS => sx_w_ga hx hb hK hP hd hv (fun v h9 => hk _ _ _ _ h9 H locs ls hL hl hP hD hS)
      · exact False.elim hv
    · exact False.elim hv
  | iastore =>
    simp only [sx_1, sx_t2] at hv
    split at hv
    · simp only [sx_ta] at hv
      split at hv
      · exact fun H locs ls hL hl hP hD hS => sx_w_pa hx hb hK hP hD hS hd hv (fun w' H1 locs1 h9 hP1 hD1 hS1 => hk _ _ _ _ h9 H1 locs1 ls hL hl hP1 hD1 hS1)
      · exact False.elim hv
    · exact False.elim hv
  | aaload =>
    simp only [sx_1, sx_t1] at hv
    split at hv
    · simp only [sx_ta] at hv
      split at hv
      · exact fun H locs ls hL hl hP hD hS => sx_w_gr hx hb hK hP hd hv (fun v h9 => hk _ _ _ _ h9 H locs ls hL hl hP hD hS)
      · exact False.elim hv
    · exact False.elim hv
  | arraylength =>
    simp only [sx_1, sx_ta] at hv
    split at hv
    · exact fun H locs ls hL hl hP hD hS => sx_w_al hx hb hK hP hd hv (fun v h9 => hk _ _ _ _ h9 H locs ls hL hl hP hD hS)
    · exact False.elim hv
  | invokestatic ix => exact hcall rfl hv
  | invokevirtual ix => exact hcall rfl hv
  | invokespecial ix => exact hcall rfl hv
  | ireturn =>
    simp only [sx_1] at hv
    split at hv
    · exact fun H locs ls hL hl hP hD hS => hRt.1 pc _ w H locs ls hd hv hP hD hS
    · exact False.elim hv
  | return_ =>
    simp only [sx_1] at hv
    split at hv
    · exact fun H locs ls hL hl hP hD hS => hRt.2 pc w H locs ls hd hv hP hD hS
    · exact False.elim hv
  | _ => exact False.elim hv
end SX2
end
section
-- calls, and the contract of a method out of its conditions
theorem sx_cats (E : sx_E) : ∀ r : List sx_V, ((r.map (sx_v E)).map fun v => v.category).sum = r.length
  | [] => rfl
  | v :: r => by
    rw [List.map_cons, List.map_cons, List.sum_cons, sx_v_cat, sx_cats E r, List.length_cons, Nat.add_comm]
theorem sx_blind {E : sx_E} {B : Nat} {D : va_G} {cl : List vw_C} {A : Nat → Prop} {As : List sx_V} {w : sx_M} : FrameBlind (sx_Pc E B D cl A As w) := fun a U g mk q => by
  obtain ⟨q0, qP, qK, qD⟩ := q
  exact ⟨q0, qP, va_K.moved (u := U) (U := U.calling g mk a) (Vm.Alike.refl U.vm) qK, qD⟩
section SX3
variable {p : Program} {l : Launch} {e : Env} {R : Room} {s : State} {m : MethodId} {args : Array Value} {below : List Frame} {meth : Method} {c : Code} {Q : State → Prop} {H : Heap} {locs : List Loc} {ls : Array Slot}
variable {cc : ByteArray} {D : va_G} {cl : List vw_C} {A : Nat → Prop} {H0 : Heap} {E : sx_E} {B nL pc : Nat} {Ts : List Cond} {own host : String} {w : sx_M} {Rt : Option sx_V → sx_M → Prop}
theorem sx_back {st0 rest : List Value} {a : Array Value} (hr : va_Run p l e R s m args below meth c H locs 0 0 0 0 (F0 m pc ls st0) rest (sx_Qc E B D cl A Rt a) A) (hS : va_S A H0 H locs)
    (kk : ∀ (r : Option sx_V) (w' : sx_M) (H1 : Heap) (locs1 : List Loc), Rt r w' → va_P D cl (sx_w E B w') H1 → va_D A (sx_w E B w') → va_S A H0 H1 locs1 → W p l e R s m args below meth c H1 locs1 0 0 Q (F0 m (pc + 3) ls (r.toList.map (sx_v E) ++ rest))) : W p l e R s m args below meth c H locs 0 0 Q (F0 m pc ls st0) := by
  intro T hT X
  obtain ⟨v, st₀, t, T', L, h0, X', hL, e1, e2, ⟨⟨r, w', hv, hp, hP, hK, hD⟩, hz, hk⟩, st⟩ := hr T hT X
  have hv' : v = r.map (sx_v E) := by injection hv
  subst hv'
  rw [h0] at hz hk
  obtain ⟨t2, a1, b1⟩ := kk r w' T'.heap (locs ++ L) hp (by rw [e1]; exact hP) hD ⟨Nat.le_trans hS.1 (by rw [e1]; exact hz), fun q h1 h2 => by rw [e1, hk q (Nat.lt_of_lt_of_le h1 hS.1) h2]; exact hS.2.1 q h1 h2, fun q hq => by
    rcases List.mem_append.mp hq with h | h
    · exact hS.2.2 q h
    · exact hL q h⟩ T' rfl X'
  refine ⟨t2, st t2 ?_, b1⟩
  have h9 : (r.map (sx_v E)).toList = r.toList.map (sx_v E) := by cases r <;> rfl
  rw [h9]
  exact a1
theorem sx_stk (E : sx_E) (st : List sx_V) (n : Nat) : st.map (sx_v E) = (((st.take n).reverse).map (sx_v E)).reverse ++ (st.drop n).map (sx_v E) := by
  rw [← List.map_reverse, List.reverse_reverse, ← List.map_append, List.take_append_drop]
-- a static method
theorem sx_CalS {y : MethodName} {bytes : ByteArray} {maxL ix n : Nat} {ret : Option FieldType} {ws ws' : List Cond} {rm : Room} {S : sx_S}
    (hM : ∀ (As : List sx_V) (w : sx_M), S.2.1 As w → Met l y ws rm (sx_Pc E B D cl A As w) (sx_Qc E B D cl A (S.2.2 As w)) 0 0 A)
    (hG : GoodIn Ts ws) (hw : ws = Cond.code y bytes maxL ret :: ws') (hrc : rm.cells = 0) (hrs : rm.slots = 0) (hin : Cond.initialized y.cls ∈ Ts) (hlk : Cond.methodLink own ix y ∈ Ts) (hst : Cond.static y ∈ Ts)
    (hd : y.cls ≠ "java/lang/invoke/MethodHandle" ∧ y.cls ≠ "java/lang/invoke/VarHandle" ∧ (parseMethodDescriptor y.desc).map (fun d => d.parameters.length) = some n) (hR : rm.frames + 1 ≤ R.frames ∧ 8 + (maxL + 11) + rm.locals ≤ R.locals) (hn : S.1 = n) : sx_Cal l own Ts R D cl A E B nL cc (.invokestatic ix) S := by
  intro p e s m args below meth c Q H0 CF hK K hk pc L st w hdg hc H locs ls hL hl hP hD hS
  obtain ⟨hn1, hroom, hpre, hpost⟩ := hc
  have hts := CF.2.2.2.2
  refine sx_back (va_runS (As := ((st.take S.1).reverse).map (sx_v E)) (rest := (st.drop S.1).map (sx_v E)) CF (hM _ w hpre) ⟨callB_of n hts hG hw hrc hrs (hts _ hin) (hts _ hlk) hd hR, hts _ hst⟩ ⟨sx_blind, fun U hU hW => ⟨rfl, by rw [hU]; exact hP, va_K.moved hW.alike hK, hD⟩⟩ rfl (by simp; omega) hl.1 (sx_stk E st S.1) (lv_room (by rw [sx_cats]; exact hroom)) hdg ⟨Nat.zero_le _, Nat.zero_le _⟩) hS (fun r w' H1 locs1 hr hP1 hD1 hS1 => ?_)
  have h9 := hk _ _ _ _ (hpost r w' hr) H1 locs1 ls hL hl hP1 hD1 hS1
  rw [List.map_append] at h9
  exact h9
theorem sx_CalSN {y : MethodName} {bytes : ByteArray} {maxL ix n : Nat} {ret : Option FieldType} {ws ws' : List Cond} {rm : Room} {S : sx_S}
    (hM : ∀ (As : List sx_V) (w : sx_M), S.2.1 As w → Met l y ws rm (sx_Pc E B D cl A As w) (sx_Qc E B D cl A (S.2.2 As w)) 0 0 A)
    (hG : GoodIn Ts ws) (hw : ws = Cond.code y bytes maxL ret :: ws') (hrc : rm.cells = 0) (hrs : rm.slots = 0) (hin : Cond.initialized y.cls ∈ Ts) (hlk : Cond.methodLinkNest own ix y host ∈ Ts) (hst : Cond.static y ∈ Ts)
    (hd : y.cls ≠ "java/lang/invoke/MethodHandle" ∧ y.cls ≠ "java/lang/invoke/VarHandle" ∧ (parseMethodDescriptor y.desc).map (fun d => d.parameters.length) = some n) (hR : rm.frames + 1 ≤ R.frames ∧ 8 + (maxL + 11) + rm.locals ≤ R.locals) (hn : S.1 = n) : sx_Cal l own Ts R D cl A E B nL cc (.invokestatic ix) S := by
  intro p e s m args below meth c Q H0 CF hK K hk pc L st w hdg hc H locs ls hL hl hP hD hS
  obtain ⟨hn1, hroom, hpre, hpost⟩ := hc
  have hts := CF.2.2.2.2
  refine sx_back (va_runSN (As := ((st.take S.1).reverse).map (sx_v E)) (rest := (st.drop S.1).map (sx_v E)) CF (hM _ w hpre) ⟨va_cnB n hts hG hw hrc hrs (va_Nw.of rfl (hts _ hlk)) (hts _ hin) hd hR, hts _ hst, trivial⟩ ⟨sx_blind, fun U hU hW => ⟨rfl, by rw [hU]; exact hP, va_K.moved hW.alike hK, hD⟩⟩ rfl (by simp; omega) hl.1 (sx_stk E st S.1) (lv_room (by rw [sx_cats]; exact hroom)) hdg ⟨Nat.zero_le _, Nat.zero_le _⟩) hS (fun r w' H1 locs1 hr hP1 hD1 hS1 => ?_)
  have h9 := hk _ _ _ _ (hpost r w' hr) H1 locs1 ls hL hl hP1 hD1 hS1
  rw [List.map_append] at h9
  exact h9
-- an object's method: the receiver is a cell of the kind ci
theorem sx_CalV {y : MethodName} {bytes : ByteArray} {maxL ix n ci : Nat} {ret : Option FieldType} {ws ws' : List Cond} {rm : Room} {S : sx_S} {r : vw_C}
    (hM : ∀ (As : List sx_V) (w : sx_M), S.2.1 As w → Met l y ws rm (sx_Pc E B D cl A As w) (sx_Qc E B D cl A (S.2.2 As w)) 0 0 A)
    (hrec : ∀ (As : List sx_V) (w : sx_M), S.2.1 As w → ∃ (n0 : Nat) (tl : List sx_V) (fs : List sx_V), As = .inr (n0, 0) :: tl ∧ n0 < B ∧ w n0 = .inr (.inr (ci, fs))) (hci : cl[ci]? = some r) (hrn : r.1 = y.cls)
    (hG : GoodIn Ts ws) (hw : ws = Cond.code y bytes maxL ret :: ws') (hrc : rm.cells = 0) (hrs : rm.slots = 0) (hin : Cond.initialized y.cls ∈ Ts) (hlk : Cond.methodLink own ix y ∈ Ts) (him : Cond.instanceMethod y ∈ Ts) (hse : Cond.selects y.cls y y ∈ Ts)
    (hd : y.cls ≠ "java/lang/invoke/MethodHandle" ∧ y.cls ≠ "java/lang/invoke/VarHandle" ∧ (parseMethodDescriptor y.desc).map (fun d => d.parameters.length) = some n) (hR : rm.frames + 1 ≤ R.frames ∧ 8 + (maxL + 11) + rm.locals ≤ R.locals) (hn : S.1 = n + 1) : sx_Cal l own Ts R D cl A E B nL cc (.invokevirtual ix) S := by
  intro p e s m args below meth c Q H0 CF hK K hk pc L st w hdg hc H locs ls hL hl hP hD hS
  obtain ⟨hn1, hroom, hpre, hpost⟩ := hc
  have hts := CF.2.2.2.2
  obtain ⟨n0, tl, fs, hAs, hn0, hw0⟩ := hrec _ _ hpre
  have hMt := hM _ w hpre
  have hstk := sx_stk E st S.1
  have hlen : ((st.take S.1).reverse).length = n + 1 := by simp; omega
  rw [hAs] at hMt hstk hlen
  obtain ⟨o, ho, -⟩ := sx_off E w n0 B hn0
  have ho := ho 0 (E.1 n0, .inr (ci, fs.map (sx_v E))) (by rw [hw0]; rfl)
  have hrv := va_recv hK hP hci ho
  rw [hrn] at hrv
  refine sx_back (va_runV (b := E.1 n0) (As := tl.map (sx_v E)) (rest := (st.drop S.1).map (sx_v E)) CF hMt ⟨callB_of n hts hG hw hrc hrs (hts _ hin) (hts _ hlk) hd hR, hts _ him, hts _ hse⟩ ⟨sx_blind, hrv, fun U hU hW => ⟨rfl, by rw [hU]; exact hP, va_K.moved hW.alike hK, hD⟩⟩ rfl (by simpa using hlen) hl.1 (by rw [hstk]; simp [sx_v]) (lv_room (by rw [sx_cats]; exact hroom)) hdg ⟨Nat.zero_le _, Nat.zero_le _⟩) hS (fun r w' H1 locs1 hr hP1 hD1 hS1 => ?_)
  have h9 := hk _ _ _ _ (hpost r w' (by rw [hAs]; exact hr)) H1 locs1 ls hL hl hP1 hD1 hS1
  rw [List.map_append] at h9
  exact h9
theorem sx_CalVN {y : MethodName} {bytes : ByteArray} {maxL ix n ci : Nat} {ret : Option FieldType} {ws ws' : List Cond} {rm : Room} {S : sx_S} {r : vw_C}
    (hM : ∀ (As : List sx_V) (w : sx_M), S.2.1 As w → Met l y ws rm (sx_Pc E B D cl A As w) (sx_Qc E B D cl A (S.2.2 As w)) 0 0 A)
    (hrec : ∀ (As : List sx_V) (w : sx_M), S.2.1 As w → ∃ (n0 : Nat) (tl : List sx_V) (fs : List sx_V), As = .inr (n0, 0) :: tl ∧ n0 < B ∧ w n0 = .inr (.inr (ci, fs))) (hci : cl[ci]? = some r) (hrn : r.1 = y.cls)
    (hG : GoodIn Ts ws) (hw : ws = Cond.code y bytes maxL ret :: ws') (hrc : rm.cells = 0) (hrs : rm.slots = 0) (hin : Cond.initialized y.cls ∈ Ts) (hlk : Cond.methodLinkNest own ix y host ∈ Ts) (him : Cond.instanceMethod y ∈ Ts) (hse : Cond.selects y.cls y y ∈ Ts)
    (hd : y.cls ≠ "java/lang/invoke/MethodHandle" ∧ y.cls ≠ "java/lang/invoke/VarHandle" ∧ (parseMethodDescriptor y.desc).map (fun d => d.parameters.length) = some n) (hR : rm.frames + 1 ≤ R.frames ∧ 8 + (maxL + 11) + rm.locals ≤ R.locals) (hn : S.1 = n + 1) : sx_Cal l own Ts R D cl A E B nL cc (.invokevirtual ix) S := by
  intro p e s m args below meth c Q H0 CF hK K hk pc L st w hdg hc H locs ls hL hl hP hD hS
  obtain ⟨hn1, hroom, hpre, hpost⟩ := hc
  have hts := CF.2.2.2.2
  obtain ⟨n0, tl, fs, hAs, hn0, hw0⟩ := hrec _ _ hpre
  have hMt := hM _ w hpre
  have hstk := sx_stk E st S.1
  have hlen : ((st.take S.1).reverse).length = n + 1 := by simp; omega
  rw [hAs] at hMt hstk hlen
  obtain ⟨o, ho, -⟩ := sx_off E w n0 B hn0
  have ho := ho 0 (E.1 n0, .inr (ci, fs.map (sx_v E))) (by rw [hw0]; rfl)
  have hrv := va_recv hK hP hci ho
  rw [hrn] at hrv
  refine sx_back (va_runVN (b := E.1 n0) (As := tl.map (sx_v E)) (rest := (st.drop S.1).map (sx_v E)) CF hMt ⟨va_cnB n hts hG hw hrc hrs (va_Nw.of rfl (hts _ hlk)) (hts _ hin) hd hR, hts _ him, hts _ hse⟩ ⟨sx_blind, hrv, fun U hU hW => ⟨rfl, by rw [hU]; exact hP, va_K.moved hW.alike hK, hD⟩⟩ rfl (by simpa using hlen) hl.1 (by rw [hstk]; simp [sx_v]) (lv_room (by rw [sx_cats]; exact hroom)) hdg ⟨Nat.zero_le _, Nat.zero_le _⟩) hS (fun r w' H1 locs1 hr hP1 hD1 hS1 => ?_)
  have h9 := hk _ _ _ _ (hpost r w' (by rw [hAs]; exact hr)) H1 locs1 ls hL hl hP1 hD1 hS1
  rw [List.map_append] at h9
  exact h9
def sx_rt (ret : Option FieldType) (Rt : Option sx_V → sx_M → Prop) : Prop := match ret with
  | none => ∀ (x : sx_V) (w : sx_M), ¬ Rt (some x) w
  | some .int => ∀ w : sx_M, ¬ Rt none w
  | some .boolean => (∀ w : sx_M, ¬ Rt none w) ∧ ∀ (x : Int32) (w : sx_M), Rt (some (.inl x)) w → x = 0 ∨ x = 1
  | _ => False
theorem sx_slots (E : sx_E) : ∀ As : List sx_V, (lg_sl (As.map (sx_v E))).length = As.length
  | [] => rfl
  | v :: As => by
    have h := sx_slots E As
    have hc := sx_v_cat E v
    simp only [lg_sl, List.map_cons, List.flatMap_cons, hc] at h ⊢
    rw [List.length_append, h]
    simp
    omega
theorem sx_args (E : sx_E) : ∀ (As : List sx_V) (b k : Nat) (x : sx_V), As[k]? = some x → (b + k, sx_v E x) ∈ lv_args b (As.map (sx_v E))
  | [], b, k, x, h => by simp at h
  | v :: As, b, k, x, h => by
    have hc := sx_v_cat E v
    rw [List.map_cons]
    simp only [lv_args, hc]
    cases k with
    | zero =>
      simp at h
      subst h
      simp
    | succ k =>
      simp at h
      have := sx_args E As (b + 1) k x h
      rw [show b + (k + 1) = b + 1 + k by omega]
      simp [this]
set_option maxHeartbeats 4000000 in
set_option maxRecDepth 100000 in
theorem sx_method {y : MethodName} {ws ws' : List Cond} {rm : Room} {maxL : Nat} {ret : Option FieldType} {F : sx_F} {cs : Nat → sx_S} {As : List sx_V} {w : sx_M} (host : String)
    (hy : plainName y.cls = true) (hw : ws = Cond.code y cc maxL ret :: ws') (hcl : sx_Tb cl)
    (hF : ∀ (pc : Nat) (i : Instr × Nat × Nat), F pc = some i → decode cc pc = .ok (i.1, sx_len i.1) ∧ sx_ok y.cls host cl ws maxL pc i.1 i.2 = true)
    (hC : ∀ (pc : Nat) (i : Instr × Nat × Nat), F pc = some i → sx_isC i.1 = true → sx_Cal l y.cls ws rm D cl A E B maxL cc i.1 (cs i.2.1))
    (hlen : As.length ≤ maxL) (hret : sx_rt ret Rt)
    (body : ∀ Z : sx_K, sx_Cl B cs Rt F Z → Z 0 (As.map some ++ List.replicate (maxL - As.length) none) [] w) :
    Met l y ws rm (sx_Pc E B D cl A As w) (sx_Qc E B D cl A Rt) 0 0 A := by
  refine Met.ofW (cc := cc) (maxL := maxL) (ret := ret) hy hw ?_
  intro p e s m args below meth c s₁ Bd hml hv
  obtain ⟨rfl, hP, hK, hD⟩ := hv
  have hx := Bd.exec
  have hb := Bd.bytes
  have hr := Bd.returns
  have hts := atoms_spec (ws := ws) Bd.pre
  have hown : s.vm.findClass y.cls = some m.cls := findClass_of_methodNamed Bd.named
  have hlocks := Bd.notSynchronized
  have hS : va_S A s.heap s.heap [] := va_S.rf
  have hl := lv_entry (As.map (sx_v E)) (n := maxL) (by rw [sx_slots]; exact hlen)
  rw [lg_entry_eq]
  generalize (lg_sl (As.map (sx_v E)) ++ List.replicate (maxL - (lg_sl (As.map (sx_v E))).length) Slot.unset).toArray = ls at hl ⊢
  have hl2 : lv_has ls maxL (sx_l E 0 (As.map some ++ List.replicate (maxL - As.length) none)) := by
    refine sx_lv_mono hl fun q hq => ?_
    obtain ⟨k, x, h1, rfl⟩ := (sx_l_mem E _ 0 q).mp hq
    by_cases hk : k < As.length
    · rw [List.getElem?_append_left (by simpa using hk), List.getElem?_map] at h1
      cases h9 : As[k]? with
      | none => rw [h9] at h1; simp at h1
      | some z =>
        rw [h9] at h1
        simp at h1
        subst h1
        exact sx_args E As 0 k z h9
    · rw [List.getElem?_append_right (by simpa using hk), List.getElem?_replicate] at h1
      split at h1 <;> simp at h1
  have hRt : sx_Ret p l e rm s m (As.map (sx_v E)).toArray below meth c (MQ below (sx_Qc E B D cl A Rt) (As.map (sx_v E)).toArray s 0 0 A) D cl A s.heap E B cc Rt := by
    refine ⟨fun pc x w H locs ls hdg hq hP hD hS => ?_, fun pc w H locs ls hdg hq hP hD hS => ?_⟩
    · cases ret with
      | none => exact absurd hq (hret _ _)
      | some t =>
        cases t with
        | int => exact W.iret hx hb hr (fun t ht hW => ⟨⟨some (.inl x), w, rfl, hq, by rw [ht]; exact hP, va_K.moved hW.alike hK, hD⟩, hS.F ht⟩) hS.2.2 hdg
        | boolean =>
          have hn : narrow .boolean (.int x) = .int x := by rcases hret.2 x w hq with rfl | rfl <;> decide
          exact W.zret hx hb hr hn (fun t ht hW => ⟨⟨some (.inl x), w, rfl, hq, by rw [ht]; exact hP, va_K.moved hW.alike hK, hD⟩, hS.F ht⟩) hS.2.2 hdg
        | _ => exact False.elim hret
    · cases ret with
      | none => exact W.vret hx hb hr (fun t ht hW => ⟨⟨none, w, rfl, hq, by rw [ht]; exact hP, va_K.moved hW.alike hK, hD⟩, hS.F ht⟩) hS.2.2 hdg
      | some t =>
        cases t with
        | int => exact absurd hq (hret _)
        | boolean => exact absurd hq (hret.1 _)
        | _ => exact False.elim hret
  have hZ := body (sx_Z p l e rm s m (As.map (sx_v E)).toArray below meth c (MQ below (sx_Qc E B D cl A Rt) (As.map (sx_v E)).toArray s 0 0 A) D cl A s.heap E B maxL) (fun K hk pc i L st w hFi hv => by
    obtain ⟨h1, h2⟩ := hF pc i hFi
    exact sx_sound (host := host) (own := y.cls) hx hb hts hown hK hcl hRt hk h1 h2 (fun hic hcall => hC pc i hFi hic p e s m _ below meth c _ _ ⟨hx, hb, hml, hown, hts⟩ hK K hk pc L st w (by
      have h3 : sx_len i.1 = 3 := by
        cases hi : i.1 <;> rw [hi] at hic <;> first | rfl | cases hic
      rw [← h3]; exact h1) hcall) hv)
  exact hZ s.heap [] ls (by simp; omega) hl2 hP hD hS
end SX3
end
section
-- pure: a free action of a cycle of d steps on a finite set: d divides its size
def fa_it {α : Type} (f : α → α) : Nat → α → α
  | 0, x => x
  | n + 1, x => fa_it f n (f x)
theorem fa_succ {α : Type} (f : α → α) : ∀ (n : Nat) (x : α), fa_it f (n + 1) x = f (fa_it f n x)
  | 0, _ => rfl
  | n + 1, x => fa_succ f n (f x)
theorem fa_add {α : Type} (f : α → α) (m : Nat) : ∀ (n : Nat) (x : α), fa_it f (m + n) x = fa_it f m (fa_it f n x)
  | 0, _ => rfl
  | n + 1, x => fa_add f m n (f x)
theorem fa_mul {α : Type} (f : α → α) {d : Nat} {x : α} (h : fa_it f d x = x) : ∀ k : Nat, fa_it f (d * k) x = x
  | 0 => rfl
  | k + 1 => by rw [Nat.mul_succ, fa_add, h, fa_mul f h k]
theorem fa_gcd {α : Type} (f : α → α) (x : α) : ∀ (a b : Nat), fa_it f a x = x → fa_it f b x = x → fa_it f (Nat.gcd a b) x = x := by
  intro a b
  induction a, b using Nat.gcd.induction with
  | H0 n => intro _ h; rw [Nat.gcd_zero_left]; exact h
  | H1 m n hm ih =>
    intro h1 h2
    rw [Nat.gcd_rec]
    refine ih ?_ h1
    have h3 : n = n % m + m * (n / m) := (Nat.mod_add_div n m).symm
    rw [h3, fa_add, fa_mul f h1] at h2
    exact h2
theorem fa_div {α : Type} [DecidableEq α] (f : α → α) (d : Nat) (hd : 0 < d) : ∀ (N : Nat) (X : List α), X.length ≤ N → X.Nodup → (∀ x, x ∈ X → f x ∈ X) → (∀ x, x ∈ X → fa_it f d x = x) → (∀ x, x ∈ X → ∀ j, 0 < j → j < d → fa_it f j x ≠ x) → d ∣ X.length := by
  intro N
  induction N with
  | zero =>
    intro X h _ _ _ _
    rw [Nat.le_zero.mp h]
    exact Nat.dvd_zero d
  | succ N ih =>
    intro X hlen hnd hf hid hfree
    cases X with
    | nil => exact Nat.dvd_zero d
    | cons x X' =>
      generalize hX : x :: X' = X at *
      have hx : x ∈ X := by rw [← hX]; exact List.mem_cons_self
      have hin : ∀ j, fa_it f j x ∈ X := by
        intro j
        induction j with
        | zero => exact hx
        | succ j ihj => rw [fa_succ]; exact hf _ ihj
      have hOnd : ((List.range d).map (fun j => fa_it f j x)).Nodup := by
        refine List.pairwise_map.mpr (List.Pairwise.imp_of_mem (fun {a b} ha hb hab => ?_) List.pairwise_lt_range)
        intro he
        have hb' : b < d := List.mem_range.mp hb
        have h1 : fa_it f (d - a) (fa_it f a x) = x := by rw [← fa_add, Nat.sub_add_cancel (by omega)]; exact hid x hx
        rw [he, ← fa_add, show d - a + b = b - a + d by omega, fa_add, hid x hx] at h1
        exact hfree x hx (b - a) (by omega) (by omega) h1
      generalize hO : (List.range d).map (fun j => fa_it f j x) = O at hOnd
      have hOm : ∀ y, y ∈ O ↔ ∃ j, j < d ∧ fa_it f j x = y := by
        intro y
        rw [← hO, List.mem_map]
        constructor
        · rintro ⟨j, h1, h2⟩; exact ⟨j, List.mem_range.mp h1, h2⟩
        · rintro ⟨j, h1, h2⟩; exact ⟨j, List.mem_range.mpr h1, h2⟩
      have hOf : ∀ y, y ∈ O → f y ∈ O := by
        intro y hy
        obtain ⟨j, h1, h2⟩ := (hOm y).mp hy
        by_cases h3 : j + 1 < d
        · exact (hOm _).mpr ⟨j + 1, h3, by rw [fa_succ, h2]⟩
        · refine (hOm _).mpr ⟨0, hd, ?_⟩
          have h4 : j + 1 = d := by omega
          have h5 := hid x hx
          rw [← h4, fa_succ, h2] at h5
          rw [h5]; rfl
      have hOi : ∀ (j : Nat) (y : α), y ∈ O → fa_it f j y ∈ O := by
        intro j
        induction j with
        | zero => intro y hy; exact hy
        | succ j ihj => intro y hy; exact ihj _ (hOf y hy)
      have hsplit := List.length_eq_countP_add_countP (fun y => decide (y ∈ O)) (l := X)
      have h1 : List.countP (fun y => decide (y ∈ O)) X = d := by
        rw [List.countP_eq_length_filter]
        have hp : (X.filter (fun y => decide (y ∈ O))).Perm O := by
          refine (List.perm_ext_iff_of_nodup (hnd.sublist List.filter_sublist) hOnd).mpr fun a => ?_
          rw [List.mem_filter]
          constructor
          · intro h; exact of_decide_eq_true h.2
          · intro h
            obtain ⟨j, _, h2⟩ := (hOm a).mp h
            exact ⟨h2 ▸ hin j, decide_eq_true h⟩
        rw [hp.length_eq, ← hO, List.length_map, List.length_range]
      have h2 : d ∣ List.countP (fun y => decide ¬ (decide (y ∈ O)) = true) X := by
        rw [List.countP_eq_length_filter]
        refine ih _ ?_ (hnd.sublist List.filter_sublist) ?_ ?_ ?_
        · rw [← List.countP_eq_length_filter]; omega
        · intro y hy
          rw [List.mem_filter] at hy ⊢
          refine ⟨hf y hy.1, ?_⟩
          have hy2 := hy.2
          simp at hy2 ⊢
          intro h9
          apply hy2
          have h10 := hOi (d - 1) _ h9
          have h11 : fa_it f (d - 1) (f y) = fa_it f d y := by
            rw [show d = (d - 1) + 1 by omega]; rfl
          rw [h11, hid y hy.1] at h10
          exact h10
        · intro y hy; exact hid y (List.mem_filter.mp hy).1
        · intro y hy; exact hfree y (List.mem_filter.mp hy).1
      rw [hsplit, h1]
      exact Nat.dvd_add (Nat.dvd_refl d) h2
-- tuples
def tp_all {α : Type} (C : List α) : Nat → List (List α)
  | 0 => [[]]
  | m + 1 => (tp_all C m).flatMap (fun t => C.map (fun g => g :: t))
theorem tp_mem {α : Type} (C : List α) : ∀ (m : Nat) (t : List α), t ∈ tp_all C m ↔ t.length = m ∧ ∀ g, g ∈ t → g ∈ C
  | 0, t => by
    simp only [tp_all, List.mem_singleton]
    constructor
    · rintro rfl; simp
    · rintro ⟨h, _⟩; exact List.eq_nil_of_length_eq_zero h
  | m + 1, t => by
    simp only [tp_all, List.mem_flatMap, List.mem_map, tp_mem C m]
    constructor
    · rintro ⟨t', ⟨h1, h2⟩, g, hg, rfl⟩
      refine ⟨by rw [List.length_cons, h1], fun x hx => ?_⟩
      rcases List.mem_cons.mp hx with rfl | hx
      · exact hg
      · exact h2 x hx
    · rintro ⟨h1, h2⟩
      cases t with
      | nil => simp at h1
      | cons g t' => exact ⟨t', ⟨by simpa using h1, fun x hx => h2 x (List.mem_cons_of_mem _ hx)⟩, g, h2 g List.mem_cons_self, rfl⟩
theorem tp_nodup {α : Type} (C : List α) (hC : C.Nodup) : ∀ m : Nat, (tp_all C m).Nodup
  | 0 => by simp [tp_all]
  | m + 1 => by
    refine List.pairwise_flatMap.mpr ⟨fun t _ => ?_, ?_⟩
    · refine List.pairwise_map.mpr (List.Pairwise.imp (fun {a b} hab he => hab ?_) hC)
      exact (List.cons.inj he).1
    · refine List.Pairwise.imp (fun {t t'} hne x hx y hy he => hne ?_) (tp_nodup C hC m)
      obtain ⟨g, _, rfl⟩ := List.mem_map.mp hx
      obtain ⟨g', _, rfl⟩ := List.mem_map.mp hy
      exact (List.cons.inj he).2
def tp_rot {α : Type} : List α → List α
  | [] => []
  | g :: t => t ++ [g]
theorem tp_rot_it {α : Type} : ∀ (a b : List α), fa_it tp_rot a.length (a ++ b) = b ++ a
  | [], b => by simp [fa_it]
  | g :: a, b => by
    have h := tp_rot_it a (b ++ [g])
    simp only [List.length_cons, fa_it, List.cons_append, tp_rot]
    rw [List.append_assoc, h, List.append_assoc]
    rfl
theorem tp_rot_all {α : Type} (t : List α) : fa_it tp_rot t.length t = t := by
  have h := tp_rot_it t []
  simpa using h
theorem tp_rot_len {α : Type} (t : List α) : (tp_rot t).length = t.length := by
  cases t <;> simp [tp_rot]
theorem tp_rot_mem {α : Type} (t : List α) (x : α) : x ∈ tp_rot t ↔ x ∈ t := by
  cases t with
  | nil => simp [tp_rot]
  | cons g t => simp [tp_rot, or_comm]
theorem tp_rot_1 {α : Type} : ∀ (g : α) (t : List α), tp_rot (g :: t) = g :: t → ∀ x, x ∈ t → x = g
  | g, [], _, x, hx => by simp at hx
  | g, h :: t, e, x, hx => by
    have e1 : h :: (t ++ [g]) = g :: h :: t := e
    obtain ⟨rfl, e2⟩ := List.cons.inj e1
    have e3 : tp_rot (h :: t) = h :: t := e2
    rcases List.mem_cons.mp hx with rfl | hx
    · rfl
    · exact tp_rot_1 h t e3 x hx
-- p prime: a tuple of p places that comes back after fewer steps is constant
theorem tp_free {α : Type} {p : Nat} (hp : ∀ m, m ∣ p → m = 1 ∨ m = p) {t : List α} (ht : t.length = p) {j : Nat} (h0 : 0 < j) (hj : j < p) (h : fa_it tp_rot j t = t) : tp_rot t = t := by
  have h1 := fa_gcd tp_rot t j p h (by rw [← ht]; exact tp_rot_all t)
  rcases hp _ (Nat.gcd_dvd_right j p) with e | e
  · rw [e] at h1; exact h1
  · exfalso
    have := Nat.gcd_le_left p h0
    omega
-- tuples over C with a property that turning keeps: modulo p only the constant ones count
theorem tp_cong0 {α : Type} [DecidableEq α] {C : List α} (hC : C.Nodup) {p : Nat} (hp1 : 1 < p) (hp : ∀ m, m ∣ p → m = 1 ∨ m = p) (P : List α → Bool)
    (hP : ∀ t : List α, (∀ g, g ∈ t → g ∈ C) → P (tp_rot t) = P t) :
    (p : Int) ∣ ((tp_all C p).countP P : Int) - (C.countP (fun g => P (List.replicate p g)) : Int) := by
  have hin : ∀ t, t ∈ tp_all C p → ∀ g, g ∈ t → g ∈ C := fun t ht g hg => ((tp_mem C p t).mp ht).2 g hg
  have hnd := tp_nodup C hC p
  -- the ones that move
  have h1 : p ∣ ((tp_all C p).filter (fun t => P t && !decide (tp_rot t = t))).length := by
    refine fa_div tp_rot p (by omega) _ _ (Nat.le_refl _) (hnd.sublist List.filter_sublist) (fun t ht => ?_) (fun t ht => ?_) (fun t ht j hj hjp he => ?_)
    · rw [List.mem_filter] at ht ⊢
      have ht1 := (tp_mem C p t).mp ht.1
      refine ⟨(tp_mem C p _).mpr ⟨by rw [tp_rot_len]; exact ht1.1, fun g hg => ht1.2 g ((tp_rot_mem t g).mp hg)⟩, ?_⟩
      have ht2 := ht.2
      rw [Bool.and_eq_true] at ht2 ⊢
      refine ⟨by rw [hP t (hin t ht.1)]; exact ht2.1, ?_⟩
      have h9 := ht2.2
      simp at h9 ⊢
      intro h10
      apply h9
      have h11 : fa_it tp_rot (p - 1) (tp_rot (tp_rot t)) = tp_rot t := by
        have := tp_rot_all (tp_rot t)
        rw [tp_rot_len, ht1.1] at this
        rw [show p = (p - 1) + 1 by omega] at this
        exact this
      have h12 : fa_it tp_rot (p - 1) (tp_rot t) = t := by
        have := tp_rot_all t
        rw [ht1.1] at this
        rw [show p = (p - 1) + 1 by omega] at this
        exact this
      rw [h10, h12] at h11
      exact h11.symm
    · have ht1 := (tp_mem C p t).mp (List.mem_filter.mp ht).1
      have := tp_rot_all t
      rw [ht1.1] at this
      exact this
    · have ht1 := (tp_mem C p t).mp (List.mem_filter.mp ht).1
      have h2 := tp_free hp ht1.1 hj hjp he
      have h3 := (List.mem_filter.mp ht).2
      simp [h2] at h3
  -- the ones that stand
  have h2 : ((tp_all C p).filter (fun t => P t && decide (tp_rot t = t))).length = C.countP (fun g => P (List.replicate p g)) := by
    rw [List.countP_eq_length_filter]
    have h3 : ((tp_all C p).filter (fun t => P t && decide (tp_rot t = t))).Perm ((C.filter (fun g => P (List.replicate p g))).map (fun g => List.replicate p g)) := by
      refine (List.perm_ext_iff_of_nodup (hnd.sublist List.filter_sublist) ?_).mpr fun t => ?_
      · refine List.pairwise_map.mpr (List.Pairwise.imp (fun {a b} hab he => hab ?_) (hC.sublist List.filter_sublist))
        have h4 : (List.replicate p a)[0]? = (List.replicate p b)[0]? := by rw [he]
        rw [List.getElem?_replicate, List.getElem?_replicate, if_pos (by omega), if_pos (by omega)] at h4
        exact Option.some.inj h4
      · rw [List.mem_filter, List.mem_map]
        constructor
        · rintro ⟨h4, h5⟩
          rw [Bool.and_eq_true] at h5
          have h6 := of_decide_eq_true h5.2
          have h7 := (tp_mem C p t).mp h4
          cases t with
          | nil => simp at h7; omega
          | cons g t =>
            have h8 := tp_rot_1 g t h6
            have h9 : g :: t = List.replicate p g := by
              refine List.eq_replicate_iff.mpr ⟨h7.1, fun b hb => ?_⟩
              rcases List.mem_cons.mp hb with rfl | hb
              · rfl
              · exact h8 b hb
            have hgC := h7.2 g List.mem_cons_self
            refine ⟨g, List.mem_filter.mpr ⟨hgC, ?_⟩, h9.symm⟩
            have h10 := h5.1
            rw [h9] at h10
            exact h10
        · rintro ⟨g, hg, rfl⟩
          obtain ⟨hgC, hgP⟩ := List.mem_filter.mp hg
          refine ⟨(tp_mem C p _).mpr ⟨List.length_replicate, fun x hx => by rw [(List.mem_replicate.mp hx).2]; exact hgC⟩, ?_⟩
          rw [Bool.and_eq_true]
          refine ⟨hgP, decide_eq_true ?_⟩
          cases p with
          | zero => rfl
          | succ p =>
            rw [List.replicate_succ]
            show List.replicate p g ++ [g] = _
            rw [← List.replicate_succ', List.replicate_succ]
    rw [h3.length_eq, List.length_map]
  have h3 := List.length_eq_countP_add_countP (fun t => decide (tp_rot t = t)) (l := (tp_all C p).filter P)
  rw [← List.countP_eq_length_filter] at h3
  rw [List.countP_filter, List.countP_filter] at h3
  have h4 : List.countP (fun a => decide (tp_rot a = a) && P a) (tp_all C p) = C.countP (fun g => P (List.replicate p g)) := by
    rw [← h2, ← List.countP_eq_length_filter]
    exact List.countP_congr fun t _ => by rw [Bool.and_comm]
  have h5 : List.countP (fun a => (decide ¬ decide (tp_rot a = a) = true) && P a) (tp_all C p) = ((tp_all C p).filter (fun t => P t && !decide (tp_rot t = t))).length := by
    rw [← List.countP_eq_length_filter]
    refine List.countP_congr fun t _ => ?_
    rw [Bool.and_comm]
    simp
  rw [h4, h5] at h3
  obtain ⟨c, hc⟩ := h1
  rw [h3, hc]
  exact ⟨c, by rw [Int.natCast_add, Int.natCast_mul]; omega⟩
end
section
-- pure: a finite group as a list of numbers (the product is associative everywhere)
def gg_ok (G : List Nat) (mul : Nat → Nat → Nat) (one : Nat) (inv : Nat → Nat) : Prop :=
  G.Nodup ∧ one ∈ G ∧ (∀ a, a ∈ G → ∀ b, b ∈ G → mul a b ∈ G) ∧ (∀ a, a ∈ G → inv a ∈ G) ∧ (∀ a b c, mul (mul a b) c = mul a (mul b c)) ∧
  (∀ a, a ∈ G → mul one a = a) ∧ (∀ a, a ∈ G → mul a one = a) ∧ (∀ a, a ∈ G → mul (inv a) a = one) ∧ (∀ a, a ∈ G → mul a (inv a) = one)
def gg_pw (mul : Nat → Nat → Nat) (one x : Nat) : Nat → Nat
  | 0 => one
  | m + 1 => mul (gg_pw mul one x m) x
section GG
variable {G : List Nat} {mul : Nat → Nat → Nat} {one : Nat} {inv : Nat → Nat}
theorem gg_nd (h : gg_ok G mul one inv) : G.Nodup := h.1
theorem gg_1 (h : gg_ok G mul one inv) : one ∈ G := h.2.1
theorem gg_m (h : gg_ok G mul one inv) {a b : Nat} (ha : a ∈ G) (hb : b ∈ G) : mul a b ∈ G := h.2.2.1 a ha b hb
theorem gg_i (h : gg_ok G mul one inv) {a : Nat} (ha : a ∈ G) : inv a ∈ G := h.2.2.2.1 a ha
theorem gg_as (h : gg_ok G mul one inv) (a b c : Nat) : mul (mul a b) c = mul a (mul b c) := h.2.2.2.2.1 a b c
theorem gg_l1 (h : gg_ok G mul one inv) {a : Nat} (ha : a ∈ G) : mul one a = a := h.2.2.2.2.2.1 a ha
theorem gg_r1 (h : gg_ok G mul one inv) {a : Nat} (ha : a ∈ G) : mul a one = a := h.2.2.2.2.2.2.1 a ha
theorem gg_li (h : gg_ok G mul one inv) {a : Nat} (ha : a ∈ G) : mul (inv a) a = one := h.2.2.2.2.2.2.2.1 a ha
theorem gg_ri (h : gg_ok G mul one inv) {a : Nat} (ha : a ∈ G) : mul a (inv a) = one := h.2.2.2.2.2.2.2.2 a ha
theorem gg_lc (h : gg_ok G mul one inv) {a b c : Nat} (ha : a ∈ G) (hb : b ∈ G) (hc : c ∈ G) (e : mul a b = mul a c) : b = c := by
  have e2 := congrArg (mul (inv a)) e
  rw [← gg_as h, ← gg_as h, gg_li h ha, gg_l1 h hb, gg_l1 h hc] at e2
  exact e2
theorem gg_rc (h : gg_ok G mul one inv) {a b c : Nat} (ha : a ∈ G) (hb : b ∈ G) (hc : c ∈ G) (e : mul b a = mul c a) : b = c := by
  have e2 := congrArg (fun z => mul z (inv a)) e
  simp only [gg_as h, gg_ri h ha, gg_r1 h hb, gg_r1 h hc] at e2
  exact e2
theorem gg_iu (h : gg_ok G mul one inv) {a b : Nat} (ha : a ∈ G) (hb : b ∈ G) (e : mul a b = one) : b = inv a :=
  gg_lc h ha hb (gg_i h ha) (e.trans (gg_ri h ha).symm)
theorem gg_ii (h : gg_ok G mul one inv) {a : Nat} (ha : a ∈ G) : inv (inv a) = a := (gg_iu h (gg_i h ha) ha (gg_li h ha)).symm
theorem gg_pm (h : gg_ok G mul one inv) {x : Nat} (hx : x ∈ G) : ∀ m : Nat, gg_pw mul one x m ∈ G
  | 0 => gg_1 h
  | m + 1 => gg_m h (gg_pm h hx m) hx
theorem gg_pa (h : gg_ok G mul one inv) {x : Nat} (hx : x ∈ G) (m : Nat) : ∀ n : Nat, gg_pw mul one x (m + n) = mul (gg_pw mul one x m) (gg_pw mul one x n)
  | 0 => (gg_r1 h (gg_pm h hx m)).symm
  | n + 1 => by
    show mul (gg_pw mul one x (m + n)) x = mul (gg_pw mul one x m) (mul (gg_pw mul one x n) x)
    rw [gg_pa h hx m n, gg_as h]
theorem gg_p1 (h : gg_ok G mul one inv) {x : Nat} (hx : x ∈ G) : gg_pw mul one x 1 = x := gg_l1 h hx
theorem gg_ps (h : gg_ok G mul one inv) {x : Nat} (hx : x ∈ G) (m : Nat) : gg_pw mul one x (m + 1) = mul x (gg_pw mul one x m) := by
  rw [Nat.add_comm, gg_pa h hx 1 m, gg_p1 h hx]
theorem gg_pz (h : gg_ok G mul one inv) {x : Nat} (hx : x ∈ G) {d : Nat} (hd : gg_pw mul one x d = one) : ∀ k : Nat, gg_pw mul one x (d * k) = one
  | 0 => rfl
  | k + 1 => by rw [Nat.mul_succ, gg_pa h hx, gg_pz h hx hd k, hd, gg_l1 h (gg_1 h)]
theorem gg_pmod (h : gg_ok G mul one inv) {x : Nat} (hx : x ∈ G) {d : Nat} (hd : gg_pw mul one x d = one) (m : Nat) : gg_pw mul one x m = gg_pw mul one x (m % d) := by
  have h3 : m = m % d + d * (m / d) := (Nat.mod_add_div m d).symm
  have h4 := gg_pa h hx (m % d) (d * (m / d))
  rw [← h3, gg_pz h hx hd, gg_r1 h (gg_pm h hx _)] at h4
  exact h4
-- every element has an order, it divides the size of the group
theorem gg_ex (h : gg_ok G mul one inv) {x : Nat} (hx : x ∈ G) : ∃ d, 0 < d ∧ gg_pw mul one x d = one := by
  by_cases hd : ((List.range (G.length + 1)).map (gg_pw mul one x)).Nodup
  · have h1 := hd.length_le_of_subset (l₂ := G) (fun y hy => by
      obtain ⟨k, _, rfl⟩ := List.mem_map.mp hy
      exact gg_pm h hx k)
    rw [List.length_map, List.length_range] at h1
    omega
  · have h2 : ∃ i j, i < j ∧ gg_pw mul one x i = gg_pw mul one x j := Classical.byContradiction fun hn => by
      apply hd
      refine List.pairwise_map.mpr (List.Pairwise.imp (fun {a b} hab he => hn ⟨a, b, hab, he⟩) List.pairwise_lt_range)
    obtain ⟨i, j, hij, he⟩ := h2
    refine ⟨j - i, by omega, ?_⟩
    have h3 := gg_pa h hx i (j - i)
    rw [show i + (j - i) = j by omega, ← he] at h3
    refine gg_lc h (gg_pm h hx i) (gg_pm h hx _) (gg_1 h) ?_
    rw [← h3, gg_r1 h (gg_pm h hx i)]
theorem gg_ord (h : gg_ok G mul one inv) {x : Nat} (hx : x ∈ G) : ∃ d, 0 < d ∧ gg_pw mul one x d = one ∧ (∀ j, 0 < j → j < d → gg_pw mul one x j ≠ one) ∧ d ∣ G.length := by
  obtain ⟨d, ⟨h0, h1⟩, hm⟩ := pk_least (fun d => 0 < d ∧ gg_pw mul one x d = one) (gg_ex h hx)
  have hit : ∀ (j y : Nat), y ∈ G → fa_it (fun z => mul z x) j y = mul y (gg_pw mul one x j) := by
    intro j
    induction j with
    | zero => intro y hy; exact (gg_r1 h hy).symm
    | succ j ih =>
      intro y hy
      show fa_it (fun z => mul z x) j (mul y x) = _
      rw [ih _ (gg_m h hy hx), gg_as h, gg_ps h hx]
  refine ⟨d, h0, h1, fun j hj hjd he => hm j hjd ⟨hj, he⟩, ?_⟩
  refine fa_div (fun z => mul z x) d h0 G.length G (Nat.le_refl _) (gg_nd h) (fun y hy => gg_m h hy hx) (fun y hy => ?_) (fun y hy j hj hjd he => ?_)
  · rw [hit d y hy, h1, gg_r1 h hy]
  · rw [hit j y hy] at he
    exact hm j hjd ⟨hj, gg_lc h hy (gg_pm h hx j) (gg_1 h) (he.trans (gg_r1 h hy).symm)⟩
theorem gg_lag (h : gg_ok G mul one inv) {x : Nat} (hx : x ∈ G) : gg_pw mul one x G.length = one := by
  obtain ⟨d, _, h1, _, ⟨k, hk⟩⟩ := gg_ord h hx
  rw [hk]
  exact gg_pz h hx h1 k
end GG
end
section
-- pure: sums over lists, in the integers
def si {α : Type} (f : α → Int) : List α → Int
  | [] => 0
  | a :: l => f a + si f l
def ib (b : Bool) : Int := if b = true then 1 else 0
theorem si_nil {α : Type} (f : α → Int) : si f [] = 0 := rfl
theorem si_cons {α : Type} (f : α → Int) (a : α) (l : List α) : si f (a :: l) = f a + si f l := rfl
theorem si_app {α : Type} (f : α → Int) : ∀ l l' : List α, si f (l ++ l') = si f l + si f l'
  | [], l' => by simp [si]
  | a :: l, l' => by rw [List.cons_append, si_cons, si_cons, si_app f l l', Int.add_assoc]
theorem si_map {α β : Type} (f : β → Int) (g : α → β) : ∀ l : List α, si f (l.map g) = si (fun a => f (g a)) l
  | [] => rfl
  | a :: l => by rw [List.map_cons, si_cons, si_cons, si_map f g l]
theorem si_flat {α β : Type} (f : β → Int) (g : α → List β) : ∀ l : List α, si f (l.flatMap g) = si (fun a => si f (g a)) l
  | [] => rfl
  | a :: l => by rw [List.flatMap_cons, si_app, si_cons, si_flat f g l]
theorem si_congr {α : Type} {f g : α → Int} : ∀ {l : List α}, (∀ a, a ∈ l → f a = g a) → si f l = si g l
  | [], _ => rfl
  | a :: l, h => by rw [si_cons, si_cons, h a List.mem_cons_self, si_congr (fun b hb => h b (List.mem_cons_of_mem _ hb))]
theorem si_0 {α : Type} : ∀ l : List α, si (fun _ => (0 : Int)) l = 0
  | [] => rfl
  | a :: l => by rw [si_cons, si_0 l]; rfl
theorem si_z {α : Type} {f : α → Int} {l : List α} (h : ∀ a, a ∈ l → f a = 0) : si f l = 0 := (si_congr h).trans (si_0 l)
theorem si_add {α : Type} (f g : α → Int) : ∀ l : List α, si (fun a => f a + g a) l = si f l + si g l
  | [] => rfl
  | a :: l => by rw [si_cons, si_cons, si_cons, si_add f g l]; omega
theorem si_sub {α : Type} (f g : α → Int) : ∀ l : List α, si (fun a => f a - g a) l = si f l - si g l
  | [] => rfl
  | a :: l => by rw [si_cons, si_cons, si_cons, si_sub f g l]; omega
theorem si_mul {α : Type} (c : Int) (f : α → Int) : ∀ l : List α, si (fun a => c * f a) l = c * si f l
  | [] => (Int.mul_zero c).symm
  | a :: l => by rw [si_cons, si_cons, si_mul c f l, Int.mul_add]
theorem si_mulr {α : Type} (c : Int) (f : α → Int) : ∀ l : List α, si (fun a => f a * c) l = si f l * c
  | [] => (Int.zero_mul c).symm
  | a :: l => by rw [si_cons, si_cons, si_mulr c f l, Int.add_mul]
theorem si_swap {α β : Type} (f : α → β → Int) (l' : List β) : ∀ l : List α, si (fun a => si (f a) l') l = si (fun b => si (fun a => f a b) l) l'
  | [] => (si_0 l').symm
  | a :: l => by rw [si_cons, si_swap f l' l, ← si_add]; rfl
theorem si_const {α : Type} (c : Int) : ∀ l : List α, si (fun _ => c) l = l.length * c
  | [] => by simp [si]
  | a :: l => by rw [si_cons, si_const c l, List.length_cons, Int.natCast_add, Int.add_mul]; simp; omega
theorem si_count {α : Type} (p : α → Bool) : ∀ l : List α, si (fun a => ib (p a)) l = (l.countP p : Int)
  | [] => rfl
  | a :: l => by
    rw [si_cons, si_count p l, List.countP_cons, ib]
    by_cases h : p a = true
    · rw [if_pos h, if_pos h, Int.natCast_add]; omega
    · rw [if_neg h, if_neg h]; simp
theorem si_filter {α : Type} (p : α → Bool) (f : α → Int) : ∀ l : List α, si f (l.filter p) = si (fun a => ib (p a) * f a) l
  | [] => rfl
  | a :: l => by
    rw [List.filter_cons, si_cons, ← si_filter p f l, ib]
    by_cases h : p a = true
    · rw [if_pos h, if_pos h, si_cons, Int.one_mul]
    · rw [if_neg h, if_neg h, Int.zero_mul, Int.zero_add]
theorem si_perm {α : Type} (f : α → Int) {l l' : List α} (h : l.Perm l') : si f l = si f l' := by
  induction h with
  | nil => rfl
  | cons x _ ih => rw [si_cons, si_cons, ih]
  | swap x y l => rw [si_cons, si_cons, si_cons, si_cons]; omega
  | trans _ _ ih1 ih2 => exact ih1.trans ih2
theorem si_one {α : Type} [DecidableEq α] (f : α → Int) (b : α) : ∀ {l : List α}, l.Nodup → b ∈ l → si (fun a => ib (decide (a = b)) * f a) l = f b
  | [], _, h => by simp at h
  | a :: l, hn, h => by
    rw [List.nodup_cons] at hn
    rw [si_cons]
    by_cases e : a = b
    · subst e
      rw [si_z (l := l) (fun x hx => ?_)]
      · simp [ib]
      · have : x ≠ a := fun h9 => hn.1 (h9 ▸ hx)
        simp [ib, this]
    · rcases List.mem_cons.mp h with h9 | h9
      · exact absurd h9.symm e
      · rw [si_one f b hn.2 h9]
        simp [ib, e]
-- by the number of a part: g sends each element to its part
theorem si_parts {α : Type} (f : Nat → Int) (g : α → Nat) (k : Nat) {l : List α} (h : ∀ a, a ∈ l → g a < k) : si (fun a => f (g a)) l = si (fun j => (l.countP (fun a => decide (g a = j)) : Int) * f j) (List.range k) := by
  have h1 : si (fun j => (l.countP (fun a => decide (g a = j)) : Int) * f j) (List.range k) = si (fun j => si (fun a => ib (decide (j = g a)) * f j) l) (List.range k) := by
    refine si_congr fun j _ => ?_
    rw [si_mulr, ← si_count]
    congr 1
    refine si_congr fun a _ => ?_
    by_cases e : g a = j
    · subst e; simp
    · simp [ib, e, Ne.symm e]
  rw [h1, si_swap]
  refine si_congr fun a ha => ?_
  exact (si_one f (g a) List.nodup_range (List.mem_range.mpr (h a ha))).symm
-- remainders
theorem dv_add {p a b : Int} (h1 : p ∣ a) (h2 : p ∣ b) : p ∣ a + b := Int.dvd_add h1 h2
theorem si_dvd {α : Type} {p : Int} {f : α → Int} : ∀ {l : List α}, (∀ a, a ∈ l → p ∣ f a) → p ∣ si f l
  | [], _ => Int.dvd_zero p
  | a :: l, h => Int.dvd_add (h a List.mem_cons_self) (si_dvd (fun b hb => h b (List.mem_cons_of_mem _ hb)))
theorem si_cong {α : Type} {p : Int} {f g : α → Int} {l : List α} (h : ∀ a, a ∈ l → p ∣ f a - g a) : p ∣ si f l - si g l := by
  rw [← si_sub]
  exact si_dvd h
end
section
-- pure: a group with its classes: k classes, kl sends an element to its class, re a class to an element of it
def kc_ok (G : List Nat) (mul : Nat → Nat → Nat) (one : Nat) (inv : Nat → Nat) (k : Nat) (kl : Nat → Nat) (re : Nat → Nat) : Prop :=
  gg_ok G mul one inv ∧ (∀ x, x ∈ G → kl x < k) ∧ (∀ i, i < k → re i ∈ G ∧ kl (re i) = i) ∧ (∀ x, x ∈ G → ∀ y, y ∈ G → (kl x = kl y ↔ ∃ g, g ∈ G ∧ mul g y = mul x g)) ∧ kl one = 0 ∧ 0 < k
section KC
variable {G : List Nat} {mul : Nat → Nat → Nat} {one : Nat} {inv : Nat → Nat} {k : Nat} {kl re : Nat → Nat}
theorem kc_g (h : kc_ok G mul one inv k kl re) : gg_ok G mul one inv := h.1
theorem kc_lt (h : kc_ok G mul one inv k kl re) {x : Nat} (hx : x ∈ G) : kl x < k := h.2.1 x hx
theorem kc_re (h : kc_ok G mul one inv k kl re) {i : Nat} (hi : i < k) : re i ∈ G := (h.2.2.1 i hi).1
theorem kc_kr (h : kc_ok G mul one inv k kl re) {i : Nat} (hi : i < k) : kl (re i) = i := (h.2.2.1 i hi).2
theorem kc_iff (h : kc_ok G mul one inv k kl re) {x y : Nat} (hx : x ∈ G) (hy : y ∈ G) : kl x = kl y ↔ ∃ g, g ∈ G ∧ mul g y = mul x g := h.2.2.2.1 x hx y hy
-- the conjugate of x by g
theorem kc_conj (h : kc_ok G mul one inv k kl re) {x g : Nat} (hx : x ∈ G) (hg : g ∈ G) : kl (mul (mul (inv g) x) g) = kl x := by
  have hG := kc_g h
  refine (kc_iff h (gg_m hG (gg_m hG (gg_i hG hg) hx) hg) hx).mpr ⟨inv g, gg_i hG hg, ?_⟩
  rw [gg_as hG (mul (inv g) x) g, gg_ri hG hg, gg_r1 hG (gg_m hG (gg_i hG hg) hx)]
-- x y and y x are in one class
theorem kc_comm (h : kc_ok G mul one inv k kl re) {x y : Nat} (hx : x ∈ G) (hy : y ∈ G) : kl (mul x y) = kl (mul y x) := by
  have hG := kc_g h
  exact (kc_iff h (gg_m hG hx hy) (gg_m hG hy hx)).mpr ⟨x, hx, (gg_as hG x y x).symm⟩
-- how many x of class i have x^-1 z in class j
def kc_n (G : List Nat) (mul : Nat → Nat → Nat) (inv kl : Nat → Nat) (i j z : Nat) : Nat := G.countP (fun x => decide (kl x = i) && decide (kl (mul (inv x) z) = j))
-- a permutation of the group that keeps a property keeps its count
theorem gg_cnt (hG : gg_ok G mul one inv) {p q : Nat → Bool} (f : Nat → Nat) (hf : ∀ x, x ∈ G → f x ∈ G) (hi : ∀ x, x ∈ G → ∀ y, y ∈ G → f x = f y → x = y) (hpq : ∀ x, x ∈ G → p x = q (f x)) : G.countP p = G.countP q := by
  have hnd := gg_nd hG
  have hm : (G.map f).Nodup := List.pairwise_map.mpr (List.Pairwise.imp_of_mem (fun {a b} ha hb hab he => hab (hi a ha b hb he)) hnd)
  have hp : (G.map f).Perm G := by
    have hsub : G.map f ⊆ G := fun y hy => by obtain ⟨x, hx, rfl⟩ := List.mem_map.mp hy; exact hf x hx
    refine (List.perm_ext_iff_of_nodup hm hnd).mpr fun a => ⟨fun h => hsub h, fun ha => Classical.byContradiction fun hn => ?_⟩
    have h1 : (a :: G.map f).Nodup := List.nodup_cons.mpr ⟨hn, hm⟩
    have h2 := h1.length_le_of_subset (l₂ := G) (fun y hy => by
      rcases List.mem_cons.mp hy with rfl | hy
      · exact ha
      · exact hsub hy)
    rw [List.length_cons, List.length_map] at h2
    omega
  rw [← hp.countP_eq q, List.countP_map]
  exact List.countP_congr fun x hx => by rw [hpq x hx]; rfl
theorem kc_n_conj (h : kc_ok G mul one inv k kl re) {z z' : Nat} (hz : z ∈ G) (hz' : z' ∈ G) (he : kl z = kl z') (i j : Nat) : kc_n G mul inv kl i j z = kc_n G mul inv kl i j z' := by
  have hG := kc_g h
  obtain ⟨g, hg, e⟩ := (kc_iff h hz hz').mp he
  -- z' = g^-1 z g
  have e2 : z' = mul (mul (inv g) z) g := by
    rw [gg_as hG, ← e, ← gg_as hG, gg_li hG hg, gg_l1 hG hz']
  refine gg_cnt hG (fun x => mul (mul (inv g) x) g) (fun x hx => gg_m hG (gg_m hG (gg_i hG hg) hx) hg) (fun x hx y hy exy => ?_) (fun x hx => ?_)
  · exact gg_lc hG (gg_i hG hg) hx hy (gg_rc hG hg (gg_m hG (gg_i hG hg) hx) (gg_m hG (gg_i hG hg) hy) exy)
  · have hc : mul (inv g) (mul x g) ∈ G := gg_m hG (gg_i hG hg) (gg_m hG hx hg)
    have h1 : inv (mul (mul (inv g) x) g) = mul (mul (inv g) (inv x)) g := by
      refine (gg_iu hG (gg_m hG (gg_m hG (gg_i hG hg) hx) hg) (gg_m hG (gg_m hG (gg_i hG hg) (gg_i hG hx)) hg) ?_).symm
      rw [gg_as hG, ← gg_as hG g, ← gg_as hG g, gg_ri hG hg, gg_l1 hG (gg_i hG hx), gg_as hG, ← gg_as hG x, gg_ri hG hx, gg_l1 hG hg, gg_li hG hg]
    have h2 : mul (inv (mul (mul (inv g) x) g)) z' = mul (mul (inv g) (mul (inv x) z)) g := by
      rw [h1, e2, gg_as hG, ← gg_as hG g, ← gg_as hG g, gg_ri hG hg, gg_l1 hG hz, gg_as hG, gg_as hG, gg_as hG]
    rw [kc_conj h hx hg, h2, kc_conj h (gg_m hG (gg_i hG hx) hz) hg]
theorem gg_inv_z (hG : gg_ok G mul one inv) {x z : Nat} (hx : x ∈ G) (hz : z ∈ G) : mul (inv (mul (inv x) z)) z = mul (mul (inv z) x) z := by
  have h1 : inv (mul (inv x) z) = mul (inv z) x := by
    refine (gg_iu hG (gg_m hG (gg_i hG hx) hz) (gg_m hG (gg_i hG hz) hx) ?_).symm
    rw [gg_as hG, ← gg_as hG z, gg_ri hG hz, gg_l1 hG hx, gg_li hG hx]
  rw [h1]
theorem kc_n_comm (h : kc_ok G mul one inv k kl re) {z : Nat} (hz : z ∈ G) (i j : Nat) : kc_n G mul inv kl i j z = kc_n G mul inv kl j i z := by
  have hG := kc_g h
  refine gg_cnt hG (fun x => mul (inv x) z) (fun x hx => gg_m hG (gg_i hG hx) hz) (fun x hx y hy e => ?_) (fun x hx => ?_)
  · have e1 : inv x = inv y := gg_rc hG hz (gg_i hG hx) (gg_i hG hy) e
    rw [← gg_ii hG hx, e1, gg_ii hG hy]
  · rw [gg_inv_z hG hx hz, kc_conj h hx hz, Bool.and_comm]
-- the constants
def kc_a (G : List Nat) (mul : Nat → Nat → Nat) (inv kl re : Nat → Nat) (i j l : Nat) : Int := (kc_n G mul inv kl i j (re l) : Int)
theorem kc_a_z (h : kc_ok G mul one inv k kl re) {z : Nat} (hz : z ∈ G) (i j : Nat) : kc_a G mul inv kl re i j (kl z) = (kc_n G mul inv kl i j z : Int) := by
  unfold kc_a
  rw [kc_n_conj h (kc_re h (kc_lt h hz)) hz (kc_kr h (kc_lt h hz)) i j]
theorem kc_a_comm (h : kc_ok G mul one inv k kl re) {l : Nat} (hl : l < k) (i j : Nat) : kc_a G mul inv kl re i j l = kc_a G mul inv kl re j i l := by
  unfold kc_a
  rw [kc_n_comm h (kc_re h hl)]
theorem kc_sum (h : kc_ok G mul one inv k kl re) {z : Nat} (hz : z ∈ G) (i : Nat) (f : Nat → Int) : si (fun x => ib (decide (kl x = i)) * f (kl (mul (inv x) z))) G = si (fun j => (kc_n G mul inv kl i j z : Int) * f j) (List.range k) := by
  have hG := kc_g h
  rw [← si_filter (fun x => decide (kl x = i)) (fun x => f (kl (mul (inv x) z))) G]
  rw [si_parts f (fun x => kl (mul (inv x) z)) k (fun x hx => kc_lt h (gg_m hG (gg_i hG (List.mem_filter.mp hx).1) hz))]
  refine si_congr fun j _ => ?_
  congr 2
  rw [List.countP_filter]
  unfold kc_n
  refine List.countP_congr fun x _ => ?_
  rw [Bool.and_comm]
theorem si_bij (hG : gg_ok G mul one inv) (f : Nat → Int) (g : Nat → Nat) (hf : ∀ x, x ∈ G → g x ∈ G) (hi : ∀ x, x ∈ G → ∀ y, y ∈ G → g x = g y → x = y) : si (fun x => f (g x)) G = si f G := by
  have hnd := gg_nd hG
  have hm : (G.map g).Nodup := List.pairwise_map.mpr (List.Pairwise.imp_of_mem (fun {a b} ha hb hab he => hab (hi a ha b hb he)) hnd)
  have hp : (G.map g).Perm G := by
    have hsub : G.map g ⊆ G := fun y hy => by obtain ⟨x, hx, rfl⟩ := List.mem_map.mp hy; exact hf x hx
    refine (List.perm_ext_iff_of_nodup hm hnd).mpr fun a => ⟨fun h => hsub h, fun ha => Classical.byContradiction fun hn => ?_⟩
    have h1 : (a :: G.map g).Nodup := List.nodup_cons.mpr ⟨hn, hm⟩
    have h2 := h1.length_le_of_subset (l₂ := G) (fun y hy => by
      rcases List.mem_cons.mp hy with rfl | hy
      · exact ha
      · exact hsub hy)
    rw [List.length_cons, List.length_map] at h2
    omega
  rw [← si_map f g G]
  exact si_perm f hp
-- associativity
theorem kc_assoc (h : kc_ok G mul one inv k kl re) {l : Nat} (hl : l < k) (i j q : Nat) : si (fun m => kc_a G mul inv kl re i m l * kc_a G mul inv kl re j q m) (List.range k) = si (fun m => kc_a G mul inv kl re i j m * kc_a G mul inv kl re m q l) (List.range k) := by
  have hG := kc_g h
  have hz := kc_re h hl
  -- the left side
  have e1 : si (fun m => kc_a G mul inv kl re i m l * kc_a G mul inv kl re j q m) (List.range k) = si (fun x => ib (decide (kl x = i)) * si (fun y => ib (decide (kl y = j)) * ib (decide (kl (mul (inv y) (mul (inv x) (re l))) = q))) G) G := by
    have := kc_sum h hz i (fun m => kc_a G mul inv kl re j q m)
    unfold kc_a at this ⊢
    rw [← this]
    refine si_congr fun x hx => ?_
    congr 1
    have hxz := gg_m hG (gg_i hG hx) hz
    have h3 := kc_a_z h hxz j q
    unfold kc_a at h3
    rw [h3]
    unfold kc_n
    rw [← si_count]
    refine si_congr fun y _ => ?_
    unfold ib
    cases decide (kl y = j) <;> cases decide (kl (mul (inv y) (mul (inv x) (re l))) = q) <;> rfl
  -- the right side
  have e2 : si (fun m => kc_a G mul inv kl re i j m * kc_a G mul inv kl re m q l) (List.range k) = si (fun u => ib (decide (kl (mul (inv u) (re l)) = q)) * (kc_n G mul inv kl i j u : Int)) G := by
    have h4 : ∀ m, m < k → kc_a G mul inv kl re i j m * kc_a G mul inv kl re m q l = si (fun u => ib (decide (m = kl u)) * (ib (decide (kl (mul (inv u) (re l)) = q)) * kc_a G mul inv kl re i j m)) G := by
      intro m hm
      have h5 : kc_a G mul inv kl re m q l = si (fun u => ib (decide (kl u = m) && decide (kl (mul (inv u) (re l)) = q))) G := by
        unfold kc_a kc_n
        rw [si_count]
      rw [h5, ← si_mul]
      refine si_congr fun u _ => ?_
      have h6 : decide (kl u = m) = decide (m = kl u) := by
        by_cases e : kl u = m
        · simp [e]
        · simp [e, Ne.symm e]
      rw [h6]
      unfold ib
      cases decide (m = kl u) <;> cases decide (kl (mul (inv u) (re l)) = q) <;> simp
    rw [si_congr (fun m hm => h4 m (List.mem_range.mp hm)), si_swap]
    refine si_congr fun u hu => ?_
    have h7 := si_one (fun m => ib (decide (kl (mul (inv u) (re l)) = q)) * kc_a G mul inv kl re i j m) (kl u) List.nodup_range (List.mem_range.mpr (kc_lt h hu))
    rw [kc_a_z h hu] at h7
    exact h7
  rw [e1, e2]
  -- both count the pairs x, y
  have e3 : ∀ u, u ∈ G → ib (decide (kl (mul (inv u) (re l)) = q)) * (kc_n G mul inv kl i j u : Int) = si (fun x => ib (decide (kl x = i)) * (ib (decide (kl (mul (inv x) u) = j)) * ib (decide (kl (mul (inv u) (re l)) = q)))) G := by
    intro u _
    unfold kc_n
    rw [← si_count, ← si_mul]
    refine si_congr fun x _ => ?_
    unfold ib
    cases decide (kl x = i) <;> cases decide (kl (mul (inv x) u) = j) <;> cases decide (kl (mul (inv u) (re l)) = q) <;> rfl
  rw [si_congr e3, si_swap]
  refine si_congr fun x hx => ?_
  rw [si_mul]
  congr 1
  rw [← si_bij hG (fun u => ib (decide (kl (mul (inv x) u) = j)) * ib (decide (kl (mul (inv u) (re l)) = q))) (fun y => mul x y) (fun y hy => gg_m hG hx hy) (fun y hy y' hy' e => gg_lc hG hx hy hy' e)]
  refine si_congr fun y hy => ?_
  have h8 : mul (inv x) (mul x y) = y := by rw [← gg_as hG, gg_li hG hx, gg_l1 hG hy]
  have h9 : inv (mul x y) = mul (inv y) (inv x) := by
    refine (gg_iu hG (gg_m hG hx hy) (gg_m hG (gg_i hG hy) (gg_i hG hx)) ?_).symm
    rw [gg_as hG, ← gg_as hG y, gg_ri hG hy, gg_l1 hG (gg_i hG hx), gg_ri hG hx]
  rw [h8, h9, gg_as hG]
end KC
end
section
-- pure: the p-th power of a class sum is that class sum, modulo p (p prime, x^p = x for every element)
def tp_pr (mul : Nat → Nat → Nat) (one : Nat) : List Nat → Nat
  | [] => one
  | g :: t => mul g (tp_pr mul one t)
section FR
variable {G : List Nat} {mul : Nat → Nat → Nat} {one : Nat} {inv : Nat → Nat} {k : Nat} {kl re : Nat → Nat}
theorem tp_prm (hG : gg_ok G mul one inv) : ∀ t : List Nat, (∀ g, g ∈ t → g ∈ G) → tp_pr mul one t ∈ G
  | [], _ => gg_1 hG
  | g :: t, h => gg_m hG (h g List.mem_cons_self) (tp_prm hG t (fun x hx => h x (List.mem_cons_of_mem _ hx)))
theorem tp_pr1 (hG : gg_ok G mul one inv) {g : Nat} (hg : g ∈ G) : ∀ t : List Nat, (∀ g, g ∈ t → g ∈ G) → tp_pr mul one (t ++ [g]) = mul (tp_pr mul one t) g
  | [], _ => by
    show mul g one = mul one g
    rw [gg_r1 hG hg, gg_l1 hG hg]
  | x :: t, h => by
    show mul x (tp_pr mul one (t ++ [g])) = mul (mul x (tp_pr mul one t)) g
    rw [tp_pr1 hG hg t (fun y hy => h y (List.mem_cons_of_mem _ hy)), gg_as hG]
theorem tp_prr (h : kc_ok G mul one inv k kl re) : ∀ t : List Nat, (∀ g, g ∈ t → g ∈ G) → kl (tp_pr mul one (tp_rot t)) = kl (tp_pr mul one t)
  | [], _ => rfl
  | g :: t, ht => by
    have hG := kc_g h
    have hg := ht g List.mem_cons_self
    have ht2 : ∀ x, x ∈ t → x ∈ G := fun x hx => ht x (List.mem_cons_of_mem _ hx)
    show kl (tp_pr mul one (t ++ [g])) = kl (mul g (tp_pr mul one t))
    rw [tp_pr1 hG hg t ht2]
    exact kc_comm h (tp_prm hG t ht2) hg
theorem tp_prc (hG : gg_ok G mul one inv) {g : Nat} (hg : g ∈ G) : ∀ m : Nat, tp_pr mul one (List.replicate m g) = gg_pw mul one g m
  | 0 => rfl
  | m + 1 => by
    rw [List.replicate_succ, gg_ps hG hg m]
    show mul g (tp_pr mul one (List.replicate m g)) = _
    rw [tp_prc hG hg m]
theorem tp_cong (hG : gg_ok G mul one inv) {C : List Nat} (hC : C.Nodup) (hCG : ∀ g, g ∈ C → g ∈ G) {p : Nat} (hp1 : 1 < p) (hp : ∀ m, m ∣ p → m = 1 ∨ m = p) (P : Nat → Bool)
    (hP : ∀ t : List Nat, (∀ g, g ∈ t → g ∈ G) → P (tp_pr mul one (tp_rot t)) = P (tp_pr mul one t)) :
    (p : Int) ∣ ((tp_all C p).countP (fun t => P (tp_pr mul one t)) : Int) - (C.countP (fun g => P (gg_pw mul one g p)) : Int) := by
  have h1 := tp_cong0 hC hp1 hp (fun t => P (tp_pr mul one t)) (fun t ht => hP t (fun g hg => hCG g (ht g hg)))
  have h2 : C.countP (fun g => P (tp_pr mul one (List.replicate p g))) = C.countP (fun g => P (gg_pw mul one g p)) := List.countP_congr fun g hg => by rw [tp_prc hG (hCG g hg)]
  rw [h2] at h1
  exact h1
-- counting the tuples with a product
def tp_N (mul : Nat → Nat → Nat) (one : Nat) (C : List Nat) (m z : Nat) : Int := si (fun t => ib (decide (tp_pr mul one t = z))) (tp_all C m)
theorem tp_Ns (hG : gg_ok G mul one inv) {C : List Nat} (hCG : ∀ g, g ∈ C → g ∈ G) (m : Nat) {z : Nat} (hz : z ∈ G) : tp_N mul one C (m + 1) z = si (fun g => tp_N mul one C m (mul (inv g) z)) C := by
  unfold tp_N
  show si _ ((tp_all C m).flatMap (fun t => C.map (fun g => g :: t))) = _
  rw [si_flat]
  have h1 : ∀ t, t ∈ tp_all C m → si (fun t => ib (decide (tp_pr mul one t = z))) (C.map (fun g => g :: t)) = si (fun g => ib (decide (tp_pr mul one t = mul (inv g) z))) C := by
    intro t ht
    rw [si_map]
    refine si_congr fun g hg => ?_
    have hgG := hCG g hg
    have htG : tp_pr mul one t ∈ G := tp_prm hG t (fun x hx => hCG x (((tp_mem C m t).mp ht).2 x hx))
    congr 1
    apply decide_eq_decide.mpr
    show mul g (tp_pr mul one t) = z ↔ _
    constructor
    · intro e; rw [← e, ← gg_as hG, gg_li hG hgG, gg_l1 hG htG]
    · intro e; rw [e, ← gg_as hG, gg_ri hG hgG, gg_l1 hG hz]
  rw [si_congr h1, si_swap]
theorem tp_N0 (z : Nat) (C : List Nat) : tp_N mul one C 0 z = ib (decide (one = z)) := by
  unfold tp_N
  show ib (decide (tp_pr mul one [] = z)) + 0 = _
  rw [Int.add_zero]
  rfl
-- p does not divide the size of the group
theorem tp_NG (hG : gg_ok G mul one inv) : ∀ m : Nat, ∃ c : Int, ∀ z, z ∈ G → tp_N mul one G (m + 1) z = c
  | 0 => by
    refine ⟨1, fun z hz => ?_⟩
    rw [tp_Ns hG (fun g hg => hg) 0 hz]
    have h1 : si (fun g => tp_N mul one G 0 (mul (inv g) z)) G = si (fun g => ib (decide (g = z)) * 1) G := by
      refine si_congr fun g hg => ?_
      rw [tp_N0, Int.mul_one]
      congr 1
      apply decide_eq_decide.mpr
      constructor
      · intro e; rw [← gg_r1 hG hg, e, ← gg_as hG, gg_ri hG hg, gg_l1 hG hz]
      · intro e; rw [← e, gg_li hG hg]
    rw [h1]
    exact si_one (fun _ => (1 : Int)) z (gg_nd hG) hz
  | m + 1 => by
    obtain ⟨c, hc⟩ := tp_NG hG m
    refine ⟨G.length * c, fun z hz => ?_⟩
    rw [tp_Ns hG (fun g hg => hg) (m + 1) hz, si_congr (fun g hg => hc _ (gg_m hG (gg_i hG hg) hz)), si_const]
theorem gg_np (hG : gg_ok G mul one inv) {p : Nat} (hp1 : 1 < p) (hp : ∀ m, m ∣ p → m = 1 ∨ m = p) (hpw : ∀ x, x ∈ G → gg_pw mul one x p = x) : ¬ p ∣ G.length := by
  intro hd
  have h1 := tp_cong hG (gg_nd hG) (fun g hg => hg) hp1 hp (fun z => decide (z = one)) (fun t ht => by
    apply decide_eq_decide.mpr
    cases t with
    | nil => rfl
    | cons g t =>
      have hg := ht g List.mem_cons_self
      have ht2 : ∀ x, x ∈ t → x ∈ G := fun x hx => ht x (List.mem_cons_of_mem _ hx)
      have htG := tp_prm hG t ht2
      show tp_pr mul one (t ++ [g]) = one ↔ mul g (tp_pr mul one t) = one
      rw [tp_pr1 hG hg t ht2]
      constructor
      · intro e
        have := gg_iu hG htG hg e
        rw [this, gg_li hG htG]
      · intro e
        have := gg_iu hG hg htG e
        rw [this, gg_li hG hg])
  have h2 : G.countP (fun g => decide (gg_pw mul one g p = one)) = 1 := by
    have h3 : G.countP (fun g => decide (gg_pw mul one g p = one)) = G.countP (fun g => decide (g = one)) := List.countP_congr fun g hg => by rw [hpw g hg]
    rw [h3]
    have h4 := si_count (fun g => decide (g = one)) G
    have h5 := si_one (fun _ => (1 : Int)) one (gg_nd hG) (gg_1 hG)
    simp only [Int.mul_one] at h5
    rw [h5] at h4
    omega
  rw [h2, ← si_count] at h1
  obtain ⟨c, hc⟩ := tp_NG hG (p - 2)
  have h6 : tp_N mul one G p one = G.length * c := by
    rw [show p = (p - 2 + 1) + 1 by omega, tp_Ns hG (fun g hg => hg) (p - 2 + 1) (gg_1 hG), si_congr (fun g hg => hc _ (gg_m hG (gg_i hG hg) (gg_1 hG))), si_const]
  unfold tp_N at h6
  rw [h6] at h1
  obtain ⟨d, hd⟩ := hd
  rw [hd, Int.natCast_mul, Int.mul_assoc] at h1
  have h7 : (p : Int) ∣ (p : Int) * ((d : Int) * c) := Int.dvd_mul_right _ _
  have h8 : (p : Int) ∣ 1 := by
    have h9 := Int.dvd_sub h7 h1
    have h10 : (p : Int) * ((d : Int) * c) - ((p : Int) * ((d : Int) * c) - ((1 : Nat) : Int)) = 1 := by omega
    rw [h10] at h9
    exact h9
  have h11 : (p : Int) ≤ 1 := Int.le_of_dvd (by decide) h8
  omega
end FR
end
section
-- pure: sizes of classes; the operator of a class; its p-th power is itself, modulo p
def kc_s (G : List Nat) (kl : Nat → Nat) (i : Nat) : Nat := G.countP (fun x => decide (kl x = i))
def kc_B (G : List Nat) (mul : Nat → Nat → Nat) (inv kl re : Nat → Nat) (k i : Nat) : Nat → Nat → Int
  | 0, l => ib (decide (l = 0))
  | m + 1, l => si (fun j => kc_a G mul inv kl re i j l * kc_B G mul inv kl re k i m j) (List.range k)
def kc_op (G : List Nat) (mul : Nat → Nat → Nat) (inv kl re : Nat → Nat) (k i : Nat) (v : Nat → Int) (q : Nat) : Int := si (fun l => kc_a G mul inv kl re i q l * v l) (List.range k)
section PW
variable {G : List Nat} {mul : Nat → Nat → Nat} {one : Nat} {inv : Nat → Nat} {k : Nat} {kl re : Nat → Nat}
theorem kc_stab (h : kc_ok G mul one inv k kl re) {l : Nat} (hl : l < k) : kc_s G kl l * G.countP (fun g => decide (mul g (re l) = mul (re l) g)) = G.length := by
  have hG := kc_g h
  have hx := kc_re h hl
  have h1 : ∀ y, y ∈ G → kl y = l → G.countP (fun g => decide (mul g y = mul (re l) g)) = G.countP (fun g => decide (mul g (re l) = mul (re l) g)) := by
    intro y hy hyl
    obtain ⟨c, hc, e⟩ := (kc_iff h hx hy).mp (by rw [kc_kr h hl, hyl])
    refine (gg_cnt hG (fun g => mul g c) (fun g hg => gg_m hG hg hc) (fun a ha b hb e9 => gg_rc hG hc ha hb e9) (fun g hg => ?_)).symm
    apply decide_eq_decide.mpr
    show mul g (re l) = mul (re l) g ↔ mul (mul g c) y = mul (re l) (mul g c)
    rw [gg_as hG g c y, e, ← gg_as hG g, ← gg_as hG (re l)]
    constructor
    · intro e9; rw [e9]
    · intro e9; exact gg_rc hG hc (gg_m hG hg hx) (gg_m hG hx hg) e9
  have h2 : si (fun y => ib (decide (kl y = l)) * si (fun g => ib (decide (mul g y = mul (re l) g))) G) G = (kc_s G kl l : Int) * (G.countP (fun g => decide (mul g (re l) = mul (re l) g)) : Int) := by
    unfold kc_s
    rw [← si_count (fun x => decide (kl x = l)) G, ← si_mulr]
    refine si_congr fun y hy => ?_
    by_cases e : kl y = l
    · rw [si_count, h1 y hy e]
    · simp [ib, e]
  have h3 : si (fun y => ib (decide (kl y = l)) * si (fun g => ib (decide (mul g y = mul (re l) g))) G) G = si (fun g => si (fun y => ib (decide (y = mul (mul (inv g) (re l)) g)) * 1) G) G := by
    rw [← si_swap]
    refine si_congr fun y hy => ?_
    rw [← si_mul]
    refine si_congr fun g hg => ?_
    rw [Int.mul_one]
    have h4 : mul g y = mul (re l) g ↔ y = mul (mul (inv g) (re l)) g := by
      constructor
      · intro e; rw [gg_as hG, ← e, ← gg_as hG, gg_li hG hg, gg_l1 hG hy]
      · intro e; rw [e, ← gg_as hG, ← gg_as hG, gg_ri hG hg, gg_l1 hG hx]
    by_cases e : y = mul (mul (inv g) (re l)) g
    · have e2 : kl y = l := by rw [e, kc_conj h hx hg, kc_kr h hl]
      simp [ib, h4.mpr e, e2, ← e]
    · have e3 : ¬ mul g y = mul (re l) g := fun e9 => e (h4.mp e9)
      simp [ib, e, e3]
  rw [h3] at h2
  have h5 : si (fun g => si (fun y => ib (decide (y = mul (mul (inv g) (re l)) g)) * 1) G) G = si (fun _ => (1 : Int)) G := si_congr fun g hg => si_one (fun _ => (1 : Int)) _ (gg_nd hG) (gg_m hG (gg_m hG (gg_i hG hg) hx) hg)
  rw [h5, si_const, Int.mul_one, ← Int.natCast_mul] at h2
  exact (Int.ofNat.inj h2).symm
theorem kc_one (h : kc_ok G mul one inv k kl re) {x : Nat} (hx : x ∈ G) : kl x = 0 ↔ x = one := by
  have hG := kc_g h
  have h0 : kl one = 0 := h.2.2.2.2.1
  constructor
  · intro e
    obtain ⟨g, hg, e2⟩ := (kc_iff h hx (gg_1 hG)).mp (e.trans h0.symm)
    rw [gg_r1 hG hg] at e2
    exact gg_rc hG hg hx (gg_1 hG) (by rw [← e2, gg_l1 hG hg])
  · rintro rfl; exact h0
theorem fr_B (h : kc_ok G mul one inv k kl re) (i : Nat) : ∀ (m z : Nat), z ∈ G → tp_N mul one (G.filter (fun x => decide (kl x = i))) m z = kc_B G mul inv kl re k i m (kl z)
  | 0, z, hz => by
    rw [tp_N0]
    show _ = ib (decide (kl z = 0))
    congr 1
    apply decide_eq_decide.mpr
    rw [kc_one h hz]
    exact eq_comm
  | m + 1, z, hz => by
    have hG := kc_g h
    rw [tp_Ns hG (fun g hg => (List.mem_filter.mp hg).1) m hz, si_filter]
    have h1 : si (fun x => ib (decide (kl x = i)) * tp_N mul one (G.filter (fun x => decide (kl x = i))) m (mul (inv x) z)) G = si (fun x => ib (decide (kl x = i)) * kc_B G mul inv kl re k i m (kl (mul (inv x) z))) G := si_congr fun x hx => by rw [fr_B h i m _ (gg_m hG (gg_i hG hx) hz)]
    rw [h1, kc_sum h hz i]
    show _ = si (fun j => kc_a G mul inv kl re i j (kl z) * kc_B G mul inv kl re k i m j) (List.range k)
    refine si_congr fun j _ => ?_
    rw [kc_a_z h hz]
theorem fr_cnt (h : kc_ok G mul one inv k kl re) (i p l : Nat) : ((tp_all (G.filter (fun x => decide (kl x = i))) p).countP (fun t => decide (kl (tp_pr mul one t) = l)) : Int) = (kc_s G kl l : Int) * kc_B G mul inv kl re k i p l := by
  have hG := kc_g h
  have hin : ∀ t, t ∈ tp_all (G.filter (fun x => decide (kl x = i))) p → tp_pr mul one t ∈ G := fun t ht => tp_prm hG t fun g hg => (List.mem_filter.mp (((tp_mem _ p t).mp ht).2 g hg)).1
  rw [← si_count]
  have h1 : si (fun t => ib (decide (kl (tp_pr mul one t) = l))) (tp_all (G.filter (fun x => decide (kl x = i))) p) = si (fun t => si (fun z => ib (decide (z = tp_pr mul one t)) * ib (decide (kl z = l))) G) (tp_all (G.filter (fun x => decide (kl x = i))) p) := si_congr fun t ht => (si_one (fun z => ib (decide (kl z = l))) (tp_pr mul one t) (gg_nd hG) (hin t ht)).symm
  rw [h1, si_swap]
  unfold kc_s
  rw [← si_count (fun x => decide (kl x = l)) G, ← si_mulr]
  refine si_congr fun z hz => ?_
  by_cases e : kl z = l
  · have h2 := fr_B h i p z hz
    rw [e] at h2
    rw [← h2]
    unfold tp_N
    rw [si_mulr]
    rw [Int.mul_comm]
    congr 1
    refine si_congr fun t _ => ?_
    congr 1
    apply decide_eq_decide.mpr
    exact eq_comm
  · have h3 : ib (decide (kl z = l)) = 0 := by simp [ib, e]
    rw [h3, Int.zero_mul]
    exact si_z fun t _ => by rw [Int.mul_zero]
theorem nt_euclid {p : Nat} (hp : ∀ m, m ∣ p → m = 1 ∨ m = p) {a : Nat} (ha : ¬ p ∣ a) {b : Int} (h : (p : Int) ∣ (a : Int) * b) : (p : Int) ∣ b := by
  have hc : Nat.gcd p a = 1 := by
    rcases hp _ (Nat.gcd_dvd_left p a) with e | e
    · exact e
    · exact absurd (e ▸ Nat.gcd_dvd_right p a) ha
  have h1 : p ∣ a * b.natAbs := by
    have := Int.natAbs_dvd_natAbs.mpr h
    rwa [Int.natAbs_mul, Int.natAbs_natCast, Int.natAbs_natCast] at this
  have h2 : p ∣ b.natAbs := Nat.Coprime.dvd_of_dvd_mul_left hc h1
  exact Int.dvd_natAbs.mp (Int.ofNat_dvd.mpr h2)
theorem fr_Bp (h : kc_ok G mul one inv k kl re) {p : Nat} (hp1 : 1 < p) (hp : ∀ m, m ∣ p → m = 1 ∨ m = p) (hpw : ∀ x, x ∈ G → gg_pw mul one x p = x) {i l : Nat} (hl : l < k) : (p : Int) ∣ kc_B G mul inv kl re k i p l - ib (decide (l = i)) := by
  have hG := kc_g h
  have hn := gg_np hG hp1 hp hpw
  have hs : ¬ p ∣ kc_s G kl l := fun hd => hn (by rw [← kc_stab h hl]; exact Nat.dvd_trans hd (Nat.dvd_mul_right _ _))
  refine nt_euclid hp hs ?_
  have h1 := tp_cong hG (C := G.filter (fun x => decide (kl x = i))) ((gg_nd hG).sublist List.filter_sublist) (fun g hg => (List.mem_filter.mp hg).1) hp1 hp (fun z => decide (kl z = l)) (fun t ht => by rw [tp_prr h t ht])
  rw [fr_cnt h] at h1
  have h2 : ((G.filter (fun x => decide (kl x = i))).countP (fun g => decide (kl (gg_pw mul one g p) = l)) : Int) = (kc_s G kl l : Int) * ib (decide (l = i)) := by
    have h3 : (G.filter (fun x => decide (kl x = i))).countP (fun g => decide (kl (gg_pw mul one g p) = l)) = (G.filter (fun x => decide (kl x = i))).countP (fun g => decide (kl g = l)) := List.countP_congr fun g hg => by rw [hpw g (List.mem_filter.mp hg).1]
    rw [h3, List.countP_filter]
    unfold kc_s
    by_cases e : l = i
    · subst e
      simp [ib]
    · have h4 : List.countP (fun a => decide (kl a = l) && decide (kl a = i)) G = 0 := by
        rw [List.countP_eq_zero]
        intro a _
        simp
        intro e1 e2
        exact e (e1.symm.trans e2)
      rw [h4]
      simp [ib, e]
  rw [h2, ← Int.mul_sub] at h1
  exact h1
-- the operators
theorem kc_a0 (h : kc_ok G mul one inv k kl re) {q l : Nat} (hl : l < k) : kc_a G mul inv kl re 0 q l = ib (decide (l = q)) := by
  have hG := kc_g h
  unfold kc_a kc_n
  rw [← si_count]
  have h1 : ∀ x, x ∈ G → ib (decide (kl x = 0) && decide (kl (mul (inv x) (re l)) = q)) = ib (decide (x = one)) * ib (decide (l = q)) := by
    intro x hx
    by_cases e : x = one
    · subst e
      have e1 : inv x = x := (gg_iu hG hx hx (gg_l1 hG hx)).symm
      have e2 : kl x = 0 := h.2.2.2.2.1
      rw [e1, gg_l1 hG (kc_re h hl), kc_kr h hl]
      simp [ib, e2]
    · have e1 : ¬ kl x = 0 := fun e9 => e ((kc_one h hx).mp e9)
      simp [ib, e, e1]
  rw [si_congr h1]
  exact si_one (fun _ => ib (decide (l = q))) one (gg_nd hG) (gg_1 hG)
theorem kc_op0 (h : kc_ok G mul one inv k kl re) (v : Nat → Int) {q : Nat} (hq : q < k) : kc_op G mul inv kl re k 0 v q = v q := by
  unfold kc_op
  rw [si_congr (fun l hl => by rw [kc_a0 h (List.mem_range.mp hl)])]
  exact si_one v q List.nodup_range (List.mem_range.mpr hq)
theorem kc_opop (h : kc_ok G mul one inv k kl re) (i j : Nat) (v : Nat → Int) (q : Nat) : kc_op G mul inv kl re k i (kc_op G mul inv kl re k j v) q = si (fun m => kc_a G mul inv kl re j i m * kc_op G mul inv kl re k m v q) (List.range k) := by
  unfold kc_op
  have h1 : si (fun m => kc_a G mul inv kl re i q m * si (fun l => kc_a G mul inv kl re j m l * v l) (List.range k)) (List.range k) = si (fun m => si (fun l => kc_a G mul inv kl re j m l * kc_a G mul inv kl re i q m * v l) (List.range k)) (List.range k) := si_congr fun m _ => by
    rw [← si_mul]
    exact si_congr fun l _ => by rw [← Int.mul_assoc, Int.mul_comm (kc_a G mul inv kl re i q m)]
  have h2 : si (fun m => kc_a G mul inv kl re j i m * si (fun l => kc_a G mul inv kl re m q l * v l) (List.range k)) (List.range k) = si (fun m => si (fun l => kc_a G mul inv kl re j i m * kc_a G mul inv kl re m q l * v l) (List.range k)) (List.range k) := si_congr fun m _ => by
    rw [← si_mul]
    exact si_congr fun l _ => by rw [← Int.mul_assoc]
  rw [h1, h2, si_swap, si_swap (fun m l => kc_a G mul inv kl re j i m * kc_a G mul inv kl re m q l * v l)]
  refine si_congr fun l hl => ?_
  rw [si_mulr, si_mulr, kc_assoc h (List.mem_range.mp hl) j i q]
theorem kc_op_comm (h : kc_ok G mul one inv k kl re) (i j : Nat) (v : Nat → Int) (q : Nat) : kc_op G mul inv kl re k i (kc_op G mul inv kl re k j v) q = kc_op G mul inv kl re k j (kc_op G mul inv kl re k i v) q := by
  rw [kc_opop h, kc_opop h]
  exact si_congr fun m hm => by rw [kc_a_comm h (List.mem_range.mp hm)]
theorem kc_op_it (h : kc_ok G mul one inv k kl re) (i : Nat) (v : Nat → Int) : ∀ (m q : Nat), q < k → fa_it (kc_op G mul inv kl re k i) m v q = si (fun l => kc_B G mul inv kl re k i m l * kc_op G mul inv kl re k l v q) (List.range k)
  | 0, q, hq => by
    show v q = si (fun l => ib (decide (l = 0)) * kc_op G mul inv kl re k l v q) (List.range k)
    have h0 : 0 < k := h.2.2.2.2.2
    rw [si_one (fun l => kc_op G mul inv kl re k l v q) 0 List.nodup_range (List.mem_range.mpr h0), kc_op0 h v hq]
  | m + 1, q, hq => by
    rw [fa_succ]
    have h1 : kc_op G mul inv kl re k i (fa_it (kc_op G mul inv kl re k i) m v) q = si (fun r => si (fun l => kc_B G mul inv kl re k i m l * (kc_a G mul inv kl re i q r * kc_op G mul inv kl re k l v r)) (List.range k)) (List.range k) := by
      unfold kc_op
      refine si_congr fun r hr => ?_
      have h2 := kc_op_it h i v m r (List.mem_range.mp hr)
      unfold kc_op at h2
      rw [h2, ← si_mul]
      exact si_congr fun l _ => by rw [← Int.mul_assoc, ← Int.mul_assoc, Int.mul_comm (kc_a G mul inv kl re i q r)]
    rw [h1, si_swap]
    have h3 : ∀ l, l ∈ List.range k → si (fun r => kc_B G mul inv kl re k i m l * (kc_a G mul inv kl re i q r * kc_op G mul inv kl re k l v r)) (List.range k) = si (fun n => kc_a G mul inv kl re i l n * kc_B G mul inv kl re k i m l * kc_op G mul inv kl re k n v q) (List.range k) := by
      intro l _
      rw [si_mul]
      have h4 := kc_opop h i l v q
      have h5 : kc_op G mul inv kl re k i (kc_op G mul inv kl re k l v) q = si (fun r => kc_a G mul inv kl re i q r * kc_op G mul inv kl re k l v r) (List.range k) := rfl
      rw [← h5, h4, ← si_mul]
      refine si_congr fun n hn => ?_
      rw [kc_a_comm h (List.mem_range.mp hn), ← Int.mul_assoc, Int.mul_comm (kc_B G mul inv kl re k i m l)]
    rw [si_congr h3, si_swap]
    refine si_congr fun n _ => ?_
    rw [si_mulr]
    rfl
theorem fr_op (h : kc_ok G mul one inv k kl re) {p : Nat} (hp1 : 1 < p) (hp : ∀ m, m ∣ p → m = 1 ∨ m = p) (hpw : ∀ x, x ∈ G → gg_pw mul one x p = x) {i : Nat} (hi : i < k) (v : Nat → Int) {q : Nat} (hq : q < k) : (p : Int) ∣ fa_it (kc_op G mul inv kl re k i) p v q - kc_op G mul inv kl re k i v q := by
  rw [kc_op_it h i v p q hq]
  have h1 : kc_op G mul inv kl re k i v q = si (fun l => ib (decide (l = i)) * kc_op G mul inv kl re k l v q) (List.range k) := (si_one (fun l => kc_op G mul inv kl re k l v q) i List.nodup_range (List.mem_range.mpr hi)).symm
  rw [h1]
  refine si_cong fun l hl => ?_
  rw [← Int.sub_mul]
  exact Int.dvd_mul_of_dvd_left (fr_Bp h hp1 hp hpw (List.mem_range.mp hl))
end PW
end
section
-- pure: more unknowns than equations, modulo a prime
theorem nt_mul {p : Nat} (hp : ∀ m, m ∣ p → m = 1 ∨ m = p) {a b : Int} (h : (p : Int) ∣ a * b) : (p : Int) ∣ a ∨ (p : Int) ∣ b := by
  by_cases ha : (p : Int) ∣ a
  · exact Or.inl ha
  · right
    have h1 : ¬ p ∣ a.natAbs := fun h9 => ha (Int.dvd_natAbs.mp (Int.ofNat_dvd.mpr h9))
    refine nt_euclid hp h1 ?_
    rcases Int.natAbs_eq a with e | e
    · rw [← e]; exact h
    · have h2 : (a.natAbs : Int) * b = -(a * b) := by
        have h3 : (a.natAbs : Int) = -a := by omega
        rw [h3, Int.neg_mul]
      rw [h2]
      exact (Int.dvd_neg).mpr h
theorem ln_hs {p : Nat} (hp1 : 1 < p) (hp : ∀ m, m ∣ p → m = 1 ∨ m = p) : ∀ (m : Nat) (S : List Nat) (c : Nat → Nat → Int), S.Nodup → m < S.length → ∃ x : Nat → Int, (∃ s, s ∈ S ∧ ¬ (p : Int) ∣ x s) ∧ ∀ r, r < m → (p : Int) ∣ si (fun s => c r s * x s) S := by
  intro m
  induction m with
  | zero =>
    intro S c _ hS
    cases S with
    | nil => simp at hS
    | cons s S =>
      refine ⟨fun _ => 1, ⟨s, List.mem_cons_self, fun h => ?_⟩, fun r hr => absurd hr (Nat.not_lt_zero r)⟩
      have h9 : (p : Int) ∣ 1 := h
      have := Int.le_of_dvd (by decide) h9
      omega
  | succ m ih =>
    intro S c hnd hS
    by_cases hall : ∀ s, s ∈ S → (p : Int) ∣ c m s
    · obtain ⟨x, h1, h2⟩ := ih S c hnd (by omega)
      refine ⟨x, h1, fun r hr => ?_⟩
      by_cases e : r = m
      · subst e
        exact si_dvd fun s hs => Int.dvd_mul_of_dvd_left (hall s hs)
      · exact h2 r (by omega)
    · have h0 : ∃ s0, s0 ∈ S ∧ ¬ (p : Int) ∣ c m s0 := Classical.byContradiction fun hn => hall fun s hs => Classical.byContradiction fun h9 => hn ⟨s, hs, h9⟩
      obtain ⟨s0, hs0, hc0⟩ := h0
      have hnd' : (S.erase s0).Nodup := hnd.erase s0
      have hlen : (S.erase s0).length = S.length - 1 := by rw [List.length_erase]; simp [hs0]
      obtain ⟨x, ⟨s1, hs1, hx1⟩, h2⟩ := ih (S.erase s0) (fun r s => c r s * c m s0 - c r s0 * c m s) hnd' (by omega)
      have hsum : ∀ f : Nat → Int, si f S = f s0 + si f (S.erase s0) := fun f => by
        rw [si_perm f (List.perm_cons_erase hs0)]; rfl
      have hne : ∀ s, s ∈ S.erase s0 → s ≠ s0 := fun s hs => (hnd.mem_erase_iff.mp hs).1
      refine ⟨fun s => if s = s0 then - si (fun t => c m t * x t) (S.erase s0) else x s * c m s0, ⟨s1, List.mem_of_mem_erase hs1, ?_⟩, fun r hr => ?_⟩
      · show ¬ (p : Int) ∣ (if s1 = s0 then _ else _)
        rw [if_neg (hne s1 hs1)]
        intro h9
        rcases nt_mul hp h9 with h9 | h9
        · exact hx1 h9
        · exact hc0 h9
      · rw [hsum]
        have h3 : si (fun s => c r s * (if s = s0 then - si (fun t => c m t * x t) (S.erase s0) else x s * c m s0)) (S.erase s0) = si (fun s => c r s * (x s * c m s0)) (S.erase s0) := si_congr fun s hs => by rw [if_neg (hne s hs)]
        rw [h3]
        show (p : Int) ∣ c r s0 * (if s0 = s0 then _ else _) + _
        rw [if_pos rfl]
        by_cases e : r = m
        · subst e
          have h4 : si (fun s => c r s * (x s * c r s0)) (S.erase s0) = c r s0 * si (fun t => c r t * x t) (S.erase s0) := by
            rw [← si_mul]
            exact si_congr fun s _ => by rw [← Int.mul_assoc, Int.mul_comm (c r s0)]
          rw [h4, Int.mul_neg, Int.add_left_neg]
          exact Int.dvd_zero _
        · have h5 := h2 r (by omega)
          have h6 : c r s0 * - si (fun t => c m t * x t) (S.erase s0) + si (fun s => c r s * (x s * c m s0)) (S.erase s0) = si (fun s => (c r s * c m s0 - c r s0 * c m s) * x s) (S.erase s0) := by
            rw [Int.mul_neg, ← si_mul, Int.add_comm, ← Int.sub_eq_add_neg, ← si_sub]
            refine si_congr fun s _ => ?_
            rw [Int.sub_mul, Int.mul_assoc, Int.mul_assoc, Int.mul_comm (x s)]
          rw [h6]
          exact h5
-- Bezout, inverses
theorem nt_bez : ∀ (a b : Nat), ∃ u v : Int, u * (a : Int) + v * (b : Int) = (Nat.gcd a b : Int) := by
  intro a b
  induction a, b using Nat.gcd.induction with
  | H0 n => exact ⟨0, 1, by simp⟩
  | H1 m n hm ih =>
    obtain ⟨u, v, h⟩ := ih
    refine ⟨v - u * ((n / m : Nat) : Int), u, ?_⟩
    rw [Nat.gcd_rec, ← h]
    have h3 : (n : Int) = ((n % m : Nat) : Int) + (m : Int) * ((n / m : Nat) : Int) := by
      rw [← Int.natCast_mul, ← Int.natCast_add, Nat.mod_add_div]
    rw [h3, Int.sub_mul, Int.mul_add]
    have h4 : u * ((n / m : Nat) : Int) * (m : Int) = u * ((m : Int) * ((n / m : Nat) : Int)) := by rw [Int.mul_assoc, Int.mul_comm ((n / m : Nat) : Int)]
    rw [h4]
    omega
theorem nt_inv {p : Nat} (hp : ∀ m, m ∣ p → m = 1 ∨ m = p) {a : Int} (ha : ¬ (p : Int) ∣ a) : ∃ b : Int, (p : Int) ∣ a * b - 1 := by
  have hc : Nat.gcd p a.natAbs = 1 := by
    rcases hp _ (Nat.gcd_dvd_left p a.natAbs) with e | e
    · exact e
    · exact absurd (Int.dvd_natAbs.mp (Int.ofNat_dvd.mpr (e ▸ Nat.gcd_dvd_right p a.natAbs))) ha
  obtain ⟨u, v, h⟩ := nt_bez p a.natAbs
  rw [hc] at h
  rcases Int.natAbs_eq a with e | e
  · refine ⟨v, ⟨-u, ?_⟩⟩
    rw [e, Int.mul_comm, Int.mul_neg, Int.mul_comm (p : Int)]
    omega
  · refine ⟨-v, ⟨-u, ?_⟩⟩
    rw [e, Int.neg_mul_neg, Int.mul_comm, Int.mul_neg, Int.mul_comm (p : Int)]
    omega
-- Fermat
theorem tp_len {α : Type} (C : List α) : ∀ m : Nat, (tp_all C m).length = C.length ^ m
  | 0 => rfl
  | m + 1 => by
    show ((tp_all C m).flatMap (fun t => C.map (fun g => g :: t))).length = _
    rw [List.length_flatMap]
    have h1 : ∀ T : List (List α), (T.map (fun t => (C.map (fun g => g :: t)).length)).sum = T.length * C.length := by
      intro T
      induction T with
      | nil => simp
      | cons t T ih => rw [List.map_cons, List.sum_cons, ih, List.length_map, List.length_cons, Nat.add_mul, Nat.one_mul, Nat.add_comm]
    rw [h1, tp_len C m, Nat.pow_succ]
theorem nt_fermat {p : Nat} (hp1 : 1 < p) (hp : ∀ m, m ∣ p → m = 1 ∨ m = p) (a : Nat) : (p : Int) ∣ (a : Int) ^ p - (a : Int) := by
  have h1 := tp_cong0 (C := List.range a) List.nodup_range hp1 hp (fun _ => true) (fun _ _ => rfl)
  rw [List.countP_true, List.countP_true, tp_len, List.length_range, Int.natCast_pow] at h1
  exact h1
end
section
-- pure: a matrix with a^p = a modulo p: every vector is a sum of eigenvectors
def mv (a : Nat → Nat → Int) (d : Nat) (x : Nat → Int) (t : Nat) : Int := si (fun j => a t j * x j) (List.range d)
def vq (p : Nat) (d : Nat) (u v : Nat → Int) : Prop := ∀ t, t < d → (p : Int) ∣ u t - v t
theorem vq_rfl {p d : Nat} (u : Nat → Int) : vq p d u u := fun t _ => by rw [Int.sub_self]; exact Int.dvd_zero _
theorem vq_symm {p d : Nat} {u v : Nat → Int} (h : vq p d u v) : vq p d v u := fun t ht => by
  have h1 := Int.dvd_neg.mpr (h t ht)
  rw [Int.neg_sub] at h1
  exact h1
theorem vq_trans {p d : Nat} {u v w : Nat → Int} (h1 : vq p d u v) (h2 : vq p d v w) : vq p d u w := fun t ht => by
  have h3 := Int.dvd_add (h1 t ht) (h2 t ht)
  have h4 : u t - v t + (v t - w t) = u t - w t := by omega
  rw [h4] at h3
  exact h3
theorem vq_eq {p d : Nat} {u v : Nat → Int} (h : ∀ t, t < d → u t = v t) : vq p d u v := fun t ht => by rw [h t ht, Int.sub_self]; exact Int.dvd_zero _
theorem vq_add {p d : Nat} {u v u' v' : Nat → Int} (h1 : vq p d u v) (h2 : vq p d u' v') : vq p d (fun t => u t + u' t) (fun t => v t + v' t) := fun t ht => by
  have h3 := Int.dvd_add (h1 t ht) (h2 t ht)
  have h4 : u t - v t + (u' t - v' t) = u t + u' t - (v t + v' t) := by omega
  rw [h4] at h3
  exact h3
theorem vq_sub {p d : Nat} {u v u' v' : Nat → Int} (h1 : vq p d u v) (h2 : vq p d u' v') : vq p d (fun t => u t - u' t) (fun t => v t - v' t) := fun t ht => by
  have h3 := Int.dvd_sub (h1 t ht) (h2 t ht)
  have h4 : u t - v t - (u' t - v' t) = u t - u' t - (v t - v' t) := by omega
  rw [h4] at h3
  exact h3
theorem vq_mul {p d : Nat} {u v : Nat → Int} (c : Int) (h : vq p d u v) : vq p d (fun t => c * u t) (fun t => c * v t) := fun t ht => by
  show (p : Int) ∣ c * u t - c * v t
  rw [← Int.mul_sub]
  exact Int.dvd_mul_of_dvd_right (h t ht)
theorem vq_si {p d : Nat} {α : Type} {f g : α → Nat → Int} {S : List α} (h : ∀ s, s ∈ S → vq p d (f s) (g s)) : vq p d (fun t => si (fun s => f s t) S) (fun t => si (fun s => g s t) S) := fun t ht => si_cong fun s hs => h s hs t ht
theorem mv_cong {p d : Nat} (a : Nat → Nat → Int) {u v : Nat → Int} (h : vq p d u v) (e : Nat) : vq p e (mv a d u) (mv a d v) := fun t _ => si_cong fun j hj => by
  rw [← Int.mul_sub]
  exact Int.dvd_mul_of_dvd_right (h j (List.mem_range.mp hj))
theorem mv_si {α : Type} (a : Nat → Nat → Int) (d : Nat) (f : α → Nat → Int) (S : List α) (t : Nat) : mv a d (fun j => si (fun s => f s j) S) t = si (fun s => mv a d (f s) t) S := by
  unfold mv
  rw [← si_swap]
  exact si_congr fun j _ => (si_mul _ _ _).symm
theorem mv_add (a : Nat → Nat → Int) (d : Nat) (u v : Nat → Int) (t : Nat) : mv a d (fun j => u j + v j) t = mv a d u t + mv a d v t := by
  unfold mv
  rw [← si_add]
  exact si_congr fun j _ => Int.mul_add _ _ _
theorem mv_sub (a : Nat → Nat → Int) (d : Nat) (u v : Nat → Int) (t : Nat) : mv a d (fun j => u j - v j) t = mv a d u t - mv a d v t := by
  unfold mv
  rw [← si_sub]
  exact si_congr fun j _ => Int.mul_sub _ _ _
theorem mv_mul (a : Nat → Nat → Int) (d : Nat) (c : Int) (u : Nat → Int) (t : Nat) : mv a d (fun j => c * u j) t = c * mv a d u t := by
  unfold mv
  rw [← si_mul]
  exact si_congr fun j _ => by rw [← Int.mul_assoc, ← Int.mul_assoc, Int.mul_comm c]
-- a minus a number
def bv (a : Nat → Nat → Int) (d : Nat) (lam : Int) (x : Nat → Int) (t : Nat) : Int := mv a d x t - lam * x t
theorem bv_cong {p d : Nat} (a : Nat → Nat → Int) (lam : Int) {u v : Nat → Int} (h : vq p d u v) : vq p d (bv a d lam u) (bv a d lam v) := vq_sub (mv_cong a h d) (vq_mul lam h)
-- polynomials by their coefficients, lowest first
def pe (c : List Int) (x : Int) : Int := match c with
  | [] => 0
  | a :: c => a + x * pe c x
def pv (a : Nat → Nat → Int) (d : Nat) (c : List Int) (v : Nat → Int) : Nat → Int := match c with
  | [] => fun _ => 0
  | b :: c => fun t => b * v t + mv a d (pv a d c v) t
def pd (lam : Int) : List Int → Int × List Int
  | [] => (0, [])
  | [a] => (a, [])
  | a :: b :: c => (a + lam * (pd lam (b :: c)).1, (pd lam (b :: c)).1 :: (pd lam (b :: c)).2)
theorem pe_pd (lam x : Int) : ∀ c : List Int, pe c x = (pd lam c).1 + (x - lam) * pe (pd lam c).2 x
  | [] => by simp [pe, pd]
  | [a] => by simp [pe, pd]
  | a :: b :: c => by
    show a + x * pe (b :: c) x = a + lam * (pd lam (b :: c)).1 + (x - lam) * ((pd lam (b :: c)).1 + x * pe (pd lam (b :: c)).2 x)
    rw [pe_pd lam x (b :: c)]
    grind
theorem pv_pd (a : Nat → Nat → Int) (d : Nat) (lam : Int) (v : Nat → Int) : ∀ (c : List Int) (t : Nat), pv a d c v t = (pd lam c).1 * v t + bv a d lam (pv a d (pd lam c).2 v) t
  | [], t => by
    show 0 = 0 * v t + (mv a d (fun _ => 0) t - lam * 0)
    have h1 : mv a d (fun _ => 0) t = 0 := si_z fun j _ => Int.mul_zero _
    rw [h1]; simp
  | [b], t => by
    show b * v t + mv a d (fun _ => 0) t = b * v t + (mv a d (fun _ => 0) t - lam * 0)
    rw [Int.mul_zero, Int.sub_zero]
  | b :: b' :: c', t => by
    generalize hc : b' :: c' = c
    have hpd : pd lam (b :: c) = (b + lam * (pd lam c).1, (pd lam c).1 :: (pd lam c).2) := by rw [← hc]; rfl
    rw [hpd]
    show b * v t + mv a d (pv a d c v) t = (b + lam * (pd lam c).1) * v t + bv a d lam (fun t => (pd lam c).1 * v t + mv a d (pv a d (pd lam c).2 v) t) t
    have h1 : pv a d c v = fun t => (pd lam c).1 * v t + bv a d lam (pv a d (pd lam c).2 v) t := funext fun t => by rw [← hc]; exact pv_pd a d lam v (b' :: c') t
    rw [h1, mv_add, mv_mul]
    unfold bv
    rw [mv_add, mv_mul, mv_sub, mv_mul]
    grind
-- dividing by X, X - 1, .. one after the other
def pdn (c : List Int) : Nat → List Int
  | 0 => c
  | n + 1 => (pd (n : Int) (pdn c n)).2
def pmn : Nat → Int → Int
  | 0, _ => 1
  | n + 1, x => pmn n x * (x - (n : Int))
-- the operators a - m, .. , one after the other
def bvn (a : Nat → Nat → Int) (d : Nat) : Nat → (Nat → Int) → Nat → Int
  | 0, x => x
  | n + 1, x => bvn a d n (bv a d (n : Int) x)
theorem bvn_cong {p d : Nat} (a : Nat → Nat → Int) : ∀ (n : Nat) {u v : Nat → Int}, vq p d u v → vq p d (bvn a d n u) (bvn a d n v)
  | 0, _, _, h => h
  | n + 1, _, _, h => bvn_cong a n (bv_cong a n h)
theorem pd_last (lam : Int) : ∀ (c : List Int) (x y : Int), (pd lam (x :: (c ++ [y]))).2.getLast? = some y ∧ (pd lam (x :: (c ++ [y]))).2.length = c.length + 1
  | [], x, y => by simp [pd]
  | b :: c, x, y => by
    obtain ⟨h1, h2⟩ := pd_last lam c b y
    have hc : x :: (b :: c ++ [y]) = x :: b :: (c ++ [y]) := rfl
    rw [hc]
    have hpd : ∀ q : List Int, q ≠ [] → (pd lam (x :: b :: q)).2 = (pd lam (b :: q)).1 :: (pd lam (b :: q)).2 := fun q _ => rfl
    constructor
    · show ((pd lam (b :: (c ++ [y]))).1 :: (pd lam (b :: (c ++ [y]))).2).getLast? = some y
      rw [List.getLast?_cons, h1]; rfl
    · show ((pd lam (b :: (c ++ [y]))).1 :: (pd lam (b :: (c ++ [y]))).2).length = _
      rw [List.length_cons, h2]; rfl
theorem pdn_last {c : List Int} {y : Int} : ∀ (n : Nat), n < c.length → c.getLast? = some y → (pdn c n).getLast? = some y ∧ (pdn c n).length = c.length - n
  | 0, _, h => ⟨h, rfl⟩
  | n + 1, hn, h => by
    obtain ⟨h1, h2⟩ := pdn_last n (by omega) h
    show (pd (n : Int) (pdn c n)).2.getLast? = some y ∧ (pd (n : Int) (pdn c n)).2.length = _
    generalize pdn c n = q at h1 h2
    cases q with
    | nil => simp at h1
    | cons x q =>
      have hq : q ≠ [] := fun e => by rw [e] at h2; simp at h2; omega
      obtain ⟨q', y', rfl⟩ : ∃ q' y', q = q' ++ [y'] := ⟨q.dropLast, q.getLast hq, (List.dropLast_concat_getLast hq).symm⟩
      have hy : y' = y := by
        rw [List.getLast?_cons, List.getLast?_append] at h1
        simpa using h1
      subst hy
      obtain ⟨h3, h4⟩ := pd_last (n : Int) q' x y'
      exact ⟨h3, by rw [h4]; simp at h2; omega⟩
theorem pmn_nz {p : Nat} (hp1 : 1 < p) (hp : ∀ m, m ∣ p → m = 1 ∨ m = p) : ∀ (n x : Nat), n ≤ x → x < p → ¬ (p : Int) ∣ pmn n (x : Int)
  | 0, x, _, hx => fun h => by
    have h9 : (p : Int) ∣ 1 := h
    have h2 := Int.le_of_dvd (by decide) h9
    omega
  | n + 1, x, hn, hx => fun h => by
    rcases nt_mul hp h with h1 | h1
    · exact pmn_nz hp1 hp n x (by omega) hx h1
    · have h2 : (p : Int) ≤ (x : Int) - (n : Int) := Int.le_of_dvd (by omega) h1
      omega
-- X^p - X
def pX (p : Nat) : List Int := 0 :: -1 :: (List.replicate (p - 2) 0 ++ [1])
theorem pe_pow (x : Int) : ∀ m : Nat, pe (List.replicate m 0 ++ [1]) x = x ^ m
  | 0 => by simp [pe]
  | m + 1 => by
    show 0 + x * pe (List.replicate m 0 ++ [1]) x = _
    rw [pe_pow x m, Int.pow_succ, Int.zero_add, Int.mul_comm]
theorem pe_pX {p : Nat} (hp1 : 1 < p) (x : Int) : pe (pX p) x = x ^ p - x := by
  show 0 + x * (-1 + x * pe (List.replicate (p - 2) 0 ++ [1]) x) = _
  rw [pe_pow]
  have h1 : x ^ p = x ^ (p - 2) * x * x := by
    rw [← Int.pow_succ, ← Int.pow_succ]
    congr 1
    omega
  rw [h1]
  grind
theorem pv_pow (a : Nat → Nat → Int) (d : Nat) (v : Nat → Int) : ∀ m : Nat, pv a d (List.replicate m 0 ++ [1]) v = fa_it (mv a d) m v
  | 0 => by
    funext t
    show 1 * v t + mv a d (fun _ => 0) t = v t
    have h1 : mv a d (fun _ => 0) t = 0 := si_z fun j _ => Int.mul_zero _
    rw [h1]; simp
  | m + 1 => by
    funext t
    show 0 * v t + mv a d (pv a d (List.replicate m 0 ++ [1]) v) t = _
    rw [pv_pow a d v m, fa_succ]; simp
theorem pv_pX {p : Nat} (hp1 : 1 < p) (a : Nat → Nat → Int) (d : Nat) (v : Nat → Int) (t : Nat) : pv a d (pX p) v t = fa_it (mv a d) p v t - mv a d v t := by
  show 0 * v t + mv a d (fun t => -1 * v t + mv a d (pv a d (List.replicate (p - 2) 0 ++ [1]) v) t) t = _
  rw [pv_pow, mv_add, mv_mul, Int.zero_mul, Int.zero_add]
  have h1 : fa_it (mv a d) p v = mv a d (mv a d (fa_it (mv a d) (p - 2) v)) := by
    rw [← fa_succ (mv a d), ← fa_succ (mv a d)]
    congr 1
    omega
  rw [h1]
  show -1 * mv a d v t + mv a d (mv a d (fa_it (mv a d) (p - 2) v)) t = _
  omega
theorem pX_chain {p : Nat} (hp1 : 1 < p) (hp : ∀ m, m ∣ p → m = 1 ∨ m = p) : ∀ n : Nat, n ≤ p → (∀ m, m < n → (p : Int) ∣ (pd (m : Int) (pdn (pX p) m)).1) ∧ ∀ x : Int, (p : Int) ∣ pe (pX p) x - pmn n x * pe (pdn (pX p) n) x
  | 0, _ => ⟨fun m hm => absurd hm (Nat.not_lt_zero m), fun x => by
      show (p : Int) ∣ pe (pX p) x - 1 * pe (pX p) x
      rw [Int.one_mul, Int.sub_self]; exact Int.dvd_zero _⟩
  | n + 1, hn => by
    obtain ⟨h1, h2⟩ := pX_chain hp1 hp n (by omega)
    have h3 := h2 (n : Int)
    rw [pe_pX hp1] at h3
    have h4 : (p : Int) ∣ pmn n (n : Int) * pe (pdn (pX p) n) (n : Int) := by
      have h5 := Int.dvd_sub (nt_fermat hp1 hp n) h3
      have h6 : (n : Int) ^ p - (n : Int) - ((n : Int) ^ p - (n : Int) - pmn n (n : Int) * pe (pdn (pX p) n) (n : Int)) = pmn n (n : Int) * pe (pdn (pX p) n) (n : Int) := by omega
      rw [h6] at h5
      exact h5
    have h7 : (p : Int) ∣ (pd (n : Int) (pdn (pX p) n)).1 := by
      rcases nt_mul hp h4 with h8 | h8
      · exact absurd h8 (pmn_nz hp1 hp n n (Nat.le_refl n) (by omega))
      · rw [pe_pd (n : Int) (n : Int), Int.sub_self, Int.zero_mul, Int.add_zero] at h8
        exact h8
    refine ⟨fun m hm => ?_, fun x => ?_⟩
    · by_cases e : m = n
      · subst e; exact h7
      · exact h1 m (by omega)
    · have h9 := h2 x
      rw [pe_pd (n : Int) x (pdn (pX p) n)] at h9
      obtain ⟨c, hc⟩ := h9
      obtain ⟨r, hr⟩ := h7
      rw [hr] at hc
      refine ⟨c + pmn n x * r, ?_⟩
      show pe (pX p) x - pmn n x * (x - (n : Int)) * pe (pd (n : Int) (pdn (pX p) n)).2 x = _
      grind
theorem eg_zero {p : Nat} (hp1 : 1 < p) (hp : ∀ m, m ∣ p → m = 1 ∨ m = p) (a : Nat → Nat → Int) (d : Nat) (v : Nat → Int) (hA : vq p d (fa_it (mv a d) p v) (mv a d v)) : vq p d (bvn a d p v) (fun _ => 0) := by
  have h1 : ∀ n, n ≤ p → vq p d (pv a d (pX p) v) (bvn a d n (pv a d (pdn (pX p) n) v)) := by
    intro n
    induction n with
    | zero => intro _; exact vq_rfl _
    | succ n ih =>
      intro hn
      refine vq_trans (ih (by omega)) (bvn_cong a n ?_)
      intro t ht
      rw [pv_pd a d (n : Int) v (pdn (pX p) n) t]
      have h2 := (pX_chain hp1 hp (n + 1) hn).1 n (Nat.lt_succ_self n)
      show (p : Int) ∣ (pd (n : Int) (pdn (pX p) n)).1 * v t + bv a d (n : Int) (pv a d (pd (n : Int) (pdn (pX p) n)).2 v) t - bv a d (n : Int) (pv a d (pd (n : Int) (pdn (pX p) n)).2 v) t
      rw [Int.add_sub_cancel]
      exact Int.dvd_mul_of_dvd_left h2
  have hlen : (pX p).length = p + 1 := by
    simp [pX]; omega
  have hlast : (pX p).getLast? = some 1 := by
    simp [pX, List.getLast?_cons, List.getLast?_append]
  obtain ⟨h3, h4⟩ := pdn_last (y := 1) p (by omega) hlast
  have h5 : pdn (pX p) p = [1] := by
    rw [hlen] at h4
    generalize pdn (pX p) p = q at h3 h4
    match q, h3, h4 with
    | [x], h3, _ => simp at h3; rw [h3]
    | [], h3, _ => simp at h3
    | x :: y :: q, _, h4 => exfalso; simp at h4
  have h6 := h1 p (Nat.le_refl p)
  rw [h5] at h6
  have h7 : pv a d [1] v = v := by
    funext t
    show 1 * v t + mv a d (fun _ => 0) t = v t
    have h8 : mv a d (fun _ => 0) t = 0 := si_z fun j _ => Int.mul_zero _
    rw [h8]; simp
  rw [h7] at h6
  refine vq_trans (vq_symm h6) (fun t ht => ?_)
  rw [pv_pX hp1]
  show (p : Int) ∣ fa_it (mv a d) p v t - mv a d v t - 0
  rw [Int.sub_zero]
  exact hA t ht
theorem eg_dec {p : Nat} (hp : ∀ m, m ∣ p → m = 1 ∨ m = p) (a : Nat → Nat → Int) (d : Nat) : ∀ (n : Nat), n ≤ p → ∀ v : Nat → Int, vq p d (bvn a d n v) (fun _ => 0) → ∃ f : Nat → Nat → Int, (∀ m, m < n → vq p d (mv a d (f m)) (fun t => (m : Int) * f m t)) ∧ vq p d v (fun t => si (fun m => f m t) (List.range n))
  | 0, _, v, h => ⟨fun _ _ => 0, fun m hm => absurd hm (Nat.not_lt_zero m), h⟩
  | n + 1, hn, v, h => by
    obtain ⟨f, h1, h2⟩ := eg_dec hp a d n (by omega) (bv a d (n : Int) v) h
    have hi : ∀ m, ∃ b : Int, m < n → (p : Int) ∣ ((m : Int) - (n : Int)) * b - 1 := fun m => by
      by_cases hm : m < n
      · have h3 : ¬ (p : Int) ∣ ((m : Int) - (n : Int)) := fun h9 => by
          have h10 := Int.dvd_neg.mpr h9
          have h11 : (p : Int) ≤ -((m : Int) - (n : Int)) := Int.le_of_dvd (by omega) h10
          omega
        obtain ⟨b, hb⟩ := nt_inv hp h3
        exact ⟨b, fun _ => hb⟩
      · exact ⟨0, fun h9 => absurd h9 hm⟩
    have hi2 : ∃ b : Nat → Int, ∀ m, m < n → (p : Int) ∣ ((m : Int) - (n : Int)) * b m - 1 := ⟨fun m => Classical.choose (hi m), fun m => Classical.choose_spec (hi m)⟩
    obtain ⟨b, hb⟩ := hi2
    -- the rest: an eigenvector of n
    have h4 : vq p d (bv a d (n : Int) (fun t => v t - si (fun m => b m * f m t) (List.range n))) (fun _ => 0) := by
      have h5 : vq p d (fun t => si (fun m => b m * (mv a d (f m) t - (n : Int) * f m t)) (List.range n)) (fun t => si (fun m => f m t) (List.range n)) := by
        intro t ht
        refine si_cong fun m hm => ?_
        have hm' := List.mem_range.mp hm
        obtain ⟨c, hc⟩ := h1 m hm' t ht
        obtain ⟨r, hr⟩ := hb m hm'
        refine ⟨b m * c + f m t * r, ?_⟩
        grind
      have h6 : ∀ t, bv a d (n : Int) (fun t => v t - si (fun m => b m * f m t) (List.range n)) t = bv a d (n : Int) v t - si (fun m => b m * (mv a d (f m) t - (n : Int) * f m t)) (List.range n) := by
        intro t
        unfold bv
        rw [mv_sub, mv_si]
        have h7 : si (fun m => b m * (mv a d (f m) t - (n : Int) * f m t)) (List.range n) = si (fun m => mv a d (fun t => b m * f m t) t) (List.range n) - (n : Int) * si (fun m => b m * f m t) (List.range n) := by
          rw [← si_mul, ← si_sub]
          refine si_congr fun m _ => ?_
          rw [mv_mul]
          grind
        rw [h7]
        grind
      intro t ht
      rw [h6 t]
      have h8 := vq_sub h2 h5 t ht
      have h9 : bv a d (n : Int) v t - si (fun m => b m * (mv a d (f m) t - (n : Int) * f m t)) (List.range n) - (si (fun m => f m t) (List.range n) - si (fun m => f m t) (List.range n)) = bv a d (n : Int) v t - si (fun m => b m * (mv a d (f m) t - (n : Int) * f m t)) (List.range n) - 0 := by omega
      rw [← h9]
      exact h8
    refine ⟨fun m t => if m = n then v t - si (fun m => b m * f m t) (List.range n) else b m * f m t, fun m hm => ?_, ?_⟩
    · by_cases e : m = n
      · subst e
        intro t ht
        have h10 := h4 t ht
        unfold bv at h10
        simp only [if_true]
        have h11 : mv a d (fun t => v t - si (fun m => b m * f m t) (List.range m)) t - (m : Int) * (v t - si (fun m => b m * f m t) (List.range m)) - 0 = mv a d (fun t => v t - si (fun m => b m * f m t) (List.range m)) t - (m : Int) * (v t - si (fun m => b m * f m t) (List.range m)) := by omega
        rw [h11] at h10
        exact h10
      · intro t ht
        simp only [if_neg e]
        rw [mv_mul]
        have h12 := vq_mul (b m) (h1 m (by omega)) t ht
        have h13 : b m * mv a d (f m) t - (m : Int) * (b m * f m t) = b m * mv a d (f m) t - b m * ((m : Int) * f m t) := by grind
        rw [h13]
        exact h12
    · refine vq_eq fun t _ => ?_
      rw [List.range_succ, si_app, si_cons, si_nil]
      simp only [if_true]
      have h14 : si (fun m => if m = n then v t - si (fun m => b m * f m t) (List.range n) else b m * f m t) (List.range n) = si (fun m => b m * f m t) (List.range n) := si_congr fun m hm => if_neg (by have := List.mem_range.mp hm; omega)
      rw [h14]
      omega
end
section
-- pure: independent vectors, spanning vectors
def li (p d f : Nat) (U : Nat → Nat → Int) : Prop := ∀ c : Nat → Int, vq p d (fun t => si (fun s => c s * U s t) (List.range f)) (fun _ => 0) → ∀ s, s < f → (p : Int) ∣ c s
def sp (p d f : Nat) (U : Nat → Nat → Int) (v : Nat → Int) : Prop := ∃ c : Nat → Int, vq p d v (fun t => si (fun s => c s * U s t) (List.range f))
theorem li_le {p : Nat} (hp1 : 1 < p) (hp : ∀ m, m ∣ p → m = 1 ∨ m = p) {d f : Nat} {U : Nat → Nat → Int} (h : li p d f U) : f ≤ d := Classical.byContradiction fun hn => by
  obtain ⟨x, ⟨s, hs, hx⟩, h2⟩ := ln_hs hp1 hp d (List.range f) (fun t s => U s t) List.nodup_range (by rw [List.length_range]; omega)
  refine hx (h x (fun t ht => ?_) s (List.mem_range.mp hs))
  show (p : Int) ∣ si (fun s => x s * U s t) (List.range f) - 0
  rw [Int.sub_zero]
  have h3 : si (fun s => x s * U s t) (List.range f) = si (fun s => U s t * x s) (List.range f) := si_congr fun s _ => Int.mul_comm _ _
  rw [h3]
  exact h2 t ht
theorem li_sp {p : Nat} (hp1 : 1 < p) (hp : ∀ m, m ∣ p → m = 1 ∨ m = p) {d : Nat} {U : Nat → Nat → Int} (h : li p d d U) (v : Nat → Int) : sp p d d U v := by
  obtain ⟨x, ⟨s, hs, hx⟩, h2⟩ := ln_hs hp1 hp d (List.range (d + 1)) (fun t s => if s = d then v t else U s t) List.nodup_range (by rw [List.length_range]; omega)
  have h3 : ∀ t, t < d → (p : Int) ∣ si (fun s => x s * U s t) (List.range d) + x d * v t := by
    intro t ht
    have h4 := h2 t ht
    rw [List.range_succ, si_app, si_cons, si_nil] at h4
    have h5 : si (fun s => (if s = d then v t else U s t) * x s) (List.range d) = si (fun s => x s * U s t) (List.range d) := si_congr fun s hs => by
      have := List.mem_range.mp hs
      rw [if_neg (by omega), Int.mul_comm]
    rw [h5] at h4
    simp only [if_true] at h4
    rw [Int.add_zero, Int.mul_comm (v t)] at h4
    exact h4
  have hxd : ¬ (p : Int) ∣ x d := fun hd => by
    have h6 : ∀ s, s < d → (p : Int) ∣ x s := h x (fun t ht => by
      show (p : Int) ∣ si (fun s => x s * U s t) (List.range d) - 0
      rw [Int.sub_zero]
      have h7 := Int.dvd_sub (h3 t ht) (Int.dvd_mul_of_dvd_left (c := v t) hd)
      rw [Int.add_sub_cancel] at h7
      exact h7)
    have hs' := List.mem_range.mp hs
    by_cases e : s = d
    · subst e; exact hx hd
    · exact hx (h6 s (by omega))
  obtain ⟨b, hb⟩ := nt_inv hp hxd
  refine ⟨fun s => -(b * x s), fun t ht => ?_⟩
  have h8 : si (fun s => -(b * x s) * U s t) (List.range d) = -b * si (fun s => x s * U s t) (List.range d) := by
    rw [← si_mul]
    exact si_congr fun s _ => by grind
  show (p : Int) ∣ v t - si (fun s => -(b * x s) * U s t) (List.range d)
  rw [h8]
  obtain ⟨q, hq⟩ := h3 t ht
  obtain ⟨r, hr⟩ := hb
  refine ⟨b * q - r * v t, ?_⟩
  grind
theorem sp_ge {p : Nat} (hp1 : 1 < p) (hp : ∀ m, m ∣ p → m = 1 ∨ m = p) {d f : Nat} {U : Nat → Nat → Int} (h : ∀ v : Nat → Int, sp p d f U v) : d ≤ f := Classical.byContradiction fun hn => by
  obtain ⟨y, ⟨s, hs, hy⟩, h2⟩ := ln_hs hp1 hp f (List.range d) (fun s t => U s t) List.nodup_range (by rw [List.length_range]; omega)
  apply hy
  obtain ⟨c, hc⟩ := h (fun t => ib (decide (t = s)))
  have h3 : y s = si (fun t => ib (decide (t = s)) * y t) (List.range d) := (si_one y s List.nodup_range hs).symm
  have h4 : (p : Int) ∣ si (fun t => ib (decide (t = s)) * y t) (List.range d) - si (fun t => si (fun r => c r * U r t) (List.range f) * y t) (List.range d) := si_cong fun t ht => by
    rw [← Int.sub_mul]
    exact Int.dvd_mul_of_dvd_left (hc t (List.mem_range.mp ht))
  have h5 : (p : Int) ∣ si (fun t => si (fun r => c r * U r t) (List.range f) * y t) (List.range d) := by
    have h6 : si (fun t => si (fun r => c r * U r t) (List.range f) * y t) (List.range d) = si (fun r => c r * si (fun t => U r t * y t) (List.range d)) (List.range f) := by
      have h7 : ∀ t, t ∈ List.range d → si (fun r => c r * U r t) (List.range f) * y t = si (fun r => c r * (U r t * y t)) (List.range f) := fun t _ => by
        rw [← si_mulr]
        exact si_congr fun r _ => Int.mul_assoc _ _ _
      rw [si_congr h7, si_swap]
      exact si_congr fun r _ => si_mul _ _ _
    rw [h6]
    exact si_dvd fun r hr => Int.dvd_mul_of_dvd_right (h2 r (List.mem_range.mp hr))
  rw [h3]
  have h8 := Int.dvd_add h4 h5
  rw [Int.sub_add_cancel] at h8
  exact h8
-- eigenvectors of other numbers come beside those found
theorem li_eig {p : Nat} (hp : ∀ m, m ∣ p → m = 1 ∨ m = p) {a : Nat → Nat → Int} {d f g : Nat} {U : Nat → Nat → Int} {lam : Nat → Nat} {mu : Nat} (hmu : mu < p)
    (h : li p d f U) (he : ∀ s, s < f → lam s < mu ∧ vq p d (mv a d (U s)) (fun t => (lam s : Int) * U s t)) (he2 : ∀ s, f ≤ s → s < f + g → vq p d (mv a d (U s)) (fun t => (mu : Int) * U s t))
    (h2 : li p d g (fun s => U (f + s))) : li p d (f + g) U := by
  intro c hc
  have hr : List.range (f + g) = List.range f ++ (List.range g).map (fun s => f + s) := List.range_add
  have hsum : ∀ F : Nat → Int, si F (List.range (f + g)) = si F (List.range f) + si (fun s => F (f + s)) (List.range g) := fun F => by rw [hr, si_app, si_map]
  have h3 : ∀ s, s < f → (p : Int) ∣ c s * ((lam s : Int) - (mu : Int)) := by
    refine h (fun s => c s * ((lam s : Int) - (mu : Int))) (fun t ht => ?_)
    show (p : Int) ∣ si (fun s => c s * ((lam s : Int) - (mu : Int)) * U s t) (List.range f) - 0
    -- a - mu of the sum
    have h4 := mv_cong (p := p) a hc d t ht
    have h5 : mv a d (fun _ => 0) t = 0 := si_z fun j _ => Int.mul_zero _
    have h6 : mv a d (fun t => si (fun s => c s * U s t) (List.range (f + g))) t = si (fun s => c s * mv a d (U s) t) (List.range (f + g)) := by
      rw [mv_si]
      exact si_congr fun s _ => mv_mul _ _ _ _ _
    rw [h5, h6, Int.sub_zero] at h4
    have h7 : (p : Int) ∣ (mu : Int) * si (fun s => c s * U s t) (List.range (f + g)) - (mu : Int) * 0 := vq_mul (mu : Int) hc t ht
    rw [Int.mul_zero, Int.sub_zero, ← si_mul] at h7
    have h8 := Int.dvd_sub h4 h7
    rw [← si_sub, hsum] at h8
    have h9 : (p : Int) ∣ si (fun s => c (f + s) * mv a d (U (f + s)) t - (mu : Int) * (c (f + s) * U (f + s) t)) (List.range g) := si_dvd fun s hs => by
      have h10 := vq_mul (c (f + s)) (he2 (f + s) (by omega) (by have := List.mem_range.mp hs; omega)) t ht
      have h11 : c (f + s) * mv a d (U (f + s)) t - (mu : Int) * (c (f + s) * U (f + s) t) = c (f + s) * mv a d (U (f + s)) t - c (f + s) * ((mu : Int) * U (f + s) t) := by grind
      rw [h11]
      exact h10
    have h12 := Int.dvd_sub h8 h9
    rw [Int.add_sub_cancel] at h12
    rw [Int.sub_zero]
    have h13 : (p : Int) ∣ si (fun s => c s * ((lam s : Int) - (mu : Int)) * U s t) (List.range f) - si (fun s => c s * mv a d (U s) t - (mu : Int) * (c s * U s t)) (List.range f) := si_cong fun s hs => by
      obtain ⟨r, hr9⟩ := (he s (List.mem_range.mp hs)).2 t ht
      exact ⟨-(c s * r), by grind⟩
    have h14 := Int.dvd_add h13 h12
    rw [Int.sub_add_cancel] at h14
    exact h14
  have h15 : ∀ s, s < f → (p : Int) ∣ c s := fun s hs => by
    rcases nt_mul hp (h3 s hs) with h16 | h16
    · exact h16
    · exfalso
      have hlt := (he s hs).1
      have h17 := Int.dvd_neg.mpr h16
      have h18 : (p : Int) ≤ -((lam s : Int) - (mu : Int)) := Int.le_of_dvd (by omega) h17
      omega
  have h19 : ∀ s, s < g → (p : Int) ∣ c (f + s) := by
    refine h2 (fun s => c (f + s)) (fun t ht => ?_)
    have h20 : (p : Int) ∣ si (fun s => c s * U s t) (List.range (f + g)) - 0 := hc t ht
    rw [Int.sub_zero, hsum] at h20
    have h21 : (p : Int) ∣ si (fun s => c s * U s t) (List.range f) := si_dvd fun s hs => Int.dvd_mul_of_dvd_left (h15 s (List.mem_range.mp hs))
    have h22 := Int.dvd_sub h20 h21
    rw [Int.add_comm, Int.add_sub_cancel] at h22
    show (p : Int) ∣ si (fun s => c (f + s) * U (f + s) t) (List.range g) - 0
    rw [Int.sub_zero]
    exact h22
  intro s hs
  by_cases e : s < f
  · exact h15 s e
  · have := h19 (s - f) (by omega)
    rwa [show f + (s - f) = s by omega] at this
end
section
-- pure: permutations of eight points as codes
def encf (g : Nat → Nat) : Nat → Nat
  | 0 => 0
  | n + 1 => encf g n * 8 + g n
def dg (c x : Nat) : Nat := c / 8 ^ (7 - x) % 8
def pm (a b : Nat) : Nat := encf (fun x => dg b (dg a x)) 8
theorem dg_lt (c x : Nat) : dg c x < 8 := Nat.mod_lt _ (by decide)
theorem enc_lt {g : Nat → Nat} (hg : ∀ x, g x < 8) : ∀ n : Nat, encf g n < 8 ^ n
  | 0 => Nat.zero_lt_one
  | n + 1 => by
    have h1 := enc_lt hg n
    have h2 := hg n
    show encf g n * 8 + g n < 8 ^ (n + 1)
    rw [Nat.pow_succ]
    omega
theorem enc_dg {g : Nat → Nat} (hg : ∀ x, g x < 8) : ∀ (n x : Nat), x < n → encf g n / 8 ^ (n - 1 - x) % 8 = g x
  | 0, x, h => absurd h (Nat.not_lt_zero x)
  | n + 1, x, h => by
    have h2 := hg n
    show (encf g n * 8 + g n) / 8 ^ (n + 1 - 1 - x) % 8 = g x
    by_cases e : x = n
    · subst e
      have h3 : x + 1 - 1 - x = 0 := by omega
      rw [h3, Nat.pow_zero, Nat.div_one]
      omega
    · have h3 : n + 1 - 1 - x = (n - 1 - x) + 1 := by omega
      rw [h3, Nat.pow_succ, Nat.mul_comm (8 ^ (n - 1 - x)), ← Nat.div_div_eq_div_mul]
      have h4 : (encf g n * 8 + g n) / 8 = encf g n := by omega
      rw [h4]
      exact enc_dg hg n x (by omega)
theorem enc_of (c n : Nat) : ∀ k : Nat, k ≤ n → encf (fun x => c / 8 ^ (n - 1 - x) % 8) k = c / 8 ^ (n - k) % 8 ^ k
  | 0, _ => by
    show 0 = c / 8 ^ (n - 0) % 8 ^ 0
    rw [Nat.pow_zero, Nat.mod_one]
  | k + 1, hk => by
    show encf (fun x => c / 8 ^ (n - 1 - x) % 8) k * 8 + c / 8 ^ (n - 1 - k) % 8 = _
    rw [enc_of c n k (by omega)]
    have h1 : n - k = (n - (k + 1)) + 1 := by omega
    have h2 : n - 1 - k = n - (k + 1) := by omega
    rw [h1, h2, Nat.pow_succ, ← Nat.div_div_eq_div_mul, Nat.pow_succ, Nat.mul_comm (8 ^ k), Nat.mod_mul]
    omega
theorem dg_ext {c c' : Nat} (h : c < 8 ^ 8) (h' : c' < 8 ^ 8) (e : ∀ x, x < 8 → dg c x = dg c' x) : c = c' := by
  have h1 := enc_of c 8 8 (Nat.le_refl 8)
  have h2 := enc_of c' 8 8 (Nat.le_refl 8)
  rw [Nat.sub_self, Nat.pow_zero, Nat.div_one, Nat.mod_eq_of_lt h] at h1
  rw [Nat.sub_self, Nat.pow_zero, Nat.div_one, Nat.mod_eq_of_lt h'] at h2
  rw [← h1, ← h2]
  have h3 : ∀ n, n ≤ 8 → encf (fun x => c / 8 ^ (8 - 1 - x) % 8) n = encf (fun x => c' / 8 ^ (8 - 1 - x) % 8) n := by
    intro n
    induction n with
    | zero => intro _; rfl
    | succ n ih =>
      intro hn
      show encf _ n * 8 + dg c n = encf _ n * 8 + dg c' n
      rw [ih (by omega), e n (by omega)]
  exact h3 8 (Nat.le_refl 8)
theorem pm_lt (a b : Nat) : pm a b < 8 ^ 8 := enc_lt (fun _ => dg_lt _ _) 8
theorem pm_dg (a b : Nat) {x : Nat} (hx : x < 8) : dg (pm a b) x = dg b (dg a x) := enc_dg (g := fun x => dg b (dg a x)) (fun _ => dg_lt _ _) 8 x hx
theorem pm_as (a b c : Nat) : pm (pm a b) c = pm a (pm b c) := dg_ext (pm_lt _ _) (pm_lt _ _) fun x hx => by
  rw [pm_dg _ _ hx, pm_dg _ _ hx, pm_dg _ _ hx, pm_dg _ _ (dg_lt a x)]
def pid : Nat := 342391
theorem pid_dg : ∀ x, x < 8 → dg pid x = x := by decide
theorem pm_l1 {a : Nat} (ha : a < 8 ^ 8) : pm pid a = a := dg_ext (pm_lt _ _) ha fun x hx => by rw [pm_dg _ _ hx, pid_dg x hx]
theorem pm_r1 {a : Nat} (ha : a < 8 ^ 8) : pm a pid = a := dg_ext (pm_lt _ _) ha fun x hx => by rw [pm_dg _ _ hx, pid_dg _ (dg_lt a x)]
def isP (c : Nat) : Prop := c < 8 ^ 8 ∧ ∀ x, x < 8 → ∀ y, y < 8 → dg c x = dg c y → x = y
theorem isP_pm {a b : Nat} (ha : isP a) (hb : isP b) : isP (pm a b) := ⟨pm_lt a b, fun x hx y hy e => by
  rw [pm_dg _ _ hx, pm_dg _ _ hy] at e
  exact ha.2 x hx y hy (hb.2 _ (dg_lt a x) _ (dg_lt a y) e)⟩
theorem isP_id : isP pid := ⟨by decide, fun x hx y hy e => by rw [pid_dg x hx, pid_dg y hy] at e; exact e⟩
-- every point is an image
theorem isP_on {a : Nat} (ha : isP a) {y : Nat} (hy : y < 8) : ∃ x, x < 8 ∧ dg a x = y := Classical.byContradiction fun hn => by
  have h1 : ((List.range 8).map (dg a)).Nodup := List.pairwise_map.mpr (List.Pairwise.imp_of_mem (fun {u v} hu hv huv he => by
    have := ha.2 u (List.mem_range.mp hu) v (List.mem_range.mp hv) he
    omega) List.pairwise_lt_range)
  have h2 : (y :: (List.range 8).map (dg a)).Nodup := List.nodup_cons.mpr ⟨fun h => by
    obtain ⟨x, hx, e⟩ := List.mem_map.mp h
    exact hn ⟨x, List.mem_range.mp hx, e⟩, h1⟩
  have h3 := h2.length_le_of_subset (l₂ := List.range 8) (fun z hz => by
    rcases List.mem_cons.mp hz with rfl | hz
    · exact List.mem_range.mpr hy
    · obtain ⟨x, _, rfl⟩ := List.mem_map.mp hz
      exact List.mem_range.mpr (dg_lt a x))
  simp at h3
-- the inverse: a code whose digit at the image of x is x
def pinv (a b : Nat) : Prop := b < 8 ^ 8 ∧ ∀ x, x < 8 → dg b (dg a x) = x
theorem pinv_r {a b : Nat} (h : pinv a b) : pm a b = pid := dg_ext (pm_lt _ _) (by decide) fun x hx => by rw [pm_dg _ _ hx, h.2 x hx, pid_dg x hx]
theorem pinv_l {a b : Nat} (ha : isP a) (h : pinv a b) : pm b a = pid := dg_ext (pm_lt _ _) (by decide) fun x hx => by
  obtain ⟨y, hy, e⟩ := isP_on ha hx
  rw [pm_dg _ _ hx, pid_dg x hx, ← e, h.2 y hy]
theorem isP_inv {a b : Nat} (ha : isP a) (h : pinv a b) : isP b := ⟨h.1, fun x hx y hy e => by
  obtain ⟨u, hu, e1⟩ := isP_on ha hx
  obtain ⟨v, hv, e2⟩ := isP_on ha hy
  rw [← e1, ← e2, h.2 u hu, h.2 v hv] at e
  rw [← e1, ← e2, e]⟩
end
section
-- pure: a solved system (each solved column has its 1 alone in its row), its kernel by the free columns
def rr (p d : Nat) (S0 S : Nat → Nat → Int) (sb : Nat → Option Nat) : Prop :=
  (∀ x : Nat → Int, (∀ r, r < d → (p : Int) ∣ si (fun j => S0 r j * x j) (List.range d)) ↔ (∀ r, r < d → (p : Int) ∣ si (fun j => S r j * x j) (List.range d))) ∧
  (∀ c r, c < d → sb c = some r → r < d ∧ (p : Int) ∣ S r c - 1 ∧ ∀ r', r' < d → r' ≠ r → (p : Int) ∣ S r' c) ∧
  (∀ c c' r, c < d → c' < d → sb c = some r → sb c' = some r → c = c') ∧
  (∀ r, r < d → (∀ c, c < d → sb c ≠ some r) → ∀ j, j < d → (p : Int) ∣ S r j)
def rr_X (S : Nat → Nat → Int) (sb : Nat → Option Nat) (f j : Nat) : Int := if j = f then 1 else match sb j with
  | some r => -(S r f)
  | none => 0
def rr_fr (d : Nat) (sb : Nat → Option Nat) : List Nat := (List.range d).filter (fun c => decide (sb c = none))
theorem rr_sol {p d : Nat} {S0 S : Nat → Nat → Int} {sb : Nat → Option Nat} (h : rr p d S0 S sb) {f : Nat} (hf : f < d) (hfn : sb f = none) : ∀ r, r < d → (p : Int) ∣ si (fun j => S0 r j * rr_X S sb f j) (List.range d) := by
  refine (h.1 _).mpr fun r hr => ?_
  by_cases hc : ∃ c, c < d ∧ sb c = some r
  · obtain ⟨c, hcd, hcr⟩ := hc
    have h1 := h.2.1 c r hcd hcr
    have hcf : c ≠ f := fun e => by rw [e, hfn] at hcr; cases hcr
    have h2 : (p : Int) ∣ si (fun j => S r j * rr_X S sb f j) (List.range d) - si (fun j => ib (decide (j = f)) * S r f - ib (decide (j = c)) * S r f) (List.range d) := si_cong fun j hj => by
      have hjd := List.mem_range.mp hj
      by_cases e1 : j = f
      · subst e1
        simp [rr_X, ib, Ne.symm hcf]
      · by_cases e2 : j = c
        · subst e2
          simp only [rr_X, ib, hcr, if_neg e1]
          obtain ⟨q, hq⟩ := h1.2.1
          refine ⟨-(q * S r f), ?_⟩
          simp [e1]
          grind
        · simp only [rr_X, ib, if_neg e1]
          cases hs : sb j with
          | none => simp [e1, e2]
          | some r' =>
            have hr' : r ≠ r' := fun e => e2 (h.2.2.1 j c r' hjd hcd hs (e ▸ hcr))
            have h3 := (h.2.1 j r' hjd hs).2.2 r hr hr'
            simp [e1, e2]
            exact Int.dvd_mul_of_dvd_left h3
    have h4 : si (fun j => ib (decide (j = f)) * S r f - ib (decide (j = c)) * S r f) (List.range d) = 0 := by
      rw [si_sub, si_one (fun _ => S r f) f List.nodup_range (List.mem_range.mpr hf), si_one (fun _ => S r f) c List.nodup_range (List.mem_range.mpr hcd), Int.sub_self]
    rw [h4, Int.sub_zero] at h2
    exact h2
  · exact si_dvd fun j hj => Int.dvd_mul_of_dvd_left (h.2.2.2 r hr (fun c hcd e => hc ⟨c, hcd, e⟩) j (List.mem_range.mp hj))
theorem rr_ker {p d : Nat} {S0 S : Nat → Nat → Int} {sb : Nat → Option Nat} (h : rr p d S0 S sb) {x : Nat → Int} (hx : ∀ r, r < d → (p : Int) ∣ si (fun j => S0 r j * x j) (List.range d)) : vq p d x (fun j => si (fun f => x f * rr_X S sb f j) (rr_fr d sb)) := by
  have hx2 := (h.1 x).mp hx
  intro j hj
  show (p : Int) ∣ x j - si (fun f => x f * rr_X S sb f j) (rr_fr d sb)
  unfold rr_fr
  rw [si_filter]
  cases hs : sb j with
  | none =>
    have h1 : si (fun f => ib (decide (sb f = none)) * (x f * rr_X S sb f j)) (List.range d) = si (fun f => ib (decide (f = j)) * x f) (List.range d) := si_congr fun f _ => by
      by_cases e : f = j
      · subst e; simp [ib, hs, rr_X]
      · simp [ib, rr_X, hs, e, Ne.symm e]
    rw [h1, si_one x j List.nodup_range (List.mem_range.mpr hj), Int.sub_self]
    exact Int.dvd_zero _
  | some r =>
    have h1 := h.2.1 j r hj hs
    have h2 := hx2 r h1.1
    have h3 : (p : Int) ∣ si (fun c => S r c * x c) (List.range d) - si (fun c => ib (decide (c = j)) * x c - ib (decide (sb c = none)) * (x c * rr_X S sb c j)) (List.range d) := si_cong fun c hc => by
      have hcd := List.mem_range.mp hc
      by_cases e : c = j
      · subst e
        obtain ⟨q, hq⟩ := h1.2.1
        refine ⟨q * x c, ?_⟩
        simp [ib, hs]
        grind
      · cases hs2 : sb c with
        | none =>
          have h4 : rr_X S sb c j = -(S r c) := by simp [rr_X, Ne.symm e, hs]
          rw [h4]
          simp [ib, e]
          exact ⟨0, by grind⟩
        | some r' =>
          have hr' : r ≠ r' := fun e9 => e (h.2.2.1 c j r' hcd hj hs2 (e9 ▸ hs))
          have h5 := (h.2.1 c r' hcd hs2).2.2 r h1.1 hr'
          simp [ib, e]
          exact Int.dvd_mul_of_dvd_left h5
    have h6 := Int.dvd_sub h2 h3
    have h7 : ∀ a b : Int, a - (a - b) = b := fun a b => by omega
    rw [h7, si_sub, si_one x j List.nodup_range (List.mem_range.mpr hj)] at h6
    exact h6
end
