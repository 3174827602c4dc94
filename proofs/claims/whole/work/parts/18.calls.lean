theorem lkCc_55 : Cond.methodLink "ClassCharacters" 55 yCd_isPermutation ∈ wt := List.mem_filter.mpr ⟨List.mem_append_right _ (List.mem_of_getElem? (i := 203) (by decide +kernel)), by decide +kernel⟩
theorem lkCc_61 : Cond.methodLink "ClassCharacters" 61 yCc_workOut ∈ wt := List.mem_filter.mpr ⟨List.mem_append_right _ (List.mem_of_getElem? (i := 215) (by decide +kernel)), by decide +kernel⟩
theorem lkCc_65 : Cond.methodLink "ClassCharacters" 65 yCc_isBuilt ∈ wt := List.mem_filter.mpr ⟨List.mem_append_right _ (List.mem_of_getElem? (i := 412) (by decide +kernel)), by decide +kernel⟩
theorem lkCc_75 : Cond.methodLink "ClassCharacters" 75 yCo_classHolding ∈ wt := List.mem_filter.mpr ⟨List.mem_append_right _ (List.mem_of_getElem? (i := 424) (by decide +kernel)), by decide +kernel⟩
theorem lkCc_80 : Cond.methodLink "ClassCharacters" 80 yCc_isClass ∈ wt := List.mem_filter.mpr ⟨List.mem_append_right _ (List.mem_of_getElem? (i := 433) (by decide +kernel)), by decide +kernel⟩
theorem lkCc_89 : Cond.methodLink "ClassCharacters" 89 yCo_classRaised ∈ wt := List.mem_filter.mpr ⟨List.mem_append_right _ (List.mem_of_getElem? (i := 445) (by decide +kernel)), by decide +kernel⟩
theorem lkCc_93 : Cond.methodLink "ClassCharacters" 93 yCo_pairs ∈ wt := List.mem_filter.mpr ⟨List.mem_append_right _ (List.mem_of_getElem? (i := 450) (by decide +kernel)), by decide +kernel⟩
theorem lkCc_116 : Cond.methodLink "ClassCharacters" 116 yRo_timesOfRoot ∈ wt := List.mem_filter.mpr ⟨List.mem_append_right _ (List.mem_of_getElem? (i := 475) (by decide +kernel)), by decide +kernel⟩
theorem lkCc_129 : Cond.methodLink "ClassCharacters" 129 yEl_generate ∈ wt := List.mem_filter.mpr ⟨List.mem_append_right _ (List.mem_of_getElem? (i := 219) (by decide +kernel)), by decide +kernel⟩
theorem lkCc_133 : Cond.methodLink "ClassCharacters" 133 yCo_divide ∈ wt := List.mem_filter.mpr ⟨List.mem_append_right _ (List.mem_of_getElem? (i := 235) (by decide +kernel)), by decide +kernel⟩
theorem lkCc_137 : Cond.methodLink "ClassCharacters" 137 yCo_listPowers ∈ wt := List.mem_filter.mpr ⟨List.mem_append_right _ (List.mem_of_getElem? (i := 254) (by decide +kernel)), by decide +kernel⟩
theorem lkCc_141 : Cond.methodLink "ClassCharacters" 141 yCo_countPairs ∈ wt := List.mem_filter.mpr ⟨List.mem_append_right _ (List.mem_of_getElem? (i := 263) (by decide +kernel)), by decide +kernel⟩
theorem lkCc_144 : Cond.methodLink "ClassCharacters" 144 yRe_choose ∈ wt := List.mem_filter.mpr ⟨List.mem_append_right _ (List.mem_of_getElem? (i := 270) (by decide +kernel)), by decide +kernel⟩
theorem lkCc_148 : Cond.methodLink "ClassCharacters" 148 yCm_find ∈ wt := List.mem_filter.mpr ⟨List.mem_append_right _ (List.mem_of_getElem? (i := 288) (by decide +kernel)), by decide +kernel⟩
theorem lkCc_152 : Cond.methodLink "ClassCharacters" 152 yRo_make ∈ wt := List.mem_filter.mpr ⟨List.mem_append_right _ (List.mem_of_getElem? (i := 357) (by decide +kernel)), by decide +kernel⟩
theorem lkMo_40 : Cond.methodLink "ClassCharactersModel" 40 yMo_image ∈ wt := List.mem_filter.mpr ⟨List.mem_append_right _ (List.mem_of_getElem? (i := 563) (by decide +kernel)), by decide +kernel⟩
theorem lkMo_45 : Cond.methodLink "ClassCharactersModel" 45 yMo_isPermutation ∈ wt := List.mem_filter.mpr ⟨List.mem_append_right _ (List.mem_of_getElem? (i := 560) (by decide +kernel)), by decide +kernel⟩
theorem lkMo_61 : Cond.methodLink "ClassCharactersModel" 61 yMo_product ∈ wt := List.mem_filter.mpr ⟨List.mem_append_right _ (List.mem_of_getElem? (i := 580) (by decide +kernel)), by decide +kernel⟩
theorem lkMo_64 : Cond.methodLink "ClassCharactersModel" 64 yMo_find ∈ wt := List.mem_filter.mpr ⟨List.mem_append_right _ (List.mem_of_getElem? (i := 583) (by decide +kernel)), by decide +kernel⟩
theorem lkMo_71 : Cond.methodLink "ClassCharactersModel" 71 yMo_inverted ∈ wt := List.mem_filter.mpr ⟨List.mem_append_right _ (List.mem_of_getElem? (i := 591) (by decide +kernel)), by decide +kernel⟩
theorem lkMo_74 : Cond.methodLink "ClassCharactersModel" 74 yMo_powerOf ∈ wt := List.mem_filter.mpr ⟨List.mem_append_right _ (List.mem_of_getElem? (i := 606) (by decide +kernel)), by decide +kernel⟩
theorem lkMo_80 : Cond.methodLink "ClassCharactersModel" 80 yMo_allAtOnce ∈ wt := List.mem_filter.mpr ⟨List.mem_append_right _ (List.mem_of_getElem? (i := 602) (by decide +kernel)), by decide +kernel⟩
theorem lkMo_86 : Cond.methodLink "ClassCharactersModel" 86 yMo_isPrime ∈ wt := List.mem_filter.mpr ⟨List.mem_append_right _ (List.mem_of_getElem? (i := 610) (by decide +kernel)), by decide +kernel⟩
theorem lkMo_92 : Cond.methodLink "ClassCharactersModel" 92 yMo_isRoot ∈ wt := List.mem_filter.mpr ⟨List.mem_append_right _ (List.mem_of_getElem? (i := 613) (by decide +kernel)), by decide +kernel⟩
theorem lkMo_95 : Cond.methodLink "ClassCharactersModel" 95 yMo_mod ∈ wt := List.mem_filter.mpr ⟨List.mem_append_right _ (List.mem_of_getElem? (i := 637) (by decide +kernel)), by decide +kernel⟩
theorem lkMo_98 : Cond.methodLink "ClassCharactersModel" 98 yMo_raised ∈ wt := List.mem_filter.mpr ⟨List.mem_append_right _ (List.mem_of_getElem? (i := 641) (by decide +kernel)), by decide +kernel⟩
theorem lkMo_101 : Cond.methodLink "ClassCharactersModel" 101 yMo_copy ∈ wt := List.mem_filter.mpr ⟨List.mem_append_right _ (List.mem_of_getElem? (i := 649) (by decide +kernel)), by decide +kernel⟩
theorem lkMo_105 : Cond.methodLink "ClassCharactersModel" 105 yMo_multiply ∈ wt := List.mem_filter.mpr ⟨List.mem_append_right _ (List.mem_of_getElem? (i := 629) (by decide +kernel)), by decide +kernel⟩
theorem lkMo_109 : Cond.methodLink "ClassCharactersModel" 109 yMo_over ∈ wt := List.mem_filter.mpr ⟨List.mem_append_right _ (List.mem_of_getElem? (i := 633) (by decide +kernel)), by decide +kernel⟩
theorem lkMo_112 : Cond.methodLink "ClassCharactersModel" 112 yMo_ratio ∈ wt := List.mem_filter.mpr ⟨List.mem_append_right _ (List.mem_of_getElem? (i := 625) (by decide +kernel)), by decide +kernel⟩
theorem lkMo_115 : Cond.methodLink "ClassCharactersModel" 115 yMo_fermat ∈ wt := List.mem_filter.mpr ⟨List.mem_append_right _ (List.mem_of_getElem? (i := 645) (by decide +kernel)), by decide +kernel⟩
theorem lkMo_121 : Cond.methodLink "ClassCharactersModel" 121 yMo_split ∈ wt := List.mem_filter.mpr ⟨List.mem_append_right _ (List.mem_of_getElem? (i := 621) (by decide +kernel)), by decide +kernel⟩
theorem lkMo_124 : Cond.methodLink "ClassCharactersModel" 124 yMo_inverseOf ∈ wt := List.mem_filter.mpr ⟨List.mem_append_right _ (List.mem_of_getElem? (i := 657) (by decide +kernel)), by decide +kernel⟩
theorem lkMo_127 : Cond.methodLink "ClassCharactersModel" 127 yMo_close ∈ wt := List.mem_filter.mpr ⟨List.mem_append_right _ (List.mem_of_getElem? (i := 575) (by decide +kernel)), by decide +kernel⟩
theorem lkMo_131 : Cond.methodLink "ClassCharactersModel" 131 yMo_classify ∈ wt := List.mem_filter.mpr ⟨List.mem_append_right _ (List.mem_of_getElem? (i := 587) (by decide +kernel)), by decide +kernel⟩
theorem lkMo_134 : Cond.methodLink "ClassCharactersModel" 134 yMo_count ∈ wt := List.mem_filter.mpr ⟨List.mem_append_right _ (List.mem_of_getElem? (i := 594) (by decide +kernel)), by decide +kernel⟩
theorem lkMo_137 : Cond.methodLink "ClassCharactersModel" 137 yMo_numbers ∈ wt := List.mem_filter.mpr ⟨List.mem_append_right _ (List.mem_of_getElem? (i := 598) (by decide +kernel)), by decide +kernel⟩
theorem lkMo_140 : Cond.methodLink "ClassCharactersModel" 140 yMo_takeApart ∈ wt := List.mem_filter.mpr ⟨List.mem_append_right _ (List.mem_of_getElem? (i := 617) (by decide +kernel)), by decide +kernel⟩
theorem lkMo_143 : Cond.methodLink "ClassCharactersModel" 143 yMo_makeRow ∈ wt := List.mem_filter.mpr ⟨List.mem_append_right _ (List.mem_of_getElem? (i := 653) (by decide +kernel)), by decide +kernel⟩
theorem lkMo_147 : Cond.methodLink "ClassCharactersModel" 147 yMo_comesBefore ∈ wt := List.mem_filter.mpr ⟨List.mem_append_right _ (List.mem_of_getElem? (i := 661) (by decide +kernel)), by decide +kernel⟩
theorem lkMo_151 : Cond.methodLink "ClassCharactersModel" 151 yMo_exchange ∈ wt := List.mem_filter.mpr ⟨List.mem_append_right _ (List.mem_of_getElem? (i := 665) (by decide +kernel)), by decide +kernel⟩
theorem lkMo_154 : Cond.methodLink "ClassCharactersModel" 154 yMo_isClass ∈ wt := List.mem_filter.mpr ⟨List.mem_append_right _ (List.mem_of_getElem? (i := 689) (by decide +kernel)), by decide +kernel⟩
theorem lkMo_157 : Cond.methodLink "ClassCharactersModel" 157 yMo_power ∈ wt := List.mem_filter.mpr ⟨List.mem_append_right _ (List.mem_of_getElem? (i := 733) (by decide +kernel)), by decide +kernel⟩
theorem lkMo_160 : Cond.methodLink "ClassCharactersModel" 160 yMo_kernel ∈ wt := List.mem_filter.mpr ⟨List.mem_append_right _ (List.mem_of_getElem? (i := 742) (by decide +kernel)), by decide +kernel⟩
theorem lkMo_163 : Cond.methodLink "ClassCharactersModel" 163 yMo_insert ∈ wt := List.mem_filter.mpr ⟨List.mem_append_right _ (List.mem_of_getElem? (i := 743) (by decide +kernel)), by decide +kernel⟩
theorem lkCm_45 : Cond.methodLink "ClassCharacters$CentralMaps" 45 yCm_startWhole ∈ wt := List.mem_filter.mpr ⟨List.mem_append_right _ (List.mem_of_getElem? (i := 292) (by decide +kernel)), by decide +kernel⟩
theorem lkCm_48 : Cond.methodLink "ClassCharacters$CentralMaps" 48 yCm_setAction ∈ wt := List.mem_filter.mpr ⟨List.mem_append_right _ (List.mem_of_getElem? (i := 297) (by decide +kernel)), by decide +kernel⟩
theorem lkCm_52 : Cond.methodLink "ClassCharacters$CentralMaps" 52 yCm_split ∈ wt := List.mem_filter.mpr ⟨List.mem_append_right _ (List.mem_of_getElem? (i := 309) (by decide +kernel)), by decide +kernel⟩
theorem lkCm_56 : Cond.methodLink "ClassCharacters$CentralMaps" 56 yMa_max ∈ wt := List.mem_filter.mpr ⟨List.mem_append_right _ (List.mem_of_getElem? (i := 352) (by decide +kernel)), by decide +kernel⟩
theorem lkCm_62 : Cond.methodLink "ClassCharacters$CentralMaps" 62 yCm_scale ∈ wt := List.mem_filter.mpr ⟨List.mem_append_right _ (List.mem_of_getElem? (i := 353) (by decide +kernel)), by decide +kernel⟩
theorem lkCm_66 : Cond.methodLink "ClassCharacters$CentralMaps" 66 yAr_fill ∈ wt := List.mem_filter.mpr ⟨List.mem_append_right _ (List.mem_of_getElem? (i := 296) (by decide +kernel)), by decide +kernel⟩
theorem lkCm_72 : Cond.methodLink "ClassCharacters$CentralMaps" 72 yCo_pairs ∈ wt := List.mem_filter.mpr ⟨List.mem_append_right _ (List.mem_of_getElem? (i := 301) (by decide +kernel)), by decide +kernel⟩
theorem lkCm_76 : Cond.methodLink "ClassCharacters$CentralMaps" 76 yRe_plusTimes ∈ wt := List.mem_filter.mpr ⟨List.mem_append_right _ (List.mem_of_getElem? (i := 305) (by decide +kernel)), by decide +kernel⟩
theorem lkCm_84 : Cond.methodLink "ClassCharacters$CentralMaps" 84 yCm_setSystem ∈ wt := List.mem_filter.mpr ⟨List.mem_append_right _ (List.mem_of_getElem? (i := 313) (by decide +kernel)), by decide +kernel⟩
theorem lkCm_87 : Cond.methodLink "ClassCharacters$CentralMaps" 87 yCm_solve ∈ wt := List.mem_filter.mpr ⟨List.mem_append_right _ (List.mem_of_getElem? (i := 327) (by decide +kernel)), by decide +kernel⟩
theorem lkCm_91 : Cond.methodLink "ClassCharacters$CentralMaps" 91 yCm_takeSolution ∈ wt := List.mem_filter.mpr ⟨List.mem_append_right _ (List.mem_of_getElem? (i := 348) (by decide +kernel)), by decide +kernel⟩
theorem lkCm_95 : Cond.methodLink "ClassCharacters$CentralMaps" 95 arraycopyName ∈ wt := by decide +kernel
theorem lkCm_101 : Cond.methodLink "ClassCharacters$CentralMaps" 101 yRe_reduce ∈ wt := List.mem_filter.mpr ⟨List.mem_append_right _ (List.mem_of_getElem? (i := 320) (by decide +kernel)), by decide +kernel⟩
theorem lkCm_105 : Cond.methodLink "ClassCharacters$CentralMaps" 105 yCm_swapRows ∈ wt := List.mem_filter.mpr ⟨List.mem_append_right _ (List.mem_of_getElem? (i := 331) (by decide +kernel)), by decide +kernel⟩
theorem lkCm_109 : Cond.methodLink "ClassCharacters$CentralMaps" 109 yCm_clearColumn ∈ wt := List.mem_filter.mpr ⟨List.mem_append_right _ (List.mem_of_getElem? (i := 335) (by decide +kernel)), by decide +kernel⟩
theorem lkCm_113 : Cond.methodLink "ClassCharacters$CentralMaps" 113 yRe_reciprocal ∈ wt := List.mem_filter.mpr ⟨List.mem_append_right _ (List.mem_of_getElem? (i := 339) (by decide +kernel)), by decide +kernel⟩
theorem lkCm_116 : Cond.methodLink "ClassCharacters$CentralMaps" 116 yRe_times ∈ wt := List.mem_filter.mpr ⟨List.mem_append_right _ (List.mem_of_getElem? (i := 343) (by decide +kernel)), by decide +kernel⟩
theorem lkCm_119 : Cond.methodLink "ClassCharacters$CentralMaps" 119 yRe_minusTimes ∈ wt := List.mem_filter.mpr ⟨List.mem_append_right _ (List.mem_of_getElem? (i := 344) (by decide +kernel)), by decide +kernel⟩
theorem lkCo_39 : Cond.methodLink "ClassCharacters$Conjugates" 39 yAr_fill ∈ wt := List.mem_filter.mpr ⟨List.mem_append_right _ (List.mem_of_getElem? (i := 239) (by decide +kernel)), by decide +kernel⟩
theorem lkCo_51 : Cond.methodLink "ClassCharacters$Conjugates" 51 yCo_gather ∈ wt := List.mem_filter.mpr ⟨List.mem_append_right _ (List.mem_of_getElem? (i := 242) (by decide +kernel)), by decide +kernel⟩
theorem lkCo_55 : Cond.methodLink "ClassCharacters$Conjugates" 55 yCd_inverse ∈ wt := List.mem_filter.mpr ⟨List.mem_append_right _ (List.mem_of_getElem? (i := 246) (by decide +kernel)), by decide +kernel⟩
theorem lkCo_61 : Cond.methodLink "ClassCharacters$Conjugates" 61 yCd_product ∈ wt := List.mem_filter.mpr ⟨List.mem_append_right _ (List.mem_of_getElem? (i := 249) (by decide +kernel)), by decide +kernel⟩
theorem lkCo_65 : Cond.methodLink "ClassCharacters$Conjugates" 65 yEl_indexOf ∈ wt := List.mem_filter.mpr ⟨List.mem_append_right _ (List.mem_of_getElem? (i := 250) (by decide +kernel)), by decide +kernel⟩
theorem lkCo_69 : Cond.methodLink "ClassCharacters$Conjugates" 69 yCo_classHolding ∈ wt := List.mem_filter.mpr ⟨List.mem_append_right _ (List.mem_of_getElem? (i := 259) (by decide +kernel)), by decide +kernel⟩
theorem lkCo_73 : Cond.methodLink "ClassCharacters$Conjugates" 73 yCo_pairPlace ∈ wt := List.mem_filter.mpr ⟨List.mem_append_right _ (List.mem_of_getElem? (i := 267) (by decide +kernel)), by decide +kernel⟩
theorem lkEl_25 : Cond.methodLink "ClassCharacters$Elements" 25 yEl_include ∈ wt := List.mem_filter.mpr ⟨List.mem_append_right _ (List.mem_of_getElem? (i := 224) (by decide +kernel)), by decide +kernel⟩
theorem lkEl_29 : Cond.methodLink "ClassCharacters$Elements" 29 yCd_product ∈ wt := List.mem_filter.mpr ⟨List.mem_append_right _ (List.mem_of_getElem? (i := 232) (by decide +kernel)), by decide +kernel⟩
theorem lkEl_33 : Cond.methodLink "ClassCharacters$Elements" 33 yEl_firstNotBelow ∈ wt := List.mem_filter.mpr ⟨List.mem_append_right _ (List.mem_of_getElem? (i := 228) (by decide +kernel)), by decide +kernel⟩
theorem lkRe_16 : Cond.methodLink "ClassCharacters$Residues" 16 yRe_isPrime ∈ wt := List.mem_filter.mpr ⟨List.mem_append_right _ (List.mem_of_getElem? (i := 274) (by decide +kernel)), by decide +kernel⟩
theorem lkRe_20 : Cond.methodLink "ClassCharacters$Residues" 20 yMa_max ∈ wt := List.mem_filter.mpr ⟨List.mem_append_right _ (List.mem_of_getElem? (i := 277) (by decide +kernel)), by decide +kernel⟩
theorem lkRe_26 : Cond.methodLink "ClassCharacters$Residues" 26 yRe_orderOf ∈ wt := List.mem_filter.mpr ⟨List.mem_append_right _ (List.mem_of_getElem? (i := 280) (by decide +kernel)), by decide +kernel⟩
theorem lkRe_30 : Cond.methodLink "ClassCharacters$Residues" 30 yRe_times ∈ wt := List.mem_filter.mpr ⟨List.mem_append_right _ (List.mem_of_getElem? (i := 284) (by decide +kernel)), by decide +kernel⟩
theorem lkRe_33 : Cond.methodLink "ClassCharacters$Residues" 33 yMa_floorMod ∈ wt := List.mem_filter.mpr ⟨List.mem_append_right _ (List.mem_of_getElem? (i := 324) (by decide +kernel)), by decide +kernel⟩
theorem lkRe_36 : Cond.methodLink "ClassCharacters$Residues" 36 yRe_reciprocal ∈ wt := List.mem_filter.mpr ⟨List.mem_append_right _ (List.mem_of_getElem? (i := 369) (by decide +kernel)), by decide +kernel⟩
theorem lkRo_47 : Cond.methodLink "ClassCharacters$Rows" 47 yRo_setValues ∈ wt := List.mem_filter.mpr ⟨List.mem_append_right _ (List.mem_of_getElem? (i := 361) (by decide +kernel)), by decide +kernel⟩
theorem lkRo_51 : Cond.methodLink "ClassCharacters$Rows" 51 yRo_setIndicator ∈ wt := List.mem_filter.mpr ⟨List.mem_append_right _ (List.mem_of_getElem? (i := 380) (by decide +kernel)), by decide +kernel⟩
theorem lkRo_55 : Cond.methodLink "ClassCharacters$Rows" 55 yRo_setKernel ∈ wt := List.mem_filter.mpr ⟨List.mem_append_right _ (List.mem_of_getElem? (i := 388) (by decide +kernel)), by decide +kernel⟩
theorem lkRo_59 : Cond.methodLink "ClassCharacters$Rows" 59 yRo_insertPlace ∈ wt := List.mem_filter.mpr ⟨List.mem_append_right _ (List.mem_of_getElem? (i := 392) (by decide +kernel)), by decide +kernel⟩
theorem lkRo_62 : Cond.methodLink "ClassCharacters$Rows" 62 yRo_listNormals ∈ wt := List.mem_filter.mpr ⟨List.mem_append_right _ (List.mem_of_getElem? (i := 400) (by decide +kernel)), by decide +kernel⟩
theorem lkRo_68 : Cond.methodLink "ClassCharacters$Rows" 68 yRe_over ∈ wt := List.mem_filter.mpr ⟨List.mem_append_right _ (List.mem_of_getElem? (i := 365) (by decide +kernel)), by decide +kernel⟩
theorem lkRo_74 : Cond.methodLink "ClassCharacters$Rows" 74 yCo_inverseOf ∈ wt := List.mem_filter.mpr ⟨List.mem_append_right _ (List.mem_of_getElem? (i := 370) (by decide +kernel)), by decide +kernel⟩
theorem lkRo_78 : Cond.methodLink "ClassCharacters$Rows" 78 yRe_plusTimes ∈ wt := List.mem_filter.mpr ⟨List.mem_append_right _ (List.mem_of_getElem? (i := 374) (by decide +kernel)), by decide +kernel⟩
theorem lkRo_82 : Cond.methodLink "ClassCharacters$Rows" 82 yRo_degreeFor ∈ wt := List.mem_filter.mpr ⟨List.mem_append_right _ (List.mem_of_getElem? (i := 375) (by decide +kernel)), by decide +kernel⟩
theorem lkRo_86 : Cond.methodLink "ClassCharacters$Rows" 86 yRe_times ∈ wt := List.mem_filter.mpr ⟨List.mem_append_right _ (List.mem_of_getElem? (i := 379) (by decide +kernel)), by decide +kernel⟩
theorem lkRo_89 : Cond.methodLink "ClassCharacters$Rows" 89 yRe_reduce ∈ wt := List.mem_filter.mpr ⟨List.mem_append_right _ (List.mem_of_getElem? (i := 378) (by decide +kernel)), by decide +kernel⟩
theorem lkRo_95 : Cond.methodLink "ClassCharacters$Rows" 95 yCo_classRaised ∈ wt := List.mem_filter.mpr ⟨List.mem_append_right _ (List.mem_of_getElem? (i := 384) (by decide +kernel)), by decide +kernel⟩
theorem lkRo_98 : Cond.methodLink "ClassCharacters$Rows" 98 yRo_comesBefore ∈ wt := List.mem_filter.mpr ⟨List.mem_append_right _ (List.mem_of_getElem? (i := 396) (by decide +kernel)), by decide +kernel⟩
theorem lkRo_102 : Cond.methodLink "ClassCharacters$Rows" 102 yRo_includeNormal ∈ wt := List.mem_filter.mpr ⟨List.mem_append_right _ (List.mem_of_getElem? (i := 404) (by decide +kernel)), by decide +kernel⟩
theorem lkRo_111 : Cond.methodLink "ClassCharacters$Rows" 111 yRe_raised ∈ wt := List.mem_filter.mpr ⟨List.mem_append_right _ (List.mem_of_getElem? (i := 479) (by decide +kernel)), by decide +kernel⟩
theorem hCc_add (l : Launch) (D : va_G) (E : sx_E) (B : Nat) (A : Nat → Prop) (hB : 29 ≤ B) : ∀ (pc : Nat) (i : Instr × Nat × Nat), sx_tab lCc_add pc = some i → sx_isC i.1 = true → sx_Cal l yCc_add.cls (wy yCc_add prog_1_method_2_code 2 (some .boolean)) wn ({ frames := 1, cells := 0, slots := 0, locals := 22 }) D kinds A E B 2 prog_1_method_2_code i.1 (csAll i.2.1) := by
  intro pc i hF hi
  have h2 : (pc, i) ∈ lCc_add.filter (fun q => sx_isC q.2.1) := List.mem_filter.mpr ⟨sx_tab_mem hF, hi⟩
  have h3 : lCc_add.filter (fun q => sx_isC q.2.1) = [(9, .invokestatic 55, 81, 0)] := rfl
  rw [h3] at h2
  simp only [List.mem_cons, List.not_mem_nil, or_false, Prod.mk.injEq] at h2
  rcases h2 with ⟨rfl, rfl⟩
  · exact sx_CalS (n := 1) (fun As w Q h => h l D E B A hB) (wy_in mCd_isPermutation) rfl rfl rfl (List.mem_cons_of_mem _ mnCd_isPermutation) (List.mem_cons_of_mem _ lkCc_55) (List.mem_cons_of_mem _ msCd_isPermutation) (by decide +kernel) (by decide) rfl
theorem hCc_build (l : Launch) (D : va_G) (E : sx_E) (B : Nat) (A : Nat → Prop) (hB : 29 ≤ B) : ∀ (pc : Nat) (i : Instr × Nat × Nat), sx_tab lCc_build pc = some i → sx_isC i.1 = true → sx_Cal l yCc_build.cls (wy yCc_build prog_1_method_4_code 1 (some .int)) wn ({ frames := 6, cells := 0, slots := 0, locals := 153 }) D kinds A E B 1 prog_1_method_4_code i.1 (csAll i.2.1) := by
  intro pc i hF hi
  have h2 : (pc, i) ∈ lCc_build.filter (fun q => sx_isC q.2.1) := List.mem_filter.mpr ⟨sx_tab_mem hF, hi⟩
  have h3 : lCc_build.filter (fun q => sx_isC q.2.1) = [(10, .invokevirtual 61, 22, 0)] := rfl
  rw [h3] at h2
  simp only [List.mem_cons, List.not_mem_nil, or_false, Prod.mk.injEq] at h2
  rcases h2 with ⟨rfl, rfl⟩
  · exact sx_CalV (n := 0) (ci := 0) (fun As w Q h => h.2 l D E B A hB) (fun As w Q h => by obtain ⟨n0, tl, fs, e1, e2, e3⟩ := h.1; exact ⟨n0, tl, fs, e1, by omega, e3⟩) rfl rfl (wy_in mCc_workOut) rfl rfl rfl (List.mem_cons_of_mem _ mnCc_workOut) (List.mem_cons_of_mem _ lkCc_61) (List.mem_cons_of_mem _ miCc_workOut.1) (List.mem_cons_of_mem _ miCc_workOut.2) (by decide +kernel) (by decide) rfl
theorem hCc_order (l : Launch) (D : va_G) (E : sx_E) (B : Nat) (A : Nat → Prop) (hB : 29 ≤ B) : ∀ (pc : Nat) (i : Instr × Nat × Nat), sx_tab lCc_order pc = some i → sx_isC i.1 = true → sx_Cal l yCc_order.cls (wy yCc_order prog_1_method_5_code 1 (some .int)) wn ({ frames := 1, cells := 0, slots := 0, locals := 20 }) D kinds A E B 1 prog_1_method_5_code i.1 (csAll i.2.1) := by
  intro pc i hF hi
  have h2 : (pc, i) ∈ lCc_order.filter (fun q => sx_isC q.2.1) := List.mem_filter.mpr ⟨sx_tab_mem hF, hi⟩
  have h3 : lCc_order.filter (fun q => sx_isC q.2.1) = [(1, .invokevirtual 65, 20, 0)] := rfl
  rw [h3] at h2
  simp only [List.mem_cons, List.not_mem_nil, or_false, Prod.mk.injEq] at h2
  rcases h2 with ⟨rfl, rfl⟩
  · exact sx_CalV (n := 0) (ci := 0) (fun As w Q h => h.2 l D E B A hB) (fun As w Q h => by obtain ⟨n0, tl, fs, e1, e2, e3⟩ := h.1; exact ⟨n0, tl, fs, e1, by omega, e3⟩) rfl rfl (wy_in mCc_isBuilt) rfl rfl rfl (List.mem_cons_of_mem _ mnCc_isBuilt) (List.mem_cons_of_mem _ lkCc_65) (List.mem_cons_of_mem _ miCc_isBuilt.1) (List.mem_cons_of_mem _ miCc_isBuilt.2) (by decide +kernel) (by decide) rfl
theorem hCc_element (l : Launch) (D : va_G) (E : sx_E) (B : Nat) (A : Nat → Prop) (hB : 29 ≤ B) : ∀ (pc : Nat) (i : Instr × Nat × Nat), sx_tab lCc_element pc = some i → sx_isC i.1 = true → sx_Cal l yCc_element.cls (wy yCc_element prog_1_method_6_code 2 (some .int)) wn ({ frames := 1, cells := 0, slots := 0, locals := 20 }) D kinds A E B 2 prog_1_method_6_code i.1 (csAll i.2.1) := by
  intro pc i hF hi
  have h2 : (pc, i) ∈ lCc_element.filter (fun q => sx_isC q.2.1) := List.mem_filter.mpr ⟨sx_tab_mem hF, hi⟩
  have h3 : lCc_element.filter (fun q => sx_isC q.2.1) = [(1, .invokevirtual 65, 20, 0)] := rfl
  rw [h3] at h2
  simp only [List.mem_cons, List.not_mem_nil, or_false, Prod.mk.injEq] at h2
  rcases h2 with ⟨rfl, rfl⟩
  · exact sx_CalV (n := 0) (ci := 0) (fun As w Q h => h.2 l D E B A hB) (fun As w Q h => by obtain ⟨n0, tl, fs, e1, e2, e3⟩ := h.1; exact ⟨n0, tl, fs, e1, by omega, e3⟩) rfl rfl (wy_in mCc_isBuilt) rfl rfl rfl (List.mem_cons_of_mem _ mnCc_isBuilt) (List.mem_cons_of_mem _ lkCc_65) (List.mem_cons_of_mem _ miCc_isBuilt.1) (List.mem_cons_of_mem _ miCc_isBuilt.2) (by decide +kernel) (by decide) rfl
theorem hCc_classOf (l : Launch) (D : va_G) (E : sx_E) (B : Nat) (A : Nat → Prop) (hB : 29 ≤ B) : ∀ (pc : Nat) (i : Instr × Nat × Nat), sx_tab lCc_classOf pc = some i → sx_isC i.1 = true → sx_Cal l yCc_classOf.cls (wy yCc_classOf prog_1_method_7_code 2 (some .int)) wn ({ frames := 3, cells := 0, slots := 0, locals := 68 }) D kinds A E B 2 prog_1_method_7_code i.1 (csAll i.2.1) := by
  intro pc i hF hi
  have h2 : (pc, i) ∈ lCc_classOf.filter (fun q => sx_isC q.2.1) := List.mem_filter.mpr ⟨sx_tab_mem hF, hi⟩
  have h3 : lCc_classOf.filter (fun q => sx_isC q.2.1) = [(1, .invokevirtual 65, 20, 0), (16, .invokevirtual 75, 86, 0)] := rfl
  rw [h3] at h2
  simp only [List.mem_cons, List.not_mem_nil, or_false, Prod.mk.injEq] at h2
  rcases h2 with ⟨rfl, rfl⟩ | ⟨rfl, rfl⟩
  · exact sx_CalV (n := 0) (ci := 0) (fun As w Q h => h.2 l D E B A hB) (fun As w Q h => by obtain ⟨n0, tl, fs, e1, e2, e3⟩ := h.1; exact ⟨n0, tl, fs, e1, by omega, e3⟩) rfl rfl (wy_in mCc_isBuilt) rfl rfl rfl (List.mem_cons_of_mem _ mnCc_isBuilt) (List.mem_cons_of_mem _ lkCc_65) (List.mem_cons_of_mem _ miCc_isBuilt.1) (List.mem_cons_of_mem _ miCc_isBuilt.2) (by decide +kernel) (by decide) rfl
  · exact sx_CalV (n := 2) (ci := 2) (fun As w Q h => h.2 l D E B A hB) (fun As w Q h => by obtain ⟨n0, tl, fs, e1, e2, e3⟩ := h.1; exact ⟨n0, tl, fs, e1, by omega, e3⟩) rfl rfl (wy_in mCo_classHolding) rfl rfl rfl (List.mem_cons_of_mem _ mnCo_classHolding) (List.mem_cons_of_mem _ lkCc_75) (List.mem_cons_of_mem _ miCo_classHolding.1) (List.mem_cons_of_mem _ miCo_classHolding.2) (by decide +kernel) (by decide) rfl
theorem hCc_classes (l : Launch) (D : va_G) (E : sx_E) (B : Nat) (A : Nat → Prop) (hB : 29 ≤ B) : ∀ (pc : Nat) (i : Instr × Nat × Nat), sx_tab lCc_classes pc = some i → sx_isC i.1 = true → sx_Cal l yCc_classes.cls (wy yCc_classes prog_1_method_8_code 1 (some .int)) wn ({ frames := 1, cells := 0, slots := 0, locals := 20 }) D kinds A E B 1 prog_1_method_8_code i.1 (csAll i.2.1) := by
  intro pc i hF hi
  have h2 : (pc, i) ∈ lCc_classes.filter (fun q => sx_isC q.2.1) := List.mem_filter.mpr ⟨sx_tab_mem hF, hi⟩
  have h3 : lCc_classes.filter (fun q => sx_isC q.2.1) = [(1, .invokevirtual 65, 20, 0)] := rfl
  rw [h3] at h2
  simp only [List.mem_cons, List.not_mem_nil, or_false, Prod.mk.injEq] at h2
  rcases h2 with ⟨rfl, rfl⟩
  · exact sx_CalV (n := 0) (ci := 0) (fun As w Q h => h.2 l D E B A hB) (fun As w Q h => by obtain ⟨n0, tl, fs, e1, e2, e3⟩ := h.1; exact ⟨n0, tl, fs, e1, by omega, e3⟩) rfl rfl (wy_in mCc_isBuilt) rfl rfl rfl (List.mem_cons_of_mem _ mnCc_isBuilt) (List.mem_cons_of_mem _ lkCc_65) (List.mem_cons_of_mem _ miCc_isBuilt.1) (List.mem_cons_of_mem _ miCc_isBuilt.2) (by decide +kernel) (by decide) rfl
theorem hCc_size (l : Launch) (D : va_G) (E : sx_E) (B : Nat) (A : Nat → Prop) (hB : 29 ≤ B) : ∀ (pc : Nat) (i : Instr × Nat × Nat), sx_tab lCc_size pc = some i → sx_isC i.1 = true → sx_Cal l yCc_size.cls (wy yCc_size prog_1_method_9_code 2 (some .int)) wn ({ frames := 2, cells := 0, slots := 0, locals := 41 }) D kinds A E B 2 prog_1_method_9_code i.1 (csAll i.2.1) := by
  intro pc i hF hi
  have h2 : (pc, i) ∈ lCc_size.filter (fun q => sx_isC q.2.1) := List.mem_filter.mpr ⟨sx_tab_mem hF, hi⟩
  have h3 : lCc_size.filter (fun q => sx_isC q.2.1) = [(2, .invokevirtual 80, 21, 0)] := rfl
  rw [h3] at h2
  simp only [List.mem_cons, List.not_mem_nil, or_false, Prod.mk.injEq] at h2
  rcases h2 with ⟨rfl, rfl⟩
  · exact sx_CalV (n := 1) (ci := 0) (fun As w Q h => h.2 l D E B A hB) (fun As w Q h => by obtain ⟨n0, tl, fs, e1, e2, e3⟩ := h.1; exact ⟨n0, tl, fs, e1, by omega, e3⟩) rfl rfl (wy_in mCc_isClass) rfl rfl rfl (List.mem_cons_of_mem _ mnCc_isClass) (List.mem_cons_of_mem _ lkCc_80) (List.mem_cons_of_mem _ miCc_isClass.1) (List.mem_cons_of_mem _ miCc_isClass.2) (by decide +kernel) (by decide) rfl
theorem hCc_least (l : Launch) (D : va_G) (E : sx_E) (B : Nat) (A : Nat → Prop) (hB : 29 ≤ B) : ∀ (pc : Nat) (i : Instr × Nat × Nat), sx_tab lCc_least pc = some i → sx_isC i.1 = true → sx_Cal l yCc_least.cls (wy yCc_least prog_1_method_10_code 2 (some .int)) wn ({ frames := 2, cells := 0, slots := 0, locals := 41 }) D kinds A E B 2 prog_1_method_10_code i.1 (csAll i.2.1) := by
  intro pc i hF hi
  have h2 : (pc, i) ∈ lCc_least.filter (fun q => sx_isC q.2.1) := List.mem_filter.mpr ⟨sx_tab_mem hF, hi⟩
  have h3 : lCc_least.filter (fun q => sx_isC q.2.1) = [(2, .invokevirtual 80, 21, 0)] := rfl
  rw [h3] at h2
  simp only [List.mem_cons, List.not_mem_nil, or_false, Prod.mk.injEq] at h2
  rcases h2 with ⟨rfl, rfl⟩
  · exact sx_CalV (n := 1) (ci := 0) (fun As w Q h => h.2 l D E B A hB) (fun As w Q h => by obtain ⟨n0, tl, fs, e1, e2, e3⟩ := h.1; exact ⟨n0, tl, fs, e1, by omega, e3⟩) rfl rfl (wy_in mCc_isClass) rfl rfl rfl (List.mem_cons_of_mem _ mnCc_isClass) (List.mem_cons_of_mem _ lkCc_80) (List.mem_cons_of_mem _ miCc_isClass.1) (List.mem_cons_of_mem _ miCc_isClass.2) (by decide +kernel) (by decide) rfl
theorem hCc_power (l : Launch) (D : va_G) (E : sx_E) (B : Nat) (A : Nat → Prop) (hB : 29 ≤ B) : ∀ (pc : Nat) (i : Instr × Nat × Nat), sx_tab lCc_power pc = some i → sx_isC i.1 = true → sx_Cal l yCc_power.cls (wy yCc_power prog_1_method_11_code 3 (some .int)) wn ({ frames := 2, cells := 0, slots := 0, locals := 41 }) D kinds A E B 3 prog_1_method_11_code i.1 (csAll i.2.1) := by
  intro pc i hF hi
  have h2 : (pc, i) ∈ lCc_power.filter (fun q => sx_isC q.2.1) := List.mem_filter.mpr ⟨sx_tab_mem hF, hi⟩
  have h3 : lCc_power.filter (fun q => sx_isC q.2.1) = [(2, .invokevirtual 80, 21, 0), (27, .invokevirtual 89, 88, 0)] := rfl
  rw [h3] at h2
  simp only [List.mem_cons, List.not_mem_nil, or_false, Prod.mk.injEq] at h2
  rcases h2 with ⟨rfl, rfl⟩ | ⟨rfl, rfl⟩
  · exact sx_CalV (n := 1) (ci := 0) (fun As w Q h => h.2 l D E B A hB) (fun As w Q h => by obtain ⟨n0, tl, fs, e1, e2, e3⟩ := h.1; exact ⟨n0, tl, fs, e1, by omega, e3⟩) rfl rfl (wy_in mCc_isClass) rfl rfl rfl (List.mem_cons_of_mem _ mnCc_isClass) (List.mem_cons_of_mem _ lkCc_80) (List.mem_cons_of_mem _ miCc_isClass.1) (List.mem_cons_of_mem _ miCc_isClass.2) (by decide +kernel) (by decide) rfl
  · exact sx_CalV (n := 2) (ci := 2) (fun As w Q h => h.2 l D E B A hB) (fun As w Q h => by obtain ⟨n0, tl, fs, e1, e2, e3⟩ := h.1; exact ⟨n0, tl, fs, e1, by omega, e3⟩) rfl rfl (wy_in mCo_classRaised) rfl rfl rfl (List.mem_cons_of_mem _ mnCo_classRaised) (List.mem_cons_of_mem _ lkCc_89) (List.mem_cons_of_mem _ miCo_classRaised.1) (List.mem_cons_of_mem _ miCo_classRaised.2) (by decide +kernel) (by decide) rfl
theorem hCc_constant (l : Launch) (D : va_G) (E : sx_E) (B : Nat) (A : Nat → Prop) (hB : 29 ≤ B) : ∀ (pc : Nat) (i : Instr × Nat × Nat), sx_tab lCc_constant pc = some i → sx_isC i.1 = true → sx_Cal l yCc_constant.cls (wy yCc_constant prog_1_method_12_code 4 (some .int)) wn ({ frames := 2, cells := 0, slots := 0, locals := 45 }) D kinds A E B 4 prog_1_method_12_code i.1 (csAll i.2.1) := by
  intro pc i hF hi
  have h2 : (pc, i) ∈ lCc_constant.filter (fun q => sx_isC q.2.1) := List.mem_filter.mpr ⟨sx_tab_mem hF, hi⟩
  have h3 : lCc_constant.filter (fun q => sx_isC q.2.1) = [(2, .invokevirtual 80, 21, 0), (10, .invokevirtual 80, 21, 0), (18, .invokevirtual 80, 21, 0), (33, .invokevirtual 93, 91, 0)] := rfl
  rw [h3] at h2
  simp only [List.mem_cons, List.not_mem_nil, or_false, Prod.mk.injEq] at h2
  rcases h2 with ⟨rfl, rfl⟩ | ⟨rfl, rfl⟩ | ⟨rfl, rfl⟩ | ⟨rfl, rfl⟩
  · exact sx_CalV (n := 1) (ci := 0) (fun As w Q h => h.2 l D E B A hB) (fun As w Q h => by obtain ⟨n0, tl, fs, e1, e2, e3⟩ := h.1; exact ⟨n0, tl, fs, e1, by omega, e3⟩) rfl rfl (wy_in mCc_isClass) rfl rfl rfl (List.mem_cons_of_mem _ mnCc_isClass) (List.mem_cons_of_mem _ lkCc_80) (List.mem_cons_of_mem _ miCc_isClass.1) (List.mem_cons_of_mem _ miCc_isClass.2) (by decide +kernel) (by decide) rfl
  · exact sx_CalV (n := 1) (ci := 0) (fun As w Q h => h.2 l D E B A hB) (fun As w Q h => by obtain ⟨n0, tl, fs, e1, e2, e3⟩ := h.1; exact ⟨n0, tl, fs, e1, by omega, e3⟩) rfl rfl (wy_in mCc_isClass) rfl rfl rfl (List.mem_cons_of_mem _ mnCc_isClass) (List.mem_cons_of_mem _ lkCc_80) (List.mem_cons_of_mem _ miCc_isClass.1) (List.mem_cons_of_mem _ miCc_isClass.2) (by decide +kernel) (by decide) rfl
  · exact sx_CalV (n := 1) (ci := 0) (fun As w Q h => h.2 l D E B A hB) (fun As w Q h => by obtain ⟨n0, tl, fs, e1, e2, e3⟩ := h.1; exact ⟨n0, tl, fs, e1, by omega, e3⟩) rfl rfl (wy_in mCc_isClass) rfl rfl rfl (List.mem_cons_of_mem _ mnCc_isClass) (List.mem_cons_of_mem _ lkCc_80) (List.mem_cons_of_mem _ miCc_isClass.1) (List.mem_cons_of_mem _ miCc_isClass.2) (by decide +kernel) (by decide) rfl
  · exact sx_CalV (n := 3) (ci := 2) (fun As w Q h => h.2 l D E B A hB) (fun As w Q h => by obtain ⟨n0, tl, fs, e1, e2, e3⟩ := h.1; exact ⟨n0, tl, fs, e1, by omega, e3⟩) rfl rfl (wy_in mCo_pairs) rfl rfl rfl (List.mem_cons_of_mem _ mnCo_pairs) (List.mem_cons_of_mem _ lkCc_93) (List.mem_cons_of_mem _ miCo_pairs.1) (List.mem_cons_of_mem _ miCo_pairs.2) (by decide +kernel) (by decide) rfl
theorem hCc_exponent (l : Launch) (D : va_G) (E : sx_E) (B : Nat) (A : Nat → Prop) (hB : 29 ≤ B) : ∀ (pc : Nat) (i : Instr × Nat × Nat), sx_tab lCc_exponent pc = some i → sx_isC i.1 = true → sx_Cal l yCc_exponent.cls (wy yCc_exponent prog_1_method_13_code 1 (some .int)) wn ({ frames := 1, cells := 0, slots := 0, locals := 20 }) D kinds A E B 1 prog_1_method_13_code i.1 (csAll i.2.1) := by
  intro pc i hF hi
  have h2 : (pc, i) ∈ lCc_exponent.filter (fun q => sx_isC q.2.1) := List.mem_filter.mpr ⟨sx_tab_mem hF, hi⟩
  have h3 : lCc_exponent.filter (fun q => sx_isC q.2.1) = [(1, .invokevirtual 65, 20, 0)] := rfl
  rw [h3] at h2
  simp only [List.mem_cons, List.not_mem_nil, or_false, Prod.mk.injEq] at h2
  rcases h2 with ⟨rfl, rfl⟩
  · exact sx_CalV (n := 0) (ci := 0) (fun As w Q h => h.2 l D E B A hB) (fun As w Q h => by obtain ⟨n0, tl, fs, e1, e2, e3⟩ := h.1; exact ⟨n0, tl, fs, e1, by omega, e3⟩) rfl rfl (wy_in mCc_isBuilt) rfl rfl rfl (List.mem_cons_of_mem _ mnCc_isBuilt) (List.mem_cons_of_mem _ lkCc_65) (List.mem_cons_of_mem _ miCc_isBuilt.1) (List.mem_cons_of_mem _ miCc_isBuilt.2) (by decide +kernel) (by decide) rfl
theorem hCc_prime (l : Launch) (D : va_G) (E : sx_E) (B : Nat) (A : Nat → Prop) (hB : 29 ≤ B) : ∀ (pc : Nat) (i : Instr × Nat × Nat), sx_tab lCc_prime pc = some i → sx_isC i.1 = true → sx_Cal l yCc_prime.cls (wy yCc_prime prog_1_method_14_code 1 (some .int)) wn ({ frames := 1, cells := 0, slots := 0, locals := 20 }) D kinds A E B 1 prog_1_method_14_code i.1 (csAll i.2.1) := by
  intro pc i hF hi
  have h2 : (pc, i) ∈ lCc_prime.filter (fun q => sx_isC q.2.1) := List.mem_filter.mpr ⟨sx_tab_mem hF, hi⟩
  have h3 : lCc_prime.filter (fun q => sx_isC q.2.1) = [(1, .invokevirtual 65, 20, 0)] := rfl
  rw [h3] at h2
  simp only [List.mem_cons, List.not_mem_nil, or_false, Prod.mk.injEq] at h2
  rcases h2 with ⟨rfl, rfl⟩
  · exact sx_CalV (n := 0) (ci := 0) (fun As w Q h => h.2 l D E B A hB) (fun As w Q h => by obtain ⟨n0, tl, fs, e1, e2, e3⟩ := h.1; exact ⟨n0, tl, fs, e1, by omega, e3⟩) rfl rfl (wy_in mCc_isBuilt) rfl rfl rfl (List.mem_cons_of_mem _ mnCc_isBuilt) (List.mem_cons_of_mem _ lkCc_65) (List.mem_cons_of_mem _ miCc_isBuilt.1) (List.mem_cons_of_mem _ miCc_isBuilt.2) (by decide +kernel) (by decide) rfl
theorem hCc_root (l : Launch) (D : va_G) (E : sx_E) (B : Nat) (A : Nat → Prop) (hB : 29 ≤ B) : ∀ (pc : Nat) (i : Instr × Nat × Nat), sx_tab lCc_root pc = some i → sx_isC i.1 = true → sx_Cal l yCc_root.cls (wy yCc_root prog_1_method_15_code 1 (some .int)) wn ({ frames := 1, cells := 0, slots := 0, locals := 20 }) D kinds A E B 1 prog_1_method_15_code i.1 (csAll i.2.1) := by
  intro pc i hF hi
  have h2 : (pc, i) ∈ lCc_root.filter (fun q => sx_isC q.2.1) := List.mem_filter.mpr ⟨sx_tab_mem hF, hi⟩
  have h3 : lCc_root.filter (fun q => sx_isC q.2.1) = [(1, .invokevirtual 65, 20, 0)] := rfl
  rw [h3] at h2
  simp only [List.mem_cons, List.not_mem_nil, or_false, Prod.mk.injEq] at h2
  rcases h2 with ⟨rfl, rfl⟩
  · exact sx_CalV (n := 0) (ci := 0) (fun As w Q h => h.2 l D E B A hB) (fun As w Q h => by obtain ⟨n0, tl, fs, e1, e2, e3⟩ := h.1; exact ⟨n0, tl, fs, e1, by omega, e3⟩) rfl rfl (wy_in mCc_isBuilt) rfl rfl rfl (List.mem_cons_of_mem _ mnCc_isBuilt) (List.mem_cons_of_mem _ lkCc_65) (List.mem_cons_of_mem _ miCc_isBuilt.1) (List.mem_cons_of_mem _ miCc_isBuilt.2) (by decide +kernel) (by decide) rfl
theorem hCc_degree (l : Launch) (D : va_G) (E : sx_E) (B : Nat) (A : Nat → Prop) (hB : 29 ≤ B) : ∀ (pc : Nat) (i : Instr × Nat × Nat), sx_tab lCc_degree pc = some i → sx_isC i.1 = true → sx_Cal l yCc_degree.cls (wy yCc_degree prog_1_method_16_code 2 (some .int)) wn ({ frames := 2, cells := 0, slots := 0, locals := 41 }) D kinds A E B 2 prog_1_method_16_code i.1 (csAll i.2.1) := by
  intro pc i hF hi
  have h2 : (pc, i) ∈ lCc_degree.filter (fun q => sx_isC q.2.1) := List.mem_filter.mpr ⟨sx_tab_mem hF, hi⟩
  have h3 : lCc_degree.filter (fun q => sx_isC q.2.1) = [(2, .invokevirtual 80, 21, 0)] := rfl
  rw [h3] at h2
  simp only [List.mem_cons, List.not_mem_nil, or_false, Prod.mk.injEq] at h2
  rcases h2 with ⟨rfl, rfl⟩
  · exact sx_CalV (n := 1) (ci := 0) (fun As w Q h => h.2 l D E B A hB) (fun As w Q h => by obtain ⟨n0, tl, fs, e1, e2, e3⟩ := h.1; exact ⟨n0, tl, fs, e1, by omega, e3⟩) rfl rfl (wy_in mCc_isClass) rfl rfl rfl (List.mem_cons_of_mem _ mnCc_isClass) (List.mem_cons_of_mem _ lkCc_80) (List.mem_cons_of_mem _ miCc_isClass.1) (List.mem_cons_of_mem _ miCc_isClass.2) (by decide +kernel) (by decide) rfl
theorem hCc_value (l : Launch) (D : va_G) (E : sx_E) (B : Nat) (A : Nat → Prop) (hB : 29 ≤ B) : ∀ (pc : Nat) (i : Instr × Nat × Nat), sx_tab lCc_value pc = some i → sx_isC i.1 = true → sx_Cal l yCc_value.cls (wy yCc_value prog_1_method_17_code 3 (some .int)) wn ({ frames := 2, cells := 0, slots := 0, locals := 41 }) D kinds A E B 3 prog_1_method_17_code i.1 (csAll i.2.1) := by
  intro pc i hF hi
  have h2 : (pc, i) ∈ lCc_value.filter (fun q => sx_isC q.2.1) := List.mem_filter.mpr ⟨sx_tab_mem hF, hi⟩
  have h3 : lCc_value.filter (fun q => sx_isC q.2.1) = [(2, .invokevirtual 80, 21, 0), (10, .invokevirtual 80, 21, 0)] := rfl
  rw [h3] at h2
  simp only [List.mem_cons, List.not_mem_nil, or_false, Prod.mk.injEq] at h2
  rcases h2 with ⟨rfl, rfl⟩ | ⟨rfl, rfl⟩
  · exact sx_CalV (n := 1) (ci := 0) (fun As w Q h => h.2 l D E B A hB) (fun As w Q h => by obtain ⟨n0, tl, fs, e1, e2, e3⟩ := h.1; exact ⟨n0, tl, fs, e1, by omega, e3⟩) rfl rfl (wy_in mCc_isClass) rfl rfl rfl (List.mem_cons_of_mem _ mnCc_isClass) (List.mem_cons_of_mem _ lkCc_80) (List.mem_cons_of_mem _ miCc_isClass.1) (List.mem_cons_of_mem _ miCc_isClass.2) (by decide +kernel) (by decide) rfl
  · exact sx_CalV (n := 1) (ci := 0) (fun As w Q h => h.2 l D E B A hB) (fun As w Q h => by obtain ⟨n0, tl, fs, e1, e2, e3⟩ := h.1; exact ⟨n0, tl, fs, e1, by omega, e3⟩) rfl rfl (wy_in mCc_isClass) rfl rfl rfl (List.mem_cons_of_mem _ mnCc_isClass) (List.mem_cons_of_mem _ lkCc_80) (List.mem_cons_of_mem _ miCc_isClass.1) (List.mem_cons_of_mem _ miCc_isClass.2) (by decide +kernel) (by decide) rfl
theorem hCc_multiplicity (l : Launch) (D : va_G) (E : sx_E) (B : Nat) (A : Nat → Prop) (hB : 29 ≤ B) : ∀ (pc : Nat) (i : Instr × Nat × Nat), sx_tab lCc_multiplicity pc = some i → sx_isC i.1 = true → sx_Cal l yCc_multiplicity.cls (wy yCc_multiplicity prog_1_method_18_code 4 (some .int)) wn ({ frames := 3, cells := 0, slots := 0, locals := 81 }) D kinds A E B 4 prog_1_method_18_code i.1 (csAll i.2.1) := by
  intro pc i hF hi
  have h2 : (pc, i) ∈ lCc_multiplicity.filter (fun q => sx_isC q.2.1) := List.mem_filter.mpr ⟨sx_tab_mem hF, hi⟩
  have h3 : lCc_multiplicity.filter (fun q => sx_isC q.2.1) = [(2, .invokevirtual 80, 21, 0), (10, .invokevirtual 80, 21, 0), (56, .invokevirtual 116, 116, 0)] := rfl
  rw [h3] at h2
  simp only [List.mem_cons, List.not_mem_nil, or_false, Prod.mk.injEq] at h2
  rcases h2 with ⟨rfl, rfl⟩ | ⟨rfl, rfl⟩ | ⟨rfl, rfl⟩
  · exact sx_CalV (n := 1) (ci := 0) (fun As w Q h => h.2 l D E B A hB) (fun As w Q h => by obtain ⟨n0, tl, fs, e1, e2, e3⟩ := h.1; exact ⟨n0, tl, fs, e1, by omega, e3⟩) rfl rfl (wy_in mCc_isClass) rfl rfl rfl (List.mem_cons_of_mem _ mnCc_isClass) (List.mem_cons_of_mem _ lkCc_80) (List.mem_cons_of_mem _ miCc_isClass.1) (List.mem_cons_of_mem _ miCc_isClass.2) (by decide +kernel) (by decide) rfl
  · exact sx_CalV (n := 1) (ci := 0) (fun As w Q h => h.2 l D E B A hB) (fun As w Q h => by obtain ⟨n0, tl, fs, e1, e2, e3⟩ := h.1; exact ⟨n0, tl, fs, e1, by omega, e3⟩) rfl rfl (wy_in mCc_isClass) rfl rfl rfl (List.mem_cons_of_mem _ mnCc_isClass) (List.mem_cons_of_mem _ lkCc_80) (List.mem_cons_of_mem _ miCc_isClass.1) (List.mem_cons_of_mem _ miCc_isClass.2) (by decide +kernel) (by decide) rfl
  · exact sx_CalV (n := 5) (ci := 5) (fun As w Q h => h.2 l D E B A hB) (fun As w Q h => by obtain ⟨n0, tl, fs, e1, e2, e3⟩ := h.1; exact ⟨n0, tl, fs, e1, by omega, e3⟩) rfl rfl (wy_in mRo_timesOfRoot) rfl rfl rfl (List.mem_cons_of_mem _ mnRo_timesOfRoot) (List.mem_cons_of_mem _ lkCc_116) (List.mem_cons_of_mem _ miRo_timesOfRoot.1) (List.mem_cons_of_mem _ miRo_timesOfRoot.2) (by decide +kernel) (by decide) rfl
theorem hCc_indicator (l : Launch) (D : va_G) (E : sx_E) (B : Nat) (A : Nat → Prop) (hB : 29 ≤ B) : ∀ (pc : Nat) (i : Instr × Nat × Nat), sx_tab lCc_indicator pc = some i → sx_isC i.1 = true → sx_Cal l yCc_indicator.cls (wy yCc_indicator prog_1_method_19_code 2 (some .int)) wn ({ frames := 2, cells := 0, slots := 0, locals := 41 }) D kinds A E B 2 prog_1_method_19_code i.1 (csAll i.2.1) := by
  intro pc i hF hi
  have h2 : (pc, i) ∈ lCc_indicator.filter (fun q => sx_isC q.2.1) := List.mem_filter.mpr ⟨sx_tab_mem hF, hi⟩
  have h3 : lCc_indicator.filter (fun q => sx_isC q.2.1) = [(2, .invokevirtual 80, 21, 0)] := rfl
  rw [h3] at h2
  simp only [List.mem_cons, List.not_mem_nil, or_false, Prod.mk.injEq] at h2
  rcases h2 with ⟨rfl, rfl⟩
  · exact sx_CalV (n := 1) (ci := 0) (fun As w Q h => h.2 l D E B A hB) (fun As w Q h => by obtain ⟨n0, tl, fs, e1, e2, e3⟩ := h.1; exact ⟨n0, tl, fs, e1, by omega, e3⟩) rfl rfl (wy_in mCc_isClass) rfl rfl rfl (List.mem_cons_of_mem _ mnCc_isClass) (List.mem_cons_of_mem _ lkCc_80) (List.mem_cons_of_mem _ miCc_isClass.1) (List.mem_cons_of_mem _ miCc_isClass.2) (by decide +kernel) (by decide) rfl
theorem hCc_kernel (l : Launch) (D : va_G) (E : sx_E) (B : Nat) (A : Nat → Prop) (hB : 29 ≤ B) : ∀ (pc : Nat) (i : Instr × Nat × Nat), sx_tab lCc_kernel pc = some i → sx_isC i.1 = true → sx_Cal l yCc_kernel.cls (wy yCc_kernel prog_1_method_20_code 2 (some .int)) wn ({ frames := 2, cells := 0, slots := 0, locals := 41 }) D kinds A E B 2 prog_1_method_20_code i.1 (csAll i.2.1) := by
  intro pc i hF hi
  have h2 : (pc, i) ∈ lCc_kernel.filter (fun q => sx_isC q.2.1) := List.mem_filter.mpr ⟨sx_tab_mem hF, hi⟩
  have h3 : lCc_kernel.filter (fun q => sx_isC q.2.1) = [(2, .invokevirtual 80, 21, 0)] := rfl
  rw [h3] at h2
  simp only [List.mem_cons, List.not_mem_nil, or_false, Prod.mk.injEq] at h2
  rcases h2 with ⟨rfl, rfl⟩
  · exact sx_CalV (n := 1) (ci := 0) (fun As w Q h => h.2 l D E B A hB) (fun As w Q h => by obtain ⟨n0, tl, fs, e1, e2, e3⟩ := h.1; exact ⟨n0, tl, fs, e1, by omega, e3⟩) rfl rfl (wy_in mCc_isClass) rfl rfl rfl (List.mem_cons_of_mem _ mnCc_isClass) (List.mem_cons_of_mem _ lkCc_80) (List.mem_cons_of_mem _ miCc_isClass.1) (List.mem_cons_of_mem _ miCc_isClass.2) (by decide +kernel) (by decide) rfl
theorem hCc_normals (l : Launch) (D : va_G) (E : sx_E) (B : Nat) (A : Nat → Prop) (hB : 29 ≤ B) : ∀ (pc : Nat) (i : Instr × Nat × Nat), sx_tab lCc_normals pc = some i → sx_isC i.1 = true → sx_Cal l yCc_normals.cls (wy yCc_normals prog_1_method_21_code 1 (some .int)) wn ({ frames := 1, cells := 0, slots := 0, locals := 20 }) D kinds A E B 1 prog_1_method_21_code i.1 (csAll i.2.1) := by
  intro pc i hF hi
  have h2 : (pc, i) ∈ lCc_normals.filter (fun q => sx_isC q.2.1) := List.mem_filter.mpr ⟨sx_tab_mem hF, hi⟩
  have h3 : lCc_normals.filter (fun q => sx_isC q.2.1) = [(1, .invokevirtual 65, 20, 0)] := rfl
  rw [h3] at h2
  simp only [List.mem_cons, List.not_mem_nil, or_false, Prod.mk.injEq] at h2
  rcases h2 with ⟨rfl, rfl⟩
  · exact sx_CalV (n := 0) (ci := 0) (fun As w Q h => h.2 l D E B A hB) (fun As w Q h => by obtain ⟨n0, tl, fs, e1, e2, e3⟩ := h.1; exact ⟨n0, tl, fs, e1, by omega, e3⟩) rfl rfl (wy_in mCc_isBuilt) rfl rfl rfl (List.mem_cons_of_mem _ mnCc_isBuilt) (List.mem_cons_of_mem _ lkCc_65) (List.mem_cons_of_mem _ miCc_isBuilt.1) (List.mem_cons_of_mem _ miCc_isBuilt.2) (by decide +kernel) (by decide) rfl
theorem hCc_isClass (l : Launch) (D : va_G) (E : sx_E) (B : Nat) (A : Nat → Prop) (hB : 29 ≤ B) : ∀ (pc : Nat) (i : Instr × Nat × Nat), sx_tab lCc_isClass pc = some i → sx_isC i.1 = true → sx_Cal l yCc_isClass.cls (wy yCc_isClass prog_1_method_23_code 2 (some .boolean)) wn ({ frames := 1, cells := 0, slots := 0, locals := 20 }) D kinds A E B 2 prog_1_method_23_code i.1 (csAll i.2.1) := by
  intro pc i hF hi
  have h2 : (pc, i) ∈ lCc_isClass.filter (fun q => sx_isC q.2.1) := List.mem_filter.mpr ⟨sx_tab_mem hF, hi⟩
  have h3 : lCc_isClass.filter (fun q => sx_isC q.2.1) = [(1, .invokevirtual 65, 20, 0)] := rfl
  rw [h3] at h2
  simp only [List.mem_cons, List.not_mem_nil, or_false, Prod.mk.injEq] at h2
  rcases h2 with ⟨rfl, rfl⟩
  · exact sx_CalV (n := 0) (ci := 0) (fun As w Q h => h.2 l D E B A hB) (fun As w Q h => by obtain ⟨n0, tl, fs, e1, e2, e3⟩ := h.1; exact ⟨n0, tl, fs, e1, by omega, e3⟩) rfl rfl (wy_in mCc_isBuilt) rfl rfl rfl (List.mem_cons_of_mem _ mnCc_isBuilt) (List.mem_cons_of_mem _ lkCc_65) (List.mem_cons_of_mem _ miCc_isBuilt.1) (List.mem_cons_of_mem _ miCc_isBuilt.2) (by decide +kernel) (by decide) rfl
theorem hCc_workOut (l : Launch) (D : va_G) (E : sx_E) (B : Nat) (A : Nat → Prop) (hB : 29 ≤ B) : ∀ (pc : Nat) (i : Instr × Nat × Nat), sx_tab lCc_workOut pc = some i → sx_isC i.1 = true → sx_Cal l yCc_workOut.cls (wy yCc_workOut prog_1_method_24_code 1 (some .int)) wn ({ frames := 5, cells := 0, slots := 0, locals := 133 }) D kinds A E B 1 prog_1_method_24_code i.1 (csAll i.2.1) := by
  intro pc i hF hi
  have h2 : (pc, i) ∈ lCc_workOut.filter (fun q => sx_isC q.2.1) := List.mem_filter.mpr ⟨sx_tab_mem hF, hi⟩
  have h3 : lCc_workOut.filter (fun q => sx_isC q.2.1) = [(12, .invokevirtual 129, 93, 0), (28, .invokevirtual 133, 84, 0), (44, .invokevirtual 137, 87, 0), (55, .invokevirtual 141, 90, 0), (76, .invokevirtual 144, 97, 0), (91, .invokevirtual 148, 71, 0), (117, .invokevirtual 152, 107, 0)] := rfl
  rw [h3] at h2
  simp only [List.mem_cons, List.not_mem_nil, or_false, Prod.mk.injEq] at h2
  rcases h2 with ⟨rfl, rfl⟩ | ⟨rfl, rfl⟩ | ⟨rfl, rfl⟩ | ⟨rfl, rfl⟩ | ⟨rfl, rfl⟩ | ⟨rfl, rfl⟩ | ⟨rfl, rfl⟩
  · exact sx_CalV (n := 2) (ci := 1) (fun As w Q h => h.2 l D E B A hB) (fun As w Q h => by obtain ⟨n0, tl, fs, e1, e2, e3⟩ := h.1; exact ⟨n0, tl, fs, e1, by omega, e3⟩) rfl rfl (wy_in mEl_generate) rfl rfl rfl (List.mem_cons_of_mem _ mnEl_generate) (List.mem_cons_of_mem _ lkCc_129) (List.mem_cons_of_mem _ miEl_generate.1) (List.mem_cons_of_mem _ miEl_generate.2) (by decide +kernel) (by decide) rfl
  · exact sx_CalV (n := 1) (ci := 2) (fun As w Q h => h.2 l D E B A hB) (fun As w Q h => by obtain ⟨n0, tl, fs, e1, e2, e3⟩ := h.1; exact ⟨n0, tl, fs, e1, by omega, e3⟩) rfl rfl (wy_in mCo_divide) rfl rfl rfl (List.mem_cons_of_mem _ mnCo_divide) (List.mem_cons_of_mem _ lkCc_133) (List.mem_cons_of_mem _ miCo_divide.1) (List.mem_cons_of_mem _ miCo_divide.2) (by decide +kernel) (by decide) rfl
  · exact sx_CalV (n := 1) (ci := 2) (fun As w Q h => h.2 l D E B A hB) (fun As w Q h => by obtain ⟨n0, tl, fs, e1, e2, e3⟩ := h.1; exact ⟨n0, tl, fs, e1, by omega, e3⟩) rfl rfl (wy_in mCo_listPowers) rfl rfl rfl (List.mem_cons_of_mem _ mnCo_listPowers) (List.mem_cons_of_mem _ lkCc_137) (List.mem_cons_of_mem _ miCo_listPowers.1) (List.mem_cons_of_mem _ miCo_listPowers.2) (by decide +kernel) (by decide) rfl
  · exact sx_CalV (n := 1) (ci := 2) (fun As w Q h => h.2 l D E B A hB) (fun As w Q h => by obtain ⟨n0, tl, fs, e1, e2, e3⟩ := h.1; exact ⟨n0, tl, fs, e1, by omega, e3⟩) rfl rfl (wy_in mCo_countPairs) rfl rfl rfl (List.mem_cons_of_mem _ mnCo_countPairs) (List.mem_cons_of_mem _ lkCc_141) (List.mem_cons_of_mem _ miCo_countPairs.1) (List.mem_cons_of_mem _ miCo_countPairs.2) (by decide +kernel) (by decide) rfl
  · exact sx_CalV (n := 2) (ci := 3) (fun As w Q h => h.2 l D E B A hB) (fun As w Q h => by obtain ⟨n0, tl, fs, e1, e2, e3⟩ := h.1; exact ⟨n0, tl, fs, e1, by omega, e3⟩) rfl rfl (wy_in mRe_choose) rfl rfl rfl (List.mem_cons_of_mem _ mnRe_choose) (List.mem_cons_of_mem _ lkCc_144) (List.mem_cons_of_mem _ miRe_choose.1) (List.mem_cons_of_mem _ miRe_choose.2) (by decide +kernel) (by decide) rfl
  · exact sx_CalV (n := 2) (ci := 4) (fun As w Q h => h.2 l D E B A hB) (fun As w Q h => by obtain ⟨n0, tl, fs, e1, e2, e3⟩ := h.1; exact ⟨n0, tl, fs, e1, by omega, e3⟩) rfl rfl (wy_in mCm_find) rfl rfl rfl (List.mem_cons_of_mem _ mnCm_find) (List.mem_cons_of_mem _ lkCc_148) (List.mem_cons_of_mem _ miCm_find.1) (List.mem_cons_of_mem _ miCm_find.2) (by decide +kernel) (by decide) rfl
  · exact sx_CalV (n := 4) (ci := 5) (fun As w Q h => h.2 l D E B A hB) (fun As w Q h => by obtain ⟨n0, tl, fs, e1, e2, e3⟩ := h.1; exact ⟨n0, tl, fs, e1, by omega, e3⟩) rfl rfl (wy_in mRo_make) rfl rfl rfl (List.mem_cons_of_mem _ mnRo_make) (List.mem_cons_of_mem _ lkCc_152) (List.mem_cons_of_mem _ miRo_make.1) (List.mem_cons_of_mem _ miRo_make.2) (by decide +kernel) (by decide) rfl
theorem hMo_product (l : Launch) (D : va_G) (E : sx_E) (B : Nat) (A : Nat → Prop) (hB : 11 ≤ B) : ∀ (pc : Nat) (i : Instr × Nat × Nat), sx_tab lMo_product pc = some i → sx_isC i.1 = true → sx_Cal l yMo_product.cls (wy yMo_product prog_9_method_3_code 5 (some .int)) wn ({ frames := 1, cells := 0, slots := 0, locals := 21 }) D kinds A E B 5 prog_9_method_3_code i.1 (csAll i.2.1) := by
  intro pc i hF hi
  have h2 : (pc, i) ∈ lMo_product.filter (fun q => sx_isC q.2.1) := List.mem_filter.mpr ⟨sx_tab_mem hF, hi⟩
  have h3 : lMo_product.filter (fun q => sx_isC q.2.1) = [(12, .invokestatic 40, 23, 0), (24, .invokestatic 40, 23, 0)] := rfl
  rw [h3] at h2
  simp only [List.mem_cons, List.not_mem_nil, or_false, Prod.mk.injEq] at h2
  rcases h2 with ⟨rfl, rfl⟩ | ⟨rfl, rfl⟩
  · exact sx_CalS (n := 2) (fun As w Q h => h l D E B A hB) (wy_in mMo_image) rfl rfl rfl (List.mem_cons_of_mem _ mnMo_image) (List.mem_cons_of_mem _ lkMo_40) (List.mem_cons_of_mem _ msMo_image) (by decide +kernel) (by decide) rfl
  · exact sx_CalS (n := 2) (fun As w Q h => h l D E B A hB) (wy_in mMo_image) rfl rfl rfl (List.mem_cons_of_mem _ mnMo_image) (List.mem_cons_of_mem _ lkMo_40) (List.mem_cons_of_mem _ msMo_image) (by decide +kernel) (by decide) rfl
theorem hMo_inverted (l : Launch) (D : va_G) (E : sx_E) (B : Nat) (A : Nat → Prop) (hB : 11 ≤ B) : ∀ (pc : Nat) (i : Instr × Nat × Nat), sx_tab lMo_inverted pc = some i → sx_isC i.1 = true → sx_Cal l yMo_inverted.cls (wy yMo_inverted prog_9_method_4_code 4 (some .int)) wn ({ frames := 1, cells := 0, slots := 0, locals := 21 }) D kinds A E B 4 prog_9_method_4_code i.1 (csAll i.2.1) := by
  intro pc i hF hi
  have h2 : (pc, i) ∈ lMo_inverted.filter (fun q => sx_isC q.2.1) := List.mem_filter.mpr ⟨sx_tab_mem hF, hi⟩
  have h3 : lMo_inverted.filter (fun q => sx_isC q.2.1) = [(20, .invokestatic 40, 23, 0)] := rfl
  rw [h3] at h2
  simp only [List.mem_cons, List.not_mem_nil, or_false, Prod.mk.injEq] at h2
  rcases h2 with ⟨rfl, rfl⟩
  · exact sx_CalS (n := 2) (fun As w Q h => h l D E B A hB) (wy_in mMo_image) rfl rfl rfl (List.mem_cons_of_mem _ mnMo_image) (List.mem_cons_of_mem _ lkMo_40) (List.mem_cons_of_mem _ msMo_image) (by decide +kernel) (by decide) rfl
theorem hMo_isPermutation (l : Launch) (D : va_G) (E : sx_E) (B : Nat) (A : Nat → Prop) (hB : 11 ≤ B) : ∀ (pc : Nat) (i : Instr × Nat × Nat), sx_tab lMo_isPermutation pc = some i → sx_isC i.1 = true → sx_Cal l yMo_isPermutation.cls (wy yMo_isPermutation prog_9_method_5_code 3 (some .boolean)) wn ({ frames := 1, cells := 0, slots := 0, locals := 21 }) D kinds A E B 3 prog_9_method_5_code i.1 (csAll i.2.1) := by
  intro pc i hF hi
  have h2 : (pc, i) ∈ lMo_isPermutation.filter (fun q => sx_isC q.2.1) := List.mem_filter.mpr ⟨sx_tab_mem hF, hi⟩
  have h3 : lMo_isPermutation.filter (fun q => sx_isC q.2.1) = [(14, .invokestatic 40, 23, 0)] := rfl
  rw [h3] at h2
  simp only [List.mem_cons, List.not_mem_nil, or_false, Prod.mk.injEq] at h2
  rcases h2 with ⟨rfl, rfl⟩
  · exact sx_CalS (n := 2) (fun As w Q h => h l D E B A hB) (wy_in mMo_image) rfl rfl rfl (List.mem_cons_of_mem _ mnMo_image) (List.mem_cons_of_mem _ lkMo_40) (List.mem_cons_of_mem _ msMo_image) (by decide +kernel) (by decide) rfl
theorem hMo_add (l : Launch) (D : va_G) (E : sx_E) (B : Nat) (A : Nat → Prop) (hB : 11 ≤ B) : ∀ (pc : Nat) (i : Instr × Nat × Nat), sx_tab lMo_add pc = some i → sx_isC i.1 = true → sx_Cal l yMo_add.cls (wy yMo_add prog_9_method_6_code 2 (some .boolean)) wn ({ frames := 2, cells := 0, slots := 0, locals := 43 }) D kinds A E B 2 prog_9_method_6_code i.1 (csAll i.2.1) := by
  intro pc i hF hi
  have h2 : (pc, i) ∈ lMo_add.filter (fun q => sx_isC q.2.1) := List.mem_filter.mpr ⟨sx_tab_mem hF, hi⟩
  have h3 : lMo_add.filter (fun q => sx_isC q.2.1) = [(1, .invokestatic 45, 26, 0)] := rfl
  rw [h3] at h2
  simp only [List.mem_cons, List.not_mem_nil, or_false, Prod.mk.injEq] at h2
  rcases h2 with ⟨rfl, rfl⟩
  · exact sx_CalS (n := 1) (fun As w Q h => h l D E B A hB) (wy_in mMo_isPermutation) rfl rfl rfl (List.mem_cons_of_mem _ mnMo_isPermutation) (List.mem_cons_of_mem _ lkMo_45) (List.mem_cons_of_mem _ msMo_isPermutation) (by decide +kernel) (by decide) rfl
theorem hMo_close (l : Launch) (D : va_G) (E : sx_E) (B : Nat) (A : Nat → Prop) (hB : 11 ≤ B) : ∀ (pc : Nat) (i : Instr × Nat × Nat), sx_tab lMo_close pc = some i → sx_isC i.1 = true → sx_Cal l yMo_close.cls (wy yMo_close prog_9_method_9_code 4 (some .boolean)) wn ({ frames := 2, cells := 0, slots := 0, locals := 45 }) D kinds A E B 4 prog_9_method_9_code i.1 (csAll i.2.1) := by
  intro pc i hF hi
  have h2 : (pc, i) ∈ lMo_close.filter (fun q => sx_isC q.2.1) := List.mem_filter.mpr ⟨sx_tab_mem hF, hi⟩
  have h3 : lMo_close.filter (fun q => sx_isC q.2.1) = [(45, .invokestatic 61, 24, 0), (51, .invokevirtual 64, 29, 0)] := rfl
  rw [h3] at h2
  simp only [List.mem_cons, List.not_mem_nil, or_false, Prod.mk.injEq] at h2
  rcases h2 with ⟨rfl, rfl⟩ | ⟨rfl, rfl⟩
  · exact sx_CalS (n := 2) (fun As w Q h => h l D E B A hB) (wy_in mMo_product) rfl rfl rfl (List.mem_cons_of_mem _ mnMo_product) (List.mem_cons_of_mem _ lkMo_61) (List.mem_cons_of_mem _ msMo_product) (by decide +kernel) (by decide) rfl
  · exact sx_CalV (n := 1) (ci := 6) (fun As w Q h => h.2 l D E B A hB) (fun As w Q h => by obtain ⟨n0, tl, fs, e1, e2, e3⟩ := h.1; exact ⟨n0, tl, fs, e1, by omega, e3⟩) rfl rfl (wy_in mMo_find) rfl rfl rfl (List.mem_cons_of_mem _ mnMo_find) (List.mem_cons_of_mem _ lkMo_64) (List.mem_cons_of_mem _ miMo_find.1) (List.mem_cons_of_mem _ miMo_find.2) (by decide +kernel) (by decide) rfl
theorem hMo_classify (l : Launch) (D : va_G) (E : sx_E) (B : Nat) (A : Nat → Prop) (hB : 11 ≤ B) : ∀ (pc : Nat) (i : Instr × Nat × Nat), sx_tab lMo_classify pc = some i → sx_isC i.1 = true → sx_Cal l yMo_classify.cls (wy yMo_classify prog_9_method_10_code 6 (some .boolean)) wn ({ frames := 2, cells := 0, slots := 0, locals := 45 }) D kinds A E B 6 prog_9_method_10_code i.1 (csAll i.2.1) := by
  intro pc i hF hi
  have h2 : (pc, i) ∈ lMo_classify.filter (fun q => sx_isC q.2.1) := List.mem_filter.mpr ⟨sx_tab_mem hF, hi⟩
  have h3 : lMo_classify.filter (fun q => sx_isC q.2.1) = [(103, .invokestatic 71, 25, 0), (114, .invokestatic 61, 24, 0), (123, .invokestatic 61, 24, 0), (131, .invokevirtual 64, 29, 0)] := rfl
  rw [h3] at h2
  simp only [List.mem_cons, List.not_mem_nil, or_false, Prod.mk.injEq] at h2
  rcases h2 with ⟨rfl, rfl⟩ | ⟨rfl, rfl⟩ | ⟨rfl, rfl⟩ | ⟨rfl, rfl⟩
  · exact sx_CalS (n := 1) (fun As w Q h => h l D E B A hB) (wy_in mMo_inverted) rfl rfl rfl (List.mem_cons_of_mem _ mnMo_inverted) (List.mem_cons_of_mem _ lkMo_71) (List.mem_cons_of_mem _ msMo_inverted) (by decide +kernel) (by decide) rfl
  · exact sx_CalS (n := 2) (fun As w Q h => h l D E B A hB) (wy_in mMo_product) rfl rfl rfl (List.mem_cons_of_mem _ mnMo_product) (List.mem_cons_of_mem _ lkMo_61) (List.mem_cons_of_mem _ msMo_product) (by decide +kernel) (by decide) rfl
  · exact sx_CalS (n := 2) (fun As w Q h => h l D E B A hB) (wy_in mMo_product) rfl rfl rfl (List.mem_cons_of_mem _ mnMo_product) (List.mem_cons_of_mem _ lkMo_61) (List.mem_cons_of_mem _ msMo_product) (by decide +kernel) (by decide) rfl
  · exact sx_CalV (n := 1) (ci := 6) (fun As w Q h => h.2 l D E B A hB) (fun As w Q h => by obtain ⟨n0, tl, fs, e1, e2, e3⟩ := h.1; exact ⟨n0, tl, fs, e1, by omega, e3⟩) rfl rfl (wy_in mMo_find) rfl rfl rfl (List.mem_cons_of_mem _ mnMo_find) (List.mem_cons_of_mem _ lkMo_64) (List.mem_cons_of_mem _ miMo_find.1) (List.mem_cons_of_mem _ miMo_find.2) (by decide +kernel) (by decide) rfl
theorem hMo_count (l : Launch) (D : va_G) (E : sx_E) (B : Nat) (A : Nat → Prop) (hB : 11 ≤ B) : ∀ (pc : Nat) (i : Instr × Nat × Nat), sx_tab lMo_count pc = some i → sx_isC i.1 = true → sx_Cal l yMo_count.cls (wy yMo_count prog_9_method_11_code 5 none) wn ({ frames := 2, cells := 0, slots := 0, locals := 45 }) D kinds A E B 5 prog_9_method_11_code i.1 (csAll i.2.1) := by
  intro pc i hF hi
  have h2 : (pc, i) ∈ lMo_count.filter (fun q => sx_isC q.2.1) := List.mem_filter.mpr ⟨sx_tab_mem hF, hi⟩
  have h3 : lMo_count.filter (fun q => sx_isC q.2.1) = [(48, .invokestatic 71, 25, 0), (59, .invokestatic 61, 24, 0), (87, .invokevirtual 64, 29, 0)] := rfl
  rw [h3] at h2
  simp only [List.mem_cons, List.not_mem_nil, or_false, Prod.mk.injEq] at h2
  rcases h2 with ⟨rfl, rfl⟩ | ⟨rfl, rfl⟩ | ⟨rfl, rfl⟩
  · exact sx_CalS (n := 1) (fun As w Q h => h l D E B A hB) (wy_in mMo_inverted) rfl rfl rfl (List.mem_cons_of_mem _ mnMo_inverted) (List.mem_cons_of_mem _ lkMo_71) (List.mem_cons_of_mem _ msMo_inverted) (by decide +kernel) (by decide) rfl
  · exact sx_CalS (n := 2) (fun As w Q h => h l D E B A hB) (wy_in mMo_product) rfl rfl rfl (List.mem_cons_of_mem _ mnMo_product) (List.mem_cons_of_mem _ lkMo_61) (List.mem_cons_of_mem _ msMo_product) (by decide +kernel) (by decide) rfl
  · exact sx_CalV (n := 1) (ci := 6) (fun As w Q h => h.2 l D E B A hB) (fun As w Q h => by obtain ⟨n0, tl, fs, e1, e2, e3⟩ := h.1; exact ⟨n0, tl, fs, e1, by omega, e3⟩) rfl rfl (wy_in mMo_find) rfl rfl rfl (List.mem_cons_of_mem _ mnMo_find) (List.mem_cons_of_mem _ lkMo_64) (List.mem_cons_of_mem _ miMo_find.1) (List.mem_cons_of_mem _ miMo_find.2) (by decide +kernel) (by decide) rfl
theorem hMo_powerOf (l : Launch) (D : va_G) (E : sx_E) (B : Nat) (A : Nat → Prop) (hB : 11 ≤ B) : ∀ (pc : Nat) (i : Instr × Nat × Nat), sx_tab lMo_powerOf pc = some i → sx_isC i.1 = true → sx_Cal l yMo_powerOf.cls (wy yMo_powerOf prog_9_method_12_code 5 (some .int)) wn ({ frames := 2, cells := 0, slots := 0, locals := 45 }) D kinds A E B 5 prog_9_method_12_code i.1 (csAll i.2.1) := by
  intro pc i hF hi
  have h2 : (pc, i) ∈ lMo_powerOf.filter (fun q => sx_isC q.2.1) := List.mem_filter.mpr ⟨sx_tab_mem hF, hi⟩
  have h3 : lMo_powerOf.filter (fun q => sx_isC q.2.1) = [(14, .invokestatic 61, 24, 0)] := rfl
  rw [h3] at h2
  simp only [List.mem_cons, List.not_mem_nil, or_false, Prod.mk.injEq] at h2
  rcases h2 with ⟨rfl, rfl⟩
  · exact sx_CalS (n := 2) (fun As w Q h => h l D E B A hB) (wy_in mMo_product) rfl rfl rfl (List.mem_cons_of_mem _ mnMo_product) (List.mem_cons_of_mem _ lkMo_61) (List.mem_cons_of_mem _ msMo_product) (by decide +kernel) (by decide) rfl
theorem hMo_allAtOnce (l : Launch) (D : va_G) (E : sx_E) (B : Nat) (A : Nat → Prop) (hB : 11 ≤ B) : ∀ (pc : Nat) (i : Instr × Nat × Nat), sx_tab lMo_allAtOnce pc = some i → sx_isC i.1 = true → sx_Cal l yMo_allAtOnce.cls (wy yMo_allAtOnce prog_9_method_13_code 4 (some .boolean)) wn ({ frames := 3, cells := 0, slots := 0, locals := 69 }) D kinds A E B 4 prog_9_method_13_code i.1 (csAll i.2.1) := by
  intro pc i hF hi
  have h2 : (pc, i) ∈ lMo_allAtOnce.filter (fun q => sx_isC q.2.1) := List.mem_filter.mpr ⟨sx_tab_mem hF, hi⟩
  have h3 : lMo_allAtOnce.filter (fun q => sx_isC q.2.1) = [(24, .invokevirtual 74, 33, 0)] := rfl
  rw [h3] at h2
  simp only [List.mem_cons, List.not_mem_nil, or_false, Prod.mk.injEq] at h2
  rcases h2 with ⟨rfl, rfl⟩
  · exact sx_CalV (n := 2) (ci := 6) (fun As w Q h => h.2 l D E B A hB) (fun As w Q h => by obtain ⟨n0, tl, fs, e1, e2, e3⟩ := h.1; exact ⟨n0, tl, fs, e1, by omega, e3⟩) rfl rfl (wy_in mMo_powerOf) rfl rfl rfl (List.mem_cons_of_mem _ mnMo_powerOf) (List.mem_cons_of_mem _ lkMo_74) (List.mem_cons_of_mem _ miMo_powerOf.1) (List.mem_cons_of_mem _ miMo_powerOf.2) (by decide +kernel) (by decide) rfl
theorem hMo_numbers (l : Launch) (D : va_G) (E : sx_E) (B : Nat) (A : Nat → Prop) (hB : 11 ≤ B) : ∀ (pc : Nat) (i : Instr × Nat × Nat), sx_tab lMo_numbers pc = some i → sx_isC i.1 = true → sx_Cal l yMo_numbers.cls (wy yMo_numbers prog_9_method_15_code 1 none) wn ({ frames := 4, cells := 0, slots := 0, locals := 92 }) D kinds A E B 1 prog_9_method_15_code i.1 (csAll i.2.1) := by
  intro pc i hF hi
  have h2 : (pc, i) ∈ lMo_numbers.filter (fun q => sx_isC q.2.1) := List.mem_filter.mpr ⟨sx_tab_mem hF, hi⟩
  have h3 : lMo_numbers.filter (fun q => sx_isC q.2.1) = [(20, .invokevirtual 80, 34, 0), (58, .invokestatic 86, 35, 0), (130, .invokevirtual 92, 37, 0)] := rfl
  rw [h3] at h2
  simp only [List.mem_cons, List.not_mem_nil, or_false, Prod.mk.injEq] at h2
  rcases h2 with ⟨rfl, rfl⟩ | ⟨rfl, rfl⟩ | ⟨rfl, rfl⟩
  · exact sx_CalV (n := 1) (ci := 6) (fun As w Q h => h.2 l D E B A hB) (fun As w Q h => by obtain ⟨n0, tl, fs, e1, e2, e3⟩ := h.1; exact ⟨n0, tl, fs, e1, by omega, e3⟩) rfl rfl (wy_in mMo_allAtOnce) rfl rfl rfl (List.mem_cons_of_mem _ mnMo_allAtOnce) (List.mem_cons_of_mem _ lkMo_80) (List.mem_cons_of_mem _ miMo_allAtOnce.1) (List.mem_cons_of_mem _ miMo_allAtOnce.2) (by decide +kernel) (by decide) rfl
  · exact sx_CalS (n := 1) (fun As w Q h => h l D E B A hB) (wy_in mMo_isPrime) rfl rfl rfl (List.mem_cons_of_mem _ mnMo_isPrime) (List.mem_cons_of_mem _ lkMo_86) (List.mem_cons_of_mem _ msMo_isPrime) (by decide +kernel) (by decide) rfl
  · exact sx_CalV (n := 1) (ci := 6) (fun As w Q h => h.2 l D E B A hB) (fun As w Q h => by obtain ⟨n0, tl, fs, e1, e2, e3⟩ := h.1; exact ⟨n0, tl, fs, e1, by omega, e3⟩) rfl rfl (wy_in mMo_isRoot) rfl rfl rfl (List.mem_cons_of_mem _ mnMo_isRoot) (List.mem_cons_of_mem _ lkMo_92) (List.mem_cons_of_mem _ miMo_isRoot.1) (List.mem_cons_of_mem _ miMo_isRoot.2) (by decide +kernel) (by decide) rfl
theorem hMo_over (l : Launch) (D : va_G) (E : sx_E) (B : Nat) (A : Nat → Prop) (hB : 11 ≤ B) : ∀ (pc : Nat) (i : Instr × Nat × Nat), sx_tab lMo_over pc = some i → sx_isC i.1 = true → sx_Cal l yMo_over.cls (wy yMo_over prog_9_method_19_code 3 (some .int)) wn ({ frames := 1, cells := 0, slots := 0, locals := 24 }) D kinds A E B 3 prog_9_method_19_code i.1 (csAll i.2.1) := by
  intro pc i hF hi
  have h2 : (pc, i) ∈ lMo_over.filter (fun q => sx_isC q.2.1) := List.mem_filter.mpr ⟨sx_tab_mem hF, hi⟩
  have h3 : lMo_over.filter (fun q => sx_isC q.2.1) = [(2, .invokevirtual 95, 38, 0), (8, .invokevirtual 95, 38, 0), (17, .invokevirtual 98, 39, 0)] := rfl
  rw [h3] at h2
  simp only [List.mem_cons, List.not_mem_nil, or_false, Prod.mk.injEq] at h2
  rcases h2 with ⟨rfl, rfl⟩ | ⟨rfl, rfl⟩ | ⟨rfl, rfl⟩
  · exact sx_CalV (n := 1) (ci := 6) (fun As w Q h => h.2 l D E B A hB) (fun As w Q h => by obtain ⟨n0, tl, fs, e1, e2, e3⟩ := h.1; exact ⟨n0, tl, fs, e1, by omega, e3⟩) rfl rfl (wy_in mMo_mod) rfl rfl rfl (List.mem_cons_of_mem _ mnMo_mod) (List.mem_cons_of_mem _ lkMo_95) (List.mem_cons_of_mem _ miMo_mod.1) (List.mem_cons_of_mem _ miMo_mod.2) (by decide +kernel) (by decide) rfl
  · exact sx_CalV (n := 1) (ci := 6) (fun As w Q h => h.2 l D E B A hB) (fun As w Q h => by obtain ⟨n0, tl, fs, e1, e2, e3⟩ := h.1; exact ⟨n0, tl, fs, e1, by omega, e3⟩) rfl rfl (wy_in mMo_mod) rfl rfl rfl (List.mem_cons_of_mem _ mnMo_mod) (List.mem_cons_of_mem _ lkMo_95) (List.mem_cons_of_mem _ miMo_mod.1) (List.mem_cons_of_mem _ miMo_mod.2) (by decide +kernel) (by decide) rfl
  · exact sx_CalV (n := 2) (ci := 6) (fun As w Q h => h.2 l D E B A hB) (fun As w Q h => by obtain ⟨n0, tl, fs, e1, e2, e3⟩ := h.1; exact ⟨n0, tl, fs, e1, by omega, e3⟩) rfl rfl (wy_in mMo_raised) rfl rfl rfl (List.mem_cons_of_mem _ mnMo_raised) (List.mem_cons_of_mem _ lkMo_98) (List.mem_cons_of_mem _ miMo_raised.1) (List.mem_cons_of_mem _ miMo_raised.2) (by decide +kernel) (by decide) rfl
theorem hMo_fermat (l : Launch) (D : va_G) (E : sx_E) (B : Nat) (A : Nat → Prop) (hB : 11 ≤ B) : ∀ (pc : Nat) (i : Instr × Nat × Nat), sx_tab lMo_fermat pc = some i → sx_isC i.1 = true → sx_Cal l yMo_fermat.cls (wy yMo_fermat prog_9_method_22_code 3 none) wn ({ frames := 1, cells := 0, slots := 0, locals := 28 }) D kinds A E B 3 prog_9_method_22_code i.1 (csAll i.2.1) := by
  intro pc i hF hi
  have h2 : (pc, i) ∈ lMo_fermat.filter (fun q => sx_isC q.2.1) := List.mem_filter.mpr ⟨sx_tab_mem hF, hi⟩
  have h3 : lMo_fermat.filter (fun q => sx_isC q.2.1) = [(5, .invokevirtual 101, 42, 0), (39, .invokevirtual 105, 41, 0), (47, .invokevirtual 101, 42, 0), (58, .invokevirtual 101, 42, 0), (70, .invokevirtual 105, 41, 0), (78, .invokevirtual 101, 42, 0)] := rfl
  rw [h3] at h2
  simp only [List.mem_cons, List.not_mem_nil, or_false, Prod.mk.injEq] at h2
  rcases h2 with ⟨rfl, rfl⟩ | ⟨rfl, rfl⟩ | ⟨rfl, rfl⟩ | ⟨rfl, rfl⟩ | ⟨rfl, rfl⟩ | ⟨rfl, rfl⟩
  · exact sx_CalV (n := 2) (ci := 6) (fun As w Q h => h.2 l D E B A hB) (fun As w Q h => by obtain ⟨n0, tl, fs, e1, e2, e3⟩ := h.1; exact ⟨n0, tl, fs, e1, by omega, e3⟩) rfl rfl (wy_in mMo_copy) rfl rfl rfl (List.mem_cons_of_mem _ mnMo_copy) (List.mem_cons_of_mem _ lkMo_101) (List.mem_cons_of_mem _ miMo_copy.1) (List.mem_cons_of_mem _ miMo_copy.2) (by decide +kernel) (by decide) rfl
  · exact sx_CalV (n := 3) (ci := 6) (fun As w Q h => h.2 l D E B A hB) (fun As w Q h => by obtain ⟨n0, tl, fs, e1, e2, e3⟩ := h.1; exact ⟨n0, tl, fs, e1, by omega, e3⟩) rfl rfl (wy_in mMo_multiply) rfl rfl rfl (List.mem_cons_of_mem _ mnMo_multiply) (List.mem_cons_of_mem _ lkMo_105) (List.mem_cons_of_mem _ miMo_multiply.1) (List.mem_cons_of_mem _ miMo_multiply.2) (by decide +kernel) (by decide) rfl
  · exact sx_CalV (n := 2) (ci := 6) (fun As w Q h => h.2 l D E B A hB) (fun As w Q h => by obtain ⟨n0, tl, fs, e1, e2, e3⟩ := h.1; exact ⟨n0, tl, fs, e1, by omega, e3⟩) rfl rfl (wy_in mMo_copy) rfl rfl rfl (List.mem_cons_of_mem _ mnMo_copy) (List.mem_cons_of_mem _ lkMo_101) (List.mem_cons_of_mem _ miMo_copy.1) (List.mem_cons_of_mem _ miMo_copy.2) (by decide +kernel) (by decide) rfl
  · exact sx_CalV (n := 2) (ci := 6) (fun As w Q h => h.2 l D E B A hB) (fun As w Q h => by obtain ⟨n0, tl, fs, e1, e2, e3⟩ := h.1; exact ⟨n0, tl, fs, e1, by omega, e3⟩) rfl rfl (wy_in mMo_copy) rfl rfl rfl (List.mem_cons_of_mem _ mnMo_copy) (List.mem_cons_of_mem _ lkMo_101) (List.mem_cons_of_mem _ miMo_copy.1) (List.mem_cons_of_mem _ miMo_copy.2) (by decide +kernel) (by decide) rfl
  · exact sx_CalV (n := 3) (ci := 6) (fun As w Q h => h.2 l D E B A hB) (fun As w Q h => by obtain ⟨n0, tl, fs, e1, e2, e3⟩ := h.1; exact ⟨n0, tl, fs, e1, by omega, e3⟩) rfl rfl (wy_in mMo_multiply) rfl rfl rfl (List.mem_cons_of_mem _ mnMo_multiply) (List.mem_cons_of_mem _ lkMo_105) (List.mem_cons_of_mem _ miMo_multiply.1) (List.mem_cons_of_mem _ miMo_multiply.2) (by decide +kernel) (by decide) rfl
  · exact sx_CalV (n := 2) (ci := 6) (fun As w Q h => h.2 l D E B A hB) (fun As w Q h => by obtain ⟨n0, tl, fs, e1, e2, e3⟩ := h.1; exact ⟨n0, tl, fs, e1, by omega, e3⟩) rfl rfl (wy_in mMo_copy) rfl rfl rfl (List.mem_cons_of_mem _ mnMo_copy) (List.mem_cons_of_mem _ lkMo_101) (List.mem_cons_of_mem _ miMo_copy.1) (List.mem_cons_of_mem _ miMo_copy.2) (by decide +kernel) (by decide) rfl
theorem hMo_ratio (l : Launch) (D : va_G) (E : sx_E) (B : Nat) (A : Nat → Prop) (hB : 11 ≤ B) : ∀ (pc : Nat) (i : Instr × Nat × Nat), sx_tab lMo_ratio pc = some i → sx_isC i.1 = true → sx_Cal l yMo_ratio.cls (wy yMo_ratio prog_9_method_23_code 7 (some .int)) wn ({ frames := 2, cells := 0, slots := 0, locals := 46 }) D kinds A E B 7 prog_9_method_23_code i.1 (csAll i.2.1) := by
  intro pc i hF hi
  have h2 : (pc, i) ∈ lMo_ratio.filter (fun q => sx_isC q.2.1) := List.mem_filter.mpr ⟨sx_tab_mem hF, hi⟩
  have h3 : lMo_ratio.filter (fun q => sx_isC q.2.1) = [(40, .invokevirtual 105, 41, 0), (87, .invokevirtual 109, 40, 0)] := rfl
  rw [h3] at h2
  simp only [List.mem_cons, List.not_mem_nil, or_false, Prod.mk.injEq] at h2
  rcases h2 with ⟨rfl, rfl⟩ | ⟨rfl, rfl⟩
  · exact sx_CalV (n := 3) (ci := 6) (fun As w Q h => h.2 l D E B A hB) (fun As w Q h => by obtain ⟨n0, tl, fs, e1, e2, e3⟩ := h.1; exact ⟨n0, tl, fs, e1, by omega, e3⟩) rfl rfl (wy_in mMo_multiply) rfl rfl rfl (List.mem_cons_of_mem _ mnMo_multiply) (List.mem_cons_of_mem _ lkMo_105) (List.mem_cons_of_mem _ miMo_multiply.1) (List.mem_cons_of_mem _ miMo_multiply.2) (by decide +kernel) (by decide) rfl
  · exact sx_CalV (n := 2) (ci := 6) (fun As w Q h => h.2 l D E B A hB) (fun As w Q h => by obtain ⟨n0, tl, fs, e1, e2, e3⟩ := h.1; exact ⟨n0, tl, fs, e1, by omega, e3⟩) rfl rfl (wy_in mMo_over) rfl rfl rfl (List.mem_cons_of_mem _ mnMo_over) (List.mem_cons_of_mem _ lkMo_109) (List.mem_cons_of_mem _ miMo_over.1) (List.mem_cons_of_mem _ miMo_over.2) (by decide +kernel) (by decide) rfl
theorem hMo_split (l : Launch) (D : va_G) (E : sx_E) (B : Nat) (A : Nat → Prop) (hB : 11 ≤ B) : ∀ (pc : Nat) (i : Instr × Nat × Nat), sx_tab lMo_split pc = some i → sx_isC i.1 = true → sx_Cal l yMo_split.cls (wy yMo_split prog_9_method_24_code 7 none) wn ({ frames := 3, cells := 0, slots := 0, locals := 72 }) D kinds A E B 7 prog_9_method_24_code i.1 (csAll i.2.1) := by
  intro pc i hF hi
  have h2 : (pc, i) ∈ lMo_split.filter (fun q => sx_isC q.2.1) := List.mem_filter.mpr ⟨sx_tab_mem hF, hi⟩
  have h3 : lMo_split.filter (fun q => sx_isC q.2.1) = [(3, .invokevirtual 112, 44, 0), (73, .invokevirtual 95, 38, 0), (84, .invokevirtual 115, 43, 0), (207, .invokevirtual 95, 38, 0), (230, .invokevirtual 101, 42, 0), (252, .invokevirtual 101, 42, 0)] := rfl
  rw [h3] at h2
  simp only [List.mem_cons, List.not_mem_nil, or_false, Prod.mk.injEq] at h2
  rcases h2 with ⟨rfl, rfl⟩ | ⟨rfl, rfl⟩ | ⟨rfl, rfl⟩ | ⟨rfl, rfl⟩ | ⟨rfl, rfl⟩ | ⟨rfl, rfl⟩
  · exact sx_CalV (n := 2) (ci := 6) (fun As w Q h => h.2 l D E B A hB) (fun As w Q h => by obtain ⟨n0, tl, fs, e1, e2, e3⟩ := h.1; exact ⟨n0, tl, fs, e1, by omega, e3⟩) rfl rfl (wy_in mMo_ratio) rfl rfl rfl (List.mem_cons_of_mem _ mnMo_ratio) (List.mem_cons_of_mem _ lkMo_112) (List.mem_cons_of_mem _ miMo_ratio.1) (List.mem_cons_of_mem _ miMo_ratio.2) (by decide +kernel) (by decide) rfl
  · exact sx_CalV (n := 1) (ci := 6) (fun As w Q h => h.2 l D E B A hB) (fun As w Q h => by obtain ⟨n0, tl, fs, e1, e2, e3⟩ := h.1; exact ⟨n0, tl, fs, e1, by omega, e3⟩) rfl rfl (wy_in mMo_mod) rfl rfl rfl (List.mem_cons_of_mem _ mnMo_mod) (List.mem_cons_of_mem _ lkMo_95) (List.mem_cons_of_mem _ miMo_mod.1) (List.mem_cons_of_mem _ miMo_mod.2) (by decide +kernel) (by decide) rfl
  · exact sx_CalV (n := 0) (ci := 6) (fun As w Q h => h.2 l D E B A hB) (fun As w Q h => by obtain ⟨n0, tl, fs, e1, e2, e3⟩ := h.1; exact ⟨n0, tl, fs, e1, by omega, e3⟩) rfl rfl (wy_in mMo_fermat) rfl rfl rfl (List.mem_cons_of_mem _ mnMo_fermat) (List.mem_cons_of_mem _ lkMo_115) (List.mem_cons_of_mem _ miMo_fermat.1) (List.mem_cons_of_mem _ miMo_fermat.2) (by decide +kernel) (by decide) rfl
  · exact sx_CalV (n := 1) (ci := 6) (fun As w Q h => h.2 l D E B A hB) (fun As w Q h => by obtain ⟨n0, tl, fs, e1, e2, e3⟩ := h.1; exact ⟨n0, tl, fs, e1, by omega, e3⟩) rfl rfl (wy_in mMo_mod) rfl rfl rfl (List.mem_cons_of_mem _ mnMo_mod) (List.mem_cons_of_mem _ lkMo_95) (List.mem_cons_of_mem _ miMo_mod.1) (List.mem_cons_of_mem _ miMo_mod.2) (by decide +kernel) (by decide) rfl
  · exact sx_CalV (n := 2) (ci := 6) (fun As w Q h => h.2 l D E B A hB) (fun As w Q h => by obtain ⟨n0, tl, fs, e1, e2, e3⟩ := h.1; exact ⟨n0, tl, fs, e1, by omega, e3⟩) rfl rfl (wy_in mMo_copy) rfl rfl rfl (List.mem_cons_of_mem _ mnMo_copy) (List.mem_cons_of_mem _ lkMo_101) (List.mem_cons_of_mem _ miMo_copy.1) (List.mem_cons_of_mem _ miMo_copy.2) (by decide +kernel) (by decide) rfl
  · exact sx_CalV (n := 2) (ci := 6) (fun As w Q h => h.2 l D E B A hB) (fun As w Q h => by obtain ⟨n0, tl, fs, e1, e2, e3⟩ := h.1; exact ⟨n0, tl, fs, e1, by omega, e3⟩) rfl rfl (wy_in mMo_copy) rfl rfl rfl (List.mem_cons_of_mem _ mnMo_copy) (List.mem_cons_of_mem _ lkMo_101) (List.mem_cons_of_mem _ miMo_copy.1) (List.mem_cons_of_mem _ miMo_copy.2) (by decide +kernel) (by decide) rfl
theorem hMo_takeApart (l : Launch) (D : va_G) (E : sx_E) (B : Nat) (A : Nat → Prop) (hB : 11 ≤ B) : ∀ (pc : Nat) (i : Instr × Nat × Nat), sx_tab lMo_takeApart pc = some i → sx_isC i.1 = true → sx_Cal l yMo_takeApart.cls (wy yMo_takeApart prog_9_method_25_code 4 none) wn ({ frames := 4, cells := 0, slots := 0, locals := 98 }) D kinds A E B 4 prog_9_method_25_code i.1 (csAll i.2.1) := by
  intro pc i hF hi
  have h2 : (pc, i) ∈ lMo_takeApart.filter (fun q => sx_isC q.2.1) := List.mem_filter.mpr ⟨sx_tab_mem hF, hi⟩
  have h3 : lMo_takeApart.filter (fun q => sx_isC q.2.1) = [(59, .invokevirtual 121, 45, 0)] := rfl
  rw [h3] at h2
  simp only [List.mem_cons, List.not_mem_nil, or_false, Prod.mk.injEq] at h2
  rcases h2 with ⟨rfl, rfl⟩
  · exact sx_CalV (n := 2) (ci := 6) (fun As w Q h => h.2 l D E B A hB) (fun As w Q h => by obtain ⟨n0, tl, fs, e1, e2, e3⟩ := h.1; exact ⟨n0, tl, fs, e1, by omega, e3⟩) rfl rfl (wy_in mMo_split) rfl rfl rfl (List.mem_cons_of_mem _ mnMo_split) (List.mem_cons_of_mem _ lkMo_121) (List.mem_cons_of_mem _ miMo_split.1) (List.mem_cons_of_mem _ miMo_split.2) (by decide +kernel) (by decide) rfl
theorem hMo_inverseOf (l : Launch) (D : va_G) (E : sx_E) (B : Nat) (A : Nat → Prop) (hB : 11 ≤ B) : ∀ (pc : Nat) (i : Instr × Nat × Nat), sx_tab lMo_inverseOf pc = some i → sx_isC i.1 = true → sx_Cal l yMo_inverseOf.cls (wy yMo_inverseOf prog_9_method_26_code 3 (some .int)) wn ({ frames := 2, cells := 0, slots := 0, locals := 44 }) D kinds A E B 3 prog_9_method_26_code i.1 (csAll i.2.1) := by
  intro pc i hF hi
  have h2 : (pc, i) ∈ lMo_inverseOf.filter (fun q => sx_isC q.2.1) := List.mem_filter.mpr ⟨sx_tab_mem hF, hi⟩
  have h3 : lMo_inverseOf.filter (fun q => sx_isC q.2.1) = [(6, .invokestatic 71, 25, 0), (16, .invokevirtual 64, 29, 0)] := rfl
  rw [h3] at h2
  simp only [List.mem_cons, List.not_mem_nil, or_false, Prod.mk.injEq] at h2
  rcases h2 with ⟨rfl, rfl⟩ | ⟨rfl, rfl⟩
  · exact sx_CalS (n := 1) (fun As w Q h => h l D E B A hB) (wy_in mMo_inverted) rfl rfl rfl (List.mem_cons_of_mem _ mnMo_inverted) (List.mem_cons_of_mem _ lkMo_71) (List.mem_cons_of_mem _ msMo_inverted) (by decide +kernel) (by decide) rfl
  · exact sx_CalV (n := 1) (ci := 6) (fun As w Q h => h.2 l D E B A hB) (fun As w Q h => by obtain ⟨n0, tl, fs, e1, e2, e3⟩ := h.1; exact ⟨n0, tl, fs, e1, by omega, e3⟩) rfl rfl (wy_in mMo_find) rfl rfl rfl (List.mem_cons_of_mem _ mnMo_find) (List.mem_cons_of_mem _ lkMo_64) (List.mem_cons_of_mem _ miMo_find.1) (List.mem_cons_of_mem _ miMo_find.2) (by decide +kernel) (by decide) rfl
theorem hMo_makeRow (l : Launch) (D : va_G) (E : sx_E) (B : Nat) (A : Nat → Prop) (hB : 11 ≤ B) : ∀ (pc : Nat) (i : Instr × Nat × Nat), sx_tab lMo_makeRow pc = some i → sx_isC i.1 = true → sx_Cal l yMo_makeRow.cls (wy yMo_makeRow prog_9_method_27_code 6 none) wn ({ frames := 3, cells := 0, slots := 0, locals := 72 }) D kinds A E B 6 prog_9_method_27_code i.1 (csAll i.2.1) := by
  intro pc i hF hi
  have h2 : (pc, i) ∈ lMo_makeRow.filter (fun q => sx_isC q.2.1) := List.mem_filter.mpr ⟨sx_tab_mem hF, hi⟩
  have h3 : lMo_makeRow.filter (fun q => sx_isC q.2.1) = [(24, .invokevirtual 112, 44, 0), (63, .invokevirtual 124, 47, 0), (86, .invokevirtual 109, 40, 0), (205, .invokevirtual 109, 40, 0)] := rfl
  rw [h3] at h2
  simp only [List.mem_cons, List.not_mem_nil, or_false, Prod.mk.injEq] at h2
  rcases h2 with ⟨rfl, rfl⟩ | ⟨rfl, rfl⟩ | ⟨rfl, rfl⟩ | ⟨rfl, rfl⟩
  · exact sx_CalV (n := 2) (ci := 6) (fun As w Q h => h.2 l D E B A hB) (fun As w Q h => by obtain ⟨n0, tl, fs, e1, e2, e3⟩ := h.1; exact ⟨n0, tl, fs, e1, by omega, e3⟩) rfl rfl (wy_in mMo_ratio) rfl rfl rfl (List.mem_cons_of_mem _ mnMo_ratio) (List.mem_cons_of_mem _ lkMo_112) (List.mem_cons_of_mem _ miMo_ratio.1) (List.mem_cons_of_mem _ miMo_ratio.2) (by decide +kernel) (by decide) rfl
  · exact sx_CalV (n := 1) (ci := 6) (fun As w Q h => h.2 l D E B A hB) (fun As w Q h => by obtain ⟨n0, tl, fs, e1, e2, e3⟩ := h.1; exact ⟨n0, tl, fs, e1, by omega, e3⟩) rfl rfl (wy_in mMo_inverseOf) rfl rfl rfl (List.mem_cons_of_mem _ mnMo_inverseOf) (List.mem_cons_of_mem _ lkMo_124) (List.mem_cons_of_mem _ miMo_inverseOf.1) (List.mem_cons_of_mem _ miMo_inverseOf.2) (by decide +kernel) (by decide) rfl
  · exact sx_CalV (n := 2) (ci := 6) (fun As w Q h => h.2 l D E B A hB) (fun As w Q h => by obtain ⟨n0, tl, fs, e1, e2, e3⟩ := h.1; exact ⟨n0, tl, fs, e1, by omega, e3⟩) rfl rfl (wy_in mMo_over) rfl rfl rfl (List.mem_cons_of_mem _ mnMo_over) (List.mem_cons_of_mem _ lkMo_109) (List.mem_cons_of_mem _ miMo_over.1) (List.mem_cons_of_mem _ miMo_over.2) (by decide +kernel) (by decide) rfl
  · exact sx_CalV (n := 2) (ci := 6) (fun As w Q h => h.2 l D E B A hB) (fun As w Q h => by obtain ⟨n0, tl, fs, e1, e2, e3⟩ := h.1; exact ⟨n0, tl, fs, e1, by omega, e3⟩) rfl rfl (wy_in mMo_over) rfl rfl rfl (List.mem_cons_of_mem _ mnMo_over) (List.mem_cons_of_mem _ lkMo_109) (List.mem_cons_of_mem _ miMo_over.1) (List.mem_cons_of_mem _ miMo_over.2) (by decide +kernel) (by decide) rfl
theorem hMo_build (l : Launch) (D : va_G) (E : sx_E) (B : Nat) (A : Nat → Prop) (hB : 11 ≤ B) : ∀ (pc : Nat) (i : Instr × Nat × Nat), sx_tab lMo_build pc = some i → sx_isC i.1 = true → sx_Cal l yMo_build.cls (wy yMo_build prog_9_method_30_code 3 (some .int)) wn ({ frames := 5, cells := 0, slots := 0, locals := 121 }) D kinds A E B 3 prog_9_method_30_code i.1 (csAll i.2.1) := by
  intro pc i hF hi
  have h2 : (pc, i) ∈ lMo_build.filter (fun q => sx_isC q.2.1) := List.mem_filter.mpr ⟨sx_tab_mem hF, hi⟩
  have h3 : lMo_build.filter (fun q => sx_isC q.2.1) = [(6, .invokevirtual 127, 30, 0), (15, .invokevirtual 131, 31, 0), (24, .invokevirtual 134, 32, 0), (28, .invokevirtual 137, 36, 0), (32, .invokevirtual 140, 46, 0), (47, .invokevirtual 143, 48, 0), (81, .invokevirtual 147, 49, 0), (90, .invokevirtual 151, 50, 0)] := rfl
  rw [h3] at h2
  simp only [List.mem_cons, List.not_mem_nil, or_false, Prod.mk.injEq] at h2
  rcases h2 with ⟨rfl, rfl⟩ | ⟨rfl, rfl⟩ | ⟨rfl, rfl⟩ | ⟨rfl, rfl⟩ | ⟨rfl, rfl⟩ | ⟨rfl, rfl⟩ | ⟨rfl, rfl⟩ | ⟨rfl, rfl⟩
  · exact sx_CalV (n := 0) (ci := 6) (fun As w Q h => h.2 l D E B A hB) (fun As w Q h => by obtain ⟨n0, tl, fs, e1, e2, e3⟩ := h.1; exact ⟨n0, tl, fs, e1, by omega, e3⟩) rfl rfl (wy_in mMo_close) rfl rfl rfl (List.mem_cons_of_mem _ mnMo_close) (List.mem_cons_of_mem _ lkMo_127) (List.mem_cons_of_mem _ miMo_close.1) (List.mem_cons_of_mem _ miMo_close.2) (by decide +kernel) (by decide) rfl
  · exact sx_CalV (n := 0) (ci := 6) (fun As w Q h => h.2 l D E B A hB) (fun As w Q h => by obtain ⟨n0, tl, fs, e1, e2, e3⟩ := h.1; exact ⟨n0, tl, fs, e1, by omega, e3⟩) rfl rfl (wy_in mMo_classify) rfl rfl rfl (List.mem_cons_of_mem _ mnMo_classify) (List.mem_cons_of_mem _ lkMo_131) (List.mem_cons_of_mem _ miMo_classify.1) (List.mem_cons_of_mem _ miMo_classify.2) (by decide +kernel) (by decide) rfl
  · exact sx_CalV (n := 0) (ci := 6) (fun As w Q h => h.2 l D E B A hB) (fun As w Q h => by obtain ⟨n0, tl, fs, e1, e2, e3⟩ := h.1; exact ⟨n0, tl, fs, e1, by omega, e3⟩) rfl rfl (wy_in mMo_count) rfl rfl rfl (List.mem_cons_of_mem _ mnMo_count) (List.mem_cons_of_mem _ lkMo_134) (List.mem_cons_of_mem _ miMo_count.1) (List.mem_cons_of_mem _ miMo_count.2) (by decide +kernel) (by decide) rfl
  · exact sx_CalV (n := 0) (ci := 6) (fun As w Q h => h.2 l D E B A hB) (fun As w Q h => by obtain ⟨n0, tl, fs, e1, e2, e3⟩ := h.1; exact ⟨n0, tl, fs, e1, by omega, e3⟩) rfl rfl (wy_in mMo_numbers) rfl rfl rfl (List.mem_cons_of_mem _ mnMo_numbers) (List.mem_cons_of_mem _ lkMo_137) (List.mem_cons_of_mem _ miMo_numbers.1) (List.mem_cons_of_mem _ miMo_numbers.2) (by decide +kernel) (by decide) rfl
  · exact sx_CalV (n := 0) (ci := 6) (fun As w Q h => h.2 l D E B A hB) (fun As w Q h => by obtain ⟨n0, tl, fs, e1, e2, e3⟩ := h.1; exact ⟨n0, tl, fs, e1, by omega, e3⟩) rfl rfl (wy_in mMo_takeApart) rfl rfl rfl (List.mem_cons_of_mem _ mnMo_takeApart) (List.mem_cons_of_mem _ lkMo_140) (List.mem_cons_of_mem _ miMo_takeApart.1) (List.mem_cons_of_mem _ miMo_takeApart.2) (by decide +kernel) (by decide) rfl
  · exact sx_CalV (n := 1) (ci := 6) (fun As w Q h => h.2 l D E B A hB) (fun As w Q h => by obtain ⟨n0, tl, fs, e1, e2, e3⟩ := h.1; exact ⟨n0, tl, fs, e1, by omega, e3⟩) rfl rfl (wy_in mMo_makeRow) rfl rfl rfl (List.mem_cons_of_mem _ mnMo_makeRow) (List.mem_cons_of_mem _ lkMo_143) (List.mem_cons_of_mem _ miMo_makeRow.1) (List.mem_cons_of_mem _ miMo_makeRow.2) (by decide +kernel) (by decide) rfl
  · exact sx_CalV (n := 2) (ci := 6) (fun As w Q h => h.2 l D E B A hB) (fun As w Q h => by obtain ⟨n0, tl, fs, e1, e2, e3⟩ := h.1; exact ⟨n0, tl, fs, e1, by omega, e3⟩) rfl rfl (wy_in mMo_comesBefore) rfl rfl rfl (List.mem_cons_of_mem _ mnMo_comesBefore) (List.mem_cons_of_mem _ lkMo_147) (List.mem_cons_of_mem _ miMo_comesBefore.1) (List.mem_cons_of_mem _ miMo_comesBefore.2) (by decide +kernel) (by decide) rfl
  · exact sx_CalV (n := 2) (ci := 6) (fun As w Q h => h.2 l D E B A hB) (fun As w Q h => by obtain ⟨n0, tl, fs, e1, e2, e3⟩ := h.1; exact ⟨n0, tl, fs, e1, by omega, e3⟩) rfl rfl (wy_in mMo_exchange) rfl rfl rfl (List.mem_cons_of_mem _ mnMo_exchange) (List.mem_cons_of_mem _ lkMo_151) (List.mem_cons_of_mem _ miMo_exchange.1) (List.mem_cons_of_mem _ miMo_exchange.2) (by decide +kernel) (by decide) rfl
theorem hMo_classOf (l : Launch) (D : va_G) (E : sx_E) (B : Nat) (A : Nat → Prop) (hB : 11 ≤ B) : ∀ (pc : Nat) (i : Instr × Nat × Nat), sx_tab lMo_classOf pc = some i → sx_isC i.1 = true → sx_Cal l yMo_classOf.cls (wy yMo_classOf prog_9_method_34_code 3 (some .int)) wn ({ frames := 1, cells := 0, slots := 0, locals := 22 }) D kinds A E B 3 prog_9_method_34_code i.1 (csAll i.2.1) := by
  intro pc i hF hi
  have h2 : (pc, i) ∈ lMo_classOf.filter (fun q => sx_isC q.2.1) := List.mem_filter.mpr ⟨sx_tab_mem hF, hi⟩
  have h3 : lMo_classOf.filter (fun q => sx_isC q.2.1) = [(9, .invokevirtual 64, 29, 0)] := rfl
  rw [h3] at h2
  simp only [List.mem_cons, List.not_mem_nil, or_false, Prod.mk.injEq] at h2
  rcases h2 with ⟨rfl, rfl⟩
  · exact sx_CalV (n := 1) (ci := 6) (fun As w Q h => h.2 l D E B A hB) (fun As w Q h => by obtain ⟨n0, tl, fs, e1, e2, e3⟩ := h.1; exact ⟨n0, tl, fs, e1, by omega, e3⟩) rfl rfl (wy_in mMo_find) rfl rfl rfl (List.mem_cons_of_mem _ mnMo_find) (List.mem_cons_of_mem _ lkMo_64) (List.mem_cons_of_mem _ miMo_find.1) (List.mem_cons_of_mem _ miMo_find.2) (by decide +kernel) (by decide) rfl
theorem hMo_size (l : Launch) (D : va_G) (E : sx_E) (B : Nat) (A : Nat → Prop) (hB : 11 ≤ B) : ∀ (pc : Nat) (i : Instr × Nat × Nat), sx_tab lMo_size pc = some i → sx_isC i.1 = true → sx_Cal l yMo_size.cls (wy yMo_size prog_9_method_36_code 2 (some .int)) wn ({ frames := 1, cells := 0, slots := 0, locals := 21 }) D kinds A E B 2 prog_9_method_36_code i.1 (csAll i.2.1) := by
  intro pc i hF hi
  have h2 : (pc, i) ∈ lMo_size.filter (fun q => sx_isC q.2.1) := List.mem_filter.mpr ⟨sx_tab_mem hF, hi⟩
  have h3 : lMo_size.filter (fun q => sx_isC q.2.1) = [(2, .invokevirtual 154, 52, 0)] := rfl
  rw [h3] at h2
  simp only [List.mem_cons, List.not_mem_nil, or_false, Prod.mk.injEq] at h2
  rcases h2 with ⟨rfl, rfl⟩
  · exact sx_CalV (n := 1) (ci := 6) (fun As w Q h => h.2 l D E B A hB) (fun As w Q h => by obtain ⟨n0, tl, fs, e1, e2, e3⟩ := h.1; exact ⟨n0, tl, fs, e1, by omega, e3⟩) rfl rfl (wy_in mMo_isClass) rfl rfl rfl (List.mem_cons_of_mem _ mnMo_isClass) (List.mem_cons_of_mem _ lkMo_154) (List.mem_cons_of_mem _ miMo_isClass.1) (List.mem_cons_of_mem _ miMo_isClass.2) (by decide +kernel) (by decide) rfl
theorem hMo_least (l : Launch) (D : va_G) (E : sx_E) (B : Nat) (A : Nat → Prop) (hB : 11 ≤ B) : ∀ (pc : Nat) (i : Instr × Nat × Nat), sx_tab lMo_least pc = some i → sx_isC i.1 = true → sx_Cal l yMo_least.cls (wy yMo_least prog_9_method_37_code 2 (some .int)) wn ({ frames := 1, cells := 0, slots := 0, locals := 21 }) D kinds A E B 2 prog_9_method_37_code i.1 (csAll i.2.1) := by
  intro pc i hF hi
  have h2 : (pc, i) ∈ lMo_least.filter (fun q => sx_isC q.2.1) := List.mem_filter.mpr ⟨sx_tab_mem hF, hi⟩
  have h3 : lMo_least.filter (fun q => sx_isC q.2.1) = [(2, .invokevirtual 154, 52, 0)] := rfl
  rw [h3] at h2
  simp only [List.mem_cons, List.not_mem_nil, or_false, Prod.mk.injEq] at h2
  rcases h2 with ⟨rfl, rfl⟩
  · exact sx_CalV (n := 1) (ci := 6) (fun As w Q h => h.2 l D E B A hB) (fun As w Q h => by obtain ⟨n0, tl, fs, e1, e2, e3⟩ := h.1; exact ⟨n0, tl, fs, e1, by omega, e3⟩) rfl rfl (wy_in mMo_isClass) rfl rfl rfl (List.mem_cons_of_mem _ mnMo_isClass) (List.mem_cons_of_mem _ lkMo_154) (List.mem_cons_of_mem _ miMo_isClass.1) (List.mem_cons_of_mem _ miMo_isClass.2) (by decide +kernel) (by decide) rfl
theorem hMo_power (l : Launch) (D : va_G) (E : sx_E) (B : Nat) (A : Nat → Prop) (hB : 11 ≤ B) : ∀ (pc : Nat) (i : Instr × Nat × Nat), sx_tab lMo_power pc = some i → sx_isC i.1 = true → sx_Cal l yMo_power.cls (wy yMo_power prog_9_method_38_code 4 (some .int)) wn ({ frames := 3, cells := 0, slots := 0, locals := 69 }) D kinds A E B 4 prog_9_method_38_code i.1 (csAll i.2.1) := by
  intro pc i hF hi
  have h2 : (pc, i) ∈ lMo_power.filter (fun q => sx_isC q.2.1) := List.mem_filter.mpr ⟨sx_tab_mem hF, hi⟩
  have h3 : lMo_power.filter (fun q => sx_isC q.2.1) = [(2, .invokevirtual 154, 52, 0), (29, .invokevirtual 74, 33, 0), (39, .invokevirtual 64, 29, 0)] := rfl
  rw [h3] at h2
  simp only [List.mem_cons, List.not_mem_nil, or_false, Prod.mk.injEq] at h2
  rcases h2 with ⟨rfl, rfl⟩ | ⟨rfl, rfl⟩ | ⟨rfl, rfl⟩
  · exact sx_CalV (n := 1) (ci := 6) (fun As w Q h => h.2 l D E B A hB) (fun As w Q h => by obtain ⟨n0, tl, fs, e1, e2, e3⟩ := h.1; exact ⟨n0, tl, fs, e1, by omega, e3⟩) rfl rfl (wy_in mMo_isClass) rfl rfl rfl (List.mem_cons_of_mem _ mnMo_isClass) (List.mem_cons_of_mem _ lkMo_154) (List.mem_cons_of_mem _ miMo_isClass.1) (List.mem_cons_of_mem _ miMo_isClass.2) (by decide +kernel) (by decide) rfl
  · exact sx_CalV (n := 2) (ci := 6) (fun As w Q h => h.2 l D E B A hB) (fun As w Q h => by obtain ⟨n0, tl, fs, e1, e2, e3⟩ := h.1; exact ⟨n0, tl, fs, e1, by omega, e3⟩) rfl rfl (wy_in mMo_powerOf) rfl rfl rfl (List.mem_cons_of_mem _ mnMo_powerOf) (List.mem_cons_of_mem _ lkMo_74) (List.mem_cons_of_mem _ miMo_powerOf.1) (List.mem_cons_of_mem _ miMo_powerOf.2) (by decide +kernel) (by decide) rfl
  · exact sx_CalV (n := 1) (ci := 6) (fun As w Q h => h.2 l D E B A hB) (fun As w Q h => by obtain ⟨n0, tl, fs, e1, e2, e3⟩ := h.1; exact ⟨n0, tl, fs, e1, by omega, e3⟩) rfl rfl (wy_in mMo_find) rfl rfl rfl (List.mem_cons_of_mem _ mnMo_find) (List.mem_cons_of_mem _ lkMo_64) (List.mem_cons_of_mem _ miMo_find.1) (List.mem_cons_of_mem _ miMo_find.2) (by decide +kernel) (by decide) rfl
theorem hMo_constant (l : Launch) (D : va_G) (E : sx_E) (B : Nat) (A : Nat → Prop) (hB : 11 ≤ B) : ∀ (pc : Nat) (i : Instr × Nat × Nat), sx_tab lMo_constant pc = some i → sx_isC i.1 = true → sx_Cal l yMo_constant.cls (wy yMo_constant prog_9_method_39_code 4 (some .int)) wn ({ frames := 1, cells := 0, slots := 0, locals := 21 }) D kinds A E B 4 prog_9_method_39_code i.1 (csAll i.2.1) := by
  intro pc i hF hi
  have h2 : (pc, i) ∈ lMo_constant.filter (fun q => sx_isC q.2.1) := List.mem_filter.mpr ⟨sx_tab_mem hF, hi⟩
  have h3 : lMo_constant.filter (fun q => sx_isC q.2.1) = [(2, .invokevirtual 154, 52, 0), (10, .invokevirtual 154, 52, 0), (18, .invokevirtual 154, 52, 0)] := rfl
  rw [h3] at h2
  simp only [List.mem_cons, List.not_mem_nil, or_false, Prod.mk.injEq] at h2
  rcases h2 with ⟨rfl, rfl⟩ | ⟨rfl, rfl⟩ | ⟨rfl, rfl⟩
  · exact sx_CalV (n := 1) (ci := 6) (fun As w Q h => h.2 l D E B A hB) (fun As w Q h => by obtain ⟨n0, tl, fs, e1, e2, e3⟩ := h.1; exact ⟨n0, tl, fs, e1, by omega, e3⟩) rfl rfl (wy_in mMo_isClass) rfl rfl rfl (List.mem_cons_of_mem _ mnMo_isClass) (List.mem_cons_of_mem _ lkMo_154) (List.mem_cons_of_mem _ miMo_isClass.1) (List.mem_cons_of_mem _ miMo_isClass.2) (by decide +kernel) (by decide) rfl
  · exact sx_CalV (n := 1) (ci := 6) (fun As w Q h => h.2 l D E B A hB) (fun As w Q h => by obtain ⟨n0, tl, fs, e1, e2, e3⟩ := h.1; exact ⟨n0, tl, fs, e1, by omega, e3⟩) rfl rfl (wy_in mMo_isClass) rfl rfl rfl (List.mem_cons_of_mem _ mnMo_isClass) (List.mem_cons_of_mem _ lkMo_154) (List.mem_cons_of_mem _ miMo_isClass.1) (List.mem_cons_of_mem _ miMo_isClass.2) (by decide +kernel) (by decide) rfl
  · exact sx_CalV (n := 1) (ci := 6) (fun As w Q h => h.2 l D E B A hB) (fun As w Q h => by obtain ⟨n0, tl, fs, e1, e2, e3⟩ := h.1; exact ⟨n0, tl, fs, e1, by omega, e3⟩) rfl rfl (wy_in mMo_isClass) rfl rfl rfl (List.mem_cons_of_mem _ mnMo_isClass) (List.mem_cons_of_mem _ lkMo_154) (List.mem_cons_of_mem _ miMo_isClass.1) (List.mem_cons_of_mem _ miMo_isClass.2) (by decide +kernel) (by decide) rfl
theorem hMo_degree (l : Launch) (D : va_G) (E : sx_E) (B : Nat) (A : Nat → Prop) (hB : 11 ≤ B) : ∀ (pc : Nat) (i : Instr × Nat × Nat), sx_tab lMo_degree pc = some i → sx_isC i.1 = true → sx_Cal l yMo_degree.cls (wy yMo_degree prog_9_method_43_code 2 (some .int)) wn ({ frames := 1, cells := 0, slots := 0, locals := 21 }) D kinds A E B 2 prog_9_method_43_code i.1 (csAll i.2.1) := by
  intro pc i hF hi
  have h2 : (pc, i) ∈ lMo_degree.filter (fun q => sx_isC q.2.1) := List.mem_filter.mpr ⟨sx_tab_mem hF, hi⟩
  have h3 : lMo_degree.filter (fun q => sx_isC q.2.1) = [(2, .invokevirtual 154, 52, 0)] := rfl
  rw [h3] at h2
  simp only [List.mem_cons, List.not_mem_nil, or_false, Prod.mk.injEq] at h2
  rcases h2 with ⟨rfl, rfl⟩
  · exact sx_CalV (n := 1) (ci := 6) (fun As w Q h => h.2 l D E B A hB) (fun As w Q h => by obtain ⟨n0, tl, fs, e1, e2, e3⟩ := h.1; exact ⟨n0, tl, fs, e1, by omega, e3⟩) rfl rfl (wy_in mMo_isClass) rfl rfl rfl (List.mem_cons_of_mem _ mnMo_isClass) (List.mem_cons_of_mem _ lkMo_154) (List.mem_cons_of_mem _ miMo_isClass.1) (List.mem_cons_of_mem _ miMo_isClass.2) (by decide +kernel) (by decide) rfl
theorem hMo_value (l : Launch) (D : va_G) (E : sx_E) (B : Nat) (A : Nat → Prop) (hB : 11 ≤ B) : ∀ (pc : Nat) (i : Instr × Nat × Nat), sx_tab lMo_value pc = some i → sx_isC i.1 = true → sx_Cal l yMo_value.cls (wy yMo_value prog_9_method_44_code 3 (some .int)) wn ({ frames := 1, cells := 0, slots := 0, locals := 21 }) D kinds A E B 3 prog_9_method_44_code i.1 (csAll i.2.1) := by
  intro pc i hF hi
  have h2 : (pc, i) ∈ lMo_value.filter (fun q => sx_isC q.2.1) := List.mem_filter.mpr ⟨sx_tab_mem hF, hi⟩
  have h3 : lMo_value.filter (fun q => sx_isC q.2.1) = [(2, .invokevirtual 154, 52, 0), (10, .invokevirtual 154, 52, 0)] := rfl
  rw [h3] at h2
  simp only [List.mem_cons, List.not_mem_nil, or_false, Prod.mk.injEq] at h2
  rcases h2 with ⟨rfl, rfl⟩ | ⟨rfl, rfl⟩
  · exact sx_CalV (n := 1) (ci := 6) (fun As w Q h => h.2 l D E B A hB) (fun As w Q h => by obtain ⟨n0, tl, fs, e1, e2, e3⟩ := h.1; exact ⟨n0, tl, fs, e1, by omega, e3⟩) rfl rfl (wy_in mMo_isClass) rfl rfl rfl (List.mem_cons_of_mem _ mnMo_isClass) (List.mem_cons_of_mem _ lkMo_154) (List.mem_cons_of_mem _ miMo_isClass.1) (List.mem_cons_of_mem _ miMo_isClass.2) (by decide +kernel) (by decide) rfl
  · exact sx_CalV (n := 1) (ci := 6) (fun As w Q h => h.2 l D E B A hB) (fun As w Q h => by obtain ⟨n0, tl, fs, e1, e2, e3⟩ := h.1; exact ⟨n0, tl, fs, e1, by omega, e3⟩) rfl rfl (wy_in mMo_isClass) rfl rfl rfl (List.mem_cons_of_mem _ mnMo_isClass) (List.mem_cons_of_mem _ lkMo_154) (List.mem_cons_of_mem _ miMo_isClass.1) (List.mem_cons_of_mem _ miMo_isClass.2) (by decide +kernel) (by decide) rfl
theorem hMo_multiplicity (l : Launch) (D : va_G) (E : sx_E) (B : Nat) (A : Nat → Prop) (hB : 11 ≤ B) : ∀ (pc : Nat) (i : Instr × Nat × Nat), sx_tab lMo_multiplicity pc = some i → sx_isC i.1 = true → sx_Cal l yMo_multiplicity.cls (wy yMo_multiplicity prog_9_method_45_code 9 (some .int)) wn ({ frames := 2, cells := 0, slots := 0, locals := 46 }) D kinds A E B 9 prog_9_method_45_code i.1 (csAll i.2.1) := by
  intro pc i hF hi
  have h2 : (pc, i) ∈ lMo_multiplicity.filter (fun q => sx_isC q.2.1) := List.mem_filter.mpr ⟨sx_tab_mem hF, hi⟩
  have h3 : lMo_multiplicity.filter (fun q => sx_isC q.2.1) = [(2, .invokevirtual 154, 52, 0), (10, .invokevirtual 154, 52, 0), (38, .invokevirtual 98, 39, 0), (41, .invokevirtual 109, 40, 0), (85, .invokevirtual 64, 29, 0), (122, .invokestatic 61, 24, 0), (140, .invokevirtual 109, 40, 0)] := rfl
  rw [h3] at h2
  simp only [List.mem_cons, List.not_mem_nil, or_false, Prod.mk.injEq] at h2
  rcases h2 with ⟨rfl, rfl⟩ | ⟨rfl, rfl⟩ | ⟨rfl, rfl⟩ | ⟨rfl, rfl⟩ | ⟨rfl, rfl⟩ | ⟨rfl, rfl⟩ | ⟨rfl, rfl⟩
  · exact sx_CalV (n := 1) (ci := 6) (fun As w Q h => h.2 l D E B A hB) (fun As w Q h => by obtain ⟨n0, tl, fs, e1, e2, e3⟩ := h.1; exact ⟨n0, tl, fs, e1, by omega, e3⟩) rfl rfl (wy_in mMo_isClass) rfl rfl rfl (List.mem_cons_of_mem _ mnMo_isClass) (List.mem_cons_of_mem _ lkMo_154) (List.mem_cons_of_mem _ miMo_isClass.1) (List.mem_cons_of_mem _ miMo_isClass.2) (by decide +kernel) (by decide) rfl
  · exact sx_CalV (n := 1) (ci := 6) (fun As w Q h => h.2 l D E B A hB) (fun As w Q h => by obtain ⟨n0, tl, fs, e1, e2, e3⟩ := h.1; exact ⟨n0, tl, fs, e1, by omega, e3⟩) rfl rfl (wy_in mMo_isClass) rfl rfl rfl (List.mem_cons_of_mem _ mnMo_isClass) (List.mem_cons_of_mem _ lkMo_154) (List.mem_cons_of_mem _ miMo_isClass.1) (List.mem_cons_of_mem _ miMo_isClass.2) (by decide +kernel) (by decide) rfl
  · exact sx_CalV (n := 2) (ci := 6) (fun As w Q h => h.2 l D E B A hB) (fun As w Q h => by obtain ⟨n0, tl, fs, e1, e2, e3⟩ := h.1; exact ⟨n0, tl, fs, e1, by omega, e3⟩) rfl rfl (wy_in mMo_raised) rfl rfl rfl (List.mem_cons_of_mem _ mnMo_raised) (List.mem_cons_of_mem _ lkMo_98) (List.mem_cons_of_mem _ miMo_raised.1) (List.mem_cons_of_mem _ miMo_raised.2) (by decide +kernel) (by decide) rfl
  · exact sx_CalV (n := 2) (ci := 6) (fun As w Q h => h.2 l D E B A hB) (fun As w Q h => by obtain ⟨n0, tl, fs, e1, e2, e3⟩ := h.1; exact ⟨n0, tl, fs, e1, by omega, e3⟩) rfl rfl (wy_in mMo_over) rfl rfl rfl (List.mem_cons_of_mem _ mnMo_over) (List.mem_cons_of_mem _ lkMo_109) (List.mem_cons_of_mem _ miMo_over.1) (List.mem_cons_of_mem _ miMo_over.2) (by decide +kernel) (by decide) rfl
  · exact sx_CalV (n := 1) (ci := 6) (fun As w Q h => h.2 l D E B A hB) (fun As w Q h => by obtain ⟨n0, tl, fs, e1, e2, e3⟩ := h.1; exact ⟨n0, tl, fs, e1, by omega, e3⟩) rfl rfl (wy_in mMo_find) rfl rfl rfl (List.mem_cons_of_mem _ mnMo_find) (List.mem_cons_of_mem _ lkMo_64) (List.mem_cons_of_mem _ miMo_find.1) (List.mem_cons_of_mem _ miMo_find.2) (by decide +kernel) (by decide) rfl
  · exact sx_CalS (n := 2) (fun As w Q h => h l D E B A hB) (wy_in mMo_product) rfl rfl rfl (List.mem_cons_of_mem _ mnMo_product) (List.mem_cons_of_mem _ lkMo_61) (List.mem_cons_of_mem _ msMo_product) (by decide +kernel) (by decide) rfl
  · exact sx_CalV (n := 2) (ci := 6) (fun As w Q h => h.2 l D E B A hB) (fun As w Q h => by obtain ⟨n0, tl, fs, e1, e2, e3⟩ := h.1; exact ⟨n0, tl, fs, e1, by omega, e3⟩) rfl rfl (wy_in mMo_over) rfl rfl rfl (List.mem_cons_of_mem _ mnMo_over) (List.mem_cons_of_mem _ lkMo_109) (List.mem_cons_of_mem _ miMo_over.1) (List.mem_cons_of_mem _ miMo_over.2) (by decide +kernel) (by decide) rfl
theorem hMo_indicator (l : Launch) (D : va_G) (E : sx_E) (B : Nat) (A : Nat → Prop) (hB : 11 ≤ B) : ∀ (pc : Nat) (i : Instr × Nat × Nat), sx_tab lMo_indicator pc = some i → sx_isC i.1 = true → sx_Cal l yMo_indicator.cls (wy yMo_indicator prog_9_method_46_code 4 (some .int)) wn ({ frames := 4, cells := 0, slots := 0, locals := 92 }) D kinds A E B 4 prog_9_method_46_code i.1 (csAll i.2.1) := by
  intro pc i hF hi
  have h2 : (pc, i) ∈ lMo_indicator.filter (fun q => sx_isC q.2.1) := List.mem_filter.mpr ⟨sx_tab_mem hF, hi⟩
  have h3 : lMo_indicator.filter (fun q => sx_isC q.2.1) = [(2, .invokevirtual 154, 52, 0), (40, .invokevirtual 157, 59, 0), (65, .invokevirtual 109, 40, 0)] := rfl
  rw [h3] at h2
  simp only [List.mem_cons, List.not_mem_nil, or_false, Prod.mk.injEq] at h2
  rcases h2 with ⟨rfl, rfl⟩ | ⟨rfl, rfl⟩ | ⟨rfl, rfl⟩
  · exact sx_CalV (n := 1) (ci := 6) (fun As w Q h => h.2 l D E B A hB) (fun As w Q h => by obtain ⟨n0, tl, fs, e1, e2, e3⟩ := h.1; exact ⟨n0, tl, fs, e1, by omega, e3⟩) rfl rfl (wy_in mMo_isClass) rfl rfl rfl (List.mem_cons_of_mem _ mnMo_isClass) (List.mem_cons_of_mem _ lkMo_154) (List.mem_cons_of_mem _ miMo_isClass.1) (List.mem_cons_of_mem _ miMo_isClass.2) (by decide +kernel) (by decide) rfl
  · exact sx_CalV (n := 2) (ci := 6) (fun As w Q h => h.2 l D E B A hB) (fun As w Q h => by obtain ⟨n0, tl, fs, e1, e2, e3⟩ := h.1; exact ⟨n0, tl, fs, e1, by omega, e3⟩) rfl rfl (wy_in mMo_power) rfl rfl rfl (List.mem_cons_of_mem _ mnMo_power) (List.mem_cons_of_mem _ lkMo_157) (List.mem_cons_of_mem _ miMo_power.1) (List.mem_cons_of_mem _ miMo_power.2) (by decide +kernel) (by decide) rfl
  · exact sx_CalV (n := 2) (ci := 6) (fun As w Q h => h.2 l D E B A hB) (fun As w Q h => by obtain ⟨n0, tl, fs, e1, e2, e3⟩ := h.1; exact ⟨n0, tl, fs, e1, by omega, e3⟩) rfl rfl (wy_in mMo_over) rfl rfl rfl (List.mem_cons_of_mem _ mnMo_over) (List.mem_cons_of_mem _ lkMo_109) (List.mem_cons_of_mem _ miMo_over.1) (List.mem_cons_of_mem _ miMo_over.2) (by decide +kernel) (by decide) rfl
theorem hMo_kernel (l : Launch) (D : va_G) (E : sx_E) (B : Nat) (A : Nat → Prop) (hB : 11 ≤ B) : ∀ (pc : Nat) (i : Instr × Nat × Nat), sx_tab lMo_kernel pc = some i → sx_isC i.1 = true → sx_Cal l yMo_kernel.cls (wy yMo_kernel prog_9_method_47_code 4 (some .int)) wn ({ frames := 1, cells := 0, slots := 0, locals := 21 }) D kinds A E B 4 prog_9_method_47_code i.1 (csAll i.2.1) := by
  intro pc i hF hi
  have h2 : (pc, i) ∈ lMo_kernel.filter (fun q => sx_isC q.2.1) := List.mem_filter.mpr ⟨sx_tab_mem hF, hi⟩
  have h3 : lMo_kernel.filter (fun q => sx_isC q.2.1) = [(14, .invokevirtual 154, 52, 0)] := rfl
  rw [h3] at h2
  simp only [List.mem_cons, List.not_mem_nil, or_false, Prod.mk.injEq] at h2
  rcases h2 with ⟨rfl, rfl⟩
  · exact sx_CalV (n := 1) (ci := 6) (fun As w Q h => h.2 l D E B A hB) (fun As w Q h => by obtain ⟨n0, tl, fs, e1, e2, e3⟩ := h.1; exact ⟨n0, tl, fs, e1, by omega, e3⟩) rfl rfl (wy_in mMo_isClass) rfl rfl rfl (List.mem_cons_of_mem _ mnMo_isClass) (List.mem_cons_of_mem _ lkMo_154) (List.mem_cons_of_mem _ miMo_isClass.1) (List.mem_cons_of_mem _ miMo_isClass.2) (by decide +kernel) (by decide) rfl
theorem hMo_normals (l : Launch) (D : va_G) (E : sx_E) (B : Nat) (A : Nat → Prop) (hB : 11 ≤ B) : ∀ (pc : Nat) (i : Instr × Nat × Nat), sx_tab lMo_normals pc = some i → sx_isC i.1 = true → sx_Cal l yMo_normals.cls (wy yMo_normals prog_9_method_49_code 4 (some .int)) wn ({ frames := 2, cells := 0, slots := 0, locals := 44 }) D kinds A E B 4 prog_9_method_49_code i.1 (csAll i.2.1) := by
  intro pc i hF hi
  have h2 : (pc, i) ∈ lMo_normals.filter (fun q => sx_isC q.2.1) := List.mem_filter.mpr ⟨sx_tab_mem hF, hi⟩
  have h3 : lMo_normals.filter (fun q => sx_isC q.2.1) = [(24, .invokevirtual 160, 68, 0), (28, .invokevirtual 163, 69, 0), (81, .invokevirtual 163, 69, 0)] := rfl
  rw [h3] at h2
  simp only [List.mem_cons, List.not_mem_nil, or_false, Prod.mk.injEq] at h2
  rcases h2 with ⟨rfl, rfl⟩ | ⟨rfl, rfl⟩ | ⟨rfl, rfl⟩
  · exact sx_CalV (n := 1) (ci := 6) (fun As w Q h => h.2 l D E B A hB) (fun As w Q h => by obtain ⟨n0, tl, fs, e1, e2, e3⟩ := h.1; exact ⟨n0, tl, fs, e1, by omega, e3⟩) rfl rfl (wy_in mMo_kernel) rfl rfl rfl (List.mem_cons_of_mem _ mnMo_kernel) (List.mem_cons_of_mem _ lkMo_160) (List.mem_cons_of_mem _ miMo_kernel.1) (List.mem_cons_of_mem _ miMo_kernel.2) (by decide +kernel) (by decide) rfl
  · exact sx_CalV (n := 2) (ci := 6) (fun As w Q h => h.2 l D E B A hB) (fun As w Q h => by obtain ⟨n0, tl, fs, e1, e2, e3⟩ := h.1; exact ⟨n0, tl, fs, e1, by omega, e3⟩) rfl rfl (wy_in mMo_insert) rfl rfl rfl (List.mem_cons_of_mem _ mnMo_insert) (List.mem_cons_of_mem _ lkMo_163) (List.mem_cons_of_mem _ miMo_insert.1) (List.mem_cons_of_mem _ miMo_insert.2) (by decide +kernel) (by decide) rfl
  · exact sx_CalV (n := 2) (ci := 6) (fun As w Q h => h.2 l D E B A hB) (fun As w Q h => by obtain ⟨n0, tl, fs, e1, e2, e3⟩ := h.1; exact ⟨n0, tl, fs, e1, by omega, e3⟩) rfl rfl (wy_in mMo_insert) rfl rfl rfl (List.mem_cons_of_mem _ mnMo_insert) (List.mem_cons_of_mem _ lkMo_163) (List.mem_cons_of_mem _ miMo_insert.1) (List.mem_cons_of_mem _ miMo_insert.2) (by decide +kernel) (by decide) rfl
theorem hCm_find (l : Launch) (D : va_G) (E : sx_E) (B : Nat) (A : Nat → Prop) (hB : 29 ≤ B) : ∀ (pc : Nat) (i : Instr × Nat × Nat), sx_tab lCm_find pc = some i → sx_isC i.1 = true → sx_Cal l yCm_find.cls (wy yCm_find prog_2_method_2_code 5 none) wn ({ frames := 4, cells := 0, slots := 0, locals := 109 }) D kinds A E B 5 prog_2_method_2_code i.1 (csAll i.2.1) := by
  intro pc i hF hi
  have h2 : (pc, i) ∈ lCm_find.filter (fun q => sx_isC q.2.1) := List.mem_filter.mpr ⟨sx_tab_mem hF, hi⟩
  have h3 : lCm_find.filter (fun q => sx_isC q.2.1) = [(9, .invokevirtual 45, 72, 0), (54, .invokevirtual 48, 73, 0), (71, .invokevirtual 52, 74, 0), (85, .invokestatic 56, 118, 0), (101, .invokevirtual 62, 80, 0)] := rfl
  rw [h3] at h2
  simp only [List.mem_cons, List.not_mem_nil, or_false, Prod.mk.injEq] at h2
  rcases h2 with ⟨rfl, rfl⟩ | ⟨rfl, rfl⟩ | ⟨rfl, rfl⟩ | ⟨rfl, rfl⟩ | ⟨rfl, rfl⟩
  · exact sx_CalV (n := 0) (ci := 4) (fun As w Q h => h.2 l D E B A hB) (fun As w Q h => by obtain ⟨n0, tl, fs, e1, e2, e3⟩ := h.1; exact ⟨n0, tl, fs, e1, by omega, e3⟩) rfl rfl (wy_in mCm_startWhole) rfl rfl rfl (List.mem_cons_of_mem _ mnCm_startWhole) (List.mem_cons_of_mem _ lkCm_45) (List.mem_cons_of_mem _ miCm_startWhole.1) (List.mem_cons_of_mem _ miCm_startWhole.2) (by decide +kernel) (by decide) rfl
  · exact sx_CalV (n := 4) (ci := 4) (fun As w Q h => h.2 l D E B A hB) (fun As w Q h => by obtain ⟨n0, tl, fs, e1, e2, e3⟩ := h.1; exact ⟨n0, tl, fs, e1, by omega, e3⟩) rfl rfl (wy_in mCm_setAction) rfl rfl rfl (List.mem_cons_of_mem _ mnCm_setAction) (List.mem_cons_of_mem _ lkCm_48) (List.mem_cons_of_mem _ miCm_setAction.1) (List.mem_cons_of_mem _ miCm_setAction.2) (by decide +kernel) (by decide) rfl
  · exact sx_CalV (n := 3) (ci := 4) (fun As w Q h => h.2 l D E B A hB) (fun As w Q h => by obtain ⟨n0, tl, fs, e1, e2, e3⟩ := h.1; exact ⟨n0, tl, fs, e1, by omega, e3⟩) rfl rfl (wy_in mCm_split) rfl rfl rfl (List.mem_cons_of_mem _ mnCm_split) (List.mem_cons_of_mem _ lkCm_52) (List.mem_cons_of_mem _ miCm_split.1) (List.mem_cons_of_mem _ miCm_split.2) (by decide +kernel) (by decide) rfl
  · exact sx_CalS (n := 2) (fun As w Q h => h l D E B A hB) (wy_in mMa_max) rfl rfl rfl (List.mem_cons_of_mem _ mnMa_max) (List.mem_cons_of_mem _ lkCm_56) (List.mem_cons_of_mem _ msMa_max) (by decide +kernel) (by decide) rfl
  · exact sx_CalV (n := 1) (ci := 4) (fun As w Q h => h.2 l D E B A hB) (fun As w Q h => by obtain ⟨n0, tl, fs, e1, e2, e3⟩ := h.1; exact ⟨n0, tl, fs, e1, by omega, e3⟩) rfl rfl (wy_in mCm_scale) rfl rfl rfl (List.mem_cons_of_mem _ mnCm_scale) (List.mem_cons_of_mem _ lkCm_62) (List.mem_cons_of_mem _ miCm_scale.1) (List.mem_cons_of_mem _ miCm_scale.2) (by decide +kernel) (by decide) rfl
theorem hCm_startWhole (l : Launch) (D : va_G) (E : sx_E) (B : Nat) (A : Nat → Prop) (hB : 29 ≤ B) : ∀ (pc : Nat) (i : Instr × Nat × Nat), sx_tab lCm_startWhole pc = some i → sx_isC i.1 = true → sx_Cal l yCm_startWhole.cls (wy yCm_startWhole prog_2_method_3_code 2 none) wn ({ frames := 1, cells := 0, slots := 0, locals := 23 }) D kinds A E B 2 prog_2_method_3_code i.1 (csAll i.2.1) := by
  intro pc i hF hi
  have h2 : (pc, i) ∈ lCm_startWhole.filter (fun q => sx_isC q.2.1) := List.mem_filter.mpr ⟨sx_tab_mem hF, hi⟩
  have h3 : lCm_startWhole.filter (fun q => sx_isC q.2.1) = [(17, .invokestatic 66, 119, 0)] := rfl
  rw [h3] at h2
  simp only [List.mem_cons, List.not_mem_nil, or_false, Prod.mk.injEq] at h2
  rcases h2 with ⟨rfl, rfl⟩
  · exact sx_CalS (n := 2) (fun As w Q h => h l D E B A hB) (wy_in mAr_fill) rfl rfl rfl (List.mem_cons_of_mem _ mnAr_fill) (List.mem_cons_of_mem _ lkCm_66) (List.mem_cons_of_mem _ msAr_fill) (by decide +kernel) (by decide) rfl
theorem hCm_setAction (l : Launch) (D : va_G) (E : sx_E) (B : Nat) (A : Nat → Prop) (hB : 29 ≤ B) : ∀ (pc : Nat) (i : Instr × Nat × Nat), sx_tab lCm_setAction pc = some i → sx_isC i.1 = true → sx_Cal l yCm_setAction.cls (wy yCm_setAction prog_2_method_4_code 11 none) wn ({ frames := 2, cells := 0, slots := 0, locals := 45 }) D kinds A E B 11 prog_2_method_4_code i.1 (csAll i.2.1) := by
  intro pc i hF hi
  have h2 : (pc, i) ∈ lCm_setAction.filter (fun q => sx_isC q.2.1) := List.mem_filter.mpr ⟨sx_tab_mem hF, hi⟩
  have h3 : lCm_setAction.filter (fun q => sx_isC q.2.1) = [(58, .invokevirtual 72, 91, 0), (81, .invokevirtual 76, 102, 0)] := rfl
  rw [h3] at h2
  simp only [List.mem_cons, List.not_mem_nil, or_false, Prod.mk.injEq] at h2
  rcases h2 with ⟨rfl, rfl⟩ | ⟨rfl, rfl⟩
  · exact sx_CalV (n := 3) (ci := 2) (fun As w Q h => h.2 l D E B A hB) (fun As w Q h => by obtain ⟨n0, tl, fs, e1, e2, e3⟩ := h.1; exact ⟨n0, tl, fs, e1, by omega, e3⟩) rfl rfl (wy_in mCo_pairs) rfl rfl rfl (List.mem_cons_of_mem _ mnCo_pairs) (List.mem_cons_of_mem _ lkCm_72) (List.mem_cons_of_mem _ miCo_pairs.1) (List.mem_cons_of_mem _ miCo_pairs.2) (by decide +kernel) (by decide) rfl
  · exact sx_CalV (n := 3) (ci := 3) (fun As w Q h => h.2 l D E B A hB) (fun As w Q h => by obtain ⟨n0, tl, fs, e1, e2, e3⟩ := h.1; exact ⟨n0, tl, fs, e1, by omega, e3⟩) rfl rfl (wy_in mRe_plusTimes) rfl rfl rfl (List.mem_cons_of_mem _ mnRe_plusTimes) (List.mem_cons_of_mem _ lkCm_76) (List.mem_cons_of_mem _ miRe_plusTimes.1) (List.mem_cons_of_mem _ miRe_plusTimes.2) (by decide +kernel) (by decide) rfl
theorem hCm_split (l : Launch) (D : va_G) (E : sx_E) (B : Nat) (A : Nat → Prop) (hB : 29 ≤ B) : ∀ (pc : Nat) (i : Instr × Nat × Nat), sx_tab lCm_split pc = some i → sx_isC i.1 = true → sx_Cal l yCm_split.cls (wy yCm_split prog_2_method_5_code 8 none) wn ({ frames := 3, cells := 0, slots := 0, locals := 82 }) D kinds A E B 8 prog_2_method_5_code i.1 (csAll i.2.1) := by
  intro pc i hF hi
  have h2 : (pc, i) ∈ lCm_split.filter (fun q => sx_isC q.2.1) := List.mem_filter.mpr ⟨sx_tab_mem hF, hi⟩
  have h3 : lCm_split.filter (fun q => sx_isC q.2.1) = [(30, .invokevirtual 84, 75, 0), (36, .invokevirtual 87, 76, 0), (73, .invokevirtual 91, 79, 0), (143, .invokestatic 95, 900, 0)] := rfl
  rw [h3] at h2
  simp only [List.mem_cons, List.not_mem_nil, or_false, Prod.mk.injEq] at h2
  rcases h2 with ⟨rfl, rfl⟩ | ⟨rfl, rfl⟩ | ⟨rfl, rfl⟩ | ⟨rfl, rfl⟩
  · exact sx_CalV (n := 3) (ci := 4) (fun As w Q h => h.2 l D E B A hB) (fun As w Q h => by obtain ⟨n0, tl, fs, e1, e2, e3⟩ := h.1; exact ⟨n0, tl, fs, e1, by omega, e3⟩) rfl rfl (wy_in mCm_setSystem) rfl rfl rfl (List.mem_cons_of_mem _ mnCm_setSystem) (List.mem_cons_of_mem _ lkCm_84) (List.mem_cons_of_mem _ miCm_setSystem.1) (List.mem_cons_of_mem _ miCm_setSystem.2) (by decide +kernel) (by decide) rfl
  · exact sx_CalV (n := 2) (ci := 4) (fun As w Q h => h.2 l D E B A hB) (fun As w Q h => by obtain ⟨n0, tl, fs, e1, e2, e3⟩ := h.1; exact ⟨n0, tl, fs, e1, by omega, e3⟩) rfl rfl (wy_in mCm_solve) rfl rfl rfl (List.mem_cons_of_mem _ mnCm_solve) (List.mem_cons_of_mem _ lkCm_87) (List.mem_cons_of_mem _ miCm_solve.1) (List.mem_cons_of_mem _ miCm_solve.2) (by decide +kernel) (by decide) rfl
  · exact sx_CalV (n := 5) (ci := 4) (fun As w Q h => h.2 l D E B A hB) (fun As w Q h => by obtain ⟨n0, tl, fs, e1, e2, e3⟩ := h.1; exact ⟨n0, tl, fs, e1, by omega, e3⟩) rfl rfl (wy_in mCm_takeSolution) rfl rfl rfl (List.mem_cons_of_mem _ mnCm_takeSolution) (List.mem_cons_of_mem _ lkCm_91) (List.mem_cons_of_mem _ miCm_takeSolution.1) (List.mem_cons_of_mem _ miCm_takeSolution.2) (by decide +kernel) (by decide) rfl
  · exact sx_CalCopy hB (List.mem_cons_of_mem _ lkCm_95) (List.mem_cons_of_mem _ mcopy.1) (List.mem_cons_of_mem _ mcopy.2.1) (List.mem_cons_of_mem _ mcopy.2.2) (by decide) (by decide +kernel)
theorem hCm_setSystem (l : Launch) (D : va_G) (E : sx_E) (B : Nat) (A : Nat → Prop) (hB : 29 ≤ B) : ∀ (pc : Nat) (i : Instr × Nat × Nat), sx_tab lCm_setSystem pc = some i → sx_isC i.1 = true → sx_Cal l yCm_setSystem.cls (wy yCm_setSystem prog_2_method_6_code 5 none) wn ({ frames := 2, cells := 0, slots := 0, locals := 43 }) D kinds A E B 5 prog_2_method_6_code i.1 (csAll i.2.1) := by
  intro pc i hF hi
  have h2 : (pc, i) ∈ lCm_setSystem.filter (fun q => sx_isC q.2.1) := List.mem_filter.mpr ⟨sx_tab_mem hF, hi⟩
  have h3 : lCm_setSystem.filter (fun q => sx_isC q.2.1) = [(26, .invokestatic 95, 900, 0), (51, .invokevirtual 101, 100, 0)] := rfl
  rw [h3] at h2
  simp only [List.mem_cons, List.not_mem_nil, or_false, Prod.mk.injEq] at h2
  rcases h2 with ⟨rfl, rfl⟩ | ⟨rfl, rfl⟩
  · exact sx_CalCopy hB (List.mem_cons_of_mem _ lkCm_95) (List.mem_cons_of_mem _ mcopy.1) (List.mem_cons_of_mem _ mcopy.2.1) (List.mem_cons_of_mem _ mcopy.2.2) (by decide) (by decide +kernel)
  · exact sx_CalV (n := 1) (ci := 3) (fun As w Q h => h.2 l D E B A hB) (fun As w Q h => by obtain ⟨n0, tl, fs, e1, e2, e3⟩ := h.1; exact ⟨n0, tl, fs, e1, by omega, e3⟩) rfl rfl (wy_in mRe_reduce) rfl rfl rfl (List.mem_cons_of_mem _ mnRe_reduce) (List.mem_cons_of_mem _ lkCm_101) (List.mem_cons_of_mem _ miRe_reduce.1) (List.mem_cons_of_mem _ miRe_reduce.2) (by decide +kernel) (by decide) rfl
theorem hCm_solve (l : Launch) (D : va_G) (E : sx_E) (B : Nat) (A : Nat → Prop) (hB : 29 ≤ B) : ∀ (pc : Nat) (i : Instr × Nat × Nat), sx_tab lCm_solve pc = some i → sx_isC i.1 = true → sx_Cal l yCm_solve.cls (wy yCm_solve prog_2_method_7_code 6 none) wn ({ frames := 2, cells := 0, slots := 0, locals := 57 }) D kinds A E B 6 prog_2_method_7_code i.1 (csAll i.2.1) := by
  intro pc i hF hi
  have h2 : (pc, i) ∈ lCm_solve.filter (fun q => sx_isC q.2.1) := List.mem_filter.mpr ⟨sx_tab_mem hF, hi⟩
  have h3 : lCm_solve.filter (fun q => sx_isC q.2.1) = [(58, .invokevirtual 105, 77, 0), (67, .invokevirtual 109, 78, 0)] := rfl
  rw [h3] at h2
  simp only [List.mem_cons, List.not_mem_nil, or_false, Prod.mk.injEq] at h2
  rcases h2 with ⟨rfl, rfl⟩ | ⟨rfl, rfl⟩
  · exact sx_CalV (n := 3) (ci := 4) (fun As w Q h => h.2 l D E B A hB) (fun As w Q h => by obtain ⟨n0, tl, fs, e1, e2, e3⟩ := h.1; exact ⟨n0, tl, fs, e1, by omega, e3⟩) rfl rfl (wy_in mCm_swapRows) rfl rfl rfl (List.mem_cons_of_mem _ mnCm_swapRows) (List.mem_cons_of_mem _ lkCm_105) (List.mem_cons_of_mem _ miCm_swapRows.1) (List.mem_cons_of_mem _ miCm_swapRows.2) (by decide +kernel) (by decide) rfl
  · exact sx_CalV (n := 4) (ci := 4) (fun As w Q h => h.2 l D E B A hB) (fun As w Q h => by obtain ⟨n0, tl, fs, e1, e2, e3⟩ := h.1; exact ⟨n0, tl, fs, e1, by omega, e3⟩) rfl rfl (wy_in mCm_clearColumn) rfl rfl rfl (List.mem_cons_of_mem _ mnCm_clearColumn) (List.mem_cons_of_mem _ lkCm_109) (List.mem_cons_of_mem _ miCm_clearColumn.1) (List.mem_cons_of_mem _ miCm_clearColumn.2) (by decide +kernel) (by decide) rfl
theorem hCm_clearColumn (l : Launch) (D : va_G) (E : sx_E) (B : Nat) (A : Nat → Prop) (hB : 29 ≤ B) : ∀ (pc : Nat) (i : Instr × Nat × Nat), sx_tab lCm_clearColumn pc = some i → sx_isC i.1 = true → sx_Cal l yCm_clearColumn.cls (wy yCm_clearColumn prog_2_method_9_code 9 none) wn ({ frames := 1, cells := 0, slots := 0, locals := 29 }) D kinds A E B 9 prog_2_method_9_code i.1 (csAll i.2.1) := by
  intro pc i hF hi
  have h2 : (pc, i) ∈ lCm_clearColumn.filter (fun q => sx_isC q.2.1) := List.mem_filter.mpr ⟨sx_tab_mem hF, hi⟩
  have h3 : lCm_clearColumn.filter (fun q => sx_isC q.2.1) = [(10, .invokevirtual 113, 105, 0), (45, .invokevirtual 116, 101, 0), (127, .invokevirtual 119, 103, 0)] := rfl
  rw [h3] at h2
  simp only [List.mem_cons, List.not_mem_nil, or_false, Prod.mk.injEq] at h2
  rcases h2 with ⟨rfl, rfl⟩ | ⟨rfl, rfl⟩ | ⟨rfl, rfl⟩
  · exact sx_CalV (n := 1) (ci := 3) (fun As w Q h => h.2 l D E B A hB) (fun As w Q h => by obtain ⟨n0, tl, fs, e1, e2, e3⟩ := h.1; exact ⟨n0, tl, fs, e1, by omega, e3⟩) rfl rfl (wy_in mRe_reciprocal) rfl rfl rfl (List.mem_cons_of_mem _ mnRe_reciprocal) (List.mem_cons_of_mem _ lkCm_113) (List.mem_cons_of_mem _ miRe_reciprocal.1) (List.mem_cons_of_mem _ miRe_reciprocal.2) (by decide +kernel) (by decide) rfl
  · exact sx_CalV (n := 2) (ci := 3) (fun As w Q h => h.2 l D E B A hB) (fun As w Q h => by obtain ⟨n0, tl, fs, e1, e2, e3⟩ := h.1; exact ⟨n0, tl, fs, e1, by omega, e3⟩) rfl rfl (wy_in mRe_times) rfl rfl rfl (List.mem_cons_of_mem _ mnRe_times) (List.mem_cons_of_mem _ lkCm_116) (List.mem_cons_of_mem _ miRe_times.1) (List.mem_cons_of_mem _ miRe_times.2) (by decide +kernel) (by decide) rfl
  · exact sx_CalV (n := 3) (ci := 3) (fun As w Q h => h.2 l D E B A hB) (fun As w Q h => by obtain ⟨n0, tl, fs, e1, e2, e3⟩ := h.1; exact ⟨n0, tl, fs, e1, by omega, e3⟩) rfl rfl (wy_in mRe_minusTimes) rfl rfl rfl (List.mem_cons_of_mem _ mnRe_minusTimes) (List.mem_cons_of_mem _ lkCm_119) (List.mem_cons_of_mem _ miRe_minusTimes.1) (List.mem_cons_of_mem _ miRe_minusTimes.2) (by decide +kernel) (by decide) rfl
theorem hCm_takeSolution (l : Launch) (D : va_G) (E : sx_E) (B : Nat) (A : Nat → Prop) (hB : 29 ≤ B) : ∀ (pc : Nat) (i : Instr × Nat × Nat), sx_tab lCm_takeSolution pc = some i → sx_isC i.1 = true → sx_Cal l yCm_takeSolution.cls (wy yCm_takeSolution prog_2_method_10_code 10 none) wn ({ frames := 1, cells := 0, slots := 0, locals := 40 }) D kinds A E B 10 prog_2_method_10_code i.1 (csAll i.2.1) := by
  intro pc i hF hi
  have h2 : (pc, i) ∈ lCm_takeSolution.filter (fun q => sx_isC q.2.1) := List.mem_filter.mpr ⟨sx_tab_mem hF, hi⟩
  have h3 : lCm_takeSolution.filter (fun q => sx_isC q.2.1) = [(25, .invokestatic 95, 900, 0), (101, .invokevirtual 119, 103, 0)] := rfl
  rw [h3] at h2
  simp only [List.mem_cons, List.not_mem_nil, or_false, Prod.mk.injEq] at h2
  rcases h2 with ⟨rfl, rfl⟩ | ⟨rfl, rfl⟩
  · exact sx_CalCopy hB (List.mem_cons_of_mem _ lkCm_95) (List.mem_cons_of_mem _ mcopy.1) (List.mem_cons_of_mem _ mcopy.2.1) (List.mem_cons_of_mem _ mcopy.2.2) (by decide) (by decide +kernel)
  · exact sx_CalV (n := 3) (ci := 3) (fun As w Q h => h.2 l D E B A hB) (fun As w Q h => by obtain ⟨n0, tl, fs, e1, e2, e3⟩ := h.1; exact ⟨n0, tl, fs, e1, by omega, e3⟩) rfl rfl (wy_in mRe_minusTimes) rfl rfl rfl (List.mem_cons_of_mem _ mnRe_minusTimes) (List.mem_cons_of_mem _ lkCm_119) (List.mem_cons_of_mem _ miRe_minusTimes.1) (List.mem_cons_of_mem _ miRe_minusTimes.2) (by decide +kernel) (by decide) rfl
theorem hCm_scale (l : Launch) (D : va_G) (E : sx_E) (B : Nat) (A : Nat → Prop) (hB : 29 ≤ B) : ∀ (pc : Nat) (i : Instr × Nat × Nat), sx_tab lCm_scale pc = some i → sx_isC i.1 = true → sx_Cal l yCm_scale.cls (wy yCm_scale prog_2_method_11_code 5 none) wn ({ frames := 1, cells := 0, slots := 0, locals := 29 }) D kinds A E B 5 prog_2_method_11_code i.1 (csAll i.2.1) := by
  intro pc i hF hi
  have h2 : (pc, i) ∈ lCm_scale.filter (fun q => sx_isC q.2.1) := List.mem_filter.mpr ⟨sx_tab_mem hF, hi⟩
  have h3 : lCm_scale.filter (fun q => sx_isC q.2.1) = [(19, .invokevirtual 113, 105, 0), (54, .invokevirtual 116, 101, 0)] := rfl
  rw [h3] at h2
  simp only [List.mem_cons, List.not_mem_nil, or_false, Prod.mk.injEq] at h2
  rcases h2 with ⟨rfl, rfl⟩ | ⟨rfl, rfl⟩
  · exact sx_CalV (n := 1) (ci := 3) (fun As w Q h => h.2 l D E B A hB) (fun As w Q h => by obtain ⟨n0, tl, fs, e1, e2, e3⟩ := h.1; exact ⟨n0, tl, fs, e1, by omega, e3⟩) rfl rfl (wy_in mRe_reciprocal) rfl rfl rfl (List.mem_cons_of_mem _ mnRe_reciprocal) (List.mem_cons_of_mem _ lkCm_113) (List.mem_cons_of_mem _ miRe_reciprocal.1) (List.mem_cons_of_mem _ miRe_reciprocal.2) (by decide +kernel) (by decide) rfl
  · exact sx_CalV (n := 2) (ci := 3) (fun As w Q h => h.2 l D E B A hB) (fun As w Q h => by obtain ⟨n0, tl, fs, e1, e2, e3⟩ := h.1; exact ⟨n0, tl, fs, e1, by omega, e3⟩) rfl rfl (wy_in mRe_times) rfl rfl rfl (List.mem_cons_of_mem _ mnRe_times) (List.mem_cons_of_mem _ lkCm_116) (List.mem_cons_of_mem _ miRe_times.1) (List.mem_cons_of_mem _ miRe_times.2) (by decide +kernel) (by decide) rfl
theorem hCo_divide (l : Launch) (D : va_G) (E : sx_E) (B : Nat) (A : Nat → Prop) (hB : 29 ≤ B) : ∀ (pc : Nat) (i : Instr × Nat × Nat), sx_tab lCo_divide pc = some i → sx_isC i.1 = true → sx_Cal l yCo_divide.cls (wy yCo_divide prog_4_method_2_code 3 (some .boolean)) wn ({ frames := 3, cells := 0, slots := 0, locals := 71 }) D kinds A E B 3 prog_4_method_2_code i.1 (csAll i.2.1) := by
  intro pc i hF hi
  have h2 : (pc, i) ∈ lCo_divide.filter (fun q => sx_isC q.2.1) := List.mem_filter.mpr ⟨sx_tab_mem hF, hi⟩
  have h3 : lCo_divide.filter (fun q => sx_isC q.2.1) = [(10, .invokestatic 39, 119, 0), (52, .invokevirtual 51, 85, 0)] := rfl
  rw [h3] at h2
  simp only [List.mem_cons, List.not_mem_nil, or_false, Prod.mk.injEq] at h2
  rcases h2 with ⟨rfl, rfl⟩ | ⟨rfl, rfl⟩
  · exact sx_CalS (n := 2) (fun As w Q h => h l D E B A hB) (wy_in mAr_fill) rfl rfl rfl (List.mem_cons_of_mem _ mnAr_fill) (List.mem_cons_of_mem _ lkCo_39) (List.mem_cons_of_mem _ msAr_fill) (by decide +kernel) (by decide) rfl
  · exact sx_CalV (n := 2) (ci := 2) (fun As w Q h => h.2 l D E B A hB) (fun As w Q h => by obtain ⟨n0, tl, fs, e1, e2, e3⟩ := h.1; exact ⟨n0, tl, fs, e1, by omega, e3⟩) rfl rfl (wy_in mCo_gather) rfl rfl rfl (List.mem_cons_of_mem _ mnCo_gather) (List.mem_cons_of_mem _ lkCo_51) (List.mem_cons_of_mem _ miCo_gather.1) (List.mem_cons_of_mem _ miCo_gather.2) (by decide +kernel) (by decide) rfl
theorem hCo_gather (l : Launch) (D : va_G) (E : sx_E) (B : Nat) (A : Nat → Prop) (hB : 29 ≤ B) : ∀ (pc : Nat) (i : Instr × Nat × Nat), sx_tab lCo_gather pc = some i → sx_isC i.1 = true → sx_Cal l yCo_gather.cls (wy yCo_gather prog_4_method_3_code 7 none) wn ({ frames := 2, cells := 0, slots := 0, locals := 45 }) D kinds A E B 7 prog_4_method_3_code i.1 (csAll i.2.1) := by
  intro pc i hF hi
  have h2 : (pc, i) ∈ lCo_gather.filter (fun q => sx_isC q.2.1) := List.mem_filter.mpr ⟨sx_tab_mem hF, hi⟩
  have h3 : lCo_gather.filter (fun q => sx_isC q.2.1) = [(40, .invokestatic 55, 83, 0), (44, .invokestatic 61, 82, 0), (49, .invokestatic 61, 82, 0), (57, .invokevirtual 65, 94, 0)] := rfl
  rw [h3] at h2
  simp only [List.mem_cons, List.not_mem_nil, or_false, Prod.mk.injEq] at h2
  rcases h2 with ⟨rfl, rfl⟩ | ⟨rfl, rfl⟩ | ⟨rfl, rfl⟩ | ⟨rfl, rfl⟩
  · exact sx_CalS (n := 1) (fun As w Q h => h l D E B A hB) (wy_in mCd_inverse) rfl rfl rfl (List.mem_cons_of_mem _ mnCd_inverse) (List.mem_cons_of_mem _ lkCo_55) (List.mem_cons_of_mem _ msCd_inverse) (by decide +kernel) (by decide) rfl
  · exact sx_CalS (n := 2) (fun As w Q h => h l D E B A hB) (wy_in mCd_product) rfl rfl rfl (List.mem_cons_of_mem _ mnCd_product) (List.mem_cons_of_mem _ lkCo_61) (List.mem_cons_of_mem _ msCd_product) (by decide +kernel) (by decide) rfl
  · exact sx_CalS (n := 2) (fun As w Q h => h l D E B A hB) (wy_in mCd_product) rfl rfl rfl (List.mem_cons_of_mem _ mnCd_product) (List.mem_cons_of_mem _ lkCo_61) (List.mem_cons_of_mem _ msCd_product) (by decide +kernel) (by decide) rfl
  · exact sx_CalV (n := 1) (ci := 1) (fun As w Q h => h.2 l D E B A hB) (fun As w Q h => by obtain ⟨n0, tl, fs, e1, e2, e3⟩ := h.1; exact ⟨n0, tl, fs, e1, by omega, e3⟩) rfl rfl (wy_in mEl_indexOf) rfl rfl rfl (List.mem_cons_of_mem _ mnEl_indexOf) (List.mem_cons_of_mem _ lkCo_65) (List.mem_cons_of_mem _ miEl_indexOf.1) (List.mem_cons_of_mem _ miEl_indexOf.2) (by decide +kernel) (by decide) rfl
theorem hCo_classHolding (l : Launch) (D : va_G) (E : sx_E) (B : Nat) (A : Nat → Prop) (hB : 29 ≤ B) : ∀ (pc : Nat) (i : Instr × Nat × Nat), sx_tab lCo_classHolding pc = some i → sx_isC i.1 = true → sx_Cal l yCo_classHolding.cls (wy yCo_classHolding prog_4_method_4_code 4 (some .int)) wn ({ frames := 2, cells := 0, slots := 0, locals := 45 }) D kinds A E B 4 prog_4_method_4_code i.1 (csAll i.2.1) := by
  intro pc i hF hi
  have h2 : (pc, i) ∈ lCo_classHolding.filter (fun q => sx_isC q.2.1) := List.mem_filter.mpr ⟨sx_tab_mem hF, hi⟩
  have h3 : lCo_classHolding.filter (fun q => sx_isC q.2.1) = [(2, .invokevirtual 65, 94, 0)] := rfl
  rw [h3] at h2
  simp only [List.mem_cons, List.not_mem_nil, or_false, Prod.mk.injEq] at h2
  rcases h2 with ⟨rfl, rfl⟩
  · exact sx_CalV (n := 1) (ci := 1) (fun As w Q h => h.2 l D E B A hB) (fun As w Q h => by obtain ⟨n0, tl, fs, e1, e2, e3⟩ := h.1; exact ⟨n0, tl, fs, e1, by omega, e3⟩) rfl rfl (wy_in mEl_indexOf) rfl rfl rfl (List.mem_cons_of_mem _ mnEl_indexOf) (List.mem_cons_of_mem _ lkCo_65) (List.mem_cons_of_mem _ miEl_indexOf.1) (List.mem_cons_of_mem _ miEl_indexOf.2) (by decide +kernel) (by decide) rfl
theorem hCo_listPowers (l : Launch) (D : va_G) (E : sx_E) (B : Nat) (A : Nat → Prop) (hB : 29 ≤ B) : ∀ (pc : Nat) (i : Instr × Nat × Nat), sx_tab lCo_listPowers pc = some i → sx_isC i.1 = true → sx_Cal l yCo_listPowers.cls (wy yCo_listPowers prog_4_method_5_code 5 none) wn ({ frames := 3, cells := 0, slots := 0, locals := 68 }) D kinds A E B 5 prog_4_method_5_code i.1 (csAll i.2.1) := by
  intro pc i hF hi
  have h2 : (pc, i) ∈ lCo_listPowers.filter (fun q => sx_isC q.2.1) := List.mem_filter.mpr ⟨sx_tab_mem hF, hi⟩
  have h3 : lCo_listPowers.filter (fun q => sx_isC q.2.1) = [(6, .invokestatic 39, 119, 0), (54, .invokevirtual 69, 86, 0), (78, .invokestatic 61, 82, 0)] := rfl
  rw [h3] at h2
  simp only [List.mem_cons, List.not_mem_nil, or_false, Prod.mk.injEq] at h2
  rcases h2 with ⟨rfl, rfl⟩ | ⟨rfl, rfl⟩ | ⟨rfl, rfl⟩
  · exact sx_CalS (n := 2) (fun As w Q h => h l D E B A hB) (wy_in mAr_fill) rfl rfl rfl (List.mem_cons_of_mem _ mnAr_fill) (List.mem_cons_of_mem _ lkCo_39) (List.mem_cons_of_mem _ msAr_fill) (by decide +kernel) (by decide) rfl
  · exact sx_CalV (n := 2) (ci := 2) (fun As w Q h => h.2 l D E B A hB) (fun As w Q h => by obtain ⟨n0, tl, fs, e1, e2, e3⟩ := h.1; exact ⟨n0, tl, fs, e1, by omega, e3⟩) rfl rfl (wy_in mCo_classHolding) rfl rfl rfl (List.mem_cons_of_mem _ mnCo_classHolding) (List.mem_cons_of_mem _ lkCo_69) (List.mem_cons_of_mem _ miCo_classHolding.1) (List.mem_cons_of_mem _ miCo_classHolding.2) (by decide +kernel) (by decide) rfl
  · exact sx_CalS (n := 2) (fun As w Q h => h l D E B A hB) (wy_in mCd_product) rfl rfl rfl (List.mem_cons_of_mem _ mnCd_product) (List.mem_cons_of_mem _ lkCo_61) (List.mem_cons_of_mem _ msCd_product) (by decide +kernel) (by decide) rfl
theorem hCo_countPairs (l : Launch) (D : va_G) (E : sx_E) (B : Nat) (A : Nat → Prop) (hB : 29 ≤ B) : ∀ (pc : Nat) (i : Instr × Nat × Nat), sx_tab lCo_countPairs pc = some i → sx_isC i.1 = true → sx_Cal l yCo_countPairs.cls (wy yCo_countPairs prog_4_method_8_code 6 none) wn ({ frames := 3, cells := 0, slots := 0, locals := 68 }) D kinds A E B 6 prog_4_method_8_code i.1 (csAll i.2.1) := by
  intro pc i hF hi
  have h2 : (pc, i) ∈ lCo_countPairs.filter (fun q => sx_isC q.2.1) := List.mem_filter.mpr ⟨sx_tab_mem hF, hi⟩
  have h3 : lCo_countPairs.filter (fun q => sx_isC q.2.1) = [(5, .invokestatic 39, 119, 0), (24, .invokestatic 55, 83, 0), (49, .invokestatic 61, 82, 0), (53, .invokevirtual 69, 86, 0), (78, .invokestatic 73, 92, 0)] := rfl
  rw [h3] at h2
  simp only [List.mem_cons, List.not_mem_nil, or_false, Prod.mk.injEq] at h2
  rcases h2 with ⟨rfl, rfl⟩ | ⟨rfl, rfl⟩ | ⟨rfl, rfl⟩ | ⟨rfl, rfl⟩ | ⟨rfl, rfl⟩
  · exact sx_CalS (n := 2) (fun As w Q h => h l D E B A hB) (wy_in mAr_fill) rfl rfl rfl (List.mem_cons_of_mem _ mnAr_fill) (List.mem_cons_of_mem _ lkCo_39) (List.mem_cons_of_mem _ msAr_fill) (by decide +kernel) (by decide) rfl
  · exact sx_CalS (n := 1) (fun As w Q h => h l D E B A hB) (wy_in mCd_inverse) rfl rfl rfl (List.mem_cons_of_mem _ mnCd_inverse) (List.mem_cons_of_mem _ lkCo_55) (List.mem_cons_of_mem _ msCd_inverse) (by decide +kernel) (by decide) rfl
  · exact sx_CalS (n := 2) (fun As w Q h => h l D E B A hB) (wy_in mCd_product) rfl rfl rfl (List.mem_cons_of_mem _ mnCd_product) (List.mem_cons_of_mem _ lkCo_61) (List.mem_cons_of_mem _ msCd_product) (by decide +kernel) (by decide) rfl
  · exact sx_CalV (n := 2) (ci := 2) (fun As w Q h => h.2 l D E B A hB) (fun As w Q h => by obtain ⟨n0, tl, fs, e1, e2, e3⟩ := h.1; exact ⟨n0, tl, fs, e1, by omega, e3⟩) rfl rfl (wy_in mCo_classHolding) rfl rfl rfl (List.mem_cons_of_mem _ mnCo_classHolding) (List.mem_cons_of_mem _ lkCo_69) (List.mem_cons_of_mem _ miCo_classHolding.1) (List.mem_cons_of_mem _ miCo_classHolding.2) (by decide +kernel) (by decide) rfl
  · exact sx_CalS (n := 3) (fun As w Q h => h l D E B A hB) (wy_in mCo_pairPlace) rfl rfl rfl (List.mem_cons_of_mem _ mnCo_pairPlace) (List.mem_cons_of_mem _ lkCo_73) (List.mem_cons_of_mem _ msCo_pairPlace) (by decide +kernel) (by decide) rfl
theorem hCo_pairs (l : Launch) (D : va_G) (E : sx_E) (B : Nat) (A : Nat → Prop) (hB : 29 ≤ B) : ∀ (pc : Nat) (i : Instr × Nat × Nat), sx_tab lCo_pairs pc = some i → sx_isC i.1 = true → sx_Cal l yCo_pairs.cls (wy yCo_pairs prog_4_method_9_code 4 (some .int)) wn ({ frames := 1, cells := 0, slots := 0, locals := 22 }) D kinds A E B 4 prog_4_method_9_code i.1 (csAll i.2.1) := by
  intro pc i hF hi
  have h2 : (pc, i) ∈ lCo_pairs.filter (fun q => sx_isC q.2.1) := List.mem_filter.mpr ⟨sx_tab_mem hF, hi⟩
  have h3 : lCo_pairs.filter (fun q => sx_isC q.2.1) = [(7, .invokestatic 73, 92, 0)] := rfl
  rw [h3] at h2
  simp only [List.mem_cons, List.not_mem_nil, or_false, Prod.mk.injEq] at h2
  rcases h2 with ⟨rfl, rfl⟩
  · exact sx_CalS (n := 3) (fun As w Q h => h l D E B A hB) (wy_in mCo_pairPlace) rfl rfl rfl (List.mem_cons_of_mem _ mnCo_pairPlace) (List.mem_cons_of_mem _ lkCo_73) (List.mem_cons_of_mem _ msCo_pairPlace) (by decide +kernel) (by decide) rfl
theorem hEl_generate (l : Launch) (D : va_G) (E : sx_E) (B : Nat) (A : Nat → Prop) (hB : 29 ≤ B) : ∀ (pc : Nat) (i : Instr × Nat × Nat), sx_tab lEl_generate pc = some i → sx_isC i.1 = true → sx_Cal l yEl_generate.cls (wy yEl_generate prog_5_method_2_code 6 (some .boolean)) wn ({ frames := 2, cells := 0, slots := 0, locals := 46 }) D kinds A E B 6 prog_5_method_2_code i.1 (csAll i.2.1) := by
  intro pc i hF hi
  have h2 : (pc, i) ∈ lEl_generate.filter (fun q => sx_isC q.2.1) := List.mem_filter.mpr ⟨sx_tab_mem hF, hi⟩
  have h3 : lEl_generate.filter (fun q => sx_isC q.2.1) = [(8, .invokevirtual 25, 95, 0), (60, .invokestatic 29, 82, 0), (63, .invokevirtual 25, 95, 0)] := rfl
  rw [h3] at h2
  simp only [List.mem_cons, List.not_mem_nil, or_false, Prod.mk.injEq] at h2
  rcases h2 with ⟨rfl, rfl⟩ | ⟨rfl, rfl⟩ | ⟨rfl, rfl⟩
  · exact sx_CalV (n := 1) (ci := 1) (fun As w Q h => h.2 l D E B A hB) (fun As w Q h => by obtain ⟨n0, tl, fs, e1, e2, e3⟩ := h.1; exact ⟨n0, tl, fs, e1, by omega, e3⟩) rfl rfl (wy_in mEl_include) rfl rfl rfl (List.mem_cons_of_mem _ mnEl_include) (List.mem_cons_of_mem _ lkEl_25) (List.mem_cons_of_mem _ miEl_include.1) (List.mem_cons_of_mem _ miEl_include.2) (by decide +kernel) (by decide) rfl
  · exact sx_CalS (n := 2) (fun As w Q h => h l D E B A hB) (wy_in mCd_product) rfl rfl rfl (List.mem_cons_of_mem _ mnCd_product) (List.mem_cons_of_mem _ lkEl_29) (List.mem_cons_of_mem _ msCd_product) (by decide +kernel) (by decide) rfl
  · exact sx_CalV (n := 1) (ci := 1) (fun As w Q h => h.2 l D E B A hB) (fun As w Q h => by obtain ⟨n0, tl, fs, e1, e2, e3⟩ := h.1; exact ⟨n0, tl, fs, e1, by omega, e3⟩) rfl rfl (wy_in mEl_include) rfl rfl rfl (List.mem_cons_of_mem _ mnEl_include) (List.mem_cons_of_mem _ lkEl_25) (List.mem_cons_of_mem _ miEl_include.1) (List.mem_cons_of_mem _ miEl_include.2) (by decide +kernel) (by decide) rfl
theorem hEl_indexOf (l : Launch) (D : va_G) (E : sx_E) (B : Nat) (A : Nat → Prop) (hB : 29 ≤ B) : ∀ (pc : Nat) (i : Instr × Nat × Nat), sx_tab lEl_indexOf pc = some i → sx_isC i.1 = true → sx_Cal l yEl_indexOf.cls (wy yEl_indexOf prog_5_method_3_code 3 (some .int)) wn ({ frames := 1, cells := 0, slots := 0, locals := 23 }) D kinds A E B 3 prog_5_method_3_code i.1 (csAll i.2.1) := by
  intro pc i hF hi
  have h2 : (pc, i) ∈ lEl_indexOf.filter (fun q => sx_isC q.2.1) := List.mem_filter.mpr ⟨sx_tab_mem hF, hi⟩
  have h3 : lEl_indexOf.filter (fun q => sx_isC q.2.1) = [(2, .invokevirtual 33, 96, 0)] := rfl
  rw [h3] at h2
  simp only [List.mem_cons, List.not_mem_nil, or_false, Prod.mk.injEq] at h2
  rcases h2 with ⟨rfl, rfl⟩
  · exact sx_CalV (n := 1) (ci := 1) (fun As w Q h => h.2 l D E B A hB) (fun As w Q h => by obtain ⟨n0, tl, fs, e1, e2, e3⟩ := h.1; exact ⟨n0, tl, fs, e1, by omega, e3⟩) rfl rfl (wy_in mEl_firstNotBelow) rfl rfl rfl (List.mem_cons_of_mem _ mnEl_firstNotBelow) (List.mem_cons_of_mem _ lkEl_33) (List.mem_cons_of_mem _ miEl_firstNotBelow.1) (List.mem_cons_of_mem _ miEl_firstNotBelow.2) (by decide +kernel) (by decide) rfl
theorem hEl_include (l : Launch) (D : va_G) (E : sx_E) (B : Nat) (A : Nat → Prop) (hB : 29 ≤ B) : ∀ (pc : Nat) (i : Instr × Nat × Nat), sx_tab lEl_include pc = some i → sx_isC i.1 = true → sx_Cal l yEl_include.cls (wy yEl_include prog_5_method_4_code 4 (some .boolean)) wn ({ frames := 1, cells := 0, slots := 0, locals := 23 }) D kinds A E B 4 prog_5_method_4_code i.1 (csAll i.2.1) := by
  intro pc i hF hi
  have h2 : (pc, i) ∈ lEl_include.filter (fun q => sx_isC q.2.1) := List.mem_filter.mpr ⟨sx_tab_mem hF, hi⟩
  have h3 : lEl_include.filter (fun q => sx_isC q.2.1) = [(2, .invokevirtual 33, 96, 0)] := rfl
  rw [h3] at h2
  simp only [List.mem_cons, List.not_mem_nil, or_false, Prod.mk.injEq] at h2
  rcases h2 with ⟨rfl, rfl⟩
  · exact sx_CalV (n := 1) (ci := 1) (fun As w Q h => h.2 l D E B A hB) (fun As w Q h => by obtain ⟨n0, tl, fs, e1, e2, e3⟩ := h.1; exact ⟨n0, tl, fs, e1, by omega, e3⟩) rfl rfl (wy_in mEl_firstNotBelow) rfl rfl rfl (List.mem_cons_of_mem _ mnEl_firstNotBelow) (List.mem_cons_of_mem _ lkEl_33) (List.mem_cons_of_mem _ miEl_firstNotBelow.1) (List.mem_cons_of_mem _ miEl_firstNotBelow.2) (by decide +kernel) (by decide) rfl
theorem hRe_choose (l : Launch) (D : va_G) (E : sx_E) (B : Nat) (A : Nat → Prop) (hB : 29 ≤ B) : ∀ (pc : Nat) (i : Instr × Nat × Nat), sx_tab lRe_choose pc = some i → sx_isC i.1 = true → sx_Cal l yRe_choose.cls (wy yRe_choose prog_6_method_2_code 5 none) wn ({ frames := 2, cells := 0, slots := 0, locals := 45 }) D kinds A E B 5 prog_6_method_2_code i.1 (csAll i.2.1) := by
  intro pc i hF hi
  have h2 : (pc, i) ∈ lRe_choose.filter (fun q => sx_isC q.2.1) := List.mem_filter.mpr ⟨sx_tab_mem hF, hi⟩
  have h3 : lRe_choose.filter (fun q => sx_isC q.2.1) = [(32, .invokestatic 16, 98, 0), (50, .invokestatic 20, 118, 0), (79, .invokevirtual 26, 99, 0)] := rfl
  rw [h3] at h2
  simp only [List.mem_cons, List.not_mem_nil, or_false, Prod.mk.injEq] at h2
  rcases h2 with ⟨rfl, rfl⟩ | ⟨rfl, rfl⟩ | ⟨rfl, rfl⟩
  · exact sx_CalS (n := 1) (fun As w Q h => h l D E B A hB) (wy_in mRe_isPrime) rfl rfl rfl (List.mem_cons_of_mem _ mnRe_isPrime) (List.mem_cons_of_mem _ lkRe_16) (List.mem_cons_of_mem _ msRe_isPrime) (by decide +kernel) (by decide) rfl
  · exact sx_CalS (n := 2) (fun As w Q h => h l D E B A hB) (wy_in mMa_max) rfl rfl rfl (List.mem_cons_of_mem _ mnMa_max) (List.mem_cons_of_mem _ lkRe_20) (List.mem_cons_of_mem _ msMa_max) (by decide +kernel) (by decide) rfl
  · exact sx_CalV (n := 1) (ci := 3) (fun As w Q h => h.2 l D E B A hB) (fun As w Q h => by obtain ⟨n0, tl, fs, e1, e2, e3⟩ := h.1; exact ⟨n0, tl, fs, e1, by omega, e3⟩) rfl rfl (wy_in mRe_orderOf) rfl rfl rfl (List.mem_cons_of_mem _ mnRe_orderOf) (List.mem_cons_of_mem _ lkRe_26) (List.mem_cons_of_mem _ miRe_orderOf.1) (List.mem_cons_of_mem _ miRe_orderOf.2) (by decide +kernel) (by decide) rfl
theorem hRe_orderOf (l : Launch) (D : va_G) (E : sx_E) (B : Nat) (A : Nat → Prop) (hB : 29 ≤ B) : ∀ (pc : Nat) (i : Instr × Nat × Nat), sx_tab lRe_orderOf pc = some i → sx_isC i.1 = true → sx_Cal l yRe_orderOf.cls (wy yRe_orderOf prog_6_method_4_code 4 (some .int)) wn ({ frames := 1, cells := 0, slots := 0, locals := 22 }) D kinds A E B 4 prog_6_method_4_code i.1 (csAll i.2.1) := by
  intro pc i hF hi
  have h2 : (pc, i) ∈ lRe_orderOf.filter (fun q => sx_isC q.2.1) := List.mem_filter.mpr ⟨sx_tab_mem hF, hi⟩
  have h3 : lRe_orderOf.filter (fun q => sx_isC q.2.1) = [(20, .invokevirtual 30, 101, 0)] := rfl
  rw [h3] at h2
  simp only [List.mem_cons, List.not_mem_nil, or_false, Prod.mk.injEq] at h2
  rcases h2 with ⟨rfl, rfl⟩
  · exact sx_CalV (n := 2) (ci := 3) (fun As w Q h => h.2 l D E B A hB) (fun As w Q h => by obtain ⟨n0, tl, fs, e1, e2, e3⟩ := h.1; exact ⟨n0, tl, fs, e1, by omega, e3⟩) rfl rfl (wy_in mRe_times) rfl rfl rfl (List.mem_cons_of_mem _ mnRe_times) (List.mem_cons_of_mem _ lkRe_30) (List.mem_cons_of_mem _ miRe_times.1) (List.mem_cons_of_mem _ miRe_times.2) (by decide +kernel) (by decide) rfl
theorem hRe_reduce (l : Launch) (D : va_G) (E : sx_E) (B : Nat) (A : Nat → Prop) (hB : 29 ≤ B) : ∀ (pc : Nat) (i : Instr × Nat × Nat), sx_tab lRe_reduce pc = some i → sx_isC i.1 = true → sx_Cal l yRe_reduce.cls (wy yRe_reduce prog_6_method_5_code 2 (some .int)) wn ({ frames := 1, cells := 0, slots := 0, locals := 22 }) D kinds A E B 2 prog_6_method_5_code i.1 (csAll i.2.1) := by
  intro pc i hF hi
  have h2 : (pc, i) ∈ lRe_reduce.filter (fun q => sx_isC q.2.1) := List.mem_filter.mpr ⟨sx_tab_mem hF, hi⟩
  have h3 : lRe_reduce.filter (fun q => sx_isC q.2.1) = [(5, .invokestatic 33, 117, 0)] := rfl
  rw [h3] at h2
  simp only [List.mem_cons, List.not_mem_nil, or_false, Prod.mk.injEq] at h2
  rcases h2 with ⟨rfl, rfl⟩
  · exact sx_CalS (n := 2) (fun As w Q h => h l D E B A hB) (wy_in mMa_floorMod) rfl rfl rfl (List.mem_cons_of_mem _ mnMa_floorMod) (List.mem_cons_of_mem _ lkRe_33) (List.mem_cons_of_mem _ msMa_floorMod) (by decide +kernel) (by decide) rfl
theorem hRe_over (l : Launch) (D : va_G) (E : sx_E) (B : Nat) (A : Nat → Prop) (hB : 29 ≤ B) : ∀ (pc : Nat) (i : Instr × Nat × Nat), sx_tab lRe_over pc = some i → sx_isC i.1 = true → sx_Cal l yRe_over.cls (wy yRe_over prog_6_method_9_code 3 (some .int)) wn ({ frames := 1, cells := 0, slots := 0, locals := 29 }) D kinds A E B 3 prog_6_method_9_code i.1 (csAll i.2.1) := by
  intro pc i hF hi
  have h2 : (pc, i) ∈ lRe_over.filter (fun q => sx_isC q.2.1) := List.mem_filter.mpr ⟨sx_tab_mem hF, hi⟩
  have h3 : lRe_over.filter (fun q => sx_isC q.2.1) = [(4, .invokevirtual 36, 105, 0), (7, .invokevirtual 30, 101, 0)] := rfl
  rw [h3] at h2
  simp only [List.mem_cons, List.not_mem_nil, or_false, Prod.mk.injEq] at h2
  rcases h2 with ⟨rfl, rfl⟩ | ⟨rfl, rfl⟩
  · exact sx_CalV (n := 1) (ci := 3) (fun As w Q h => h.2 l D E B A hB) (fun As w Q h => by obtain ⟨n0, tl, fs, e1, e2, e3⟩ := h.1; exact ⟨n0, tl, fs, e1, by omega, e3⟩) rfl rfl (wy_in mRe_reciprocal) rfl rfl rfl (List.mem_cons_of_mem _ mnRe_reciprocal) (List.mem_cons_of_mem _ lkRe_36) (List.mem_cons_of_mem _ miRe_reciprocal.1) (List.mem_cons_of_mem _ miRe_reciprocal.2) (by decide +kernel) (by decide) rfl
  · exact sx_CalV (n := 2) (ci := 3) (fun As w Q h => h.2 l D E B A hB) (fun As w Q h => by obtain ⟨n0, tl, fs, e1, e2, e3⟩ := h.1; exact ⟨n0, tl, fs, e1, by omega, e3⟩) rfl rfl (wy_in mRe_times) rfl rfl rfl (List.mem_cons_of_mem _ mnRe_times) (List.mem_cons_of_mem _ lkRe_30) (List.mem_cons_of_mem _ miRe_times.1) (List.mem_cons_of_mem _ miRe_times.2) (by decide +kernel) (by decide) rfl
theorem hRe_raised (l : Launch) (D : va_G) (E : sx_E) (B : Nat) (A : Nat → Prop) (hB : 29 ≤ B) : ∀ (pc : Nat) (i : Instr × Nat × Nat), sx_tab lRe_raised pc = some i → sx_isC i.1 = true → sx_Cal l yRe_raised.cls (wy yRe_raised prog_6_method_11_code 5 (some .int)) wn ({ frames := 1, cells := 0, slots := 0, locals := 22 }) D kinds A E B 5 prog_6_method_11_code i.1 (csAll i.2.1) := by
  intro pc i hF hi
  have h2 : (pc, i) ∈ lRe_raised.filter (fun q => sx_isC q.2.1) := List.mem_filter.mpr ⟨sx_tab_mem hF, hi⟩
  have h3 : lRe_raised.filter (fun q => sx_isC q.2.1) = [(14, .invokevirtual 30, 101, 0)] := rfl
  rw [h3] at h2
  simp only [List.mem_cons, List.not_mem_nil, or_false, Prod.mk.injEq] at h2
  rcases h2 with ⟨rfl, rfl⟩
  · exact sx_CalV (n := 2) (ci := 3) (fun As w Q h => h.2 l D E B A hB) (fun As w Q h => by obtain ⟨n0, tl, fs, e1, e2, e3⟩ := h.1; exact ⟨n0, tl, fs, e1, by omega, e3⟩) rfl rfl (wy_in mRe_times) rfl rfl rfl (List.mem_cons_of_mem _ mnRe_times) (List.mem_cons_of_mem _ lkRe_30) (List.mem_cons_of_mem _ miRe_times.1) (List.mem_cons_of_mem _ miRe_times.2) (by decide +kernel) (by decide) rfl
theorem hRo_make (l : Launch) (D : va_G) (E : sx_E) (B : Nat) (A : Nat → Prop) (hB : 29 ≤ B) : ∀ (pc : Nat) (i : Instr × Nat × Nat), sx_tab lRo_make pc = some i → sx_isC i.1 = true → sx_Cal l yRo_make.cls (wy yRo_make prog_7_method_2_code 6 none) wn ({ frames := 4, cells := 0, slots := 0, locals := 96 }) D kinds A E B 6 prog_7_method_2_code i.1 (csAll i.2.1) := by
  intro pc i hF hi
  have h2 : (pc, i) ∈ lRo_make.filter (fun q => sx_isC q.2.1) := List.mem_filter.mpr ⟨sx_tab_mem hF, hi⟩
  have h3 : lRo_make.filter (fun q => sx_isC q.2.1) = [(34, .invokevirtual 47, 108, 0), (44, .invokevirtual 51, 110, 0), (50, .invokevirtual 55, 111, 0), (56, .invokevirtual 59, 112, 0), (66, .invokevirtual 62, 114, 0)] := rfl
  rw [h3] at h2
  simp only [List.mem_cons, List.not_mem_nil, or_false, Prod.mk.injEq] at h2
  rcases h2 with ⟨rfl, rfl⟩ | ⟨rfl, rfl⟩ | ⟨rfl, rfl⟩ | ⟨rfl, rfl⟩ | ⟨rfl, rfl⟩
  · exact sx_CalV (n := 5) (ci := 5) (fun As w Q h => h.2 l D E B A hB) (fun As w Q h => by obtain ⟨n0, tl, fs, e1, e2, e3⟩ := h.1; exact ⟨n0, tl, fs, e1, by omega, e3⟩) rfl rfl (wy_in mRo_setValues) rfl rfl rfl (List.mem_cons_of_mem _ mnRo_setValues) (List.mem_cons_of_mem _ lkRo_47) (List.mem_cons_of_mem _ miRo_setValues.1) (List.mem_cons_of_mem _ miRo_setValues.2) (by decide +kernel) (by decide) rfl
  · exact sx_CalV (n := 4) (ci := 5) (fun As w Q h => h.2 l D E B A hB) (fun As w Q h => by obtain ⟨n0, tl, fs, e1, e2, e3⟩ := h.1; exact ⟨n0, tl, fs, e1, by omega, e3⟩) rfl rfl (wy_in mRo_setIndicator) rfl rfl rfl (List.mem_cons_of_mem _ mnRo_setIndicator) (List.mem_cons_of_mem _ lkRo_51) (List.mem_cons_of_mem _ miRo_setIndicator.1) (List.mem_cons_of_mem _ miRo_setIndicator.2) (by decide +kernel) (by decide) rfl
  · exact sx_CalV (n := 1) (ci := 5) (fun As w Q h => h.2 l D E B A hB) (fun As w Q h => by obtain ⟨n0, tl, fs, e1, e2, e3⟩ := h.1; exact ⟨n0, tl, fs, e1, by omega, e3⟩) rfl rfl (wy_in mRo_setKernel) rfl rfl rfl (List.mem_cons_of_mem _ mnRo_setKernel) (List.mem_cons_of_mem _ lkRo_55) (List.mem_cons_of_mem _ miRo_setKernel.1) (List.mem_cons_of_mem _ miRo_setKernel.2) (by decide +kernel) (by decide) rfl
  · exact sx_CalV (n := 1) (ci := 5) (fun As w Q h => h.2 l D E B A hB) (fun As w Q h => by obtain ⟨n0, tl, fs, e1, e2, e3⟩ := h.1; exact ⟨n0, tl, fs, e1, by omega, e3⟩) rfl rfl (wy_in mRo_insertPlace) rfl rfl rfl (List.mem_cons_of_mem _ mnRo_insertPlace) (List.mem_cons_of_mem _ lkRo_59) (List.mem_cons_of_mem _ miRo_insertPlace.1) (List.mem_cons_of_mem _ miRo_insertPlace.2) (by decide +kernel) (by decide) rfl
  · exact sx_CalV (n := 0) (ci := 5) (fun As w Q h => h.2 l D E B A hB) (fun As w Q h => by obtain ⟨n0, tl, fs, e1, e2, e3⟩ := h.1; exact ⟨n0, tl, fs, e1, by omega, e3⟩) rfl rfl (wy_in mRo_listNormals) rfl rfl rfl (List.mem_cons_of_mem _ mnRo_listNormals) (List.mem_cons_of_mem _ lkRo_62) (List.mem_cons_of_mem _ miRo_listNormals.1) (List.mem_cons_of_mem _ miRo_listNormals.2) (by decide +kernel) (by decide) rfl
theorem hRo_setValues (l : Launch) (D : va_G) (E : sx_E) (B : Nat) (A : Nat → Prop) (hB : 29 ≤ B) : ∀ (pc : Nat) (i : Instr × Nat × Nat), sx_tab lRo_setValues pc = some i → sx_isC i.1 = true → sx_Cal l yRo_setValues.cls (wy yRo_setValues prog_7_method_3_code 9 none) wn ({ frames := 3, cells := 0, slots := 0, locals := 68 }) D kinds A E B 9 prog_7_method_3_code i.1 (csAll i.2.1) := by
  intro pc i hF hi
  have h2 : (pc, i) ∈ lRo_setValues.filter (fun q => sx_isC q.2.1) := List.mem_filter.mpr ⟨sx_tab_mem hF, hi⟩
  have h3 : lRo_setValues.filter (fun q => sx_isC q.2.1) = [(29, .invokevirtual 68, 104, 0), (56, .invokevirtual 74, 89, 0), (60, .invokevirtual 78, 102, 0), (81, .invokestatic 82, 109, 0), (122, .invokevirtual 86, 101, 0)] := rfl
  rw [h3] at h2
  simp only [List.mem_cons, List.not_mem_nil, or_false, Prod.mk.injEq] at h2
  rcases h2 with ⟨rfl, rfl⟩ | ⟨rfl, rfl⟩ | ⟨rfl, rfl⟩ | ⟨rfl, rfl⟩ | ⟨rfl, rfl⟩
  · exact sx_CalV (n := 2) (ci := 3) (fun As w Q h => h.2 l D E B A hB) (fun As w Q h => by obtain ⟨n0, tl, fs, e1, e2, e3⟩ := h.1; exact ⟨n0, tl, fs, e1, by omega, e3⟩) rfl rfl (wy_in mRe_over) rfl rfl rfl (List.mem_cons_of_mem _ mnRe_over) (List.mem_cons_of_mem _ lkRo_68) (List.mem_cons_of_mem _ miRe_over.1) (List.mem_cons_of_mem _ miRe_over.2) (by decide +kernel) (by decide) rfl
  · exact sx_CalV (n := 1) (ci := 2) (fun As w Q h => h.2 l D E B A hB) (fun As w Q h => by obtain ⟨n0, tl, fs, e1, e2, e3⟩ := h.1; exact ⟨n0, tl, fs, e1, by omega, e3⟩) rfl rfl (wy_in mCo_inverseOf) rfl rfl rfl (List.mem_cons_of_mem _ mnCo_inverseOf) (List.mem_cons_of_mem _ lkRo_74) (List.mem_cons_of_mem _ miCo_inverseOf.1) (List.mem_cons_of_mem _ miCo_inverseOf.2) (by decide +kernel) (by decide) rfl
  · exact sx_CalV (n := 3) (ci := 3) (fun As w Q h => h.2 l D E B A hB) (fun As w Q h => by obtain ⟨n0, tl, fs, e1, e2, e3⟩ := h.1; exact ⟨n0, tl, fs, e1, by omega, e3⟩) rfl rfl (wy_in mRe_plusTimes) rfl rfl rfl (List.mem_cons_of_mem _ mnRe_plusTimes) (List.mem_cons_of_mem _ lkRo_78) (List.mem_cons_of_mem _ miRe_plusTimes.1) (List.mem_cons_of_mem _ miRe_plusTimes.2) (by decide +kernel) (by decide) rfl
  · exact sx_CalS (n := 3) (fun As w Q h => h l D E B A hB) (wy_in mRo_degreeFor) rfl rfl rfl (List.mem_cons_of_mem _ mnRo_degreeFor) (List.mem_cons_of_mem _ lkRo_82) (List.mem_cons_of_mem _ msRo_degreeFor) (by decide +kernel) (by decide) rfl
  · exact sx_CalV (n := 2) (ci := 3) (fun As w Q h => h.2 l D E B A hB) (fun As w Q h => by obtain ⟨n0, tl, fs, e1, e2, e3⟩ := h.1; exact ⟨n0, tl, fs, e1, by omega, e3⟩) rfl rfl (wy_in mRe_times) rfl rfl rfl (List.mem_cons_of_mem _ mnRe_times) (List.mem_cons_of_mem _ lkRo_86) (List.mem_cons_of_mem _ miRe_times.1) (List.mem_cons_of_mem _ miRe_times.2) (by decide +kernel) (by decide) rfl
theorem hRo_degreeFor (l : Launch) (D : va_G) (E : sx_E) (B : Nat) (A : Nat → Prop) (hB : 29 ≤ B) : ∀ (pc : Nat) (i : Instr × Nat × Nat), sx_tab lRo_degreeFor pc = some i → sx_isC i.1 = true → sx_Cal l yRo_degreeFor.cls (wy yRo_degreeFor prog_7_method_4_code 6 (some .int)) wn ({ frames := 2, cells := 0, slots := 0, locals := 43 }) D kinds A E B 6 prog_7_method_4_code i.1 (csAll i.2.1) := by
  intro pc i hF hi
  have h2 : (pc, i) ∈ lRo_degreeFor.filter (fun q => sx_isC q.2.1) := List.mem_filter.mpr ⟨sx_tab_mem hF, hi⟩
  have h3 : lRo_degreeFor.filter (fun q => sx_isC q.2.1) = [(2, .invokevirtual 89, 100, 0), (32, .invokevirtual 86, 101, 0), (36, .invokevirtual 86, 101, 0)] := rfl
  rw [h3] at h2
  simp only [List.mem_cons, List.not_mem_nil, or_false, Prod.mk.injEq] at h2
  rcases h2 with ⟨rfl, rfl⟩ | ⟨rfl, rfl⟩ | ⟨rfl, rfl⟩
  · exact sx_CalV (n := 1) (ci := 3) (fun As w Q h => h.2 l D E B A hB) (fun As w Q h => by obtain ⟨n0, tl, fs, e1, e2, e3⟩ := h.1; exact ⟨n0, tl, fs, e1, by omega, e3⟩) rfl rfl (wy_in mRe_reduce) rfl rfl rfl (List.mem_cons_of_mem _ mnRe_reduce) (List.mem_cons_of_mem _ lkRo_89) (List.mem_cons_of_mem _ miRe_reduce.1) (List.mem_cons_of_mem _ miRe_reduce.2) (by decide +kernel) (by decide) rfl
  · exact sx_CalV (n := 2) (ci := 3) (fun As w Q h => h.2 l D E B A hB) (fun As w Q h => by obtain ⟨n0, tl, fs, e1, e2, e3⟩ := h.1; exact ⟨n0, tl, fs, e1, by omega, e3⟩) rfl rfl (wy_in mRe_times) rfl rfl rfl (List.mem_cons_of_mem _ mnRe_times) (List.mem_cons_of_mem _ lkRo_86) (List.mem_cons_of_mem _ miRe_times.1) (List.mem_cons_of_mem _ miRe_times.2) (by decide +kernel) (by decide) rfl
  · exact sx_CalV (n := 2) (ci := 3) (fun As w Q h => h.2 l D E B A hB) (fun As w Q h => by obtain ⟨n0, tl, fs, e1, e2, e3⟩ := h.1; exact ⟨n0, tl, fs, e1, by omega, e3⟩) rfl rfl (wy_in mRe_times) rfl rfl rfl (List.mem_cons_of_mem _ mnRe_times) (List.mem_cons_of_mem _ lkRo_86) (List.mem_cons_of_mem _ miRe_times.1) (List.mem_cons_of_mem _ miRe_times.2) (by decide +kernel) (by decide) rfl
theorem hRo_setIndicator (l : Launch) (D : va_G) (E : sx_E) (B : Nat) (A : Nat → Prop) (hB : 29 ≤ B) : ∀ (pc : Nat) (i : Instr × Nat × Nat), sx_tab lRo_setIndicator pc = some i → sx_isC i.1 = true → sx_Cal l yRo_setIndicator.cls (wy yRo_setIndicator prog_7_method_5_code 8 none) wn ({ frames := 2, cells := 0, slots := 0, locals := 51 }) D kinds A E B 8 prog_7_method_5_code i.1 (csAll i.2.1) := by
  intro pc i hF hi
  have h2 : (pc, i) ∈ lRo_setIndicator.filter (fun q => sx_isC q.2.1) := List.mem_filter.mpr ⟨sx_tab_mem hF, hi⟩
  have h3 : lRo_setIndicator.filter (fun q => sx_isC q.2.1) = [(19, .invokevirtual 95, 88, 0), (44, .invokevirtual 78, 102, 0), (60, .invokevirtual 68, 104, 0)] := rfl
  rw [h3] at h2
  simp only [List.mem_cons, List.not_mem_nil, or_false, Prod.mk.injEq] at h2
  rcases h2 with ⟨rfl, rfl⟩ | ⟨rfl, rfl⟩ | ⟨rfl, rfl⟩
  · exact sx_CalV (n := 2) (ci := 2) (fun As w Q h => h.2 l D E B A hB) (fun As w Q h => by obtain ⟨n0, tl, fs, e1, e2, e3⟩ := h.1; exact ⟨n0, tl, fs, e1, by omega, e3⟩) rfl rfl (wy_in mCo_classRaised) rfl rfl rfl (List.mem_cons_of_mem _ mnCo_classRaised) (List.mem_cons_of_mem _ lkRo_95) (List.mem_cons_of_mem _ miCo_classRaised.1) (List.mem_cons_of_mem _ miCo_classRaised.2) (by decide +kernel) (by decide) rfl
  · exact sx_CalV (n := 3) (ci := 3) (fun As w Q h => h.2 l D E B A hB) (fun As w Q h => by obtain ⟨n0, tl, fs, e1, e2, e3⟩ := h.1; exact ⟨n0, tl, fs, e1, by omega, e3⟩) rfl rfl (wy_in mRe_plusTimes) rfl rfl rfl (List.mem_cons_of_mem _ mnRe_plusTimes) (List.mem_cons_of_mem _ lkRo_78) (List.mem_cons_of_mem _ miRe_plusTimes.1) (List.mem_cons_of_mem _ miRe_plusTimes.2) (by decide +kernel) (by decide) rfl
  · exact sx_CalV (n := 2) (ci := 3) (fun As w Q h => h.2 l D E B A hB) (fun As w Q h => by obtain ⟨n0, tl, fs, e1, e2, e3⟩ := h.1; exact ⟨n0, tl, fs, e1, by omega, e3⟩) rfl rfl (wy_in mRe_over) rfl rfl rfl (List.mem_cons_of_mem _ mnRe_over) (List.mem_cons_of_mem _ lkRo_68) (List.mem_cons_of_mem _ miRe_over.1) (List.mem_cons_of_mem _ miRe_over.2) (by decide +kernel) (by decide) rfl
theorem hRo_insertPlace (l : Launch) (D : va_G) (E : sx_E) (B : Nat) (A : Nat → Prop) (hB : 29 ≤ B) : ∀ (pc : Nat) (i : Instr × Nat × Nat), sx_tab lRo_insertPlace pc = some i → sx_isC i.1 = true → sx_Cal l yRo_insertPlace.cls (wy yRo_insertPlace prog_7_method_7_code 3 none) wn ({ frames := 1, cells := 0, slots := 0, locals := 23 }) D kinds A E B 3 prog_7_method_7_code i.1 (csAll i.2.1) := by
  intro pc i hF hi
  have h2 : (pc, i) ∈ lRo_insertPlace.filter (fun q => sx_isC q.2.1) := List.mem_filter.mpr ⟨sx_tab_mem hF, hi⟩
  have h3 : lRo_insertPlace.filter (fun q => sx_isC q.2.1) = [(16, .invokevirtual 98, 113, 0)] := rfl
  rw [h3] at h2
  simp only [List.mem_cons, List.not_mem_nil, or_false, Prod.mk.injEq] at h2
  rcases h2 with ⟨rfl, rfl⟩
  · exact sx_CalV (n := 2) (ci := 5) (fun As w Q h => h.2 l D E B A hB) (fun As w Q h => by obtain ⟨n0, tl, fs, e1, e2, e3⟩ := h.1; exact ⟨n0, tl, fs, e1, by omega, e3⟩) rfl rfl (wy_in mRo_comesBefore) rfl rfl rfl (List.mem_cons_of_mem _ mnRo_comesBefore) (List.mem_cons_of_mem _ lkRo_98) (List.mem_cons_of_mem _ miRo_comesBefore.1) (List.mem_cons_of_mem _ miRo_comesBefore.2) (by decide +kernel) (by decide) rfl
theorem hRo_listNormals (l : Launch) (D : va_G) (E : sx_E) (B : Nat) (A : Nat → Prop) (hB : 29 ≤ B) : ∀ (pc : Nat) (i : Instr × Nat × Nat), sx_tab lRo_listNormals pc = some i → sx_isC i.1 = true → sx_Cal l yRo_listNormals.cls (wy yRo_listNormals prog_7_method_9_code 4 none) wn ({ frames := 1, cells := 0, slots := 0, locals := 22 }) D kinds A E B 4 prog_7_method_9_code i.1 (csAll i.2.1) := by
  intro pc i hF hi
  have h2 : (pc, i) ∈ lRo_listNormals.filter (fun q => sx_isC q.2.1) := List.mem_filter.mpr ⟨sx_tab_mem hF, hi⟩
  have h3 : lRo_listNormals.filter (fun q => sx_isC q.2.1) = [(27, .invokevirtual 102, 115, 0), (51, .invokevirtual 102, 115, 0)] := rfl
  rw [h3] at h2
  simp only [List.mem_cons, List.not_mem_nil, or_false, Prod.mk.injEq] at h2
  rcases h2 with ⟨rfl, rfl⟩ | ⟨rfl, rfl⟩
  · exact sx_CalV (n := 1) (ci := 5) (fun As w Q h => h.2 l D E B A hB) (fun As w Q h => by obtain ⟨n0, tl, fs, e1, e2, e3⟩ := h.1; exact ⟨n0, tl, fs, e1, by omega, e3⟩) rfl rfl (wy_in mRo_includeNormal) rfl rfl rfl (List.mem_cons_of_mem _ mnRo_includeNormal) (List.mem_cons_of_mem _ lkRo_102) (List.mem_cons_of_mem _ miRo_includeNormal.1) (List.mem_cons_of_mem _ miRo_includeNormal.2) (by decide +kernel) (by decide) rfl
  · exact sx_CalV (n := 1) (ci := 5) (fun As w Q h => h.2 l D E B A hB) (fun As w Q h => by obtain ⟨n0, tl, fs, e1, e2, e3⟩ := h.1; exact ⟨n0, tl, fs, e1, by omega, e3⟩) rfl rfl (wy_in mRo_includeNormal) rfl rfl rfl (List.mem_cons_of_mem _ mnRo_includeNormal) (List.mem_cons_of_mem _ lkRo_102) (List.mem_cons_of_mem _ miRo_includeNormal.1) (List.mem_cons_of_mem _ miRo_includeNormal.2) (by decide +kernel) (by decide) rfl
theorem hRo_timesOfRoot (l : Launch) (D : va_G) (E : sx_E) (B : Nat) (A : Nat → Prop) (hB : 29 ≤ B) : ∀ (pc : Nat) (i : Instr × Nat × Nat), sx_tab lRo_timesOfRoot pc = some i → sx_isC i.1 = true → sx_Cal l yRo_timesOfRoot.cls (wy yRo_timesOfRoot prog_7_method_11_code 11 (some .int)) wn ({ frames := 2, cells := 0, slots := 0, locals := 51 }) D kinds A E B 11 prog_7_method_11_code i.1 (csAll i.2.1) := by
  intro pc i hF hi
  have h2 : (pc, i) ∈ lRo_timesOfRoot.filter (fun q => sx_isC q.2.1) := List.mem_filter.mpr ⟨sx_tab_mem hF, hi⟩
  have h3 : lRo_timesOfRoot.filter (fun q => sx_isC q.2.1) = [(18, .invokevirtual 111, 106, 0), (54, .invokevirtual 95, 88, 0), (60, .invokevirtual 78, 102, 0), (71, .invokevirtual 86, 101, 0), (88, .invokevirtual 68, 104, 0)] := rfl
  rw [h3] at h2
  simp only [List.mem_cons, List.not_mem_nil, or_false, Prod.mk.injEq] at h2
  rcases h2 with ⟨rfl, rfl⟩ | ⟨rfl, rfl⟩ | ⟨rfl, rfl⟩ | ⟨rfl, rfl⟩ | ⟨rfl, rfl⟩
  · exact sx_CalV (n := 2) (ci := 3) (fun As w Q h => h.2 l D E B A hB) (fun As w Q h => by obtain ⟨n0, tl, fs, e1, e2, e3⟩ := h.1; exact ⟨n0, tl, fs, e1, by omega, e3⟩) rfl rfl (wy_in mRe_raised) rfl rfl rfl (List.mem_cons_of_mem _ mnRe_raised) (List.mem_cons_of_mem _ lkRo_111) (List.mem_cons_of_mem _ miRe_raised.1) (List.mem_cons_of_mem _ miRe_raised.2) (by decide +kernel) (by decide) rfl
  · exact sx_CalV (n := 2) (ci := 2) (fun As w Q h => h.2 l D E B A hB) (fun As w Q h => by obtain ⟨n0, tl, fs, e1, e2, e3⟩ := h.1; exact ⟨n0, tl, fs, e1, by omega, e3⟩) rfl rfl (wy_in mCo_classRaised) rfl rfl rfl (List.mem_cons_of_mem _ mnCo_classRaised) (List.mem_cons_of_mem _ lkRo_95) (List.mem_cons_of_mem _ miCo_classRaised.1) (List.mem_cons_of_mem _ miCo_classRaised.2) (by decide +kernel) (by decide) rfl
  · exact sx_CalV (n := 3) (ci := 3) (fun As w Q h => h.2 l D E B A hB) (fun As w Q h => by obtain ⟨n0, tl, fs, e1, e2, e3⟩ := h.1; exact ⟨n0, tl, fs, e1, by omega, e3⟩) rfl rfl (wy_in mRe_plusTimes) rfl rfl rfl (List.mem_cons_of_mem _ mnRe_plusTimes) (List.mem_cons_of_mem _ lkRo_78) (List.mem_cons_of_mem _ miRe_plusTimes.1) (List.mem_cons_of_mem _ miRe_plusTimes.2) (by decide +kernel) (by decide) rfl
  · exact sx_CalV (n := 2) (ci := 3) (fun As w Q h => h.2 l D E B A hB) (fun As w Q h => by obtain ⟨n0, tl, fs, e1, e2, e3⟩ := h.1; exact ⟨n0, tl, fs, e1, by omega, e3⟩) rfl rfl (wy_in mRe_times) rfl rfl rfl (List.mem_cons_of_mem _ mnRe_times) (List.mem_cons_of_mem _ lkRo_86) (List.mem_cons_of_mem _ miRe_times.1) (List.mem_cons_of_mem _ miRe_times.2) (by decide +kernel) (by decide) rfl
  · exact sx_CalV (n := 2) (ci := 3) (fun As w Q h => h.2 l D E B A hB) (fun As w Q h => by obtain ⟨n0, tl, fs, e1, e2, e3⟩ := h.1; exact ⟨n0, tl, fs, e1, by omega, e3⟩) rfl rfl (wy_in mRe_over) rfl rfl rfl (List.mem_cons_of_mem _ mnRe_over) (List.mem_cons_of_mem _ lkRo_68) (List.mem_cons_of_mem _ miRe_over.1) (List.mem_cons_of_mem _ miRe_over.2) (by decide +kernel) (by decide) rfl
