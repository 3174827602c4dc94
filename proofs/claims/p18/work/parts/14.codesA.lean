abbrev lCd_isPermutation : List (Nat × Instr × Nat × Nat) := [(0, .iload_n 0, 0, 0), (1, .ifCond .lt (9), 10, 0), (4, .iload_n 0, 0, 0), (5, .ldc 9, 16777216, 0), (7, .if_icmp .lt (5), 12, 0), (10, .iconst 0, 0, 0), (11, .ireturn, 0, 0), (12, .iconst 0, 0, 0), (13, .istore_n 1, 0, 0), (14, .bipush (21), 0, 0), (16, .istore_n 2, 0, 0), (17, .iload_n 2, 0, 0), (18, .ifCond .lt (20), 38, 0), (21, .iload_n 1, 0, 0), (22, .iconst 1, 0, 0), (23, .iload_n 0, 0, 0), (24, .iload_n 2, 0, 0), (25, .ishr, 0, 0), (26, .bipush (7), 0, 0), (28, .iand, 0, 0), (29, .ishl, 0, 0), (30, .ior, 0, 0), (31, .istore_n 1, 0, 0), (32, .iinc 2 (-3), 0, 0), (35, .goto (-18), 17, 0), (38, .iload_n 1, 0, 0), (39, .sipush (255), 0, 0), (42, .if_icmp .ne (7), 49, 0), (45, .iconst 1, 0, 0), (46, .goto (4), 50, 0), (49, .iconst 0, 0, 0), (50, .ireturn, 0, 0)]
def fCd_isPermutation : sx_F := sx_tab lCd_isPermutation
theorem kCd_isPermutation : sx_chk "ClassCharacters$Codes" (wy yCd_isPermutation prog_3_method_2_code 3 (some .boolean)) 3 prog_3_method_2_code lCd_isPermutation = true := by decide +kernel
theorem gCd_isPermutation_0 : fCd_isPermutation 0 = some (.iload_n 0, 0, 0) := rfl
theorem gCd_isPermutation_1 : fCd_isPermutation 1 = some (.ifCond .lt (9), 10, 0) := rfl
theorem gCd_isPermutation_4 : fCd_isPermutation 4 = some (.iload_n 0, 0, 0) := rfl
theorem gCd_isPermutation_5 : fCd_isPermutation 5 = some (.ldc 9, 16777216, 0) := rfl
theorem gCd_isPermutation_7 : fCd_isPermutation 7 = some (.if_icmp .lt (5), 12, 0) := rfl
theorem gCd_isPermutation_10 : fCd_isPermutation 10 = some (.iconst 0, 0, 0) := rfl
theorem gCd_isPermutation_11 : fCd_isPermutation 11 = some (.ireturn, 0, 0) := rfl
theorem gCd_isPermutation_12 : fCd_isPermutation 12 = some (.iconst 0, 0, 0) := rfl
theorem gCd_isPermutation_13 : fCd_isPermutation 13 = some (.istore_n 1, 0, 0) := rfl
theorem gCd_isPermutation_14 : fCd_isPermutation 14 = some (.bipush (21), 0, 0) := rfl
theorem gCd_isPermutation_16 : fCd_isPermutation 16 = some (.istore_n 2, 0, 0) := rfl
theorem gCd_isPermutation_17 : fCd_isPermutation 17 = some (.iload_n 2, 0, 0) := rfl
theorem gCd_isPermutation_18 : fCd_isPermutation 18 = some (.ifCond .lt (20), 38, 0) := rfl
theorem gCd_isPermutation_21 : fCd_isPermutation 21 = some (.iload_n 1, 0, 0) := rfl
theorem gCd_isPermutation_22 : fCd_isPermutation 22 = some (.iconst 1, 0, 0) := rfl
theorem gCd_isPermutation_23 : fCd_isPermutation 23 = some (.iload_n 0, 0, 0) := rfl
theorem gCd_isPermutation_24 : fCd_isPermutation 24 = some (.iload_n 2, 0, 0) := rfl
theorem gCd_isPermutation_25 : fCd_isPermutation 25 = some (.ishr, 0, 0) := rfl
theorem gCd_isPermutation_26 : fCd_isPermutation 26 = some (.bipush (7), 0, 0) := rfl
theorem gCd_isPermutation_28 : fCd_isPermutation 28 = some (.iand, 0, 0) := rfl
theorem gCd_isPermutation_29 : fCd_isPermutation 29 = some (.ishl, 0, 0) := rfl
theorem gCd_isPermutation_30 : fCd_isPermutation 30 = some (.ior, 0, 0) := rfl
theorem gCd_isPermutation_31 : fCd_isPermutation 31 = some (.istore_n 1, 0, 0) := rfl
theorem gCd_isPermutation_32 : fCd_isPermutation 32 = some (.iinc 2 (-3), 0, 0) := rfl
theorem gCd_isPermutation_35 : fCd_isPermutation 35 = some (.goto (-18), 17, 0) := rfl
theorem gCd_isPermutation_38 : fCd_isPermutation 38 = some (.iload_n 1, 0, 0) := rfl
theorem gCd_isPermutation_39 : fCd_isPermutation 39 = some (.sipush (255), 0, 0) := rfl
theorem gCd_isPermutation_42 : fCd_isPermutation 42 = some (.if_icmp .ne (7), 49, 0) := rfl
theorem gCd_isPermutation_45 : fCd_isPermutation 45 = some (.iconst 1, 0, 0) := rfl
theorem gCd_isPermutation_46 : fCd_isPermutation 46 = some (.goto (4), 50, 0) := rfl
theorem gCd_isPermutation_49 : fCd_isPermutation 49 = some (.iconst 0, 0, 0) := rfl
theorem gCd_isPermutation_50 : fCd_isPermutation 50 = some (.ireturn, 0, 0) := rfl
abbrev lCd_product : List (Nat × Instr × Nat × Nat) := [(0, .iconst 0, 0, 0), (1, .istore_n 2, 0, 0), (2, .bipush (21), 0, 0), (4, .istore_n 3, 0, 0), (5, .iload_n 3, 0, 0), (6, .ifCond .lt (38), 44, 0), (9, .iload_n 0, 0, 0), (10, .iload_n 3, 0, 0), (11, .ishr, 0, 0), (12, .bipush (7), 0, 0), (14, .iand, 0, 0), (15, .istore 4, 0, 0), (17, .iload_n 1, 0, 0), (18, .bipush (21), 0, 0), (20, .iconst 3, 0, 0), (21, .iload 4, 0, 0), (23, .imul, 0, 0), (24, .isub, 0, 0), (25, .ishr, 0, 0), (26, .bipush (7), 0, 0), (28, .iand, 0, 0), (29, .istore 5, 0, 0), (31, .iload_n 2, 0, 0), (32, .iconst 3, 0, 0), (33, .ishl, 0, 0), (34, .iload 5, 0, 0), (36, .ior, 0, 0), (37, .istore_n 2, 0, 0), (38, .iinc 3 (-3), 0, 0), (41, .goto (-36), 5, 0), (44, .iload_n 2, 0, 0), (45, .ireturn, 0, 0)]
def fCd_product : sx_F := sx_tab lCd_product
theorem kCd_product : sx_chk "ClassCharacters$Codes" (wy yCd_product prog_3_method_3_code 6 (some .int)) 6 prog_3_method_3_code lCd_product = true := by decide +kernel
theorem gCd_product_0 : fCd_product 0 = some (.iconst 0, 0, 0) := rfl
theorem gCd_product_1 : fCd_product 1 = some (.istore_n 2, 0, 0) := rfl
theorem gCd_product_2 : fCd_product 2 = some (.bipush (21), 0, 0) := rfl
theorem gCd_product_4 : fCd_product 4 = some (.istore_n 3, 0, 0) := rfl
theorem gCd_product_5 : fCd_product 5 = some (.iload_n 3, 0, 0) := rfl
theorem gCd_product_6 : fCd_product 6 = some (.ifCond .lt (38), 44, 0) := rfl
theorem gCd_product_9 : fCd_product 9 = some (.iload_n 0, 0, 0) := rfl
theorem gCd_product_10 : fCd_product 10 = some (.iload_n 3, 0, 0) := rfl
theorem gCd_product_11 : fCd_product 11 = some (.ishr, 0, 0) := rfl
theorem gCd_product_12 : fCd_product 12 = some (.bipush (7), 0, 0) := rfl
theorem gCd_product_14 : fCd_product 14 = some (.iand, 0, 0) := rfl
theorem gCd_product_15 : fCd_product 15 = some (.istore 4, 0, 0) := rfl
theorem gCd_product_17 : fCd_product 17 = some (.iload_n 1, 0, 0) := rfl
theorem gCd_product_18 : fCd_product 18 = some (.bipush (21), 0, 0) := rfl
theorem gCd_product_20 : fCd_product 20 = some (.iconst 3, 0, 0) := rfl
theorem gCd_product_21 : fCd_product 21 = some (.iload 4, 0, 0) := rfl
theorem gCd_product_23 : fCd_product 23 = some (.imul, 0, 0) := rfl
theorem gCd_product_24 : fCd_product 24 = some (.isub, 0, 0) := rfl
theorem gCd_product_25 : fCd_product 25 = some (.ishr, 0, 0) := rfl
theorem gCd_product_26 : fCd_product 26 = some (.bipush (7), 0, 0) := rfl
theorem gCd_product_28 : fCd_product 28 = some (.iand, 0, 0) := rfl
theorem gCd_product_29 : fCd_product 29 = some (.istore 5, 0, 0) := rfl
theorem gCd_product_31 : fCd_product 31 = some (.iload_n 2, 0, 0) := rfl
theorem gCd_product_32 : fCd_product 32 = some (.iconst 3, 0, 0) := rfl
theorem gCd_product_33 : fCd_product 33 = some (.ishl, 0, 0) := rfl
theorem gCd_product_34 : fCd_product 34 = some (.iload 5, 0, 0) := rfl
theorem gCd_product_36 : fCd_product 36 = some (.ior, 0, 0) := rfl
theorem gCd_product_37 : fCd_product 37 = some (.istore_n 2, 0, 0) := rfl
theorem gCd_product_38 : fCd_product 38 = some (.iinc 3 (-3), 0, 0) := rfl
theorem gCd_product_41 : fCd_product 41 = some (.goto (-36), 5, 0) := rfl
theorem gCd_product_44 : fCd_product 44 = some (.iload_n 2, 0, 0) := rfl
theorem gCd_product_45 : fCd_product 45 = some (.ireturn, 0, 0) := rfl
abbrev lCd_inverse : List (Nat × Instr × Nat × Nat) := [(0, .iconst 0, 0, 0), (1, .istore_n 1, 0, 0), (2, .iconst 0, 0, 0), (3, .istore_n 2, 0, 0), (4, .iload_n 2, 0, 0), (5, .bipush (7), 0, 0), (7, .if_icmp .gt (32), 39, 0), (10, .iload_n 0, 0, 0), (11, .bipush (21), 0, 0), (13, .iconst 3, 0, 0), (14, .iload_n 2, 0, 0), (15, .imul, 0, 0), (16, .isub, 0, 0), (17, .ishr, 0, 0), (18, .bipush (7), 0, 0), (20, .iand, 0, 0), (21, .istore_n 3, 0, 0), (22, .iload_n 1, 0, 0), (23, .iload_n 2, 0, 0), (24, .bipush (21), 0, 0), (26, .iconst 3, 0, 0), (27, .iload_n 3, 0, 0), (28, .imul, 0, 0), (29, .isub, 0, 0), (30, .ishl, 0, 0), (31, .ior, 0, 0), (32, .istore_n 1, 0, 0), (33, .iinc 2 (1), 0, 0), (36, .goto (-32), 4, 0), (39, .iload_n 1, 0, 0), (40, .ireturn, 0, 0)]
def fCd_inverse : sx_F := sx_tab lCd_inverse
theorem kCd_inverse : sx_chk "ClassCharacters$Codes" (wy yCd_inverse prog_3_method_4_code 4 (some .int)) 4 prog_3_method_4_code lCd_inverse = true := by decide +kernel
theorem gCd_inverse_0 : fCd_inverse 0 = some (.iconst 0, 0, 0) := rfl
theorem gCd_inverse_1 : fCd_inverse 1 = some (.istore_n 1, 0, 0) := rfl
theorem gCd_inverse_2 : fCd_inverse 2 = some (.iconst 0, 0, 0) := rfl
theorem gCd_inverse_3 : fCd_inverse 3 = some (.istore_n 2, 0, 0) := rfl
theorem gCd_inverse_4 : fCd_inverse 4 = some (.iload_n 2, 0, 0) := rfl
theorem gCd_inverse_5 : fCd_inverse 5 = some (.bipush (7), 0, 0) := rfl
theorem gCd_inverse_7 : fCd_inverse 7 = some (.if_icmp .gt (32), 39, 0) := rfl
theorem gCd_inverse_10 : fCd_inverse 10 = some (.iload_n 0, 0, 0) := rfl
theorem gCd_inverse_11 : fCd_inverse 11 = some (.bipush (21), 0, 0) := rfl
theorem gCd_inverse_13 : fCd_inverse 13 = some (.iconst 3, 0, 0) := rfl
theorem gCd_inverse_14 : fCd_inverse 14 = some (.iload_n 2, 0, 0) := rfl
theorem gCd_inverse_15 : fCd_inverse 15 = some (.imul, 0, 0) := rfl
theorem gCd_inverse_16 : fCd_inverse 16 = some (.isub, 0, 0) := rfl
theorem gCd_inverse_17 : fCd_inverse 17 = some (.ishr, 0, 0) := rfl
theorem gCd_inverse_18 : fCd_inverse 18 = some (.bipush (7), 0, 0) := rfl
theorem gCd_inverse_20 : fCd_inverse 20 = some (.iand, 0, 0) := rfl
theorem gCd_inverse_21 : fCd_inverse 21 = some (.istore_n 3, 0, 0) := rfl
theorem gCd_inverse_22 : fCd_inverse 22 = some (.iload_n 1, 0, 0) := rfl
theorem gCd_inverse_23 : fCd_inverse 23 = some (.iload_n 2, 0, 0) := rfl
theorem gCd_inverse_24 : fCd_inverse 24 = some (.bipush (21), 0, 0) := rfl
theorem gCd_inverse_26 : fCd_inverse 26 = some (.iconst 3, 0, 0) := rfl
theorem gCd_inverse_27 : fCd_inverse 27 = some (.iload_n 3, 0, 0) := rfl
theorem gCd_inverse_28 : fCd_inverse 28 = some (.imul, 0, 0) := rfl
theorem gCd_inverse_29 : fCd_inverse 29 = some (.isub, 0, 0) := rfl
theorem gCd_inverse_30 : fCd_inverse 30 = some (.ishl, 0, 0) := rfl
theorem gCd_inverse_31 : fCd_inverse 31 = some (.ior, 0, 0) := rfl
theorem gCd_inverse_32 : fCd_inverse 32 = some (.istore_n 1, 0, 0) := rfl
theorem gCd_inverse_33 : fCd_inverse 33 = some (.iinc 2 (1), 0, 0) := rfl
theorem gCd_inverse_36 : fCd_inverse 36 = some (.goto (-32), 4, 0) := rfl
theorem gCd_inverse_39 : fCd_inverse 39 = some (.iload_n 1, 0, 0) := rfl
theorem gCd_inverse_40 : fCd_inverse 40 = some (.ireturn, 0, 0) := rfl
abbrev lEl_generate : List (Nat × Instr × Nat × Nat) := [(0, .aload_n 0, 0, 0), (1, .iconst 0, 0, 0), (2, .putfield 18, 1, 2), (5, .aload_n 0, 0, 0), (6, .ldc 24, 342391, 0), (8, .invokevirtual 25, 95, 0), (11, .istore_n 3, 0, 0), (12, .iconst 0, 0, 0), (13, .istore 4, 0, 0), (15, .iload 4, 0, 0), (17, .bipush (120), 0, 0), (19, .if_icmp .ge (60), 79, 0), (22, .iload_n 3, 0, 0), (23, .ifCond .eq (56), 79, 0), (26, .iload 4, 0, 0), (28, .aload_n 0, 0, 0), (29, .getfield 18, 1, 2), (32, .if_icmp .ge (47), 79, 0), (35, .iconst 0, 0, 0), (36, .istore 5, 0, 0), (38, .iload_n 3, 0, 0), (39, .ifCond .eq (34), 73, 0), (42, .iload 5, 0, 0), (44, .iload_n 2, 0, 0), (45, .if_icmp .ge (28), 73, 0), (48, .aload_n 0, 0, 0), (49, .aload_n 0, 0, 0), (50, .getfield 15, 1, 1), (53, .iload 4, 0, 0), (55, .iaload, 0, 0), (56, .aload_n 1, 0, 0), (57, .iload 5, 0, 0), (59, .iaload, 0, 0), (60, .invokestatic 29, 82, 0), (63, .invokevirtual 25, 95, 0), (66, .istore_n 3, 0, 0), (67, .iinc 5 (1), 0, 0), (70, .goto (-32), 38, 0), (73, .iinc 4 (1), 0, 0), (76, .goto (-61), 15, 0), (79, .iload_n 3, 0, 0), (80, .ireturn, 0, 0)]
def fEl_generate : sx_F := sx_tab lEl_generate
theorem kEl_generate : sx_chk "ClassCharacters$Elements" (wy yEl_generate prog_5_method_2_code 6 (some .boolean)) 6 prog_5_method_2_code lEl_generate = true := by decide +kernel
theorem gEl_generate_0 : fEl_generate 0 = some (.aload_n 0, 0, 0) := rfl
theorem gEl_generate_1 : fEl_generate 1 = some (.iconst 0, 0, 0) := rfl
theorem gEl_generate_2 : fEl_generate 2 = some (.putfield 18, 1, 2) := rfl
theorem gEl_generate_5 : fEl_generate 5 = some (.aload_n 0, 0, 0) := rfl
theorem gEl_generate_6 : fEl_generate 6 = some (.ldc 24, 342391, 0) := rfl
theorem gEl_generate_8 : fEl_generate 8 = some (.invokevirtual 25, 95, 0) := rfl
theorem gEl_generate_11 : fEl_generate 11 = some (.istore_n 3, 0, 0) := rfl
theorem gEl_generate_12 : fEl_generate 12 = some (.iconst 0, 0, 0) := rfl
theorem gEl_generate_13 : fEl_generate 13 = some (.istore 4, 0, 0) := rfl
theorem gEl_generate_15 : fEl_generate 15 = some (.iload 4, 0, 0) := rfl
theorem gEl_generate_17 : fEl_generate 17 = some (.bipush (120), 0, 0) := rfl
theorem gEl_generate_19 : fEl_generate 19 = some (.if_icmp .ge (60), 79, 0) := rfl
theorem gEl_generate_22 : fEl_generate 22 = some (.iload_n 3, 0, 0) := rfl
theorem gEl_generate_23 : fEl_generate 23 = some (.ifCond .eq (56), 79, 0) := rfl
theorem gEl_generate_26 : fEl_generate 26 = some (.iload 4, 0, 0) := rfl
theorem gEl_generate_28 : fEl_generate 28 = some (.aload_n 0, 0, 0) := rfl
theorem gEl_generate_29 : fEl_generate 29 = some (.getfield 18, 1, 2) := rfl
theorem gEl_generate_32 : fEl_generate 32 = some (.if_icmp .ge (47), 79, 0) := rfl
theorem gEl_generate_35 : fEl_generate 35 = some (.iconst 0, 0, 0) := rfl
theorem gEl_generate_36 : fEl_generate 36 = some (.istore 5, 0, 0) := rfl
theorem gEl_generate_38 : fEl_generate 38 = some (.iload_n 3, 0, 0) := rfl
theorem gEl_generate_39 : fEl_generate 39 = some (.ifCond .eq (34), 73, 0) := rfl
theorem gEl_generate_42 : fEl_generate 42 = some (.iload 5, 0, 0) := rfl
theorem gEl_generate_44 : fEl_generate 44 = some (.iload_n 2, 0, 0) := rfl
theorem gEl_generate_45 : fEl_generate 45 = some (.if_icmp .ge (28), 73, 0) := rfl
theorem gEl_generate_48 : fEl_generate 48 = some (.aload_n 0, 0, 0) := rfl
theorem gEl_generate_49 : fEl_generate 49 = some (.aload_n 0, 0, 0) := rfl
theorem gEl_generate_50 : fEl_generate 50 = some (.getfield 15, 1, 1) := rfl
theorem gEl_generate_53 : fEl_generate 53 = some (.iload 4, 0, 0) := rfl
theorem gEl_generate_55 : fEl_generate 55 = some (.iaload, 0, 0) := rfl
theorem gEl_generate_56 : fEl_generate 56 = some (.aload_n 1, 0, 0) := rfl
theorem gEl_generate_57 : fEl_generate 57 = some (.iload 5, 0, 0) := rfl
theorem gEl_generate_59 : fEl_generate 59 = some (.iaload, 0, 0) := rfl
theorem gEl_generate_60 : fEl_generate 60 = some (.invokestatic 29, 82, 0) := rfl
theorem gEl_generate_63 : fEl_generate 63 = some (.invokevirtual 25, 95, 0) := rfl
theorem gEl_generate_66 : fEl_generate 66 = some (.istore_n 3, 0, 0) := rfl
theorem gEl_generate_67 : fEl_generate 67 = some (.iinc 5 (1), 0, 0) := rfl
theorem gEl_generate_70 : fEl_generate 70 = some (.goto (-32), 38, 0) := rfl
theorem gEl_generate_73 : fEl_generate 73 = some (.iinc 4 (1), 0, 0) := rfl
theorem gEl_generate_76 : fEl_generate 76 = some (.goto (-61), 15, 0) := rfl
theorem gEl_generate_79 : fEl_generate 79 = some (.iload_n 3, 0, 0) := rfl
theorem gEl_generate_80 : fEl_generate 80 = some (.ireturn, 0, 0) := rfl
abbrev lEl_indexOf : List (Nat × Instr × Nat × Nat) := [(0, .aload_n 0, 0, 0), (1, .iload_n 1, 0, 0), (2, .invokevirtual 33, 96, 0), (5, .istore_n 2, 0, 0), (6, .iload_n 2, 0, 0), (7, .aload_n 0, 0, 0), (8, .getfield 18, 1, 2), (11, .if_icmp .ge (17), 28, 0), (14, .aload_n 0, 0, 0), (15, .getfield 9, 1, 0), (18, .iload_n 2, 0, 0), (19, .iaload, 0, 0), (20, .iload_n 1, 0, 0), (21, .if_icmp .ne (7), 28, 0), (24, .iload_n 2, 0, 0), (25, .goto (4), 29, 0), (28, .iconst (-1), 0, 0), (29, .ireturn, 0, 0)]
def fEl_indexOf : sx_F := sx_tab lEl_indexOf
theorem kEl_indexOf : sx_chk "ClassCharacters$Elements" (wy yEl_indexOf prog_5_method_3_code 3 (some .int)) 3 prog_5_method_3_code lEl_indexOf = true := by decide +kernel
theorem gEl_indexOf_0 : fEl_indexOf 0 = some (.aload_n 0, 0, 0) := rfl
theorem gEl_indexOf_1 : fEl_indexOf 1 = some (.iload_n 1, 0, 0) := rfl
theorem gEl_indexOf_2 : fEl_indexOf 2 = some (.invokevirtual 33, 96, 0) := rfl
theorem gEl_indexOf_5 : fEl_indexOf 5 = some (.istore_n 2, 0, 0) := rfl
theorem gEl_indexOf_6 : fEl_indexOf 6 = some (.iload_n 2, 0, 0) := rfl
theorem gEl_indexOf_7 : fEl_indexOf 7 = some (.aload_n 0, 0, 0) := rfl
theorem gEl_indexOf_8 : fEl_indexOf 8 = some (.getfield 18, 1, 2) := rfl
theorem gEl_indexOf_11 : fEl_indexOf 11 = some (.if_icmp .ge (17), 28, 0) := rfl
theorem gEl_indexOf_14 : fEl_indexOf 14 = some (.aload_n 0, 0, 0) := rfl
theorem gEl_indexOf_15 : fEl_indexOf 15 = some (.getfield 9, 1, 0) := rfl
theorem gEl_indexOf_18 : fEl_indexOf 18 = some (.iload_n 2, 0, 0) := rfl
theorem gEl_indexOf_19 : fEl_indexOf 19 = some (.iaload, 0, 0) := rfl
theorem gEl_indexOf_20 : fEl_indexOf 20 = some (.iload_n 1, 0, 0) := rfl
theorem gEl_indexOf_21 : fEl_indexOf 21 = some (.if_icmp .ne (7), 28, 0) := rfl
theorem gEl_indexOf_24 : fEl_indexOf 24 = some (.iload_n 2, 0, 0) := rfl
theorem gEl_indexOf_25 : fEl_indexOf 25 = some (.goto (4), 29, 0) := rfl
theorem gEl_indexOf_28 : fEl_indexOf 28 = some (.iconst (-1), 0, 0) := rfl
theorem gEl_indexOf_29 : fEl_indexOf 29 = some (.ireturn, 0, 0) := rfl
abbrev lEl_include : List (Nat × Instr × Nat × Nat) := [(0, .aload_n 0, 0, 0), (1, .iload_n 1, 0, 0), (2, .invokevirtual 33, 96, 0), (5, .istore_n 2, 0, 0), (6, .iload_n 2, 0, 0), (7, .aload_n 0, 0, 0), (8, .getfield 18, 1, 2), (11, .if_icmp .ge (15), 26, 0), (14, .aload_n 0, 0, 0), (15, .getfield 9, 1, 0), (18, .iload_n 2, 0, 0), (19, .iaload, 0, 0), (20, .iload_n 1, 0, 0), (21, .if_icmp .ne (5), 26, 0), (24, .iconst 1, 0, 0), (25, .ireturn, 0, 0), (26, .aload_n 0, 0, 0), (27, .getfield 18, 1, 2), (30, .bipush (120), 0, 0), (32, .if_icmp .lt (5), 37, 0), (35, .iconst 0, 0, 0), (36, .ireturn, 0, 0), (37, .aload_n 0, 0, 0), (38, .getfield 18, 1, 2), (41, .istore_n 3, 0, 0), (42, .iload_n 3, 0, 0), (43, .iload_n 2, 0, 0), (44, .if_icmp .le (23), 67, 0), (47, .aload_n 0, 0, 0), (48, .getfield 9, 1, 0), (51, .iload_n 3, 0, 0), (52, .aload_n 0, 0, 0), (53, .getfield 9, 1, 0), (56, .iload_n 3, 0, 0), (57, .iconst 1, 0, 0), (58, .isub, 0, 0), (59, .iaload, 0, 0), (60, .iastore, 0, 0), (61, .iinc 3 (-1), 0, 0), (64, .goto (-22), 42, 0), (67, .aload_n 0, 0, 0), (68, .getfield 9, 1, 0), (71, .iload_n 2, 0, 0), (72, .iload_n 1, 0, 0), (73, .iastore, 0, 0), (74, .aload_n 0, 0, 0), (75, .getfield 15, 1, 1), (78, .aload_n 0, 0, 0), (79, .getfield 18, 1, 2), (82, .iload_n 1, 0, 0), (83, .iastore, 0, 0), (84, .aload_n 0, 0, 0), (85, .dup, 0, 0), (86, .getfield 18, 1, 2), (89, .iconst 1, 0, 0), (90, .iadd, 0, 0), (91, .putfield 18, 1, 2), (94, .iconst 1, 0, 0), (95, .ireturn, 0, 0)]
def fEl_include : sx_F := sx_tab lEl_include
theorem kEl_include : sx_chk "ClassCharacters$Elements" (wy yEl_include prog_5_method_4_code 4 (some .boolean)) 4 prog_5_method_4_code lEl_include = true := by decide +kernel
theorem gEl_include_0 : fEl_include 0 = some (.aload_n 0, 0, 0) := rfl
theorem gEl_include_1 : fEl_include 1 = some (.iload_n 1, 0, 0) := rfl
theorem gEl_include_2 : fEl_include 2 = some (.invokevirtual 33, 96, 0) := rfl
theorem gEl_include_5 : fEl_include 5 = some (.istore_n 2, 0, 0) := rfl
theorem gEl_include_6 : fEl_include 6 = some (.iload_n 2, 0, 0) := rfl
theorem gEl_include_7 : fEl_include 7 = some (.aload_n 0, 0, 0) := rfl
theorem gEl_include_8 : fEl_include 8 = some (.getfield 18, 1, 2) := rfl
theorem gEl_include_11 : fEl_include 11 = some (.if_icmp .ge (15), 26, 0) := rfl
theorem gEl_include_14 : fEl_include 14 = some (.aload_n 0, 0, 0) := rfl
theorem gEl_include_15 : fEl_include 15 = some (.getfield 9, 1, 0) := rfl
theorem gEl_include_18 : fEl_include 18 = some (.iload_n 2, 0, 0) := rfl
theorem gEl_include_19 : fEl_include 19 = some (.iaload, 0, 0) := rfl
theorem gEl_include_20 : fEl_include 20 = some (.iload_n 1, 0, 0) := rfl
theorem gEl_include_21 : fEl_include 21 = some (.if_icmp .ne (5), 26, 0) := rfl
theorem gEl_include_24 : fEl_include 24 = some (.iconst 1, 0, 0) := rfl
theorem gEl_include_25 : fEl_include 25 = some (.ireturn, 0, 0) := rfl
theorem gEl_include_26 : fEl_include 26 = some (.aload_n 0, 0, 0) := rfl
theorem gEl_include_27 : fEl_include 27 = some (.getfield 18, 1, 2) := rfl
theorem gEl_include_30 : fEl_include 30 = some (.bipush (120), 0, 0) := rfl
theorem gEl_include_32 : fEl_include 32 = some (.if_icmp .lt (5), 37, 0) := rfl
theorem gEl_include_35 : fEl_include 35 = some (.iconst 0, 0, 0) := rfl
theorem gEl_include_36 : fEl_include 36 = some (.ireturn, 0, 0) := rfl
theorem gEl_include_37 : fEl_include 37 = some (.aload_n 0, 0, 0) := rfl
theorem gEl_include_38 : fEl_include 38 = some (.getfield 18, 1, 2) := rfl
theorem gEl_include_41 : fEl_include 41 = some (.istore_n 3, 0, 0) := rfl
theorem gEl_include_42 : fEl_include 42 = some (.iload_n 3, 0, 0) := rfl
theorem gEl_include_43 : fEl_include 43 = some (.iload_n 2, 0, 0) := rfl
theorem gEl_include_44 : fEl_include 44 = some (.if_icmp .le (23), 67, 0) := rfl
theorem gEl_include_47 : fEl_include 47 = some (.aload_n 0, 0, 0) := rfl
theorem gEl_include_48 : fEl_include 48 = some (.getfield 9, 1, 0) := rfl
theorem gEl_include_51 : fEl_include 51 = some (.iload_n 3, 0, 0) := rfl
theorem gEl_include_52 : fEl_include 52 = some (.aload_n 0, 0, 0) := rfl
theorem gEl_include_53 : fEl_include 53 = some (.getfield 9, 1, 0) := rfl
theorem gEl_include_56 : fEl_include 56 = some (.iload_n 3, 0, 0) := rfl
theorem gEl_include_57 : fEl_include 57 = some (.iconst 1, 0, 0) := rfl
theorem gEl_include_58 : fEl_include 58 = some (.isub, 0, 0) := rfl
theorem gEl_include_59 : fEl_include 59 = some (.iaload, 0, 0) := rfl
theorem gEl_include_60 : fEl_include 60 = some (.iastore, 0, 0) := rfl
theorem gEl_include_61 : fEl_include 61 = some (.iinc 3 (-1), 0, 0) := rfl
theorem gEl_include_64 : fEl_include 64 = some (.goto (-22), 42, 0) := rfl
theorem gEl_include_67 : fEl_include 67 = some (.aload_n 0, 0, 0) := rfl
theorem gEl_include_68 : fEl_include 68 = some (.getfield 9, 1, 0) := rfl
theorem gEl_include_71 : fEl_include 71 = some (.iload_n 2, 0, 0) := rfl
theorem gEl_include_72 : fEl_include 72 = some (.iload_n 1, 0, 0) := rfl
theorem gEl_include_73 : fEl_include 73 = some (.iastore, 0, 0) := rfl
theorem gEl_include_74 : fEl_include 74 = some (.aload_n 0, 0, 0) := rfl
theorem gEl_include_75 : fEl_include 75 = some (.getfield 15, 1, 1) := rfl
theorem gEl_include_78 : fEl_include 78 = some (.aload_n 0, 0, 0) := rfl
theorem gEl_include_79 : fEl_include 79 = some (.getfield 18, 1, 2) := rfl
theorem gEl_include_82 : fEl_include 82 = some (.iload_n 1, 0, 0) := rfl
theorem gEl_include_83 : fEl_include 83 = some (.iastore, 0, 0) := rfl
theorem gEl_include_84 : fEl_include 84 = some (.aload_n 0, 0, 0) := rfl
theorem gEl_include_85 : fEl_include 85 = some (.dup, 0, 0) := rfl
theorem gEl_include_86 : fEl_include 86 = some (.getfield 18, 1, 2) := rfl
theorem gEl_include_89 : fEl_include 89 = some (.iconst 1, 0, 0) := rfl
theorem gEl_include_90 : fEl_include 90 = some (.iadd, 0, 0) := rfl
theorem gEl_include_91 : fEl_include 91 = some (.putfield 18, 1, 2) := rfl
theorem gEl_include_94 : fEl_include 94 = some (.iconst 1, 0, 0) := rfl
theorem gEl_include_95 : fEl_include 95 = some (.ireturn, 0, 0) := rfl
abbrev lEl_firstNotBelow : List (Nat × Instr × Nat × Nat) := [(0, .iconst 0, 0, 0), (1, .istore_n 2, 0, 0), (2, .bipush (64), 0, 0), (4, .istore_n 3, 0, 0), (5, .iload_n 3, 0, 0), (6, .ifCond .le (38), 44, 0), (9, .iload_n 2, 0, 0), (10, .iload_n 3, 0, 0), (11, .iadd, 0, 0), (12, .aload_n 0, 0, 0), (13, .getfield 18, 1, 2), (16, .if_icmp .gt (21), 37, 0), (19, .aload_n 0, 0, 0), (20, .getfield 9, 1, 0), (23, .iload_n 2, 0, 0), (24, .iload_n 3, 0, 0), (25, .iadd, 0, 0), (26, .iconst 1, 0, 0), (27, .isub, 0, 0), (28, .iaload, 0, 0), (29, .iload_n 1, 0, 0), (30, .if_icmp .ge (7), 37, 0), (33, .iload_n 2, 0, 0), (34, .iload_n 3, 0, 0), (35, .iadd, 0, 0), (36, .istore_n 2, 0, 0), (37, .iload_n 3, 0, 0), (38, .iconst 2, 0, 0), (39, .idiv, 0, 0), (40, .istore_n 3, 0, 0), (41, .goto (-36), 5, 0), (44, .iload_n 2, 0, 0), (45, .ireturn, 0, 0)]
def fEl_firstNotBelow : sx_F := sx_tab lEl_firstNotBelow
theorem kEl_firstNotBelow : sx_chk "ClassCharacters$Elements" (wy yEl_firstNotBelow prog_5_method_5_code 4 (some .int)) 4 prog_5_method_5_code lEl_firstNotBelow = true := by decide +kernel
theorem gEl_firstNotBelow_0 : fEl_firstNotBelow 0 = some (.iconst 0, 0, 0) := rfl
theorem gEl_firstNotBelow_1 : fEl_firstNotBelow 1 = some (.istore_n 2, 0, 0) := rfl
theorem gEl_firstNotBelow_2 : fEl_firstNotBelow 2 = some (.bipush (64), 0, 0) := rfl
theorem gEl_firstNotBelow_4 : fEl_firstNotBelow 4 = some (.istore_n 3, 0, 0) := rfl
theorem gEl_firstNotBelow_5 : fEl_firstNotBelow 5 = some (.iload_n 3, 0, 0) := rfl
theorem gEl_firstNotBelow_6 : fEl_firstNotBelow 6 = some (.ifCond .le (38), 44, 0) := rfl
theorem gEl_firstNotBelow_9 : fEl_firstNotBelow 9 = some (.iload_n 2, 0, 0) := rfl
theorem gEl_firstNotBelow_10 : fEl_firstNotBelow 10 = some (.iload_n 3, 0, 0) := rfl
theorem gEl_firstNotBelow_11 : fEl_firstNotBelow 11 = some (.iadd, 0, 0) := rfl
theorem gEl_firstNotBelow_12 : fEl_firstNotBelow 12 = some (.aload_n 0, 0, 0) := rfl
theorem gEl_firstNotBelow_13 : fEl_firstNotBelow 13 = some (.getfield 18, 1, 2) := rfl
theorem gEl_firstNotBelow_16 : fEl_firstNotBelow 16 = some (.if_icmp .gt (21), 37, 0) := rfl
theorem gEl_firstNotBelow_19 : fEl_firstNotBelow 19 = some (.aload_n 0, 0, 0) := rfl
theorem gEl_firstNotBelow_20 : fEl_firstNotBelow 20 = some (.getfield 9, 1, 0) := rfl
theorem gEl_firstNotBelow_23 : fEl_firstNotBelow 23 = some (.iload_n 2, 0, 0) := rfl
theorem gEl_firstNotBelow_24 : fEl_firstNotBelow 24 = some (.iload_n 3, 0, 0) := rfl
theorem gEl_firstNotBelow_25 : fEl_firstNotBelow 25 = some (.iadd, 0, 0) := rfl
theorem gEl_firstNotBelow_26 : fEl_firstNotBelow 26 = some (.iconst 1, 0, 0) := rfl
theorem gEl_firstNotBelow_27 : fEl_firstNotBelow 27 = some (.isub, 0, 0) := rfl
theorem gEl_firstNotBelow_28 : fEl_firstNotBelow 28 = some (.iaload, 0, 0) := rfl
theorem gEl_firstNotBelow_29 : fEl_firstNotBelow 29 = some (.iload_n 1, 0, 0) := rfl
theorem gEl_firstNotBelow_30 : fEl_firstNotBelow 30 = some (.if_icmp .ge (7), 37, 0) := rfl
theorem gEl_firstNotBelow_33 : fEl_firstNotBelow 33 = some (.iload_n 2, 0, 0) := rfl
theorem gEl_firstNotBelow_34 : fEl_firstNotBelow 34 = some (.iload_n 3, 0, 0) := rfl
theorem gEl_firstNotBelow_35 : fEl_firstNotBelow 35 = some (.iadd, 0, 0) := rfl
theorem gEl_firstNotBelow_36 : fEl_firstNotBelow 36 = some (.istore_n 2, 0, 0) := rfl
theorem gEl_firstNotBelow_37 : fEl_firstNotBelow 37 = some (.iload_n 3, 0, 0) := rfl
theorem gEl_firstNotBelow_38 : fEl_firstNotBelow 38 = some (.iconst 2, 0, 0) := rfl
theorem gEl_firstNotBelow_39 : fEl_firstNotBelow 39 = some (.idiv, 0, 0) := rfl
theorem gEl_firstNotBelow_40 : fEl_firstNotBelow 40 = some (.istore_n 3, 0, 0) := rfl
theorem gEl_firstNotBelow_41 : fEl_firstNotBelow 41 = some (.goto (-36), 5, 0) := rfl
theorem gEl_firstNotBelow_44 : fEl_firstNotBelow 44 = some (.iload_n 2, 0, 0) := rfl
theorem gEl_firstNotBelow_45 : fEl_firstNotBelow 45 = some (.ireturn, 0, 0) := rfl
abbrev lRe_choose : List (Nat × Instr × Nat × Nat) := [(0, .iload_n 2, 0, 0), (1, .iconst 1, 0, 0), (2, .iadd, 0, 0), (3, .istore_n 3, 0, 0), (4, .iconst 1, 0, 0), (5, .istore 4, 0, 0), (7, .iload 4, 0, 0), (9, .sipush (300), 0, 0), (12, .if_icmp .ge (35), 47, 0), (15, .iload 4, 0, 0), (17, .iload_n 2, 0, 0), (18, .imul, 0, 0), (19, .iconst 1, 0, 0), (20, .iadd, 0, 0), (21, .istore_n 3, 0, 0), (22, .iload_n 3, 0, 0), (23, .iload_n 3, 0, 0), (24, .imul, 0, 0), (25, .iconst 4, 0, 0), (26, .iload_n 1, 0, 0), (27, .imul, 0, 0), (28, .if_icmp .le (13), 41, 0), (31, .iload_n 3, 0, 0), (32, .invokestatic 16, 98, 0), (35, .ifCond .eq (6), 41, 0), (38, .goto (9), 47, 0), (41, .iinc 4 (1), 0, 0), (44, .goto (-37), 7, 0), (47, .aload_n 0, 0, 0), (48, .iload_n 3, 0, 0), (49, .iconst 2, 0, 0), (50, .invokestatic 20, 118, 0), (53, .putfield 7, 3, 0), (56, .aload_n 0, 0, 0), (57, .iconst 1, 0, 0), (58, .putfield 13, 3, 1), (61, .aload_n 0, 0, 0), (62, .getfield 13, 3, 1), (65, .aload_n 0, 0, 0), (66, .getfield 7, 3, 0), (69, .iconst 1, 0, 0), (70, .isub, 0, 0), (71, .if_icmp .ge (28), 99, 0), (74, .aload_n 0, 0, 0), (75, .aload_n 0, 0, 0), (76, .getfield 13, 3, 1), (79, .invokevirtual 26, 99, 0), (82, .iload_n 2, 0, 0), (83, .if_icmp .eq (16), 99, 0), (86, .aload_n 0, 0, 0), (87, .dup, 0, 0), (88, .getfield 13, 3, 1), (91, .iconst 1, 0, 0), (92, .iadd, 0, 0), (93, .putfield 13, 3, 1), (96, .goto (-35), 61, 0), (99, .return_, 0, 0)]
def fRe_choose : sx_F := sx_tab lRe_choose
theorem kRe_choose : sx_chk "ClassCharacters$Residues" (wy yRe_choose prog_6_method_2_code 5 none) 5 prog_6_method_2_code lRe_choose = true := by decide +kernel
theorem gRe_choose_0 : fRe_choose 0 = some (.iload_n 2, 0, 0) := rfl
theorem gRe_choose_1 : fRe_choose 1 = some (.iconst 1, 0, 0) := rfl
theorem gRe_choose_2 : fRe_choose 2 = some (.iadd, 0, 0) := rfl
theorem gRe_choose_3 : fRe_choose 3 = some (.istore_n 3, 0, 0) := rfl
theorem gRe_choose_4 : fRe_choose 4 = some (.iconst 1, 0, 0) := rfl
theorem gRe_choose_5 : fRe_choose 5 = some (.istore 4, 0, 0) := rfl
theorem gRe_choose_7 : fRe_choose 7 = some (.iload 4, 0, 0) := rfl
theorem gRe_choose_9 : fRe_choose 9 = some (.sipush (300), 0, 0) := rfl
theorem gRe_choose_12 : fRe_choose 12 = some (.if_icmp .ge (35), 47, 0) := rfl
theorem gRe_choose_15 : fRe_choose 15 = some (.iload 4, 0, 0) := rfl
theorem gRe_choose_17 : fRe_choose 17 = some (.iload_n 2, 0, 0) := rfl
theorem gRe_choose_18 : fRe_choose 18 = some (.imul, 0, 0) := rfl
theorem gRe_choose_19 : fRe_choose 19 = some (.iconst 1, 0, 0) := rfl
theorem gRe_choose_20 : fRe_choose 20 = some (.iadd, 0, 0) := rfl
theorem gRe_choose_21 : fRe_choose 21 = some (.istore_n 3, 0, 0) := rfl
theorem gRe_choose_22 : fRe_choose 22 = some (.iload_n 3, 0, 0) := rfl
theorem gRe_choose_23 : fRe_choose 23 = some (.iload_n 3, 0, 0) := rfl
theorem gRe_choose_24 : fRe_choose 24 = some (.imul, 0, 0) := rfl
theorem gRe_choose_25 : fRe_choose 25 = some (.iconst 4, 0, 0) := rfl
theorem gRe_choose_26 : fRe_choose 26 = some (.iload_n 1, 0, 0) := rfl
theorem gRe_choose_27 : fRe_choose 27 = some (.imul, 0, 0) := rfl
theorem gRe_choose_28 : fRe_choose 28 = some (.if_icmp .le (13), 41, 0) := rfl
theorem gRe_choose_31 : fRe_choose 31 = some (.iload_n 3, 0, 0) := rfl
theorem gRe_choose_32 : fRe_choose 32 = some (.invokestatic 16, 98, 0) := rfl
theorem gRe_choose_35 : fRe_choose 35 = some (.ifCond .eq (6), 41, 0) := rfl
theorem gRe_choose_38 : fRe_choose 38 = some (.goto (9), 47, 0) := rfl
theorem gRe_choose_41 : fRe_choose 41 = some (.iinc 4 (1), 0, 0) := rfl
theorem gRe_choose_44 : fRe_choose 44 = some (.goto (-37), 7, 0) := rfl
theorem gRe_choose_47 : fRe_choose 47 = some (.aload_n 0, 0, 0) := rfl
theorem gRe_choose_48 : fRe_choose 48 = some (.iload_n 3, 0, 0) := rfl
theorem gRe_choose_49 : fRe_choose 49 = some (.iconst 2, 0, 0) := rfl
theorem gRe_choose_50 : fRe_choose 50 = some (.invokestatic 20, 118, 0) := rfl
theorem gRe_choose_53 : fRe_choose 53 = some (.putfield 7, 3, 0) := rfl
theorem gRe_choose_56 : fRe_choose 56 = some (.aload_n 0, 0, 0) := rfl
theorem gRe_choose_57 : fRe_choose 57 = some (.iconst 1, 0, 0) := rfl
theorem gRe_choose_58 : fRe_choose 58 = some (.putfield 13, 3, 1) := rfl
theorem gRe_choose_61 : fRe_choose 61 = some (.aload_n 0, 0, 0) := rfl
theorem gRe_choose_62 : fRe_choose 62 = some (.getfield 13, 3, 1) := rfl
theorem gRe_choose_65 : fRe_choose 65 = some (.aload_n 0, 0, 0) := rfl
theorem gRe_choose_66 : fRe_choose 66 = some (.getfield 7, 3, 0) := rfl
theorem gRe_choose_69 : fRe_choose 69 = some (.iconst 1, 0, 0) := rfl
theorem gRe_choose_70 : fRe_choose 70 = some (.isub, 0, 0) := rfl
theorem gRe_choose_71 : fRe_choose 71 = some (.if_icmp .ge (28), 99, 0) := rfl
theorem gRe_choose_74 : fRe_choose 74 = some (.aload_n 0, 0, 0) := rfl
theorem gRe_choose_75 : fRe_choose 75 = some (.aload_n 0, 0, 0) := rfl
theorem gRe_choose_76 : fRe_choose 76 = some (.getfield 13, 3, 1) := rfl
theorem gRe_choose_79 : fRe_choose 79 = some (.invokevirtual 26, 99, 0) := rfl
theorem gRe_choose_82 : fRe_choose 82 = some (.iload_n 2, 0, 0) := rfl
theorem gRe_choose_83 : fRe_choose 83 = some (.if_icmp .eq (16), 99, 0) := rfl
theorem gRe_choose_86 : fRe_choose 86 = some (.aload_n 0, 0, 0) := rfl
theorem gRe_choose_87 : fRe_choose 87 = some (.dup, 0, 0) := rfl
theorem gRe_choose_88 : fRe_choose 88 = some (.getfield 13, 3, 1) := rfl
theorem gRe_choose_91 : fRe_choose 91 = some (.iconst 1, 0, 0) := rfl
theorem gRe_choose_92 : fRe_choose 92 = some (.iadd, 0, 0) := rfl
theorem gRe_choose_93 : fRe_choose 93 = some (.putfield 13, 3, 1) := rfl
theorem gRe_choose_96 : fRe_choose 96 = some (.goto (-35), 61, 0) := rfl
theorem gRe_choose_99 : fRe_choose 99 = some (.return_, 0, 0) := rfl
abbrev lRe_isPrime : List (Nat × Instr × Nat × Nat) := [(0, .iconst 2, 0, 0), (1, .istore_n 1, 0, 0), (2, .iload_n 1, 0, 0), (3, .iload_n 1, 0, 0), (4, .imul, 0, 0), (5, .iload_n 0, 0, 0), (6, .if_icmp .gt (17), 23, 0), (9, .iload_n 0, 0, 0), (10, .iload_n 1, 0, 0), (11, .irem, 0, 0), (12, .ifCond .ne (5), 17, 0), (15, .iconst 0, 0, 0), (16, .ireturn, 0, 0), (17, .iinc 1 (1), 0, 0), (20, .goto (-18), 2, 0), (23, .iload_n 0, 0, 0), (24, .iconst 1, 0, 0), (25, .if_icmp .le (7), 32, 0), (28, .iconst 1, 0, 0), (29, .goto (4), 33, 0), (32, .iconst 0, 0, 0), (33, .ireturn, 0, 0)]
def fRe_isPrime : sx_F := sx_tab lRe_isPrime
theorem kRe_isPrime : sx_chk "ClassCharacters$Residues" (wy yRe_isPrime prog_6_method_3_code 2 (some .boolean)) 2 prog_6_method_3_code lRe_isPrime = true := by decide +kernel
theorem gRe_isPrime_0 : fRe_isPrime 0 = some (.iconst 2, 0, 0) := rfl
theorem gRe_isPrime_1 : fRe_isPrime 1 = some (.istore_n 1, 0, 0) := rfl
theorem gRe_isPrime_2 : fRe_isPrime 2 = some (.iload_n 1, 0, 0) := rfl
theorem gRe_isPrime_3 : fRe_isPrime 3 = some (.iload_n 1, 0, 0) := rfl
theorem gRe_isPrime_4 : fRe_isPrime 4 = some (.imul, 0, 0) := rfl
theorem gRe_isPrime_5 : fRe_isPrime 5 = some (.iload_n 0, 0, 0) := rfl
theorem gRe_isPrime_6 : fRe_isPrime 6 = some (.if_icmp .gt (17), 23, 0) := rfl
theorem gRe_isPrime_9 : fRe_isPrime 9 = some (.iload_n 0, 0, 0) := rfl
theorem gRe_isPrime_10 : fRe_isPrime 10 = some (.iload_n 1, 0, 0) := rfl
theorem gRe_isPrime_11 : fRe_isPrime 11 = some (.irem, 0, 0) := rfl
theorem gRe_isPrime_12 : fRe_isPrime 12 = some (.ifCond .ne (5), 17, 0) := rfl
theorem gRe_isPrime_15 : fRe_isPrime 15 = some (.iconst 0, 0, 0) := rfl
theorem gRe_isPrime_16 : fRe_isPrime 16 = some (.ireturn, 0, 0) := rfl
theorem gRe_isPrime_17 : fRe_isPrime 17 = some (.iinc 1 (1), 0, 0) := rfl
theorem gRe_isPrime_20 : fRe_isPrime 20 = some (.goto (-18), 2, 0) := rfl
theorem gRe_isPrime_23 : fRe_isPrime 23 = some (.iload_n 0, 0, 0) := rfl
theorem gRe_isPrime_24 : fRe_isPrime 24 = some (.iconst 1, 0, 0) := rfl
theorem gRe_isPrime_25 : fRe_isPrime 25 = some (.if_icmp .le (7), 32, 0) := rfl
theorem gRe_isPrime_28 : fRe_isPrime 28 = some (.iconst 1, 0, 0) := rfl
theorem gRe_isPrime_29 : fRe_isPrime 29 = some (.goto (4), 33, 0) := rfl
theorem gRe_isPrime_32 : fRe_isPrime 32 = some (.iconst 0, 0, 0) := rfl
theorem gRe_isPrime_33 : fRe_isPrime 33 = some (.ireturn, 0, 0) := rfl
abbrev lRe_orderOf : List (Nat × Instr × Nat × Nat) := [(0, .iload_n 1, 0, 0), (1, .istore_n 2, 0, 0), (2, .iconst 1, 0, 0), (3, .istore_n 3, 0, 0), (4, .iload_n 2, 0, 0), (5, .iconst 1, 0, 0), (6, .if_icmp .eq (24), 30, 0), (9, .iload_n 3, 0, 0), (10, .aload_n 0, 0, 0), (11, .getfield 7, 3, 0), (14, .if_icmp .ge (16), 30, 0), (17, .aload_n 0, 0, 0), (18, .iload_n 2, 0, 0), (19, .iload_n 1, 0, 0), (20, .invokevirtual 30, 101, 0), (23, .istore_n 2, 0, 0), (24, .iinc 3 (1), 0, 0), (27, .goto (-23), 4, 0), (30, .iload_n 3, 0, 0), (31, .ireturn, 0, 0)]
def fRe_orderOf : sx_F := sx_tab lRe_orderOf
theorem kRe_orderOf : sx_chk "ClassCharacters$Residues" (wy yRe_orderOf prog_6_method_4_code 4 (some .int)) 4 prog_6_method_4_code lRe_orderOf = true := by decide +kernel
theorem gRe_orderOf_0 : fRe_orderOf 0 = some (.iload_n 1, 0, 0) := rfl
theorem gRe_orderOf_1 : fRe_orderOf 1 = some (.istore_n 2, 0, 0) := rfl
theorem gRe_orderOf_2 : fRe_orderOf 2 = some (.iconst 1, 0, 0) := rfl
theorem gRe_orderOf_3 : fRe_orderOf 3 = some (.istore_n 3, 0, 0) := rfl
theorem gRe_orderOf_4 : fRe_orderOf 4 = some (.iload_n 2, 0, 0) := rfl
theorem gRe_orderOf_5 : fRe_orderOf 5 = some (.iconst 1, 0, 0) := rfl
theorem gRe_orderOf_6 : fRe_orderOf 6 = some (.if_icmp .eq (24), 30, 0) := rfl
theorem gRe_orderOf_9 : fRe_orderOf 9 = some (.iload_n 3, 0, 0) := rfl
theorem gRe_orderOf_10 : fRe_orderOf 10 = some (.aload_n 0, 0, 0) := rfl
theorem gRe_orderOf_11 : fRe_orderOf 11 = some (.getfield 7, 3, 0) := rfl
theorem gRe_orderOf_14 : fRe_orderOf 14 = some (.if_icmp .ge (16), 30, 0) := rfl
theorem gRe_orderOf_17 : fRe_orderOf 17 = some (.aload_n 0, 0, 0) := rfl
theorem gRe_orderOf_18 : fRe_orderOf 18 = some (.iload_n 2, 0, 0) := rfl
theorem gRe_orderOf_19 : fRe_orderOf 19 = some (.iload_n 1, 0, 0) := rfl
theorem gRe_orderOf_20 : fRe_orderOf 20 = some (.invokevirtual 30, 101, 0) := rfl
theorem gRe_orderOf_23 : fRe_orderOf 23 = some (.istore_n 2, 0, 0) := rfl
theorem gRe_orderOf_24 : fRe_orderOf 24 = some (.iinc 3 (1), 0, 0) := rfl
theorem gRe_orderOf_27 : fRe_orderOf 27 = some (.goto (-23), 4, 0) := rfl
theorem gRe_orderOf_30 : fRe_orderOf 30 = some (.iload_n 3, 0, 0) := rfl
theorem gRe_orderOf_31 : fRe_orderOf 31 = some (.ireturn, 0, 0) := rfl
abbrev lRe_reduce : List (Nat × Instr × Nat × Nat) := [(0, .iload_n 1, 0, 0), (1, .aload_n 0, 0, 0), (2, .getfield 7, 3, 0), (5, .invokestatic 33, 117, 0), (8, .ireturn, 0, 0)]
def fRe_reduce : sx_F := sx_tab lRe_reduce
theorem kRe_reduce : sx_chk "ClassCharacters$Residues" (wy yRe_reduce prog_6_method_5_code 2 (some .int)) 2 prog_6_method_5_code lRe_reduce = true := by decide +kernel
theorem gRe_reduce_0 : fRe_reduce 0 = some (.iload_n 1, 0, 0) := rfl
theorem gRe_reduce_1 : fRe_reduce 1 = some (.aload_n 0, 0, 0) := rfl
theorem gRe_reduce_2 : fRe_reduce 2 = some (.getfield 7, 3, 0) := rfl
theorem gRe_reduce_5 : fRe_reduce 5 = some (.invokestatic 33, 117, 0) := rfl
theorem gRe_reduce_8 : fRe_reduce 8 = some (.ireturn, 0, 0) := rfl
abbrev lRe_times : List (Nat × Instr × Nat × Nat) := [(0, .iload_n 1, 0, 0), (1, .iload_n 2, 0, 0), (2, .imul, 0, 0), (3, .aload_n 0, 0, 0), (4, .getfield 7, 3, 0), (7, .irem, 0, 0), (8, .ireturn, 0, 0)]
def fRe_times : sx_F := sx_tab lRe_times
theorem kRe_times : sx_chk "ClassCharacters$Residues" (wy yRe_times prog_6_method_6_code 3 (some .int)) 3 prog_6_method_6_code lRe_times = true := by decide +kernel
theorem gRe_times_0 : fRe_times 0 = some (.iload_n 1, 0, 0) := rfl
theorem gRe_times_1 : fRe_times 1 = some (.iload_n 2, 0, 0) := rfl
theorem gRe_times_2 : fRe_times 2 = some (.imul, 0, 0) := rfl
theorem gRe_times_3 : fRe_times 3 = some (.aload_n 0, 0, 0) := rfl
theorem gRe_times_4 : fRe_times 4 = some (.getfield 7, 3, 0) := rfl
theorem gRe_times_7 : fRe_times 7 = some (.irem, 0, 0) := rfl
theorem gRe_times_8 : fRe_times 8 = some (.ireturn, 0, 0) := rfl
abbrev lRe_plusTimes : List (Nat × Instr × Nat × Nat) := [(0, .iload_n 1, 0, 0), (1, .iload_n 2, 0, 0), (2, .iload_n 3, 0, 0), (3, .imul, 0, 0), (4, .iadd, 0, 0), (5, .aload_n 0, 0, 0), (6, .getfield 7, 3, 0), (9, .irem, 0, 0), (10, .ireturn, 0, 0)]
def fRe_plusTimes : sx_F := sx_tab lRe_plusTimes
theorem kRe_plusTimes : sx_chk "ClassCharacters$Residues" (wy yRe_plusTimes prog_6_method_7_code 4 (some .int)) 4 prog_6_method_7_code lRe_plusTimes = true := by decide +kernel
theorem gRe_plusTimes_0 : fRe_plusTimes 0 = some (.iload_n 1, 0, 0) := rfl
theorem gRe_plusTimes_1 : fRe_plusTimes 1 = some (.iload_n 2, 0, 0) := rfl
theorem gRe_plusTimes_2 : fRe_plusTimes 2 = some (.iload_n 3, 0, 0) := rfl
theorem gRe_plusTimes_3 : fRe_plusTimes 3 = some (.imul, 0, 0) := rfl
theorem gRe_plusTimes_4 : fRe_plusTimes 4 = some (.iadd, 0, 0) := rfl
theorem gRe_plusTimes_5 : fRe_plusTimes 5 = some (.aload_n 0, 0, 0) := rfl
theorem gRe_plusTimes_6 : fRe_plusTimes 6 = some (.getfield 7, 3, 0) := rfl
theorem gRe_plusTimes_9 : fRe_plusTimes 9 = some (.irem, 0, 0) := rfl
theorem gRe_plusTimes_10 : fRe_plusTimes 10 = some (.ireturn, 0, 0) := rfl
abbrev lRe_minusTimes : List (Nat × Instr × Nat × Nat) := [(0, .iload_n 1, 0, 0), (1, .aload_n 0, 0, 0), (2, .getfield 7, 3, 0), (5, .iload_n 2, 0, 0), (6, .isub, 0, 0), (7, .iload_n 3, 0, 0), (8, .imul, 0, 0), (9, .iadd, 0, 0), (10, .aload_n 0, 0, 0), (11, .getfield 7, 3, 0), (14, .irem, 0, 0), (15, .ireturn, 0, 0)]
def fRe_minusTimes : sx_F := sx_tab lRe_minusTimes
theorem kRe_minusTimes : sx_chk "ClassCharacters$Residues" (wy yRe_minusTimes prog_6_method_8_code 4 (some .int)) 4 prog_6_method_8_code lRe_minusTimes = true := by decide +kernel
theorem gRe_minusTimes_0 : fRe_minusTimes 0 = some (.iload_n 1, 0, 0) := rfl
theorem gRe_minusTimes_1 : fRe_minusTimes 1 = some (.aload_n 0, 0, 0) := rfl
theorem gRe_minusTimes_2 : fRe_minusTimes 2 = some (.getfield 7, 3, 0) := rfl
theorem gRe_minusTimes_5 : fRe_minusTimes 5 = some (.iload_n 2, 0, 0) := rfl
theorem gRe_minusTimes_6 : fRe_minusTimes 6 = some (.isub, 0, 0) := rfl
theorem gRe_minusTimes_7 : fRe_minusTimes 7 = some (.iload_n 3, 0, 0) := rfl
theorem gRe_minusTimes_8 : fRe_minusTimes 8 = some (.imul, 0, 0) := rfl
theorem gRe_minusTimes_9 : fRe_minusTimes 9 = some (.iadd, 0, 0) := rfl
theorem gRe_minusTimes_10 : fRe_minusTimes 10 = some (.aload_n 0, 0, 0) := rfl
theorem gRe_minusTimes_11 : fRe_minusTimes 11 = some (.getfield 7, 3, 0) := rfl
theorem gRe_minusTimes_14 : fRe_minusTimes 14 = some (.irem, 0, 0) := rfl
theorem gRe_minusTimes_15 : fRe_minusTimes 15 = some (.ireturn, 0, 0) := rfl
abbrev lRe_over : List (Nat × Instr × Nat × Nat) := [(0, .aload_n 0, 0, 0), (1, .iload_n 1, 0, 0), (2, .aload_n 0, 0, 0), (3, .iload_n 2, 0, 0), (4, .invokevirtual 36, 105, 0), (7, .invokevirtual 30, 101, 0), (10, .ireturn, 0, 0)]
def fRe_over : sx_F := sx_tab lRe_over
theorem kRe_over : sx_chk "ClassCharacters$Residues" (wy yRe_over prog_6_method_9_code 3 (some .int)) 3 prog_6_method_9_code lRe_over = true := by decide +kernel
theorem gRe_over_0 : fRe_over 0 = some (.aload_n 0, 0, 0) := rfl
theorem gRe_over_1 : fRe_over 1 = some (.iload_n 1, 0, 0) := rfl
theorem gRe_over_2 : fRe_over 2 = some (.aload_n 0, 0, 0) := rfl
theorem gRe_over_3 : fRe_over 3 = some (.iload_n 2, 0, 0) := rfl
theorem gRe_over_4 : fRe_over 4 = some (.invokevirtual 36, 105, 0) := rfl
theorem gRe_over_7 : fRe_over 7 = some (.invokevirtual 30, 101, 0) := rfl
theorem gRe_over_10 : fRe_over 10 = some (.ireturn, 0, 0) := rfl
abbrev lRe_reciprocal : List (Nat × Instr × Nat × Nat) := [(0, .aload_n 0, 0, 0), (1, .getfield 7, 3, 0), (4, .istore_n 2, 0, 0), (5, .iload_n 1, 0, 0), (6, .aload_n 0, 0, 0), (7, .getfield 7, 3, 0), (10, .irem, 0, 0), (11, .istore_n 3, 0, 0), (12, .iconst 0, 0, 0), (13, .istore 4, 0, 0), (15, .iconst 1, 0, 0), (16, .istore 5, 0, 0), (18, .iconst 0, 0, 0), (19, .istore 6, 0, 0), (21, .iload 6, 0, 0), (23, .bipush (64), 0, 0), (25, .if_icmp .ge (49), 74, 0), (28, .iload_n 3, 0, 0), (29, .ifCond .le (45), 74, 0), (32, .iload_n 2, 0, 0), (33, .iload_n 3, 0, 0), (34, .idiv, 0, 0), (35, .istore 7, 0, 0), (37, .iload_n 2, 0, 0), (38, .iload 7, 0, 0), (40, .iload_n 3, 0, 0), (41, .imul, 0, 0), (42, .isub, 0, 0), (43, .istore 8, 0, 0), (45, .iload 4, 0, 0), (47, .iload 7, 0, 0), (49, .iload 5, 0, 0), (51, .imul, 0, 0), (52, .isub, 0, 0), (53, .istore 9, 0, 0), (55, .iload_n 3, 0, 0), (56, .istore_n 2, 0, 0), (57, .iload 5, 0, 0), (59, .istore 4, 0, 0), (61, .iload 8, 0, 0), (63, .istore_n 3, 0, 0), (64, .iload 9, 0, 0), (66, .istore 5, 0, 0), (68, .iinc 6 (1), 0, 0), (71, .goto (-50), 21, 0), (74, .iload 4, 0, 0), (76, .ifCond .ge (13), 89, 0), (79, .iload 4, 0, 0), (81, .aload_n 0, 0, 0), (82, .getfield 7, 3, 0), (85, .iadd, 0, 0), (86, .goto (5), 91, 0), (89, .iload 4, 0, 0), (91, .ireturn, 0, 0)]
def fRe_reciprocal : sx_F := sx_tab lRe_reciprocal
theorem kRe_reciprocal : sx_chk "ClassCharacters$Residues" (wy yRe_reciprocal prog_6_method_10_code 10 (some .int)) 10 prog_6_method_10_code lRe_reciprocal = true := by decide +kernel
theorem gRe_reciprocal_0 : fRe_reciprocal 0 = some (.aload_n 0, 0, 0) := rfl
theorem gRe_reciprocal_1 : fRe_reciprocal 1 = some (.getfield 7, 3, 0) := rfl
theorem gRe_reciprocal_4 : fRe_reciprocal 4 = some (.istore_n 2, 0, 0) := rfl
theorem gRe_reciprocal_5 : fRe_reciprocal 5 = some (.iload_n 1, 0, 0) := rfl
theorem gRe_reciprocal_6 : fRe_reciprocal 6 = some (.aload_n 0, 0, 0) := rfl
theorem gRe_reciprocal_7 : fRe_reciprocal 7 = some (.getfield 7, 3, 0) := rfl
theorem gRe_reciprocal_10 : fRe_reciprocal 10 = some (.irem, 0, 0) := rfl
theorem gRe_reciprocal_11 : fRe_reciprocal 11 = some (.istore_n 3, 0, 0) := rfl
theorem gRe_reciprocal_12 : fRe_reciprocal 12 = some (.iconst 0, 0, 0) := rfl
theorem gRe_reciprocal_13 : fRe_reciprocal 13 = some (.istore 4, 0, 0) := rfl
theorem gRe_reciprocal_15 : fRe_reciprocal 15 = some (.iconst 1, 0, 0) := rfl
theorem gRe_reciprocal_16 : fRe_reciprocal 16 = some (.istore 5, 0, 0) := rfl
theorem gRe_reciprocal_18 : fRe_reciprocal 18 = some (.iconst 0, 0, 0) := rfl
theorem gRe_reciprocal_19 : fRe_reciprocal 19 = some (.istore 6, 0, 0) := rfl
theorem gRe_reciprocal_21 : fRe_reciprocal 21 = some (.iload 6, 0, 0) := rfl
theorem gRe_reciprocal_23 : fRe_reciprocal 23 = some (.bipush (64), 0, 0) := rfl
theorem gRe_reciprocal_25 : fRe_reciprocal 25 = some (.if_icmp .ge (49), 74, 0) := rfl
theorem gRe_reciprocal_28 : fRe_reciprocal 28 = some (.iload_n 3, 0, 0) := rfl
theorem gRe_reciprocal_29 : fRe_reciprocal 29 = some (.ifCond .le (45), 74, 0) := rfl
theorem gRe_reciprocal_32 : fRe_reciprocal 32 = some (.iload_n 2, 0, 0) := rfl
theorem gRe_reciprocal_33 : fRe_reciprocal 33 = some (.iload_n 3, 0, 0) := rfl
theorem gRe_reciprocal_34 : fRe_reciprocal 34 = some (.idiv, 0, 0) := rfl
theorem gRe_reciprocal_35 : fRe_reciprocal 35 = some (.istore 7, 0, 0) := rfl
theorem gRe_reciprocal_37 : fRe_reciprocal 37 = some (.iload_n 2, 0, 0) := rfl
theorem gRe_reciprocal_38 : fRe_reciprocal 38 = some (.iload 7, 0, 0) := rfl
theorem gRe_reciprocal_40 : fRe_reciprocal 40 = some (.iload_n 3, 0, 0) := rfl
theorem gRe_reciprocal_41 : fRe_reciprocal 41 = some (.imul, 0, 0) := rfl
theorem gRe_reciprocal_42 : fRe_reciprocal 42 = some (.isub, 0, 0) := rfl
theorem gRe_reciprocal_43 : fRe_reciprocal 43 = some (.istore 8, 0, 0) := rfl
theorem gRe_reciprocal_45 : fRe_reciprocal 45 = some (.iload 4, 0, 0) := rfl
theorem gRe_reciprocal_47 : fRe_reciprocal 47 = some (.iload 7, 0, 0) := rfl
theorem gRe_reciprocal_49 : fRe_reciprocal 49 = some (.iload 5, 0, 0) := rfl
theorem gRe_reciprocal_51 : fRe_reciprocal 51 = some (.imul, 0, 0) := rfl
theorem gRe_reciprocal_52 : fRe_reciprocal 52 = some (.isub, 0, 0) := rfl
theorem gRe_reciprocal_53 : fRe_reciprocal 53 = some (.istore 9, 0, 0) := rfl
theorem gRe_reciprocal_55 : fRe_reciprocal 55 = some (.iload_n 3, 0, 0) := rfl
theorem gRe_reciprocal_56 : fRe_reciprocal 56 = some (.istore_n 2, 0, 0) := rfl
theorem gRe_reciprocal_57 : fRe_reciprocal 57 = some (.iload 5, 0, 0) := rfl
theorem gRe_reciprocal_59 : fRe_reciprocal 59 = some (.istore 4, 0, 0) := rfl
theorem gRe_reciprocal_61 : fRe_reciprocal 61 = some (.iload 8, 0, 0) := rfl
theorem gRe_reciprocal_63 : fRe_reciprocal 63 = some (.istore_n 3, 0, 0) := rfl
theorem gRe_reciprocal_64 : fRe_reciprocal 64 = some (.iload 9, 0, 0) := rfl
theorem gRe_reciprocal_66 : fRe_reciprocal 66 = some (.istore 5, 0, 0) := rfl
theorem gRe_reciprocal_68 : fRe_reciprocal 68 = some (.iinc 6 (1), 0, 0) := rfl
theorem gRe_reciprocal_71 : fRe_reciprocal 71 = some (.goto (-50), 21, 0) := rfl
theorem gRe_reciprocal_74 : fRe_reciprocal 74 = some (.iload 4, 0, 0) := rfl
theorem gRe_reciprocal_76 : fRe_reciprocal 76 = some (.ifCond .ge (13), 89, 0) := rfl
theorem gRe_reciprocal_79 : fRe_reciprocal 79 = some (.iload 4, 0, 0) := rfl
theorem gRe_reciprocal_81 : fRe_reciprocal 81 = some (.aload_n 0, 0, 0) := rfl
theorem gRe_reciprocal_82 : fRe_reciprocal 82 = some (.getfield 7, 3, 0) := rfl
theorem gRe_reciprocal_85 : fRe_reciprocal 85 = some (.iadd, 0, 0) := rfl
theorem gRe_reciprocal_86 : fRe_reciprocal 86 = some (.goto (5), 91, 0) := rfl
theorem gRe_reciprocal_89 : fRe_reciprocal 89 = some (.iload 4, 0, 0) := rfl
theorem gRe_reciprocal_91 : fRe_reciprocal 91 = some (.ireturn, 0, 0) := rfl
abbrev lRe_raised : List (Nat × Instr × Nat × Nat) := [(0, .iconst 1, 0, 0), (1, .istore_n 3, 0, 0), (2, .iconst 0, 0, 0), (3, .istore 4, 0, 0), (5, .iload 4, 0, 0), (7, .iload_n 2, 0, 0), (8, .if_icmp .ge (16), 24, 0), (11, .aload_n 0, 0, 0), (12, .iload_n 3, 0, 0), (13, .iload_n 1, 0, 0), (14, .invokevirtual 30, 101, 0), (17, .istore_n 3, 0, 0), (18, .iinc 4 (1), 0, 0), (21, .goto (-16), 5, 0), (24, .iload_n 3, 0, 0), (25, .ireturn, 0, 0)]
def fRe_raised : sx_F := sx_tab lRe_raised
theorem kRe_raised : sx_chk "ClassCharacters$Residues" (wy yRe_raised prog_6_method_11_code 5 (some .int)) 5 prog_6_method_11_code lRe_raised = true := by decide +kernel
theorem gRe_raised_0 : fRe_raised 0 = some (.iconst 1, 0, 0) := rfl
theorem gRe_raised_1 : fRe_raised 1 = some (.istore_n 3, 0, 0) := rfl
theorem gRe_raised_2 : fRe_raised 2 = some (.iconst 0, 0, 0) := rfl
theorem gRe_raised_3 : fRe_raised 3 = some (.istore 4, 0, 0) := rfl
theorem gRe_raised_5 : fRe_raised 5 = some (.iload 4, 0, 0) := rfl
theorem gRe_raised_7 : fRe_raised 7 = some (.iload_n 2, 0, 0) := rfl
theorem gRe_raised_8 : fRe_raised 8 = some (.if_icmp .ge (16), 24, 0) := rfl
theorem gRe_raised_11 : fRe_raised 11 = some (.aload_n 0, 0, 0) := rfl
theorem gRe_raised_12 : fRe_raised 12 = some (.iload_n 3, 0, 0) := rfl
theorem gRe_raised_13 : fRe_raised 13 = some (.iload_n 1, 0, 0) := rfl
theorem gRe_raised_14 : fRe_raised 14 = some (.invokevirtual 30, 101, 0) := rfl
theorem gRe_raised_17 : fRe_raised 17 = some (.istore_n 3, 0, 0) := rfl
theorem gRe_raised_18 : fRe_raised 18 = some (.iinc 4 (1), 0, 0) := rfl
theorem gRe_raised_21 : fRe_raised 21 = some (.goto (-16), 5, 0) := rfl
theorem gRe_raised_24 : fRe_raised 24 = some (.iload_n 3, 0, 0) := rfl
theorem gRe_raised_25 : fRe_raised 25 = some (.ireturn, 0, 0) := rfl
abbrev lMa_floorMod : List (Nat × Instr × Nat × Nat) := [(0, .iload_n 0, 0, 0), (1, .iload_n 1, 0, 0), (2, .irem, 0, 0), (3, .istore_n 2, 0, 0), (4, .iload_n 0, 0, 0), (5, .iload_n 1, 0, 0), (6, .ixor, 0, 0), (7, .ifCond .ge (11), 18, 0), (10, .iload_n 2, 0, 0), (11, .ifCond .eq (7), 18, 0), (14, .iload_n 2, 0, 0), (15, .iload_n 1, 0, 0), (16, .iadd, 0, 0), (17, .ireturn, 0, 0), (18, .iload_n 2, 0, 0), (19, .ireturn, 0, 0)]
def fMa_floorMod : sx_F := sx_tab lMa_floorMod
theorem kMa_floorMod : sx_chk "java/lang/Math" (wy yMa_floorMod prog_10_method_50_code 3 (some .int)) 3 prog_10_method_50_code lMa_floorMod = true := by decide +kernel
theorem gMa_floorMod_0 : fMa_floorMod 0 = some (.iload_n 0, 0, 0) := rfl
theorem gMa_floorMod_1 : fMa_floorMod 1 = some (.iload_n 1, 0, 0) := rfl
theorem gMa_floorMod_2 : fMa_floorMod 2 = some (.irem, 0, 0) := rfl
theorem gMa_floorMod_3 : fMa_floorMod 3 = some (.istore_n 2, 0, 0) := rfl
theorem gMa_floorMod_4 : fMa_floorMod 4 = some (.iload_n 0, 0, 0) := rfl
theorem gMa_floorMod_5 : fMa_floorMod 5 = some (.iload_n 1, 0, 0) := rfl
theorem gMa_floorMod_6 : fMa_floorMod 6 = some (.ixor, 0, 0) := rfl
theorem gMa_floorMod_7 : fMa_floorMod 7 = some (.ifCond .ge (11), 18, 0) := rfl
theorem gMa_floorMod_10 : fMa_floorMod 10 = some (.iload_n 2, 0, 0) := rfl
theorem gMa_floorMod_11 : fMa_floorMod 11 = some (.ifCond .eq (7), 18, 0) := rfl
theorem gMa_floorMod_14 : fMa_floorMod 14 = some (.iload_n 2, 0, 0) := rfl
theorem gMa_floorMod_15 : fMa_floorMod 15 = some (.iload_n 1, 0, 0) := rfl
theorem gMa_floorMod_16 : fMa_floorMod 16 = some (.iadd, 0, 0) := rfl
theorem gMa_floorMod_17 : fMa_floorMod 17 = some (.ireturn, 0, 0) := rfl
theorem gMa_floorMod_18 : fMa_floorMod 18 = some (.iload_n 2, 0, 0) := rfl
theorem gMa_floorMod_19 : fMa_floorMod 19 = some (.ireturn, 0, 0) := rfl
abbrev lMa_max : List (Nat × Instr × Nat × Nat) := [(0, .iload_n 0, 0, 0), (1, .iload_n 1, 0, 0), (2, .if_icmp .lt (7), 9, 0), (5, .iload_n 0, 0, 0), (6, .goto (4), 10, 0), (9, .iload_n 1, 0, 0), (10, .ireturn, 0, 0)]
def fMa_max : sx_F := sx_tab lMa_max
theorem kMa_max : sx_chk "java/lang/Math" (wy yMa_max prog_10_method_65_code 2 (some .int)) 2 prog_10_method_65_code lMa_max = true := by decide +kernel
theorem gMa_max_0 : fMa_max 0 = some (.iload_n 0, 0, 0) := rfl
theorem gMa_max_1 : fMa_max 1 = some (.iload_n 1, 0, 0) := rfl
theorem gMa_max_2 : fMa_max 2 = some (.if_icmp .lt (7), 9, 0) := rfl
theorem gMa_max_5 : fMa_max 5 = some (.iload_n 0, 0, 0) := rfl
theorem gMa_max_6 : fMa_max 6 = some (.goto (4), 10, 0) := rfl
theorem gMa_max_9 : fMa_max 9 = some (.iload_n 1, 0, 0) := rfl
theorem gMa_max_10 : fMa_max 10 = some (.ireturn, 0, 0) := rfl
abbrev lAr_fill : List (Nat × Instr × Nat × Nat) := [(0, .iconst 0, 0, 0), (1, .istore_n 2, 0, 0), (2, .aload_n 0, 0, 0), (3, .arraylength, 0, 0), (4, .istore_n 3, 0, 0), (5, .iload_n 2, 0, 0), (6, .iload_n 3, 0, 0), (7, .if_icmp .ge (13), 20, 0), (10, .aload_n 0, 0, 0), (11, .iload_n 2, 0, 0), (12, .iload_n 1, 0, 0), (13, .iastore, 0, 0), (14, .iinc 2 (1), 0, 0), (17, .goto (-12), 5, 0), (20, .return_, 0, 0)]
def fAr_fill : sx_F := sx_tab lAr_fill
theorem kAr_fill : sx_chk "java/util/Arrays" (wy yAr_fill prog_12_method_103_code 4 none) 4 prog_12_method_103_code lAr_fill = true := by decide +kernel
theorem gAr_fill_0 : fAr_fill 0 = some (.iconst 0, 0, 0) := rfl
theorem gAr_fill_1 : fAr_fill 1 = some (.istore_n 2, 0, 0) := rfl
theorem gAr_fill_2 : fAr_fill 2 = some (.aload_n 0, 0, 0) := rfl
theorem gAr_fill_3 : fAr_fill 3 = some (.arraylength, 0, 0) := rfl
theorem gAr_fill_4 : fAr_fill 4 = some (.istore_n 3, 0, 0) := rfl
theorem gAr_fill_5 : fAr_fill 5 = some (.iload_n 2, 0, 0) := rfl
theorem gAr_fill_6 : fAr_fill 6 = some (.iload_n 3, 0, 0) := rfl
theorem gAr_fill_7 : fAr_fill 7 = some (.if_icmp .ge (13), 20, 0) := rfl
theorem gAr_fill_10 : fAr_fill 10 = some (.aload_n 0, 0, 0) := rfl
theorem gAr_fill_11 : fAr_fill 11 = some (.iload_n 2, 0, 0) := rfl
theorem gAr_fill_12 : fAr_fill 12 = some (.iload_n 1, 0, 0) := rfl
theorem gAr_fill_13 : fAr_fill 13 = some (.iastore, 0, 0) := rfl
theorem gAr_fill_14 : fAr_fill 14 = some (.iinc 2 (1), 0, 0) := rfl
theorem gAr_fill_17 : fAr_fill 17 = some (.goto (-12), 5, 0) := rfl
theorem gAr_fill_20 : fAr_fill 20 = some (.return_, 0, 0) := rfl
