abbrev lMo_image : List (Nat × Instr × Nat × Nat) := [(0, .iload_n 0, 0, 0), (1, .iconst 3, 0, 0), (2, .bipush (7), 0, 0), (4, .iload_n 1, 0, 0), (5, .isub, 0, 0), (6, .imul, 0, 0), (7, .ishr, 0, 0), (8, .bipush (7), 0, 0), (10, .iand, 0, 0), (11, .ireturn, 0, 0)]
def fMo_image : sx_F := sx_tab lMo_image
theorem kMo_image : sx_chk "ClassCharactersModel" (wy yMo_image prog_9_method_2_code 2 (some .int)) 2 prog_9_method_2_code lMo_image = true := by decide +kernel
theorem gMo_image_0 : fMo_image 0 = some (.iload_n 0, 0, 0) := rfl
theorem gMo_image_1 : fMo_image 1 = some (.iconst 3, 0, 0) := rfl
theorem gMo_image_2 : fMo_image 2 = some (.bipush (7), 0, 0) := rfl
theorem gMo_image_4 : fMo_image 4 = some (.iload_n 1, 0, 0) := rfl
theorem gMo_image_5 : fMo_image 5 = some (.isub, 0, 0) := rfl
theorem gMo_image_6 : fMo_image 6 = some (.imul, 0, 0) := rfl
theorem gMo_image_7 : fMo_image 7 = some (.ishr, 0, 0) := rfl
theorem gMo_image_8 : fMo_image 8 = some (.bipush (7), 0, 0) := rfl
theorem gMo_image_10 : fMo_image 10 = some (.iand, 0, 0) := rfl
theorem gMo_image_11 : fMo_image 11 = some (.ireturn, 0, 0) := rfl
abbrev lMo_product : List (Nat × Instr × Nat × Nat) := [(0, .iconst 0, 0, 0), (1, .istore_n 2, 0, 0), (2, .iconst 0, 0, 0), (3, .istore_n 3, 0, 0), (4, .iload_n 3, 0, 0), (5, .bipush (8), 0, 0), (7, .if_icmp .ge (28), 35, 0), (10, .iload_n 0, 0, 0), (11, .iload_n 3, 0, 0), (12, .invokestatic 40, 23, 0), (15, .istore 4, 0, 0), (17, .bipush (8), 0, 0), (19, .iload_n 2, 0, 0), (20, .imul, 0, 0), (21, .iload_n 1, 0, 0), (22, .iload 4, 0, 0), (24, .invokestatic 40, 23, 0), (27, .iadd, 0, 0), (28, .istore_n 2, 0, 0), (29, .iinc 3 (1), 0, 0), (32, .goto (-28), 4, 0), (35, .iload_n 2, 0, 0), (36, .ireturn, 0, 0)]
def fMo_product : sx_F := sx_tab lMo_product
theorem kMo_product : sx_chk "ClassCharactersModel" (wy yMo_product prog_9_method_3_code 5 (some .int)) 5 prog_9_method_3_code lMo_product = true := by decide +kernel
theorem gMo_product_0 : fMo_product 0 = some (.iconst 0, 0, 0) := rfl
theorem gMo_product_1 : fMo_product 1 = some (.istore_n 2, 0, 0) := rfl
theorem gMo_product_2 : fMo_product 2 = some (.iconst 0, 0, 0) := rfl
theorem gMo_product_3 : fMo_product 3 = some (.istore_n 3, 0, 0) := rfl
theorem gMo_product_4 : fMo_product 4 = some (.iload_n 3, 0, 0) := rfl
theorem gMo_product_5 : fMo_product 5 = some (.bipush (8), 0, 0) := rfl
theorem gMo_product_7 : fMo_product 7 = some (.if_icmp .ge (28), 35, 0) := rfl
theorem gMo_product_10 : fMo_product 10 = some (.iload_n 0, 0, 0) := rfl
theorem gMo_product_11 : fMo_product 11 = some (.iload_n 3, 0, 0) := rfl
theorem gMo_product_12 : fMo_product 12 = some (.invokestatic 40, 23, 0) := rfl
theorem gMo_product_15 : fMo_product 15 = some (.istore 4, 0, 0) := rfl
theorem gMo_product_17 : fMo_product 17 = some (.bipush (8), 0, 0) := rfl
theorem gMo_product_19 : fMo_product 19 = some (.iload_n 2, 0, 0) := rfl
theorem gMo_product_20 : fMo_product 20 = some (.imul, 0, 0) := rfl
theorem gMo_product_21 : fMo_product 21 = some (.iload_n 1, 0, 0) := rfl
theorem gMo_product_22 : fMo_product 22 = some (.iload 4, 0, 0) := rfl
theorem gMo_product_24 : fMo_product 24 = some (.invokestatic 40, 23, 0) := rfl
theorem gMo_product_27 : fMo_product 27 = some (.iadd, 0, 0) := rfl
theorem gMo_product_28 : fMo_product 28 = some (.istore_n 2, 0, 0) := rfl
theorem gMo_product_29 : fMo_product 29 = some (.iinc 3 (1), 0, 0) := rfl
theorem gMo_product_32 : fMo_product 32 = some (.goto (-28), 4, 0) := rfl
theorem gMo_product_35 : fMo_product 35 = some (.iload_n 2, 0, 0) := rfl
theorem gMo_product_36 : fMo_product 36 = some (.ireturn, 0, 0) := rfl
abbrev lMo_inverted : List (Nat × Instr × Nat × Nat) := [(0, .iconst 0, 0, 0), (1, .istore_n 1, 0, 0), (2, .iconst 0, 0, 0), (3, .istore_n 2, 0, 0), (4, .iload_n 2, 0, 0), (5, .bipush (8), 0, 0), (7, .if_icmp .ge (39), 46, 0), (10, .iconst 0, 0, 0), (11, .istore_n 3, 0, 0), (12, .iload_n 3, 0, 0), (13, .bipush (7), 0, 0), (15, .if_icmp .ge (18), 33, 0), (18, .iload_n 0, 0, 0), (19, .iload_n 3, 0, 0), (20, .invokestatic 40, 23, 0), (23, .iload_n 2, 0, 0), (24, .if_icmp .eq (9), 33, 0), (27, .iinc 3 (1), 0, 0), (30, .goto (-18), 12, 0), (33, .bipush (8), 0, 0), (35, .iload_n 1, 0, 0), (36, .imul, 0, 0), (37, .iload_n 3, 0, 0), (38, .iadd, 0, 0), (39, .istore_n 1, 0, 0), (40, .iinc 2 (1), 0, 0), (43, .goto (-39), 4, 0), (46, .iload_n 1, 0, 0), (47, .ireturn, 0, 0)]
def fMo_inverted : sx_F := sx_tab lMo_inverted
theorem kMo_inverted : sx_chk "ClassCharactersModel" (wy yMo_inverted prog_9_method_4_code 4 (some .int)) 4 prog_9_method_4_code lMo_inverted = true := by decide +kernel
theorem gMo_inverted_0 : fMo_inverted 0 = some (.iconst 0, 0, 0) := rfl
theorem gMo_inverted_1 : fMo_inverted 1 = some (.istore_n 1, 0, 0) := rfl
theorem gMo_inverted_2 : fMo_inverted 2 = some (.iconst 0, 0, 0) := rfl
theorem gMo_inverted_3 : fMo_inverted 3 = some (.istore_n 2, 0, 0) := rfl
theorem gMo_inverted_4 : fMo_inverted 4 = some (.iload_n 2, 0, 0) := rfl
theorem gMo_inverted_5 : fMo_inverted 5 = some (.bipush (8), 0, 0) := rfl
theorem gMo_inverted_7 : fMo_inverted 7 = some (.if_icmp .ge (39), 46, 0) := rfl
theorem gMo_inverted_10 : fMo_inverted 10 = some (.iconst 0, 0, 0) := rfl
theorem gMo_inverted_11 : fMo_inverted 11 = some (.istore_n 3, 0, 0) := rfl
theorem gMo_inverted_12 : fMo_inverted 12 = some (.iload_n 3, 0, 0) := rfl
theorem gMo_inverted_13 : fMo_inverted 13 = some (.bipush (7), 0, 0) := rfl
theorem gMo_inverted_15 : fMo_inverted 15 = some (.if_icmp .ge (18), 33, 0) := rfl
theorem gMo_inverted_18 : fMo_inverted 18 = some (.iload_n 0, 0, 0) := rfl
theorem gMo_inverted_19 : fMo_inverted 19 = some (.iload_n 3, 0, 0) := rfl
theorem gMo_inverted_20 : fMo_inverted 20 = some (.invokestatic 40, 23, 0) := rfl
theorem gMo_inverted_23 : fMo_inverted 23 = some (.iload_n 2, 0, 0) := rfl
theorem gMo_inverted_24 : fMo_inverted 24 = some (.if_icmp .eq (9), 33, 0) := rfl
theorem gMo_inverted_27 : fMo_inverted 27 = some (.iinc 3 (1), 0, 0) := rfl
theorem gMo_inverted_30 : fMo_inverted 30 = some (.goto (-18), 12, 0) := rfl
theorem gMo_inverted_33 : fMo_inverted 33 = some (.bipush (8), 0, 0) := rfl
theorem gMo_inverted_35 : fMo_inverted 35 = some (.iload_n 1, 0, 0) := rfl
theorem gMo_inverted_36 : fMo_inverted 36 = some (.imul, 0, 0) := rfl
theorem gMo_inverted_37 : fMo_inverted 37 = some (.iload_n 3, 0, 0) := rfl
theorem gMo_inverted_38 : fMo_inverted 38 = some (.iadd, 0, 0) := rfl
theorem gMo_inverted_39 : fMo_inverted 39 = some (.istore_n 1, 0, 0) := rfl
theorem gMo_inverted_40 : fMo_inverted 40 = some (.iinc 2 (1), 0, 0) := rfl
theorem gMo_inverted_43 : fMo_inverted 43 = some (.goto (-39), 4, 0) := rfl
theorem gMo_inverted_46 : fMo_inverted 46 = some (.iload_n 1, 0, 0) := rfl
theorem gMo_inverted_47 : fMo_inverted 47 = some (.ireturn, 0, 0) := rfl
abbrev lMo_isPermutation : List (Nat × Instr × Nat × Nat) := [(0, .iconst 0, 0, 0), (1, .istore_n 1, 0, 0), (2, .iconst 0, 0, 0), (3, .istore_n 2, 0, 0), (4, .iload_n 2, 0, 0), (5, .bipush (8), 0, 0), (7, .if_icmp .ge (19), 26, 0), (10, .iload_n 1, 0, 0), (11, .iconst 1, 0, 0), (12, .iload_n 0, 0, 0), (13, .iload_n 2, 0, 0), (14, .invokestatic 40, 23, 0), (17, .ishl, 0, 0), (18, .ior, 0, 0), (19, .istore_n 1, 0, 0), (20, .iinc 2 (1), 0, 0), (23, .goto (-19), 4, 0), (26, .iload_n 0, 0, 0), (27, .ifCond .lt (20), 47, 0), (30, .iload_n 0, 0, 0), (31, .ldc 44, 16777216, 0), (33, .if_icmp .ge (14), 47, 0), (36, .iload_n 1, 0, 0), (37, .sipush (255), 0, 0), (40, .if_icmp .ne (7), 47, 0), (43, .iconst 1, 0, 0), (44, .goto (4), 48, 0), (47, .iconst 0, 0, 0), (48, .ireturn, 0, 0)]
def fMo_isPermutation : sx_F := sx_tab lMo_isPermutation
theorem kMo_isPermutation : sx_chk "ClassCharactersModel" (wy yMo_isPermutation prog_9_method_5_code 3 (some .boolean)) 3 prog_9_method_5_code lMo_isPermutation = true := by decide +kernel
theorem gMo_isPermutation_0 : fMo_isPermutation 0 = some (.iconst 0, 0, 0) := rfl
theorem gMo_isPermutation_1 : fMo_isPermutation 1 = some (.istore_n 1, 0, 0) := rfl
theorem gMo_isPermutation_2 : fMo_isPermutation 2 = some (.iconst 0, 0, 0) := rfl
theorem gMo_isPermutation_3 : fMo_isPermutation 3 = some (.istore_n 2, 0, 0) := rfl
theorem gMo_isPermutation_4 : fMo_isPermutation 4 = some (.iload_n 2, 0, 0) := rfl
theorem gMo_isPermutation_5 : fMo_isPermutation 5 = some (.bipush (8), 0, 0) := rfl
theorem gMo_isPermutation_7 : fMo_isPermutation 7 = some (.if_icmp .ge (19), 26, 0) := rfl
theorem gMo_isPermutation_10 : fMo_isPermutation 10 = some (.iload_n 1, 0, 0) := rfl
theorem gMo_isPermutation_11 : fMo_isPermutation 11 = some (.iconst 1, 0, 0) := rfl
theorem gMo_isPermutation_12 : fMo_isPermutation 12 = some (.iload_n 0, 0, 0) := rfl
theorem gMo_isPermutation_13 : fMo_isPermutation 13 = some (.iload_n 2, 0, 0) := rfl
theorem gMo_isPermutation_14 : fMo_isPermutation 14 = some (.invokestatic 40, 23, 0) := rfl
theorem gMo_isPermutation_17 : fMo_isPermutation 17 = some (.ishl, 0, 0) := rfl
theorem gMo_isPermutation_18 : fMo_isPermutation 18 = some (.ior, 0, 0) := rfl
theorem gMo_isPermutation_19 : fMo_isPermutation 19 = some (.istore_n 1, 0, 0) := rfl
theorem gMo_isPermutation_20 : fMo_isPermutation 20 = some (.iinc 2 (1), 0, 0) := rfl
theorem gMo_isPermutation_23 : fMo_isPermutation 23 = some (.goto (-19), 4, 0) := rfl
theorem gMo_isPermutation_26 : fMo_isPermutation 26 = some (.iload_n 0, 0, 0) := rfl
theorem gMo_isPermutation_27 : fMo_isPermutation 27 = some (.ifCond .lt (20), 47, 0) := rfl
theorem gMo_isPermutation_30 : fMo_isPermutation 30 = some (.iload_n 0, 0, 0) := rfl
theorem gMo_isPermutation_31 : fMo_isPermutation 31 = some (.ldc 44, 16777216, 0) := rfl
theorem gMo_isPermutation_33 : fMo_isPermutation 33 = some (.if_icmp .ge (14), 47, 0) := rfl
theorem gMo_isPermutation_36 : fMo_isPermutation 36 = some (.iload_n 1, 0, 0) := rfl
theorem gMo_isPermutation_37 : fMo_isPermutation 37 = some (.sipush (255), 0, 0) := rfl
theorem gMo_isPermutation_40 : fMo_isPermutation 40 = some (.if_icmp .ne (7), 47, 0) := rfl
theorem gMo_isPermutation_43 : fMo_isPermutation 43 = some (.iconst 1, 0, 0) := rfl
theorem gMo_isPermutation_44 : fMo_isPermutation 44 = some (.goto (4), 48, 0) := rfl
theorem gMo_isPermutation_47 : fMo_isPermutation 47 = some (.iconst 0, 0, 0) := rfl
theorem gMo_isPermutation_48 : fMo_isPermutation 48 = some (.ireturn, 0, 0) := rfl
abbrev lMo_add : List (Nat × Instr × Nat × Nat) := [(0, .iload_n 1, 0, 0), (1, .invokestatic 45, 26, 0), (4, .ifCond .eq (11), 15, 0), (7, .aload_n 0, 0, 0), (8, .getfield 49, 6, 0), (11, .iconst 4, 0, 0), (12, .if_icmp .ne (5), 17, 0), (15, .iconst 0, 0, 0), (16, .ireturn, 0, 0), (17, .aload_n 0, 0, 0), (18, .getfield 7, 6, 1), (21, .aload_n 0, 0, 0), (22, .getfield 49, 6, 0), (25, .iload_n 1, 0, 0), (26, .iastore, 0, 0), (27, .aload_n 0, 0, 0), (28, .dup, 0, 0), (29, .getfield 49, 6, 0), (32, .iconst 1, 0, 0), (33, .iadd, 0, 0), (34, .putfield 49, 6, 0), (37, .aload_n 0, 0, 0), (38, .iconst 0, 0, 0), (39, .putfield 53, 106, 2), (42, .iconst 1, 0, 0), (43, .ireturn, 0, 0)]
def fMo_add : sx_F := sx_tab lMo_add
theorem kMo_add : sx_chk "ClassCharactersModel" (wy yMo_add prog_9_method_6_code 2 (some .boolean)) 2 prog_9_method_6_code lMo_add = true := by decide +kernel
theorem gMo_add_0 : fMo_add 0 = some (.iload_n 1, 0, 0) := rfl
theorem gMo_add_1 : fMo_add 1 = some (.invokestatic 45, 26, 0) := rfl
theorem gMo_add_4 : fMo_add 4 = some (.ifCond .eq (11), 15, 0) := rfl
theorem gMo_add_7 : fMo_add 7 = some (.aload_n 0, 0, 0) := rfl
theorem gMo_add_8 : fMo_add 8 = some (.getfield 49, 6, 0) := rfl
theorem gMo_add_11 : fMo_add 11 = some (.iconst 4, 0, 0) := rfl
theorem gMo_add_12 : fMo_add 12 = some (.if_icmp .ne (5), 17, 0) := rfl
theorem gMo_add_15 : fMo_add 15 = some (.iconst 0, 0, 0) := rfl
theorem gMo_add_16 : fMo_add 16 = some (.ireturn, 0, 0) := rfl
theorem gMo_add_17 : fMo_add 17 = some (.aload_n 0, 0, 0) := rfl
theorem gMo_add_18 : fMo_add 18 = some (.getfield 7, 6, 1) := rfl
theorem gMo_add_21 : fMo_add 21 = some (.aload_n 0, 0, 0) := rfl
theorem gMo_add_22 : fMo_add 22 = some (.getfield 49, 6, 0) := rfl
theorem gMo_add_25 : fMo_add 25 = some (.iload_n 1, 0, 0) := rfl
theorem gMo_add_26 : fMo_add 26 = some (.iastore, 0, 0) := rfl
theorem gMo_add_27 : fMo_add 27 = some (.aload_n 0, 0, 0) := rfl
theorem gMo_add_28 : fMo_add 28 = some (.dup, 0, 0) := rfl
theorem gMo_add_29 : fMo_add 29 = some (.getfield 49, 6, 0) := rfl
theorem gMo_add_32 : fMo_add 32 = some (.iconst 1, 0, 0) := rfl
theorem gMo_add_33 : fMo_add 33 = some (.iadd, 0, 0) := rfl
theorem gMo_add_34 : fMo_add 34 = some (.putfield 49, 6, 0) := rfl
theorem gMo_add_37 : fMo_add 37 = some (.aload_n 0, 0, 0) := rfl
theorem gMo_add_38 : fMo_add 38 = some (.iconst 0, 0, 0) := rfl
theorem gMo_add_39 : fMo_add 39 = some (.putfield 53, 106, 2) := rfl
theorem gMo_add_42 : fMo_add 42 = some (.iconst 1, 0, 0) := rfl
theorem gMo_add_43 : fMo_add 43 = some (.ireturn, 0, 0) := rfl
abbrev lMo_clear : List (Nat × Instr × Nat × Nat) := [(0, .aload_n 0, 0, 0), (1, .iconst 0, 0, 0), (2, .putfield 49, 6, 0), (5, .aload_n 0, 0, 0), (6, .iconst 0, 0, 0), (7, .putfield 53, 106, 2), (10, .return_, 0, 0)]
def fMo_clear : sx_F := sx_tab lMo_clear
theorem kMo_clear : sx_chk "ClassCharactersModel" (wy yMo_clear prog_9_method_7_code 1 none) 1 prog_9_method_7_code lMo_clear = true := by decide +kernel
theorem gMo_clear_0 : fMo_clear 0 = some (.aload_n 0, 0, 0) := rfl
theorem gMo_clear_1 : fMo_clear 1 = some (.iconst 0, 0, 0) := rfl
theorem gMo_clear_2 : fMo_clear 2 = some (.putfield 49, 6, 0) := rfl
theorem gMo_clear_5 : fMo_clear 5 = some (.aload_n 0, 0, 0) := rfl
theorem gMo_clear_6 : fMo_clear 6 = some (.iconst 0, 0, 0) := rfl
theorem gMo_clear_7 : fMo_clear 7 = some (.putfield 53, 106, 2) := rfl
theorem gMo_clear_10 : fMo_clear 10 = some (.return_, 0, 0) := rfl
abbrev lMo_find : List (Nat × Instr × Nat × Nat) := [(0, .iconst 0, 0, 0), (1, .istore_n 2, 0, 0), (2, .iload_n 2, 0, 0), (3, .aload_n 0, 0, 0), (4, .getfield 57, 6, 3), (7, .if_icmp .ge (21), 28, 0), (10, .aload_n 0, 0, 0), (11, .getfield 13, 6, 4), (14, .iload_n 2, 0, 0), (15, .iaload, 0, 0), (16, .iload_n 1, 0, 0), (17, .if_icmp .ne (5), 22, 0), (20, .iload_n 2, 0, 0), (21, .ireturn, 0, 0), (22, .iinc 2 (1), 0, 0), (25, .goto (-23), 2, 0), (28, .iconst (-1), 0, 0), (29, .ireturn, 0, 0)]
def fMo_find : sx_F := sx_tab lMo_find
theorem kMo_find : sx_chk "ClassCharactersModel" (wy yMo_find prog_9_method_8_code 3 (some .int)) 3 prog_9_method_8_code lMo_find = true := by decide +kernel
theorem gMo_find_0 : fMo_find 0 = some (.iconst 0, 0, 0) := rfl
theorem gMo_find_1 : fMo_find 1 = some (.istore_n 2, 0, 0) := rfl
theorem gMo_find_2 : fMo_find 2 = some (.iload_n 2, 0, 0) := rfl
theorem gMo_find_3 : fMo_find 3 = some (.aload_n 0, 0, 0) := rfl
theorem gMo_find_4 : fMo_find 4 = some (.getfield 57, 6, 3) := rfl
theorem gMo_find_7 : fMo_find 7 = some (.if_icmp .ge (21), 28, 0) := rfl
theorem gMo_find_10 : fMo_find 10 = some (.aload_n 0, 0, 0) := rfl
theorem gMo_find_11 : fMo_find 11 = some (.getfield 13, 6, 4) := rfl
theorem gMo_find_14 : fMo_find 14 = some (.iload_n 2, 0, 0) := rfl
theorem gMo_find_15 : fMo_find 15 = some (.iaload, 0, 0) := rfl
theorem gMo_find_16 : fMo_find 16 = some (.iload_n 1, 0, 0) := rfl
theorem gMo_find_17 : fMo_find 17 = some (.if_icmp .ne (5), 22, 0) := rfl
theorem gMo_find_20 : fMo_find 20 = some (.iload_n 2, 0, 0) := rfl
theorem gMo_find_21 : fMo_find 21 = some (.ireturn, 0, 0) := rfl
theorem gMo_find_22 : fMo_find 22 = some (.iinc 2 (1), 0, 0) := rfl
theorem gMo_find_25 : fMo_find 25 = some (.goto (-23), 2, 0) := rfl
theorem gMo_find_28 : fMo_find 28 = some (.iconst (-1), 0, 0) := rfl
theorem gMo_find_29 : fMo_find 29 = some (.ireturn, 0, 0) := rfl
abbrev lMo_close : List (Nat × Instr × Nat × Nat) := [(0, .aload_n 0, 0, 0), (1, .iconst 1, 0, 0), (2, .putfield 57, 6, 3), (5, .aload_n 0, 0, 0), (6, .getfield 13, 6, 4), (9, .iconst 0, 0, 0), (10, .ldc 60, 342391, 0), (12, .iastore, 0, 0), (13, .iconst 0, 0, 0), (14, .istore_n 1, 0, 0), (15, .iload_n 1, 0, 0), (16, .aload_n 0, 0, 0), (17, .getfield 57, 6, 3), (20, .if_icmp .ge (81), 101, 0), (23, .iconst 0, 0, 0), (24, .istore_n 2, 0, 0), (25, .iload_n 2, 0, 0), (26, .aload_n 0, 0, 0), (27, .getfield 49, 6, 0), (30, .if_icmp .ge (65), 95, 0), (33, .aload_n 0, 0, 0), (34, .getfield 13, 6, 4), (37, .iload_n 1, 0, 0), (38, .iaload, 0, 0), (39, .aload_n 0, 0, 0), (40, .getfield 7, 6, 1), (43, .iload_n 2, 0, 0), (44, .iaload, 0, 0), (45, .invokestatic 61, 24, 0), (48, .istore_n 3, 0, 0), (49, .aload_n 0, 0, 0), (50, .iload_n 3, 0, 0), (51, .invokevirtual 64, 29, 0), (54, .iconst (-1), 0, 0), (55, .if_icmp .ne (34), 89, 0), (58, .aload_n 0, 0, 0), (59, .getfield 57, 6, 3), (62, .bipush (120), 0, 0), (64, .if_icmp .ne (5), 69, 0), (67, .iconst 0, 0, 0), (68, .ireturn, 0, 0), (69, .aload_n 0, 0, 0), (70, .getfield 13, 6, 4), (73, .aload_n 0, 0, 0), (74, .getfield 57, 6, 3), (77, .iload_n 3, 0, 0), (78, .iastore, 0, 0), (79, .aload_n 0, 0, 0), (80, .dup, 0, 0), (81, .getfield 57, 6, 3), (84, .iconst 1, 0, 0), (85, .iadd, 0, 0), (86, .putfield 57, 6, 3), (89, .iinc 2 (1), 0, 0), (92, .goto (-67), 25, 0), (95, .iinc 1 (1), 0, 0), (98, .goto (-83), 15, 0), (101, .iconst 1, 0, 0), (102, .istore_n 1, 0, 0), (103, .iload_n 1, 0, 0), (104, .aload_n 0, 0, 0), (105, .getfield 57, 6, 3), (108, .if_icmp .ge (61), 169, 0), (111, .aload_n 0, 0, 0), (112, .getfield 13, 6, 4), (115, .iload_n 1, 0, 0), (116, .iaload, 0, 0), (117, .istore_n 2, 0, 0), (118, .iload_n 1, 0, 0), (119, .istore_n 3, 0, 0), (120, .iload_n 3, 0, 0), (121, .ifCond .le (35), 156, 0), (124, .aload_n 0, 0, 0), (125, .getfield 13, 6, 4), (128, .iload_n 3, 0, 0), (129, .iconst 1, 0, 0), (130, .isub, 0, 0), (131, .iaload, 0, 0), (132, .iload_n 2, 0, 0), (133, .if_icmp .le (23), 156, 0), (136, .aload_n 0, 0, 0), (137, .getfield 13, 6, 4), (140, .iload_n 3, 0, 0), (141, .aload_n 0, 0, 0), (142, .getfield 13, 6, 4), (145, .iload_n 3, 0, 0), (146, .iconst 1, 0, 0), (147, .isub, 0, 0), (148, .iaload, 0, 0), (149, .iastore, 0, 0), (150, .iinc 3 (-1), 0, 0), (153, .goto (-33), 120, 0), (156, .aload_n 0, 0, 0), (157, .getfield 13, 6, 4), (160, .iload_n 3, 0, 0), (161, .iload_n 2, 0, 0), (162, .iastore, 0, 0), (163, .iinc 1 (1), 0, 0), (166, .goto (-63), 103, 0), (169, .iconst 1, 0, 0), (170, .ireturn, 0, 0)]
def fMo_close : sx_F := sx_tab lMo_close
theorem kMo_close : sx_chk "ClassCharactersModel" (wy yMo_close prog_9_method_9_code 4 (some .boolean)) 4 prog_9_method_9_code lMo_close = true := by decide +kernel
theorem gMo_close_0 : fMo_close 0 = some (.aload_n 0, 0, 0) := rfl
theorem gMo_close_1 : fMo_close 1 = some (.iconst 1, 0, 0) := rfl
theorem gMo_close_2 : fMo_close 2 = some (.putfield 57, 6, 3) := rfl
theorem gMo_close_5 : fMo_close 5 = some (.aload_n 0, 0, 0) := rfl
theorem gMo_close_6 : fMo_close 6 = some (.getfield 13, 6, 4) := rfl
theorem gMo_close_9 : fMo_close 9 = some (.iconst 0, 0, 0) := rfl
theorem gMo_close_10 : fMo_close 10 = some (.ldc 60, 342391, 0) := rfl
theorem gMo_close_12 : fMo_close 12 = some (.iastore, 0, 0) := rfl
theorem gMo_close_13 : fMo_close 13 = some (.iconst 0, 0, 0) := rfl
theorem gMo_close_14 : fMo_close 14 = some (.istore_n 1, 0, 0) := rfl
theorem gMo_close_15 : fMo_close 15 = some (.iload_n 1, 0, 0) := rfl
theorem gMo_close_16 : fMo_close 16 = some (.aload_n 0, 0, 0) := rfl
theorem gMo_close_17 : fMo_close 17 = some (.getfield 57, 6, 3) := rfl
theorem gMo_close_20 : fMo_close 20 = some (.if_icmp .ge (81), 101, 0) := rfl
theorem gMo_close_23 : fMo_close 23 = some (.iconst 0, 0, 0) := rfl
theorem gMo_close_24 : fMo_close 24 = some (.istore_n 2, 0, 0) := rfl
theorem gMo_close_25 : fMo_close 25 = some (.iload_n 2, 0, 0) := rfl
theorem gMo_close_26 : fMo_close 26 = some (.aload_n 0, 0, 0) := rfl
theorem gMo_close_27 : fMo_close 27 = some (.getfield 49, 6, 0) := rfl
theorem gMo_close_30 : fMo_close 30 = some (.if_icmp .ge (65), 95, 0) := rfl
theorem gMo_close_33 : fMo_close 33 = some (.aload_n 0, 0, 0) := rfl
theorem gMo_close_34 : fMo_close 34 = some (.getfield 13, 6, 4) := rfl
theorem gMo_close_37 : fMo_close 37 = some (.iload_n 1, 0, 0) := rfl
theorem gMo_close_38 : fMo_close 38 = some (.iaload, 0, 0) := rfl
theorem gMo_close_39 : fMo_close 39 = some (.aload_n 0, 0, 0) := rfl
theorem gMo_close_40 : fMo_close 40 = some (.getfield 7, 6, 1) := rfl
theorem gMo_close_43 : fMo_close 43 = some (.iload_n 2, 0, 0) := rfl
theorem gMo_close_44 : fMo_close 44 = some (.iaload, 0, 0) := rfl
theorem gMo_close_45 : fMo_close 45 = some (.invokestatic 61, 24, 0) := rfl
theorem gMo_close_48 : fMo_close 48 = some (.istore_n 3, 0, 0) := rfl
theorem gMo_close_49 : fMo_close 49 = some (.aload_n 0, 0, 0) := rfl
theorem gMo_close_50 : fMo_close 50 = some (.iload_n 3, 0, 0) := rfl
theorem gMo_close_51 : fMo_close 51 = some (.invokevirtual 64, 29, 0) := rfl
theorem gMo_close_54 : fMo_close 54 = some (.iconst (-1), 0, 0) := rfl
theorem gMo_close_55 : fMo_close 55 = some (.if_icmp .ne (34), 89, 0) := rfl
theorem gMo_close_58 : fMo_close 58 = some (.aload_n 0, 0, 0) := rfl
theorem gMo_close_59 : fMo_close 59 = some (.getfield 57, 6, 3) := rfl
theorem gMo_close_62 : fMo_close 62 = some (.bipush (120), 0, 0) := rfl
theorem gMo_close_64 : fMo_close 64 = some (.if_icmp .ne (5), 69, 0) := rfl
theorem gMo_close_67 : fMo_close 67 = some (.iconst 0, 0, 0) := rfl
theorem gMo_close_68 : fMo_close 68 = some (.ireturn, 0, 0) := rfl
theorem gMo_close_69 : fMo_close 69 = some (.aload_n 0, 0, 0) := rfl
theorem gMo_close_70 : fMo_close 70 = some (.getfield 13, 6, 4) := rfl
theorem gMo_close_73 : fMo_close 73 = some (.aload_n 0, 0, 0) := rfl
theorem gMo_close_74 : fMo_close 74 = some (.getfield 57, 6, 3) := rfl
theorem gMo_close_77 : fMo_close 77 = some (.iload_n 3, 0, 0) := rfl
theorem gMo_close_78 : fMo_close 78 = some (.iastore, 0, 0) := rfl
theorem gMo_close_79 : fMo_close 79 = some (.aload_n 0, 0, 0) := rfl
theorem gMo_close_80 : fMo_close 80 = some (.dup, 0, 0) := rfl
theorem gMo_close_81 : fMo_close 81 = some (.getfield 57, 6, 3) := rfl
theorem gMo_close_84 : fMo_close 84 = some (.iconst 1, 0, 0) := rfl
theorem gMo_close_85 : fMo_close 85 = some (.iadd, 0, 0) := rfl
theorem gMo_close_86 : fMo_close 86 = some (.putfield 57, 6, 3) := rfl
theorem gMo_close_89 : fMo_close 89 = some (.iinc 2 (1), 0, 0) := rfl
theorem gMo_close_92 : fMo_close 92 = some (.goto (-67), 25, 0) := rfl
theorem gMo_close_95 : fMo_close 95 = some (.iinc 1 (1), 0, 0) := rfl
theorem gMo_close_98 : fMo_close 98 = some (.goto (-83), 15, 0) := rfl
theorem gMo_close_101 : fMo_close 101 = some (.iconst 1, 0, 0) := rfl
theorem gMo_close_102 : fMo_close 102 = some (.istore_n 1, 0, 0) := rfl
theorem gMo_close_103 : fMo_close 103 = some (.iload_n 1, 0, 0) := rfl
theorem gMo_close_104 : fMo_close 104 = some (.aload_n 0, 0, 0) := rfl
theorem gMo_close_105 : fMo_close 105 = some (.getfield 57, 6, 3) := rfl
theorem gMo_close_108 : fMo_close 108 = some (.if_icmp .ge (61), 169, 0) := rfl
theorem gMo_close_111 : fMo_close 111 = some (.aload_n 0, 0, 0) := rfl
theorem gMo_close_112 : fMo_close 112 = some (.getfield 13, 6, 4) := rfl
theorem gMo_close_115 : fMo_close 115 = some (.iload_n 1, 0, 0) := rfl
theorem gMo_close_116 : fMo_close 116 = some (.iaload, 0, 0) := rfl
theorem gMo_close_117 : fMo_close 117 = some (.istore_n 2, 0, 0) := rfl
theorem gMo_close_118 : fMo_close 118 = some (.iload_n 1, 0, 0) := rfl
theorem gMo_close_119 : fMo_close 119 = some (.istore_n 3, 0, 0) := rfl
theorem gMo_close_120 : fMo_close 120 = some (.iload_n 3, 0, 0) := rfl
theorem gMo_close_121 : fMo_close 121 = some (.ifCond .le (35), 156, 0) := rfl
theorem gMo_close_124 : fMo_close 124 = some (.aload_n 0, 0, 0) := rfl
theorem gMo_close_125 : fMo_close 125 = some (.getfield 13, 6, 4) := rfl
theorem gMo_close_128 : fMo_close 128 = some (.iload_n 3, 0, 0) := rfl
theorem gMo_close_129 : fMo_close 129 = some (.iconst 1, 0, 0) := rfl
theorem gMo_close_130 : fMo_close 130 = some (.isub, 0, 0) := rfl
theorem gMo_close_131 : fMo_close 131 = some (.iaload, 0, 0) := rfl
theorem gMo_close_132 : fMo_close 132 = some (.iload_n 2, 0, 0) := rfl
theorem gMo_close_133 : fMo_close 133 = some (.if_icmp .le (23), 156, 0) := rfl
theorem gMo_close_136 : fMo_close 136 = some (.aload_n 0, 0, 0) := rfl
theorem gMo_close_137 : fMo_close 137 = some (.getfield 13, 6, 4) := rfl
theorem gMo_close_140 : fMo_close 140 = some (.iload_n 3, 0, 0) := rfl
theorem gMo_close_141 : fMo_close 141 = some (.aload_n 0, 0, 0) := rfl
theorem gMo_close_142 : fMo_close 142 = some (.getfield 13, 6, 4) := rfl
theorem gMo_close_145 : fMo_close 145 = some (.iload_n 3, 0, 0) := rfl
theorem gMo_close_146 : fMo_close 146 = some (.iconst 1, 0, 0) := rfl
theorem gMo_close_147 : fMo_close 147 = some (.isub, 0, 0) := rfl
theorem gMo_close_148 : fMo_close 148 = some (.iaload, 0, 0) := rfl
theorem gMo_close_149 : fMo_close 149 = some (.iastore, 0, 0) := rfl
theorem gMo_close_150 : fMo_close 150 = some (.iinc 3 (-1), 0, 0) := rfl
theorem gMo_close_153 : fMo_close 153 = some (.goto (-33), 120, 0) := rfl
theorem gMo_close_156 : fMo_close 156 = some (.aload_n 0, 0, 0) := rfl
theorem gMo_close_157 : fMo_close 157 = some (.getfield 13, 6, 4) := rfl
theorem gMo_close_160 : fMo_close 160 = some (.iload_n 3, 0, 0) := rfl
theorem gMo_close_161 : fMo_close 161 = some (.iload_n 2, 0, 0) := rfl
theorem gMo_close_162 : fMo_close 162 = some (.iastore, 0, 0) := rfl
theorem gMo_close_163 : fMo_close 163 = some (.iinc 1 (1), 0, 0) := rfl
theorem gMo_close_166 : fMo_close 166 = some (.goto (-63), 103, 0) := rfl
theorem gMo_close_169 : fMo_close 169 = some (.iconst 1, 0, 0) := rfl
theorem gMo_close_170 : fMo_close 170 = some (.ireturn, 0, 0) := rfl
abbrev lMo_classify : List (Nat × Instr × Nat × Nat) := [(0, .aload_n 0, 0, 0), (1, .iconst 0, 0, 0), (2, .putfield 68, 6, 6), (5, .iconst 0, 0, 0), (6, .istore_n 1, 0, 0), (7, .iload_n 1, 0, 0), (8, .aload_n 0, 0, 0), (9, .getfield 57, 6, 3), (12, .if_icmp .ge (16), 28, 0), (15, .aload_n 0, 0, 0), (16, .getfield 16, 6, 5), (19, .iload_n 1, 0, 0), (20, .iconst (-1), 0, 0), (21, .iastore, 0, 0), (22, .iinc 1 (1), 0, 0), (25, .goto (-18), 7, 0), (28, .iconst 0, 0, 0), (29, .istore_n 1, 0, 0), (30, .iload_n 1, 0, 0), (31, .aload_n 0, 0, 0), (32, .getfield 57, 6, 3), (35, .if_icmp .ge (162), 197, 0), (38, .aload_n 0, 0, 0), (39, .getfield 16, 6, 5), (42, .iload_n 1, 0, 0), (43, .iaload, 0, 0), (44, .iconst (-1), 0, 0), (45, .if_icmp .eq (6), 51, 0), (48, .goto (143), 191, 0), (51, .aload_n 0, 0, 0), (52, .getfield 68, 6, 6), (55, .bipush (16), 0, 0), (57, .if_icmp .ne (5), 62, 0), (60, .iconst 0, 0, 0), (61, .ireturn, 0, 0), (62, .aload_n 0, 0, 0), (63, .getfield 22, 6, 8), (66, .aload_n 0, 0, 0), (67, .getfield 68, 6, 6), (70, .aload_n 0, 0, 0), (71, .getfield 13, 6, 4), (74, .iload_n 1, 0, 0), (75, .iaload, 0, 0), (76, .iastore, 0, 0), (77, .aload_n 0, 0, 0), (78, .getfield 19, 6, 7), (81, .aload_n 0, 0, 0), (82, .getfield 68, 6, 6), (85, .iconst 0, 0, 0), (86, .iastore, 0, 0), (87, .iconst 0, 0, 0), (88, .istore_n 2, 0, 0), (89, .iload_n 2, 0, 0), (90, .aload_n 0, 0, 0), (91, .getfield 57, 6, 3), (94, .if_icmp .ge (87), 181, 0), (97, .aload_n 0, 0, 0), (98, .getfield 13, 6, 4), (101, .iload_n 2, 0, 0), (102, .iaload, 0, 0), (103, .invokestatic 71, 25, 0), (106, .istore_n 3, 0, 0), (107, .iload_n 3, 0, 0), (108, .aload_n 0, 0, 0), (109, .getfield 13, 6, 4), (112, .iload_n 1, 0, 0), (113, .iaload, 0, 0), (114, .invokestatic 61, 24, 0), (117, .aload_n 0, 0, 0), (118, .getfield 13, 6, 4), (121, .iload_n 2, 0, 0), (122, .iaload, 0, 0), (123, .invokestatic 61, 24, 0), (126, .istore 4, 0, 0), (128, .aload_n 0, 0, 0), (129, .iload 4, 0, 0), (131, .invokevirtual 64, 29, 0), (134, .istore 5, 0, 0), (136, .aload_n 0, 0, 0), (137, .getfield 19, 6, 7), (140, .aload_n 0, 0, 0), (141, .getfield 68, 6, 6), (144, .dup2, 0, 0), (145, .iaload, 0, 0), (146, .aload_n 0, 0, 0), (147, .getfield 16, 6, 5), (150, .iload 5, 0, 0), (152, .iaload, 0, 0), (153, .iconst (-1), 0, 0), (154, .if_icmp .ne (7), 161, 0), (157, .iconst 1, 0, 0), (158, .goto (4), 162, 0), (161, .iconst 0, 0, 0), (162, .iadd, 0, 0), (163, .iastore, 0, 0), (164, .aload_n 0, 0, 0), (165, .getfield 16, 6, 5), (168, .iload 5, 0, 0), (170, .aload_n 0, 0, 0), (171, .getfield 68, 6, 6), (174, .iastore, 0, 0), (175, .iinc 2 (1), 0, 0), (178, .goto (-89), 89, 0), (181, .aload_n 0, 0, 0), (182, .dup, 0, 0), (183, .getfield 68, 6, 6), (186, .iconst 1, 0, 0), (187, .iadd, 0, 0), (188, .putfield 68, 6, 6), (191, .iinc 1 (1), 0, 0), (194, .goto (-164), 30, 0), (197, .iconst 1, 0, 0), (198, .ireturn, 0, 0)]
def fMo_classify : sx_F := sx_tab lMo_classify
theorem kMo_classify : sx_chk "ClassCharactersModel" (wy yMo_classify prog_9_method_10_code 6 (some .boolean)) 6 prog_9_method_10_code lMo_classify = true := by decide +kernel
theorem gMo_classify_0 : fMo_classify 0 = some (.aload_n 0, 0, 0) := rfl
theorem gMo_classify_1 : fMo_classify 1 = some (.iconst 0, 0, 0) := rfl
theorem gMo_classify_2 : fMo_classify 2 = some (.putfield 68, 6, 6) := rfl
theorem gMo_classify_5 : fMo_classify 5 = some (.iconst 0, 0, 0) := rfl
theorem gMo_classify_6 : fMo_classify 6 = some (.istore_n 1, 0, 0) := rfl
theorem gMo_classify_7 : fMo_classify 7 = some (.iload_n 1, 0, 0) := rfl
theorem gMo_classify_8 : fMo_classify 8 = some (.aload_n 0, 0, 0) := rfl
theorem gMo_classify_9 : fMo_classify 9 = some (.getfield 57, 6, 3) := rfl
theorem gMo_classify_12 : fMo_classify 12 = some (.if_icmp .ge (16), 28, 0) := rfl
theorem gMo_classify_15 : fMo_classify 15 = some (.aload_n 0, 0, 0) := rfl
theorem gMo_classify_16 : fMo_classify 16 = some (.getfield 16, 6, 5) := rfl
theorem gMo_classify_19 : fMo_classify 19 = some (.iload_n 1, 0, 0) := rfl
theorem gMo_classify_20 : fMo_classify 20 = some (.iconst (-1), 0, 0) := rfl
theorem gMo_classify_21 : fMo_classify 21 = some (.iastore, 0, 0) := rfl
theorem gMo_classify_22 : fMo_classify 22 = some (.iinc 1 (1), 0, 0) := rfl
theorem gMo_classify_25 : fMo_classify 25 = some (.goto (-18), 7, 0) := rfl
theorem gMo_classify_28 : fMo_classify 28 = some (.iconst 0, 0, 0) := rfl
theorem gMo_classify_29 : fMo_classify 29 = some (.istore_n 1, 0, 0) := rfl
theorem gMo_classify_30 : fMo_classify 30 = some (.iload_n 1, 0, 0) := rfl
theorem gMo_classify_31 : fMo_classify 31 = some (.aload_n 0, 0, 0) := rfl
theorem gMo_classify_32 : fMo_classify 32 = some (.getfield 57, 6, 3) := rfl
theorem gMo_classify_35 : fMo_classify 35 = some (.if_icmp .ge (162), 197, 0) := rfl
theorem gMo_classify_38 : fMo_classify 38 = some (.aload_n 0, 0, 0) := rfl
theorem gMo_classify_39 : fMo_classify 39 = some (.getfield 16, 6, 5) := rfl
theorem gMo_classify_42 : fMo_classify 42 = some (.iload_n 1, 0, 0) := rfl
theorem gMo_classify_43 : fMo_classify 43 = some (.iaload, 0, 0) := rfl
theorem gMo_classify_44 : fMo_classify 44 = some (.iconst (-1), 0, 0) := rfl
theorem gMo_classify_45 : fMo_classify 45 = some (.if_icmp .eq (6), 51, 0) := rfl
theorem gMo_classify_48 : fMo_classify 48 = some (.goto (143), 191, 0) := rfl
theorem gMo_classify_51 : fMo_classify 51 = some (.aload_n 0, 0, 0) := rfl
theorem gMo_classify_52 : fMo_classify 52 = some (.getfield 68, 6, 6) := rfl
theorem gMo_classify_55 : fMo_classify 55 = some (.bipush (16), 0, 0) := rfl
theorem gMo_classify_57 : fMo_classify 57 = some (.if_icmp .ne (5), 62, 0) := rfl
theorem gMo_classify_60 : fMo_classify 60 = some (.iconst 0, 0, 0) := rfl
theorem gMo_classify_61 : fMo_classify 61 = some (.ireturn, 0, 0) := rfl
theorem gMo_classify_62 : fMo_classify 62 = some (.aload_n 0, 0, 0) := rfl
theorem gMo_classify_63 : fMo_classify 63 = some (.getfield 22, 6, 8) := rfl
theorem gMo_classify_66 : fMo_classify 66 = some (.aload_n 0, 0, 0) := rfl
theorem gMo_classify_67 : fMo_classify 67 = some (.getfield 68, 6, 6) := rfl
theorem gMo_classify_70 : fMo_classify 70 = some (.aload_n 0, 0, 0) := rfl
theorem gMo_classify_71 : fMo_classify 71 = some (.getfield 13, 6, 4) := rfl
theorem gMo_classify_74 : fMo_classify 74 = some (.iload_n 1, 0, 0) := rfl
theorem gMo_classify_75 : fMo_classify 75 = some (.iaload, 0, 0) := rfl
theorem gMo_classify_76 : fMo_classify 76 = some (.iastore, 0, 0) := rfl
theorem gMo_classify_77 : fMo_classify 77 = some (.aload_n 0, 0, 0) := rfl
theorem gMo_classify_78 : fMo_classify 78 = some (.getfield 19, 6, 7) := rfl
theorem gMo_classify_81 : fMo_classify 81 = some (.aload_n 0, 0, 0) := rfl
theorem gMo_classify_82 : fMo_classify 82 = some (.getfield 68, 6, 6) := rfl
theorem gMo_classify_85 : fMo_classify 85 = some (.iconst 0, 0, 0) := rfl
theorem gMo_classify_86 : fMo_classify 86 = some (.iastore, 0, 0) := rfl
theorem gMo_classify_87 : fMo_classify 87 = some (.iconst 0, 0, 0) := rfl
theorem gMo_classify_88 : fMo_classify 88 = some (.istore_n 2, 0, 0) := rfl
theorem gMo_classify_89 : fMo_classify 89 = some (.iload_n 2, 0, 0) := rfl
theorem gMo_classify_90 : fMo_classify 90 = some (.aload_n 0, 0, 0) := rfl
theorem gMo_classify_91 : fMo_classify 91 = some (.getfield 57, 6, 3) := rfl
theorem gMo_classify_94 : fMo_classify 94 = some (.if_icmp .ge (87), 181, 0) := rfl
theorem gMo_classify_97 : fMo_classify 97 = some (.aload_n 0, 0, 0) := rfl
theorem gMo_classify_98 : fMo_classify 98 = some (.getfield 13, 6, 4) := rfl
theorem gMo_classify_101 : fMo_classify 101 = some (.iload_n 2, 0, 0) := rfl
theorem gMo_classify_102 : fMo_classify 102 = some (.iaload, 0, 0) := rfl
theorem gMo_classify_103 : fMo_classify 103 = some (.invokestatic 71, 25, 0) := rfl
theorem gMo_classify_106 : fMo_classify 106 = some (.istore_n 3, 0, 0) := rfl
theorem gMo_classify_107 : fMo_classify 107 = some (.iload_n 3, 0, 0) := rfl
theorem gMo_classify_108 : fMo_classify 108 = some (.aload_n 0, 0, 0) := rfl
theorem gMo_classify_109 : fMo_classify 109 = some (.getfield 13, 6, 4) := rfl
theorem gMo_classify_112 : fMo_classify 112 = some (.iload_n 1, 0, 0) := rfl
theorem gMo_classify_113 : fMo_classify 113 = some (.iaload, 0, 0) := rfl
theorem gMo_classify_114 : fMo_classify 114 = some (.invokestatic 61, 24, 0) := rfl
theorem gMo_classify_117 : fMo_classify 117 = some (.aload_n 0, 0, 0) := rfl
theorem gMo_classify_118 : fMo_classify 118 = some (.getfield 13, 6, 4) := rfl
theorem gMo_classify_121 : fMo_classify 121 = some (.iload_n 2, 0, 0) := rfl
theorem gMo_classify_122 : fMo_classify 122 = some (.iaload, 0, 0) := rfl
theorem gMo_classify_123 : fMo_classify 123 = some (.invokestatic 61, 24, 0) := rfl
theorem gMo_classify_126 : fMo_classify 126 = some (.istore 4, 0, 0) := rfl
theorem gMo_classify_128 : fMo_classify 128 = some (.aload_n 0, 0, 0) := rfl
theorem gMo_classify_129 : fMo_classify 129 = some (.iload 4, 0, 0) := rfl
theorem gMo_classify_131 : fMo_classify 131 = some (.invokevirtual 64, 29, 0) := rfl
theorem gMo_classify_134 : fMo_classify 134 = some (.istore 5, 0, 0) := rfl
theorem gMo_classify_136 : fMo_classify 136 = some (.aload_n 0, 0, 0) := rfl
theorem gMo_classify_137 : fMo_classify 137 = some (.getfield 19, 6, 7) := rfl
theorem gMo_classify_140 : fMo_classify 140 = some (.aload_n 0, 0, 0) := rfl
theorem gMo_classify_141 : fMo_classify 141 = some (.getfield 68, 6, 6) := rfl
theorem gMo_classify_144 : fMo_classify 144 = some (.dup2, 0, 0) := rfl
theorem gMo_classify_145 : fMo_classify 145 = some (.iaload, 0, 0) := rfl
theorem gMo_classify_146 : fMo_classify 146 = some (.aload_n 0, 0, 0) := rfl
theorem gMo_classify_147 : fMo_classify 147 = some (.getfield 16, 6, 5) := rfl
theorem gMo_classify_150 : fMo_classify 150 = some (.iload 5, 0, 0) := rfl
theorem gMo_classify_152 : fMo_classify 152 = some (.iaload, 0, 0) := rfl
theorem gMo_classify_153 : fMo_classify 153 = some (.iconst (-1), 0, 0) := rfl
theorem gMo_classify_154 : fMo_classify 154 = some (.if_icmp .ne (7), 161, 0) := rfl
theorem gMo_classify_157 : fMo_classify 157 = some (.iconst 1, 0, 0) := rfl
theorem gMo_classify_158 : fMo_classify 158 = some (.goto (4), 162, 0) := rfl
theorem gMo_classify_161 : fMo_classify 161 = some (.iconst 0, 0, 0) := rfl
theorem gMo_classify_162 : fMo_classify 162 = some (.iadd, 0, 0) := rfl
theorem gMo_classify_163 : fMo_classify 163 = some (.iastore, 0, 0) := rfl
theorem gMo_classify_164 : fMo_classify 164 = some (.aload_n 0, 0, 0) := rfl
theorem gMo_classify_165 : fMo_classify 165 = some (.getfield 16, 6, 5) := rfl
theorem gMo_classify_168 : fMo_classify 168 = some (.iload 5, 0, 0) := rfl
theorem gMo_classify_170 : fMo_classify 170 = some (.aload_n 0, 0, 0) := rfl
theorem gMo_classify_171 : fMo_classify 171 = some (.getfield 68, 6, 6) := rfl
theorem gMo_classify_174 : fMo_classify 174 = some (.iastore, 0, 0) := rfl
theorem gMo_classify_175 : fMo_classify 175 = some (.iinc 2 (1), 0, 0) := rfl
theorem gMo_classify_178 : fMo_classify 178 = some (.goto (-89), 89, 0) := rfl
theorem gMo_classify_181 : fMo_classify 181 = some (.aload_n 0, 0, 0) := rfl
theorem gMo_classify_182 : fMo_classify 182 = some (.dup, 0, 0) := rfl
theorem gMo_classify_183 : fMo_classify 183 = some (.getfield 68, 6, 6) := rfl
theorem gMo_classify_186 : fMo_classify 186 = some (.iconst 1, 0, 0) := rfl
theorem gMo_classify_187 : fMo_classify 187 = some (.iadd, 0, 0) := rfl
theorem gMo_classify_188 : fMo_classify 188 = some (.putfield 68, 6, 6) := rfl
theorem gMo_classify_191 : fMo_classify 191 = some (.iinc 1 (1), 0, 0) := rfl
theorem gMo_classify_194 : fMo_classify 194 = some (.goto (-164), 30, 0) := rfl
theorem gMo_classify_197 : fMo_classify 197 = some (.iconst 1, 0, 0) := rfl
theorem gMo_classify_198 : fMo_classify 198 = some (.ireturn, 0, 0) := rfl
abbrev lMo_count : List (Nat × Instr × Nat × Nat) := [(0, .iconst 0, 0, 0), (1, .istore_n 1, 0, 0), (2, .iload_n 1, 0, 0), (3, .sipush (4096), 0, 0), (6, .if_icmp .ge (16), 22, 0), (9, .aload_n 0, 0, 0), (10, .getfield 25, 6, 9), (13, .iload_n 1, 0, 0), (14, .iconst 0, 0, 0), (15, .iastore, 0, 0), (16, .iinc 1 (1), 0, 0), (19, .goto (-17), 2, 0), (22, .iconst 0, 0, 0), (23, .istore_n 1, 0, 0), (24, .iload_n 1, 0, 0), (25, .aload_n 0, 0, 0), (26, .getfield 68, 6, 6), (29, .if_icmp .ge (83), 112, 0), (32, .iconst 0, 0, 0), (33, .istore_n 2, 0, 0), (34, .iload_n 2, 0, 0), (35, .aload_n 0, 0, 0), (36, .getfield 57, 6, 3), (39, .if_icmp .ge (67), 106, 0), (42, .aload_n 0, 0, 0), (43, .getfield 13, 6, 4), (46, .iload_n 2, 0, 0), (47, .iaload, 0, 0), (48, .invokestatic 71, 25, 0), (51, .istore_n 3, 0, 0), (52, .iload_n 3, 0, 0), (53, .aload_n 0, 0, 0), (54, .getfield 22, 6, 8), (57, .iload_n 1, 0, 0), (58, .iaload, 0, 0), (59, .invokestatic 61, 24, 0), (62, .istore 4, 0, 0), (64, .aload_n 0, 0, 0), (65, .getfield 25, 6, 9), (68, .sipush (256), 0, 0), (71, .aload_n 0, 0, 0), (72, .getfield 16, 6, 5), (75, .iload_n 2, 0, 0), (76, .iaload, 0, 0), (77, .imul, 0, 0), (78, .bipush (16), 0, 0), (80, .aload_n 0, 0, 0), (81, .getfield 16, 6, 5), (84, .aload_n 0, 0, 0), (85, .iload 4, 0, 0), (87, .invokevirtual 64, 29, 0), (90, .iaload, 0, 0), (91, .imul, 0, 0), (92, .iadd, 0, 0), (93, .iload_n 1, 0, 0), (94, .iadd, 0, 0), (95, .dup2, 0, 0), (96, .iaload, 0, 0), (97, .iconst 1, 0, 0), (98, .iadd, 0, 0), (99, .iastore, 0, 0), (100, .iinc 2 (1), 0, 0), (103, .goto (-69), 34, 0), (106, .iinc 1 (1), 0, 0), (109, .goto (-85), 24, 0), (112, .return_, 0, 0)]
def fMo_count : sx_F := sx_tab lMo_count
theorem kMo_count : sx_chk "ClassCharactersModel" (wy yMo_count prog_9_method_11_code 5 none) 5 prog_9_method_11_code lMo_count = true := by decide +kernel
theorem gMo_count_0 : fMo_count 0 = some (.iconst 0, 0, 0) := rfl
theorem gMo_count_1 : fMo_count 1 = some (.istore_n 1, 0, 0) := rfl
theorem gMo_count_2 : fMo_count 2 = some (.iload_n 1, 0, 0) := rfl
theorem gMo_count_3 : fMo_count 3 = some (.sipush (4096), 0, 0) := rfl
theorem gMo_count_6 : fMo_count 6 = some (.if_icmp .ge (16), 22, 0) := rfl
theorem gMo_count_9 : fMo_count 9 = some (.aload_n 0, 0, 0) := rfl
theorem gMo_count_10 : fMo_count 10 = some (.getfield 25, 6, 9) := rfl
theorem gMo_count_13 : fMo_count 13 = some (.iload_n 1, 0, 0) := rfl
theorem gMo_count_14 : fMo_count 14 = some (.iconst 0, 0, 0) := rfl
theorem gMo_count_15 : fMo_count 15 = some (.iastore, 0, 0) := rfl
theorem gMo_count_16 : fMo_count 16 = some (.iinc 1 (1), 0, 0) := rfl
theorem gMo_count_19 : fMo_count 19 = some (.goto (-17), 2, 0) := rfl
theorem gMo_count_22 : fMo_count 22 = some (.iconst 0, 0, 0) := rfl
theorem gMo_count_23 : fMo_count 23 = some (.istore_n 1, 0, 0) := rfl
theorem gMo_count_24 : fMo_count 24 = some (.iload_n 1, 0, 0) := rfl
theorem gMo_count_25 : fMo_count 25 = some (.aload_n 0, 0, 0) := rfl
theorem gMo_count_26 : fMo_count 26 = some (.getfield 68, 6, 6) := rfl
theorem gMo_count_29 : fMo_count 29 = some (.if_icmp .ge (83), 112, 0) := rfl
theorem gMo_count_32 : fMo_count 32 = some (.iconst 0, 0, 0) := rfl
theorem gMo_count_33 : fMo_count 33 = some (.istore_n 2, 0, 0) := rfl
theorem gMo_count_34 : fMo_count 34 = some (.iload_n 2, 0, 0) := rfl
theorem gMo_count_35 : fMo_count 35 = some (.aload_n 0, 0, 0) := rfl
theorem gMo_count_36 : fMo_count 36 = some (.getfield 57, 6, 3) := rfl
theorem gMo_count_39 : fMo_count 39 = some (.if_icmp .ge (67), 106, 0) := rfl
theorem gMo_count_42 : fMo_count 42 = some (.aload_n 0, 0, 0) := rfl
theorem gMo_count_43 : fMo_count 43 = some (.getfield 13, 6, 4) := rfl
theorem gMo_count_46 : fMo_count 46 = some (.iload_n 2, 0, 0) := rfl
theorem gMo_count_47 : fMo_count 47 = some (.iaload, 0, 0) := rfl
theorem gMo_count_48 : fMo_count 48 = some (.invokestatic 71, 25, 0) := rfl
theorem gMo_count_51 : fMo_count 51 = some (.istore_n 3, 0, 0) := rfl
theorem gMo_count_52 : fMo_count 52 = some (.iload_n 3, 0, 0) := rfl
theorem gMo_count_53 : fMo_count 53 = some (.aload_n 0, 0, 0) := rfl
theorem gMo_count_54 : fMo_count 54 = some (.getfield 22, 6, 8) := rfl
theorem gMo_count_57 : fMo_count 57 = some (.iload_n 1, 0, 0) := rfl
theorem gMo_count_58 : fMo_count 58 = some (.iaload, 0, 0) := rfl
theorem gMo_count_59 : fMo_count 59 = some (.invokestatic 61, 24, 0) := rfl
theorem gMo_count_62 : fMo_count 62 = some (.istore 4, 0, 0) := rfl
theorem gMo_count_64 : fMo_count 64 = some (.aload_n 0, 0, 0) := rfl
theorem gMo_count_65 : fMo_count 65 = some (.getfield 25, 6, 9) := rfl
theorem gMo_count_68 : fMo_count 68 = some (.sipush (256), 0, 0) := rfl
theorem gMo_count_71 : fMo_count 71 = some (.aload_n 0, 0, 0) := rfl
theorem gMo_count_72 : fMo_count 72 = some (.getfield 16, 6, 5) := rfl
theorem gMo_count_75 : fMo_count 75 = some (.iload_n 2, 0, 0) := rfl
theorem gMo_count_76 : fMo_count 76 = some (.iaload, 0, 0) := rfl
theorem gMo_count_77 : fMo_count 77 = some (.imul, 0, 0) := rfl
theorem gMo_count_78 : fMo_count 78 = some (.bipush (16), 0, 0) := rfl
theorem gMo_count_80 : fMo_count 80 = some (.aload_n 0, 0, 0) := rfl
theorem gMo_count_81 : fMo_count 81 = some (.getfield 16, 6, 5) := rfl
theorem gMo_count_84 : fMo_count 84 = some (.aload_n 0, 0, 0) := rfl
theorem gMo_count_85 : fMo_count 85 = some (.iload 4, 0, 0) := rfl
theorem gMo_count_87 : fMo_count 87 = some (.invokevirtual 64, 29, 0) := rfl
theorem gMo_count_90 : fMo_count 90 = some (.iaload, 0, 0) := rfl
theorem gMo_count_91 : fMo_count 91 = some (.imul, 0, 0) := rfl
theorem gMo_count_92 : fMo_count 92 = some (.iadd, 0, 0) := rfl
theorem gMo_count_93 : fMo_count 93 = some (.iload_n 1, 0, 0) := rfl
theorem gMo_count_94 : fMo_count 94 = some (.iadd, 0, 0) := rfl
theorem gMo_count_95 : fMo_count 95 = some (.dup2, 0, 0) := rfl
theorem gMo_count_96 : fMo_count 96 = some (.iaload, 0, 0) := rfl
theorem gMo_count_97 : fMo_count 97 = some (.iconst 1, 0, 0) := rfl
theorem gMo_count_98 : fMo_count 98 = some (.iadd, 0, 0) := rfl
theorem gMo_count_99 : fMo_count 99 = some (.iastore, 0, 0) := rfl
theorem gMo_count_100 : fMo_count 100 = some (.iinc 2 (1), 0, 0) := rfl
theorem gMo_count_103 : fMo_count 103 = some (.goto (-69), 34, 0) := rfl
theorem gMo_count_106 : fMo_count 106 = some (.iinc 1 (1), 0, 0) := rfl
theorem gMo_count_109 : fMo_count 109 = some (.goto (-85), 24, 0) := rfl
theorem gMo_count_112 : fMo_count 112 = some (.return_, 0, 0) := rfl
abbrev lMo_powerOf : List (Nat × Instr × Nat × Nat) := [(0, .ldc 60, 342391, 0), (2, .istore_n 3, 0, 0), (3, .iconst 0, 0, 0), (4, .istore 4, 0, 0), (6, .iload 4, 0, 0), (8, .iload_n 2, 0, 0), (9, .if_icmp .ge (15), 24, 0), (12, .iload_n 3, 0, 0), (13, .iload_n 1, 0, 0), (14, .invokestatic 61, 24, 0), (17, .istore_n 3, 0, 0), (18, .iinc 4 (1), 0, 0), (21, .goto (-15), 6, 0), (24, .iload_n 3, 0, 0), (25, .ireturn, 0, 0)]
def fMo_powerOf : sx_F := sx_tab lMo_powerOf
theorem kMo_powerOf : sx_chk "ClassCharactersModel" (wy yMo_powerOf prog_9_method_12_code 5 (some .int)) 5 prog_9_method_12_code lMo_powerOf = true := by decide +kernel
theorem gMo_powerOf_0 : fMo_powerOf 0 = some (.ldc 60, 342391, 0) := rfl
theorem gMo_powerOf_2 : fMo_powerOf 2 = some (.istore_n 3, 0, 0) := rfl
theorem gMo_powerOf_3 : fMo_powerOf 3 = some (.iconst 0, 0, 0) := rfl
theorem gMo_powerOf_4 : fMo_powerOf 4 = some (.istore 4, 0, 0) := rfl
theorem gMo_powerOf_6 : fMo_powerOf 6 = some (.iload 4, 0, 0) := rfl
theorem gMo_powerOf_8 : fMo_powerOf 8 = some (.iload_n 2, 0, 0) := rfl
theorem gMo_powerOf_9 : fMo_powerOf 9 = some (.if_icmp .ge (15), 24, 0) := rfl
theorem gMo_powerOf_12 : fMo_powerOf 12 = some (.iload_n 3, 0, 0) := rfl
theorem gMo_powerOf_13 : fMo_powerOf 13 = some (.iload_n 1, 0, 0) := rfl
theorem gMo_powerOf_14 : fMo_powerOf 14 = some (.invokestatic 61, 24, 0) := rfl
theorem gMo_powerOf_17 : fMo_powerOf 17 = some (.istore_n 3, 0, 0) := rfl
theorem gMo_powerOf_18 : fMo_powerOf 18 = some (.iinc 4 (1), 0, 0) := rfl
theorem gMo_powerOf_21 : fMo_powerOf 21 = some (.goto (-15), 6, 0) := rfl
theorem gMo_powerOf_24 : fMo_powerOf 24 = some (.iload_n 3, 0, 0) := rfl
theorem gMo_powerOf_25 : fMo_powerOf 25 = some (.ireturn, 0, 0) := rfl
abbrev lMo_allAtOnce : List (Nat × Instr × Nat × Nat) := [(0, .iconst 1, 0, 0), (1, .istore_n 2, 0, 0), (2, .iconst 0, 0, 0), (3, .istore_n 3, 0, 0), (4, .iload_n 3, 0, 0), (5, .aload_n 0, 0, 0), (6, .getfield 68, 6, 6), (9, .if_icmp .ge (35), 44, 0), (12, .iload_n 2, 0, 0), (13, .ifCond .eq (23), 36, 0), (16, .aload_n 0, 0, 0), (17, .aload_n 0, 0, 0), (18, .getfield 22, 6, 8), (21, .iload_n 3, 0, 0), (22, .iaload, 0, 0), (23, .iload_n 1, 0, 0), (24, .invokevirtual 74, 33, 0), (27, .ldc 60, 342391, 0), (29, .if_icmp .ne (7), 36, 0), (32, .iconst 1, 0, 0), (33, .goto (4), 37, 0), (36, .iconst 0, 0, 0), (37, .istore_n 2, 0, 0), (38, .iinc 3 (1), 0, 0), (41, .goto (-37), 4, 0), (44, .iload_n 2, 0, 0), (45, .ireturn, 0, 0)]
def fMo_allAtOnce : sx_F := sx_tab lMo_allAtOnce
theorem kMo_allAtOnce : sx_chk "ClassCharactersModel" (wy yMo_allAtOnce prog_9_method_13_code 4 (some .boolean)) 4 prog_9_method_13_code lMo_allAtOnce = true := by decide +kernel
theorem gMo_allAtOnce_0 : fMo_allAtOnce 0 = some (.iconst 1, 0, 0) := rfl
theorem gMo_allAtOnce_1 : fMo_allAtOnce 1 = some (.istore_n 2, 0, 0) := rfl
theorem gMo_allAtOnce_2 : fMo_allAtOnce 2 = some (.iconst 0, 0, 0) := rfl
theorem gMo_allAtOnce_3 : fMo_allAtOnce 3 = some (.istore_n 3, 0, 0) := rfl
theorem gMo_allAtOnce_4 : fMo_allAtOnce 4 = some (.iload_n 3, 0, 0) := rfl
theorem gMo_allAtOnce_5 : fMo_allAtOnce 5 = some (.aload_n 0, 0, 0) := rfl
theorem gMo_allAtOnce_6 : fMo_allAtOnce 6 = some (.getfield 68, 6, 6) := rfl
theorem gMo_allAtOnce_9 : fMo_allAtOnce 9 = some (.if_icmp .ge (35), 44, 0) := rfl
theorem gMo_allAtOnce_12 : fMo_allAtOnce 12 = some (.iload_n 2, 0, 0) := rfl
theorem gMo_allAtOnce_13 : fMo_allAtOnce 13 = some (.ifCond .eq (23), 36, 0) := rfl
theorem gMo_allAtOnce_16 : fMo_allAtOnce 16 = some (.aload_n 0, 0, 0) := rfl
theorem gMo_allAtOnce_17 : fMo_allAtOnce 17 = some (.aload_n 0, 0, 0) := rfl
theorem gMo_allAtOnce_18 : fMo_allAtOnce 18 = some (.getfield 22, 6, 8) := rfl
theorem gMo_allAtOnce_21 : fMo_allAtOnce 21 = some (.iload_n 3, 0, 0) := rfl
theorem gMo_allAtOnce_22 : fMo_allAtOnce 22 = some (.iaload, 0, 0) := rfl
theorem gMo_allAtOnce_23 : fMo_allAtOnce 23 = some (.iload_n 1, 0, 0) := rfl
theorem gMo_allAtOnce_24 : fMo_allAtOnce 24 = some (.invokevirtual 74, 33, 0) := rfl
theorem gMo_allAtOnce_27 : fMo_allAtOnce 27 = some (.ldc 60, 342391, 0) := rfl
theorem gMo_allAtOnce_29 : fMo_allAtOnce 29 = some (.if_icmp .ne (7), 36, 0) := rfl
theorem gMo_allAtOnce_32 : fMo_allAtOnce 32 = some (.iconst 1, 0, 0) := rfl
theorem gMo_allAtOnce_33 : fMo_allAtOnce 33 = some (.goto (4), 37, 0) := rfl
theorem gMo_allAtOnce_36 : fMo_allAtOnce 36 = some (.iconst 0, 0, 0) := rfl
theorem gMo_allAtOnce_37 : fMo_allAtOnce 37 = some (.istore_n 2, 0, 0) := rfl
theorem gMo_allAtOnce_38 : fMo_allAtOnce 38 = some (.iinc 3 (1), 0, 0) := rfl
theorem gMo_allAtOnce_41 : fMo_allAtOnce 41 = some (.goto (-37), 4, 0) := rfl
theorem gMo_allAtOnce_44 : fMo_allAtOnce 44 = some (.iload_n 2, 0, 0) := rfl
theorem gMo_allAtOnce_45 : fMo_allAtOnce 45 = some (.ireturn, 0, 0) := rfl
abbrev lMo_isPrime : List (Nat × Instr × Nat × Nat) := [(0, .iload_n 0, 0, 0), (1, .iconst 1, 0, 0), (2, .if_icmp .le (7), 9, 0), (5, .iconst 1, 0, 0), (6, .goto (4), 10, 0), (9, .iconst 0, 0, 0), (10, .istore_n 1, 0, 0), (11, .iconst 2, 0, 0), (12, .istore_n 2, 0, 0), (13, .iload_n 2, 0, 0), (14, .iload_n 2, 0, 0), (15, .imul, 0, 0), (16, .iload_n 0, 0, 0), (17, .if_icmp .gt (25), 42, 0), (20, .iload_n 1, 0, 0), (21, .ifCond .eq (13), 34, 0), (24, .iload_n 0, 0, 0), (25, .iload_n 2, 0, 0), (26, .irem, 0, 0), (27, .ifCond .eq (7), 34, 0), (30, .iconst 1, 0, 0), (31, .goto (4), 35, 0), (34, .iconst 0, 0, 0), (35, .istore_n 1, 0, 0), (36, .iinc 2 (1), 0, 0), (39, .goto (-26), 13, 0), (42, .iload_n 1, 0, 0), (43, .ireturn, 0, 0)]
def fMo_isPrime : sx_F := sx_tab lMo_isPrime
theorem kMo_isPrime : sx_chk "ClassCharactersModel" (wy yMo_isPrime prog_9_method_14_code 3 (some .boolean)) 3 prog_9_method_14_code lMo_isPrime = true := by decide +kernel
theorem gMo_isPrime_0 : fMo_isPrime 0 = some (.iload_n 0, 0, 0) := rfl
theorem gMo_isPrime_1 : fMo_isPrime 1 = some (.iconst 1, 0, 0) := rfl
theorem gMo_isPrime_2 : fMo_isPrime 2 = some (.if_icmp .le (7), 9, 0) := rfl
theorem gMo_isPrime_5 : fMo_isPrime 5 = some (.iconst 1, 0, 0) := rfl
theorem gMo_isPrime_6 : fMo_isPrime 6 = some (.goto (4), 10, 0) := rfl
theorem gMo_isPrime_9 : fMo_isPrime 9 = some (.iconst 0, 0, 0) := rfl
theorem gMo_isPrime_10 : fMo_isPrime 10 = some (.istore_n 1, 0, 0) := rfl
theorem gMo_isPrime_11 : fMo_isPrime 11 = some (.iconst 2, 0, 0) := rfl
theorem gMo_isPrime_12 : fMo_isPrime 12 = some (.istore_n 2, 0, 0) := rfl
theorem gMo_isPrime_13 : fMo_isPrime 13 = some (.iload_n 2, 0, 0) := rfl
theorem gMo_isPrime_14 : fMo_isPrime 14 = some (.iload_n 2, 0, 0) := rfl
theorem gMo_isPrime_15 : fMo_isPrime 15 = some (.imul, 0, 0) := rfl
theorem gMo_isPrime_16 : fMo_isPrime 16 = some (.iload_n 0, 0, 0) := rfl
theorem gMo_isPrime_17 : fMo_isPrime 17 = some (.if_icmp .gt (25), 42, 0) := rfl
theorem gMo_isPrime_20 : fMo_isPrime 20 = some (.iload_n 1, 0, 0) := rfl
theorem gMo_isPrime_21 : fMo_isPrime 21 = some (.ifCond .eq (13), 34, 0) := rfl
theorem gMo_isPrime_24 : fMo_isPrime 24 = some (.iload_n 0, 0, 0) := rfl
theorem gMo_isPrime_25 : fMo_isPrime 25 = some (.iload_n 2, 0, 0) := rfl
theorem gMo_isPrime_26 : fMo_isPrime 26 = some (.irem, 0, 0) := rfl
theorem gMo_isPrime_27 : fMo_isPrime 27 = some (.ifCond .eq (7), 34, 0) := rfl
theorem gMo_isPrime_30 : fMo_isPrime 30 = some (.iconst 1, 0, 0) := rfl
theorem gMo_isPrime_31 : fMo_isPrime 31 = some (.goto (4), 35, 0) := rfl
theorem gMo_isPrime_34 : fMo_isPrime 34 = some (.iconst 0, 0, 0) := rfl
theorem gMo_isPrime_35 : fMo_isPrime 35 = some (.istore_n 1, 0, 0) := rfl
theorem gMo_isPrime_36 : fMo_isPrime 36 = some (.iinc 2 (1), 0, 0) := rfl
theorem gMo_isPrime_39 : fMo_isPrime 39 = some (.goto (-26), 13, 0) := rfl
theorem gMo_isPrime_42 : fMo_isPrime 42 = some (.iload_n 1, 0, 0) := rfl
theorem gMo_isPrime_43 : fMo_isPrime 43 = some (.ireturn, 0, 0) := rfl
abbrev lMo_numbers : List (Nat × Instr × Nat × Nat) := [(0, .aload_n 0, 0, 0), (1, .iconst 1, 0, 0), (2, .putfield 77, 6, 10), (5, .aload_n 0, 0, 0), (6, .getfield 77, 6, 10), (9, .sipush (840), 0, 0), (12, .if_icmp .ge (27), 39, 0), (15, .aload_n 0, 0, 0), (16, .aload_n 0, 0, 0), (17, .getfield 77, 6, 10), (20, .invokevirtual 80, 34, 0), (23, .ifCond .ne (16), 39, 0), (26, .aload_n 0, 0, 0), (27, .dup, 0, 0), (28, .getfield 77, 6, 10), (31, .iconst 1, 0, 0), (32, .iadd, 0, 0), (33, .putfield 77, 6, 10), (36, .goto (-31), 5, 0), (39, .aload_n 0, 0, 0), (40, .iconst 2, 0, 0), (41, .putfield 83, 6, 11), (44, .aload_n 0, 0, 0), (45, .getfield 83, 6, 11), (48, .sipush (10000), 0, 0), (51, .if_icmp .ge (58), 109, 0), (54, .aload_n 0, 0, 0), (55, .getfield 83, 6, 11), (58, .invokestatic 86, 35, 0), (61, .ifCond .eq (35), 96, 0), (64, .aload_n 0, 0, 0), (65, .getfield 83, 6, 11), (68, .aload_n 0, 0, 0), (69, .getfield 83, 6, 11), (72, .imul, 0, 0), (73, .iconst 4, 0, 0), (74, .aload_n 0, 0, 0), (75, .getfield 57, 6, 3), (78, .imul, 0, 0), (79, .if_icmp .le (17), 96, 0), (82, .aload_n 0, 0, 0), (83, .getfield 83, 6, 11), (86, .iconst 1, 0, 0), (87, .isub, 0, 0), (88, .aload_n 0, 0, 0), (89, .getfield 77, 6, 10), (92, .irem, 0, 0), (93, .ifCond .eq (16), 109, 0), (96, .aload_n 0, 0, 0), (97, .dup, 0, 0), (98, .getfield 83, 6, 11), (101, .iconst 1, 0, 0), (102, .iadd, 0, 0), (103, .putfield 83, 6, 11), (106, .goto (-62), 44, 0), (109, .aload_n 0, 0, 0), (110, .iconst 1, 0, 0), (111, .putfield 89, 6, 12), (114, .aload_n 0, 0, 0), (115, .getfield 89, 6, 12), (118, .aload_n 0, 0, 0), (119, .getfield 83, 6, 11), (122, .if_icmp .ge (27), 149, 0), (125, .aload_n 0, 0, 0), (126, .aload_n 0, 0, 0), (127, .getfield 89, 6, 12), (130, .invokevirtual 92, 37, 0), (133, .ifCond .ne (16), 149, 0), (136, .aload_n 0, 0, 0), (137, .dup, 0, 0), (138, .getfield 89, 6, 12), (141, .iconst 1, 0, 0), (142, .iadd, 0, 0), (143, .putfield 89, 6, 12), (146, .goto (-32), 114, 0), (149, .return_, 0, 0)]
def fMo_numbers : sx_F := sx_tab lMo_numbers
theorem kMo_numbers : sx_chk "ClassCharactersModel" (wy yMo_numbers prog_9_method_15_code 1 none) 1 prog_9_method_15_code lMo_numbers = true := by decide +kernel
theorem gMo_numbers_0 : fMo_numbers 0 = some (.aload_n 0, 0, 0) := rfl
theorem gMo_numbers_1 : fMo_numbers 1 = some (.iconst 1, 0, 0) := rfl
theorem gMo_numbers_2 : fMo_numbers 2 = some (.putfield 77, 6, 10) := rfl
theorem gMo_numbers_5 : fMo_numbers 5 = some (.aload_n 0, 0, 0) := rfl
theorem gMo_numbers_6 : fMo_numbers 6 = some (.getfield 77, 6, 10) := rfl
theorem gMo_numbers_9 : fMo_numbers 9 = some (.sipush (840), 0, 0) := rfl
theorem gMo_numbers_12 : fMo_numbers 12 = some (.if_icmp .ge (27), 39, 0) := rfl
theorem gMo_numbers_15 : fMo_numbers 15 = some (.aload_n 0, 0, 0) := rfl
theorem gMo_numbers_16 : fMo_numbers 16 = some (.aload_n 0, 0, 0) := rfl
theorem gMo_numbers_17 : fMo_numbers 17 = some (.getfield 77, 6, 10) := rfl
theorem gMo_numbers_20 : fMo_numbers 20 = some (.invokevirtual 80, 34, 0) := rfl
theorem gMo_numbers_23 : fMo_numbers 23 = some (.ifCond .ne (16), 39, 0) := rfl
theorem gMo_numbers_26 : fMo_numbers 26 = some (.aload_n 0, 0, 0) := rfl
theorem gMo_numbers_27 : fMo_numbers 27 = some (.dup, 0, 0) := rfl
theorem gMo_numbers_28 : fMo_numbers 28 = some (.getfield 77, 6, 10) := rfl
theorem gMo_numbers_31 : fMo_numbers 31 = some (.iconst 1, 0, 0) := rfl
theorem gMo_numbers_32 : fMo_numbers 32 = some (.iadd, 0, 0) := rfl
theorem gMo_numbers_33 : fMo_numbers 33 = some (.putfield 77, 6, 10) := rfl
theorem gMo_numbers_36 : fMo_numbers 36 = some (.goto (-31), 5, 0) := rfl
theorem gMo_numbers_39 : fMo_numbers 39 = some (.aload_n 0, 0, 0) := rfl
theorem gMo_numbers_40 : fMo_numbers 40 = some (.iconst 2, 0, 0) := rfl
theorem gMo_numbers_41 : fMo_numbers 41 = some (.putfield 83, 6, 11) := rfl
theorem gMo_numbers_44 : fMo_numbers 44 = some (.aload_n 0, 0, 0) := rfl
theorem gMo_numbers_45 : fMo_numbers 45 = some (.getfield 83, 6, 11) := rfl
theorem gMo_numbers_48 : fMo_numbers 48 = some (.sipush (10000), 0, 0) := rfl
theorem gMo_numbers_51 : fMo_numbers 51 = some (.if_icmp .ge (58), 109, 0) := rfl
theorem gMo_numbers_54 : fMo_numbers 54 = some (.aload_n 0, 0, 0) := rfl
theorem gMo_numbers_55 : fMo_numbers 55 = some (.getfield 83, 6, 11) := rfl
theorem gMo_numbers_58 : fMo_numbers 58 = some (.invokestatic 86, 35, 0) := rfl
theorem gMo_numbers_61 : fMo_numbers 61 = some (.ifCond .eq (35), 96, 0) := rfl
theorem gMo_numbers_64 : fMo_numbers 64 = some (.aload_n 0, 0, 0) := rfl
theorem gMo_numbers_65 : fMo_numbers 65 = some (.getfield 83, 6, 11) := rfl
theorem gMo_numbers_68 : fMo_numbers 68 = some (.aload_n 0, 0, 0) := rfl
theorem gMo_numbers_69 : fMo_numbers 69 = some (.getfield 83, 6, 11) := rfl
theorem gMo_numbers_72 : fMo_numbers 72 = some (.imul, 0, 0) := rfl
theorem gMo_numbers_73 : fMo_numbers 73 = some (.iconst 4, 0, 0) := rfl
theorem gMo_numbers_74 : fMo_numbers 74 = some (.aload_n 0, 0, 0) := rfl
theorem gMo_numbers_75 : fMo_numbers 75 = some (.getfield 57, 6, 3) := rfl
theorem gMo_numbers_78 : fMo_numbers 78 = some (.imul, 0, 0) := rfl
theorem gMo_numbers_79 : fMo_numbers 79 = some (.if_icmp .le (17), 96, 0) := rfl
theorem gMo_numbers_82 : fMo_numbers 82 = some (.aload_n 0, 0, 0) := rfl
theorem gMo_numbers_83 : fMo_numbers 83 = some (.getfield 83, 6, 11) := rfl
theorem gMo_numbers_86 : fMo_numbers 86 = some (.iconst 1, 0, 0) := rfl
theorem gMo_numbers_87 : fMo_numbers 87 = some (.isub, 0, 0) := rfl
theorem gMo_numbers_88 : fMo_numbers 88 = some (.aload_n 0, 0, 0) := rfl
theorem gMo_numbers_89 : fMo_numbers 89 = some (.getfield 77, 6, 10) := rfl
theorem gMo_numbers_92 : fMo_numbers 92 = some (.irem, 0, 0) := rfl
theorem gMo_numbers_93 : fMo_numbers 93 = some (.ifCond .eq (16), 109, 0) := rfl
theorem gMo_numbers_96 : fMo_numbers 96 = some (.aload_n 0, 0, 0) := rfl
theorem gMo_numbers_97 : fMo_numbers 97 = some (.dup, 0, 0) := rfl
theorem gMo_numbers_98 : fMo_numbers 98 = some (.getfield 83, 6, 11) := rfl
theorem gMo_numbers_101 : fMo_numbers 101 = some (.iconst 1, 0, 0) := rfl
theorem gMo_numbers_102 : fMo_numbers 102 = some (.iadd, 0, 0) := rfl
theorem gMo_numbers_103 : fMo_numbers 103 = some (.putfield 83, 6, 11) := rfl
theorem gMo_numbers_106 : fMo_numbers 106 = some (.goto (-62), 44, 0) := rfl
theorem gMo_numbers_109 : fMo_numbers 109 = some (.aload_n 0, 0, 0) := rfl
theorem gMo_numbers_110 : fMo_numbers 110 = some (.iconst 1, 0, 0) := rfl
theorem gMo_numbers_111 : fMo_numbers 111 = some (.putfield 89, 6, 12) := rfl
theorem gMo_numbers_114 : fMo_numbers 114 = some (.aload_n 0, 0, 0) := rfl
theorem gMo_numbers_115 : fMo_numbers 115 = some (.getfield 89, 6, 12) := rfl
theorem gMo_numbers_118 : fMo_numbers 118 = some (.aload_n 0, 0, 0) := rfl
theorem gMo_numbers_119 : fMo_numbers 119 = some (.getfield 83, 6, 11) := rfl
theorem gMo_numbers_122 : fMo_numbers 122 = some (.if_icmp .ge (27), 149, 0) := rfl
theorem gMo_numbers_125 : fMo_numbers 125 = some (.aload_n 0, 0, 0) := rfl
theorem gMo_numbers_126 : fMo_numbers 126 = some (.aload_n 0, 0, 0) := rfl
theorem gMo_numbers_127 : fMo_numbers 127 = some (.getfield 89, 6, 12) := rfl
theorem gMo_numbers_130 : fMo_numbers 130 = some (.invokevirtual 92, 37, 0) := rfl
theorem gMo_numbers_133 : fMo_numbers 133 = some (.ifCond .ne (16), 149, 0) := rfl
theorem gMo_numbers_136 : fMo_numbers 136 = some (.aload_n 0, 0, 0) := rfl
theorem gMo_numbers_137 : fMo_numbers 137 = some (.dup, 0, 0) := rfl
theorem gMo_numbers_138 : fMo_numbers 138 = some (.getfield 89, 6, 12) := rfl
theorem gMo_numbers_141 : fMo_numbers 141 = some (.iconst 1, 0, 0) := rfl
theorem gMo_numbers_142 : fMo_numbers 142 = some (.iadd, 0, 0) := rfl
theorem gMo_numbers_143 : fMo_numbers 143 = some (.putfield 89, 6, 12) := rfl
theorem gMo_numbers_146 : fMo_numbers 146 = some (.goto (-32), 114, 0) := rfl
theorem gMo_numbers_149 : fMo_numbers 149 = some (.return_, 0, 0) := rfl
abbrev lMo_isRoot : List (Nat × Instr × Nat × Nat) := [(0, .iconst 1, 0, 0), (1, .istore_n 2, 0, 0), (2, .iconst 0, 0, 0), (3, .istore_n 3, 0, 0), (4, .iconst 1, 0, 0), (5, .istore 4, 0, 0), (7, .iload 4, 0, 0), (9, .aload_n 0, 0, 0), (10, .getfield 77, 6, 10), (13, .if_icmp .gt (42), 55, 0), (16, .iload_n 2, 0, 0), (17, .iload_n 1, 0, 0), (18, .imul, 0, 0), (19, .aload_n 0, 0, 0), (20, .getfield 83, 6, 11), (23, .irem, 0, 0), (24, .istore_n 2, 0, 0), (25, .iload_n 3, 0, 0), (26, .ifCond .ne (17), 43, 0), (29, .iload_n 2, 0, 0), (30, .iconst 1, 0, 0), (31, .if_icmp .ne (16), 47, 0), (34, .iload 4, 0, 0), (36, .aload_n 0, 0, 0), (37, .getfield 77, 6, 10), (40, .if_icmp .ge (7), 47, 0), (43, .iconst 1, 0, 0), (44, .goto (4), 48, 0), (47, .iconst 0, 0, 0), (48, .istore_n 3, 0, 0), (49, .iinc 4 (1), 0, 0), (52, .goto (-45), 7, 0), (55, .iload_n 2, 0, 0), (56, .iconst 1, 0, 0), (57, .if_icmp .ne (11), 68, 0), (60, .iload_n 3, 0, 0), (61, .ifCond .ne (7), 68, 0), (64, .iconst 1, 0, 0), (65, .goto (4), 69, 0), (68, .iconst 0, 0, 0), (69, .ireturn, 0, 0)]
def fMo_isRoot : sx_F := sx_tab lMo_isRoot
theorem kMo_isRoot : sx_chk "ClassCharactersModel" (wy yMo_isRoot prog_9_method_16_code 5 (some .boolean)) 5 prog_9_method_16_code lMo_isRoot = true := by decide +kernel
theorem gMo_isRoot_0 : fMo_isRoot 0 = some (.iconst 1, 0, 0) := rfl
theorem gMo_isRoot_1 : fMo_isRoot 1 = some (.istore_n 2, 0, 0) := rfl
theorem gMo_isRoot_2 : fMo_isRoot 2 = some (.iconst 0, 0, 0) := rfl
theorem gMo_isRoot_3 : fMo_isRoot 3 = some (.istore_n 3, 0, 0) := rfl
theorem gMo_isRoot_4 : fMo_isRoot 4 = some (.iconst 1, 0, 0) := rfl
theorem gMo_isRoot_5 : fMo_isRoot 5 = some (.istore 4, 0, 0) := rfl
theorem gMo_isRoot_7 : fMo_isRoot 7 = some (.iload 4, 0, 0) := rfl
theorem gMo_isRoot_9 : fMo_isRoot 9 = some (.aload_n 0, 0, 0) := rfl
theorem gMo_isRoot_10 : fMo_isRoot 10 = some (.getfield 77, 6, 10) := rfl
theorem gMo_isRoot_13 : fMo_isRoot 13 = some (.if_icmp .gt (42), 55, 0) := rfl
theorem gMo_isRoot_16 : fMo_isRoot 16 = some (.iload_n 2, 0, 0) := rfl
theorem gMo_isRoot_17 : fMo_isRoot 17 = some (.iload_n 1, 0, 0) := rfl
theorem gMo_isRoot_18 : fMo_isRoot 18 = some (.imul, 0, 0) := rfl
theorem gMo_isRoot_19 : fMo_isRoot 19 = some (.aload_n 0, 0, 0) := rfl
theorem gMo_isRoot_20 : fMo_isRoot 20 = some (.getfield 83, 6, 11) := rfl
theorem gMo_isRoot_23 : fMo_isRoot 23 = some (.irem, 0, 0) := rfl
theorem gMo_isRoot_24 : fMo_isRoot 24 = some (.istore_n 2, 0, 0) := rfl
theorem gMo_isRoot_25 : fMo_isRoot 25 = some (.iload_n 3, 0, 0) := rfl
theorem gMo_isRoot_26 : fMo_isRoot 26 = some (.ifCond .ne (17), 43, 0) := rfl
theorem gMo_isRoot_29 : fMo_isRoot 29 = some (.iload_n 2, 0, 0) := rfl
theorem gMo_isRoot_30 : fMo_isRoot 30 = some (.iconst 1, 0, 0) := rfl
theorem gMo_isRoot_31 : fMo_isRoot 31 = some (.if_icmp .ne (16), 47, 0) := rfl
theorem gMo_isRoot_34 : fMo_isRoot 34 = some (.iload 4, 0, 0) := rfl
theorem gMo_isRoot_36 : fMo_isRoot 36 = some (.aload_n 0, 0, 0) := rfl
theorem gMo_isRoot_37 : fMo_isRoot 37 = some (.getfield 77, 6, 10) := rfl
theorem gMo_isRoot_40 : fMo_isRoot 40 = some (.if_icmp .ge (7), 47, 0) := rfl
theorem gMo_isRoot_43 : fMo_isRoot 43 = some (.iconst 1, 0, 0) := rfl
theorem gMo_isRoot_44 : fMo_isRoot 44 = some (.goto (4), 48, 0) := rfl
theorem gMo_isRoot_47 : fMo_isRoot 47 = some (.iconst 0, 0, 0) := rfl
theorem gMo_isRoot_48 : fMo_isRoot 48 = some (.istore_n 3, 0, 0) := rfl
theorem gMo_isRoot_49 : fMo_isRoot 49 = some (.iinc 4 (1), 0, 0) := rfl
theorem gMo_isRoot_52 : fMo_isRoot 52 = some (.goto (-45), 7, 0) := rfl
theorem gMo_isRoot_55 : fMo_isRoot 55 = some (.iload_n 2, 0, 0) := rfl
theorem gMo_isRoot_56 : fMo_isRoot 56 = some (.iconst 1, 0, 0) := rfl
theorem gMo_isRoot_57 : fMo_isRoot 57 = some (.if_icmp .ne (11), 68, 0) := rfl
theorem gMo_isRoot_60 : fMo_isRoot 60 = some (.iload_n 3, 0, 0) := rfl
theorem gMo_isRoot_61 : fMo_isRoot 61 = some (.ifCond .ne (7), 68, 0) := rfl
theorem gMo_isRoot_64 : fMo_isRoot 64 = some (.iconst 1, 0, 0) := rfl
theorem gMo_isRoot_65 : fMo_isRoot 65 = some (.goto (4), 69, 0) := rfl
theorem gMo_isRoot_68 : fMo_isRoot 68 = some (.iconst 0, 0, 0) := rfl
theorem gMo_isRoot_69 : fMo_isRoot 69 = some (.ireturn, 0, 0) := rfl
abbrev lMo_mod : List (Nat × Instr × Nat × Nat) := [(0, .iload_n 1, 0, 0), (1, .aload_n 0, 0, 0), (2, .getfield 83, 6, 11), (5, .irem, 0, 0), (6, .istore_n 2, 0, 0), (7, .iload_n 2, 0, 0), (8, .ifCond .ge (12), 20, 0), (11, .iload_n 2, 0, 0), (12, .aload_n 0, 0, 0), (13, .getfield 83, 6, 11), (16, .iadd, 0, 0), (17, .goto (4), 21, 0), (20, .iload_n 2, 0, 0), (21, .ireturn, 0, 0)]
def fMo_mod : sx_F := sx_tab lMo_mod
theorem kMo_mod : sx_chk "ClassCharactersModel" (wy yMo_mod prog_9_method_17_code 3 (some .int)) 3 prog_9_method_17_code lMo_mod = true := by decide +kernel
theorem gMo_mod_0 : fMo_mod 0 = some (.iload_n 1, 0, 0) := rfl
theorem gMo_mod_1 : fMo_mod 1 = some (.aload_n 0, 0, 0) := rfl
theorem gMo_mod_2 : fMo_mod 2 = some (.getfield 83, 6, 11) := rfl
theorem gMo_mod_5 : fMo_mod 5 = some (.irem, 0, 0) := rfl
theorem gMo_mod_6 : fMo_mod 6 = some (.istore_n 2, 0, 0) := rfl
theorem gMo_mod_7 : fMo_mod 7 = some (.iload_n 2, 0, 0) := rfl
theorem gMo_mod_8 : fMo_mod 8 = some (.ifCond .ge (12), 20, 0) := rfl
theorem gMo_mod_11 : fMo_mod 11 = some (.iload_n 2, 0, 0) := rfl
theorem gMo_mod_12 : fMo_mod 12 = some (.aload_n 0, 0, 0) := rfl
theorem gMo_mod_13 : fMo_mod 13 = some (.getfield 83, 6, 11) := rfl
theorem gMo_mod_16 : fMo_mod 16 = some (.iadd, 0, 0) := rfl
theorem gMo_mod_17 : fMo_mod 17 = some (.goto (4), 21, 0) := rfl
theorem gMo_mod_20 : fMo_mod 20 = some (.iload_n 2, 0, 0) := rfl
theorem gMo_mod_21 : fMo_mod 21 = some (.ireturn, 0, 0) := rfl
abbrev lMo_raised : List (Nat × Instr × Nat × Nat) := [(0, .iconst 1, 0, 0), (1, .istore_n 3, 0, 0), (2, .iconst 0, 0, 0), (3, .istore 4, 0, 0), (5, .iload 4, 0, 0), (7, .iload_n 2, 0, 0), (8, .if_icmp .ge (18), 26, 0), (11, .iload_n 3, 0, 0), (12, .iload_n 1, 0, 0), (13, .imul, 0, 0), (14, .aload_n 0, 0, 0), (15, .getfield 83, 6, 11), (18, .irem, 0, 0), (19, .istore_n 3, 0, 0), (20, .iinc 4 (1), 0, 0), (23, .goto (-18), 5, 0), (26, .iload_n 3, 0, 0), (27, .ireturn, 0, 0)]
def fMo_raised : sx_F := sx_tab lMo_raised
theorem kMo_raised : sx_chk "ClassCharactersModel" (wy yMo_raised prog_9_method_18_code 5 (some .int)) 5 prog_9_method_18_code lMo_raised = true := by decide +kernel
theorem gMo_raised_0 : fMo_raised 0 = some (.iconst 1, 0, 0) := rfl
theorem gMo_raised_1 : fMo_raised 1 = some (.istore_n 3, 0, 0) := rfl
theorem gMo_raised_2 : fMo_raised 2 = some (.iconst 0, 0, 0) := rfl
theorem gMo_raised_3 : fMo_raised 3 = some (.istore 4, 0, 0) := rfl
theorem gMo_raised_5 : fMo_raised 5 = some (.iload 4, 0, 0) := rfl
theorem gMo_raised_7 : fMo_raised 7 = some (.iload_n 2, 0, 0) := rfl
theorem gMo_raised_8 : fMo_raised 8 = some (.if_icmp .ge (18), 26, 0) := rfl
theorem gMo_raised_11 : fMo_raised 11 = some (.iload_n 3, 0, 0) := rfl
theorem gMo_raised_12 : fMo_raised 12 = some (.iload_n 1, 0, 0) := rfl
theorem gMo_raised_13 : fMo_raised 13 = some (.imul, 0, 0) := rfl
theorem gMo_raised_14 : fMo_raised 14 = some (.aload_n 0, 0, 0) := rfl
theorem gMo_raised_15 : fMo_raised 15 = some (.getfield 83, 6, 11) := rfl
theorem gMo_raised_18 : fMo_raised 18 = some (.irem, 0, 0) := rfl
theorem gMo_raised_19 : fMo_raised 19 = some (.istore_n 3, 0, 0) := rfl
theorem gMo_raised_20 : fMo_raised 20 = some (.iinc 4 (1), 0, 0) := rfl
theorem gMo_raised_23 : fMo_raised 23 = some (.goto (-18), 5, 0) := rfl
theorem gMo_raised_26 : fMo_raised 26 = some (.iload_n 3, 0, 0) := rfl
theorem gMo_raised_27 : fMo_raised 27 = some (.ireturn, 0, 0) := rfl
abbrev lMo_over : List (Nat × Instr × Nat × Nat) := [(0, .aload_n 0, 0, 0), (1, .iload_n 1, 0, 0), (2, .invokevirtual 95, 38, 0), (5, .aload_n 0, 0, 0), (6, .aload_n 0, 0, 0), (7, .iload_n 2, 0, 0), (8, .invokevirtual 95, 38, 0), (11, .aload_n 0, 0, 0), (12, .getfield 83, 6, 11), (15, .iconst 2, 0, 0), (16, .isub, 0, 0), (17, .invokevirtual 98, 39, 0), (20, .imul, 0, 0), (21, .aload_n 0, 0, 0), (22, .getfield 83, 6, 11), (25, .irem, 0, 0), (26, .ireturn, 0, 0)]
def fMo_over : sx_F := sx_tab lMo_over
theorem kMo_over : sx_chk "ClassCharactersModel" (wy yMo_over prog_9_method_19_code 3 (some .int)) 3 prog_9_method_19_code lMo_over = true := by decide +kernel
theorem gMo_over_0 : fMo_over 0 = some (.aload_n 0, 0, 0) := rfl
theorem gMo_over_1 : fMo_over 1 = some (.iload_n 1, 0, 0) := rfl
theorem gMo_over_2 : fMo_over 2 = some (.invokevirtual 95, 38, 0) := rfl
theorem gMo_over_5 : fMo_over 5 = some (.aload_n 0, 0, 0) := rfl
theorem gMo_over_6 : fMo_over 6 = some (.aload_n 0, 0, 0) := rfl
theorem gMo_over_7 : fMo_over 7 = some (.iload_n 2, 0, 0) := rfl
theorem gMo_over_8 : fMo_over 8 = some (.invokevirtual 95, 38, 0) := rfl
theorem gMo_over_11 : fMo_over 11 = some (.aload_n 0, 0, 0) := rfl
theorem gMo_over_12 : fMo_over 12 = some (.getfield 83, 6, 11) := rfl
theorem gMo_over_15 : fMo_over 15 = some (.iconst 2, 0, 0) := rfl
theorem gMo_over_16 : fMo_over 16 = some (.isub, 0, 0) := rfl
theorem gMo_over_17 : fMo_over 17 = some (.invokevirtual 98, 39, 0) := rfl
theorem gMo_over_20 : fMo_over 20 = some (.imul, 0, 0) := rfl
theorem gMo_over_21 : fMo_over 21 = some (.aload_n 0, 0, 0) := rfl
theorem gMo_over_22 : fMo_over 22 = some (.getfield 83, 6, 11) := rfl
theorem gMo_over_25 : fMo_over 25 = some (.irem, 0, 0) := rfl
theorem gMo_over_26 : fMo_over 26 = some (.ireturn, 0, 0) := rfl
abbrev lMo_multiply : List (Nat × Instr × Nat × Nat) := [(0, .iconst 0, 0, 0), (1, .istore 4, 0, 0), (3, .iload 4, 0, 0), (5, .bipush (16), 0, 0), (7, .if_icmp .ge (148), 155, 0), (10, .iconst 0, 0, 0), (11, .istore 5, 0, 0), (13, .iconst 0, 0, 0), (14, .istore 6, 0, 0), (16, .iload 6, 0, 0), (18, .aload_n 0, 0, 0), (19, .getfield 68, 6, 6), (22, .if_icmp .ge (113), 135, 0), (25, .iconst 0, 0, 0), (26, .istore 7, 0, 0), (28, .iconst 0, 0, 0), (29, .istore 8, 0, 0), (31, .iload 8, 0, 0), (33, .aload_n 0, 0, 0), (34, .getfield 68, 6, 6), (37, .if_icmp .ge (67), 104, 0), (40, .aload_n 0, 0, 0), (41, .getfield 28, 6, 13), (44, .bipush (16), 0, 0), (46, .iload_n 2, 0, 0), (47, .imul, 0, 0), (48, .iload 6, 0, 0), (50, .iadd, 0, 0), (51, .iaload, 0, 0), (52, .ifCond .eq (52), 104, 0), (55, .iload 7, 0, 0), (57, .aload_n 0, 0, 0), (58, .getfield 28, 6, 13), (61, .bipush (16), 0, 0), (63, .iload_n 3, 0, 0), (64, .imul, 0, 0), (65, .iload 8, 0, 0), (67, .iadd, 0, 0), (68, .iaload, 0, 0), (69, .aload_n 0, 0, 0), (70, .getfield 25, 6, 9), (73, .sipush (256), 0, 0), (76, .iload 6, 0, 0), (78, .imul, 0, 0), (79, .bipush (16), 0, 0), (81, .iload 8, 0, 0), (83, .imul, 0, 0), (84, .iadd, 0, 0), (85, .iload 4, 0, 0), (87, .iadd, 0, 0), (88, .iaload, 0, 0), (89, .imul, 0, 0), (90, .iadd, 0, 0), (91, .aload_n 0, 0, 0), (92, .getfield 83, 6, 11), (95, .irem, 0, 0), (96, .istore 7, 0, 0), (98, .iinc 8 (1), 0, 0), (101, .goto (-70), 31, 0), (104, .iload 5, 0, 0), (106, .aload_n 0, 0, 0), (107, .getfield 28, 6, 13), (110, .bipush (16), 0, 0), (112, .iload_n 2, 0, 0), (113, .imul, 0, 0), (114, .iload 6, 0, 0), (116, .iadd, 0, 0), (117, .iaload, 0, 0), (118, .iload 7, 0, 0), (120, .imul, 0, 0), (121, .iadd, 0, 0), (122, .aload_n 0, 0, 0), (123, .getfield 83, 6, 11), (126, .irem, 0, 0), (127, .istore 5, 0, 0), (129, .iinc 6 (1), 0, 0), (132, .goto (-116), 16, 0), (135, .aload_n 0, 0, 0), (136, .getfield 28, 6, 13), (139, .bipush (16), 0, 0), (141, .iload_n 1, 0, 0), (142, .imul, 0, 0), (143, .iload 4, 0, 0), (145, .iadd, 0, 0), (146, .iload 5, 0, 0), (148, .iastore, 0, 0), (149, .iinc 4 (1), 0, 0), (152, .goto (-149), 3, 0), (155, .return_, 0, 0)]
def fMo_multiply : sx_F := sx_tab lMo_multiply
theorem kMo_multiply : sx_chk "ClassCharactersModel" (wy yMo_multiply prog_9_method_20_code 9 none) 9 prog_9_method_20_code lMo_multiply = true := by decide +kernel
theorem gMo_multiply_0 : fMo_multiply 0 = some (.iconst 0, 0, 0) := rfl
theorem gMo_multiply_1 : fMo_multiply 1 = some (.istore 4, 0, 0) := rfl
theorem gMo_multiply_3 : fMo_multiply 3 = some (.iload 4, 0, 0) := rfl
theorem gMo_multiply_5 : fMo_multiply 5 = some (.bipush (16), 0, 0) := rfl
theorem gMo_multiply_7 : fMo_multiply 7 = some (.if_icmp .ge (148), 155, 0) := rfl
theorem gMo_multiply_10 : fMo_multiply 10 = some (.iconst 0, 0, 0) := rfl
theorem gMo_multiply_11 : fMo_multiply 11 = some (.istore 5, 0, 0) := rfl
theorem gMo_multiply_13 : fMo_multiply 13 = some (.iconst 0, 0, 0) := rfl
theorem gMo_multiply_14 : fMo_multiply 14 = some (.istore 6, 0, 0) := rfl
theorem gMo_multiply_16 : fMo_multiply 16 = some (.iload 6, 0, 0) := rfl
theorem gMo_multiply_18 : fMo_multiply 18 = some (.aload_n 0, 0, 0) := rfl
theorem gMo_multiply_19 : fMo_multiply 19 = some (.getfield 68, 6, 6) := rfl
theorem gMo_multiply_22 : fMo_multiply 22 = some (.if_icmp .ge (113), 135, 0) := rfl
theorem gMo_multiply_25 : fMo_multiply 25 = some (.iconst 0, 0, 0) := rfl
theorem gMo_multiply_26 : fMo_multiply 26 = some (.istore 7, 0, 0) := rfl
theorem gMo_multiply_28 : fMo_multiply 28 = some (.iconst 0, 0, 0) := rfl
theorem gMo_multiply_29 : fMo_multiply 29 = some (.istore 8, 0, 0) := rfl
theorem gMo_multiply_31 : fMo_multiply 31 = some (.iload 8, 0, 0) := rfl
theorem gMo_multiply_33 : fMo_multiply 33 = some (.aload_n 0, 0, 0) := rfl
theorem gMo_multiply_34 : fMo_multiply 34 = some (.getfield 68, 6, 6) := rfl
theorem gMo_multiply_37 : fMo_multiply 37 = some (.if_icmp .ge (67), 104, 0) := rfl
theorem gMo_multiply_40 : fMo_multiply 40 = some (.aload_n 0, 0, 0) := rfl
theorem gMo_multiply_41 : fMo_multiply 41 = some (.getfield 28, 6, 13) := rfl
theorem gMo_multiply_44 : fMo_multiply 44 = some (.bipush (16), 0, 0) := rfl
theorem gMo_multiply_46 : fMo_multiply 46 = some (.iload_n 2, 0, 0) := rfl
theorem gMo_multiply_47 : fMo_multiply 47 = some (.imul, 0, 0) := rfl
theorem gMo_multiply_48 : fMo_multiply 48 = some (.iload 6, 0, 0) := rfl
theorem gMo_multiply_50 : fMo_multiply 50 = some (.iadd, 0, 0) := rfl
theorem gMo_multiply_51 : fMo_multiply 51 = some (.iaload, 0, 0) := rfl
theorem gMo_multiply_52 : fMo_multiply 52 = some (.ifCond .eq (52), 104, 0) := rfl
theorem gMo_multiply_55 : fMo_multiply 55 = some (.iload 7, 0, 0) := rfl
theorem gMo_multiply_57 : fMo_multiply 57 = some (.aload_n 0, 0, 0) := rfl
theorem gMo_multiply_58 : fMo_multiply 58 = some (.getfield 28, 6, 13) := rfl
theorem gMo_multiply_61 : fMo_multiply 61 = some (.bipush (16), 0, 0) := rfl
theorem gMo_multiply_63 : fMo_multiply 63 = some (.iload_n 3, 0, 0) := rfl
theorem gMo_multiply_64 : fMo_multiply 64 = some (.imul, 0, 0) := rfl
theorem gMo_multiply_65 : fMo_multiply 65 = some (.iload 8, 0, 0) := rfl
theorem gMo_multiply_67 : fMo_multiply 67 = some (.iadd, 0, 0) := rfl
theorem gMo_multiply_68 : fMo_multiply 68 = some (.iaload, 0, 0) := rfl
theorem gMo_multiply_69 : fMo_multiply 69 = some (.aload_n 0, 0, 0) := rfl
theorem gMo_multiply_70 : fMo_multiply 70 = some (.getfield 25, 6, 9) := rfl
theorem gMo_multiply_73 : fMo_multiply 73 = some (.sipush (256), 0, 0) := rfl
theorem gMo_multiply_76 : fMo_multiply 76 = some (.iload 6, 0, 0) := rfl
theorem gMo_multiply_78 : fMo_multiply 78 = some (.imul, 0, 0) := rfl
theorem gMo_multiply_79 : fMo_multiply 79 = some (.bipush (16), 0, 0) := rfl
theorem gMo_multiply_81 : fMo_multiply 81 = some (.iload 8, 0, 0) := rfl
theorem gMo_multiply_83 : fMo_multiply 83 = some (.imul, 0, 0) := rfl
theorem gMo_multiply_84 : fMo_multiply 84 = some (.iadd, 0, 0) := rfl
theorem gMo_multiply_85 : fMo_multiply 85 = some (.iload 4, 0, 0) := rfl
theorem gMo_multiply_87 : fMo_multiply 87 = some (.iadd, 0, 0) := rfl
theorem gMo_multiply_88 : fMo_multiply 88 = some (.iaload, 0, 0) := rfl
theorem gMo_multiply_89 : fMo_multiply 89 = some (.imul, 0, 0) := rfl
theorem gMo_multiply_90 : fMo_multiply 90 = some (.iadd, 0, 0) := rfl
theorem gMo_multiply_91 : fMo_multiply 91 = some (.aload_n 0, 0, 0) := rfl
theorem gMo_multiply_92 : fMo_multiply 92 = some (.getfield 83, 6, 11) := rfl
theorem gMo_multiply_95 : fMo_multiply 95 = some (.irem, 0, 0) := rfl
theorem gMo_multiply_96 : fMo_multiply 96 = some (.istore 7, 0, 0) := rfl
theorem gMo_multiply_98 : fMo_multiply 98 = some (.iinc 8 (1), 0, 0) := rfl
theorem gMo_multiply_101 : fMo_multiply 101 = some (.goto (-70), 31, 0) := rfl
theorem gMo_multiply_104 : fMo_multiply 104 = some (.iload 5, 0, 0) := rfl
theorem gMo_multiply_106 : fMo_multiply 106 = some (.aload_n 0, 0, 0) := rfl
theorem gMo_multiply_107 : fMo_multiply 107 = some (.getfield 28, 6, 13) := rfl
theorem gMo_multiply_110 : fMo_multiply 110 = some (.bipush (16), 0, 0) := rfl
theorem gMo_multiply_112 : fMo_multiply 112 = some (.iload_n 2, 0, 0) := rfl
theorem gMo_multiply_113 : fMo_multiply 113 = some (.imul, 0, 0) := rfl
theorem gMo_multiply_114 : fMo_multiply 114 = some (.iload 6, 0, 0) := rfl
theorem gMo_multiply_116 : fMo_multiply 116 = some (.iadd, 0, 0) := rfl
theorem gMo_multiply_117 : fMo_multiply 117 = some (.iaload, 0, 0) := rfl
theorem gMo_multiply_118 : fMo_multiply 118 = some (.iload 7, 0, 0) := rfl
theorem gMo_multiply_120 : fMo_multiply 120 = some (.imul, 0, 0) := rfl
theorem gMo_multiply_121 : fMo_multiply 121 = some (.iadd, 0, 0) := rfl
theorem gMo_multiply_122 : fMo_multiply 122 = some (.aload_n 0, 0, 0) := rfl
theorem gMo_multiply_123 : fMo_multiply 123 = some (.getfield 83, 6, 11) := rfl
theorem gMo_multiply_126 : fMo_multiply 126 = some (.irem, 0, 0) := rfl
theorem gMo_multiply_127 : fMo_multiply 127 = some (.istore 5, 0, 0) := rfl
theorem gMo_multiply_129 : fMo_multiply 129 = some (.iinc 6 (1), 0, 0) := rfl
theorem gMo_multiply_132 : fMo_multiply 132 = some (.goto (-116), 16, 0) := rfl
theorem gMo_multiply_135 : fMo_multiply 135 = some (.aload_n 0, 0, 0) := rfl
theorem gMo_multiply_136 : fMo_multiply 136 = some (.getfield 28, 6, 13) := rfl
theorem gMo_multiply_139 : fMo_multiply 139 = some (.bipush (16), 0, 0) := rfl
theorem gMo_multiply_141 : fMo_multiply 141 = some (.iload_n 1, 0, 0) := rfl
theorem gMo_multiply_142 : fMo_multiply 142 = some (.imul, 0, 0) := rfl
theorem gMo_multiply_143 : fMo_multiply 143 = some (.iload 4, 0, 0) := rfl
theorem gMo_multiply_145 : fMo_multiply 145 = some (.iadd, 0, 0) := rfl
theorem gMo_multiply_146 : fMo_multiply 146 = some (.iload 5, 0, 0) := rfl
theorem gMo_multiply_148 : fMo_multiply 148 = some (.iastore, 0, 0) := rfl
theorem gMo_multiply_149 : fMo_multiply 149 = some (.iinc 4 (1), 0, 0) := rfl
theorem gMo_multiply_152 : fMo_multiply 152 = some (.goto (-149), 3, 0) := rfl
theorem gMo_multiply_155 : fMo_multiply 155 = some (.return_, 0, 0) := rfl
abbrev lMo_copy : List (Nat × Instr × Nat × Nat) := [(0, .iconst 0, 0, 0), (1, .istore_n 3, 0, 0), (2, .iload_n 3, 0, 0), (3, .bipush (16), 0, 0), (5, .if_icmp .ge (31), 36, 0), (8, .aload_n 0, 0, 0), (9, .getfield 28, 6, 13), (12, .bipush (16), 0, 0), (14, .iload_n 1, 0, 0), (15, .imul, 0, 0), (16, .iload_n 3, 0, 0), (17, .iadd, 0, 0), (18, .aload_n 0, 0, 0), (19, .getfield 28, 6, 13), (22, .bipush (16), 0, 0), (24, .iload_n 2, 0, 0), (25, .imul, 0, 0), (26, .iload_n 3, 0, 0), (27, .iadd, 0, 0), (28, .iaload, 0, 0), (29, .iastore, 0, 0), (30, .iinc 3 (1), 0, 0), (33, .goto (-31), 2, 0), (36, .return_, 0, 0)]
def fMo_copy : sx_F := sx_tab lMo_copy
theorem kMo_copy : sx_chk "ClassCharactersModel" (wy yMo_copy prog_9_method_21_code 4 none) 4 prog_9_method_21_code lMo_copy = true := by decide +kernel
theorem gMo_copy_0 : fMo_copy 0 = some (.iconst 0, 0, 0) := rfl
theorem gMo_copy_1 : fMo_copy 1 = some (.istore_n 3, 0, 0) := rfl
theorem gMo_copy_2 : fMo_copy 2 = some (.iload_n 3, 0, 0) := rfl
theorem gMo_copy_3 : fMo_copy 3 = some (.bipush (16), 0, 0) := rfl
theorem gMo_copy_5 : fMo_copy 5 = some (.if_icmp .ge (31), 36, 0) := rfl
theorem gMo_copy_8 : fMo_copy 8 = some (.aload_n 0, 0, 0) := rfl
theorem gMo_copy_9 : fMo_copy 9 = some (.getfield 28, 6, 13) := rfl
theorem gMo_copy_12 : fMo_copy 12 = some (.bipush (16), 0, 0) := rfl
theorem gMo_copy_14 : fMo_copy 14 = some (.iload_n 1, 0, 0) := rfl
theorem gMo_copy_15 : fMo_copy 15 = some (.imul, 0, 0) := rfl
theorem gMo_copy_16 : fMo_copy 16 = some (.iload_n 3, 0, 0) := rfl
theorem gMo_copy_17 : fMo_copy 17 = some (.iadd, 0, 0) := rfl
theorem gMo_copy_18 : fMo_copy 18 = some (.aload_n 0, 0, 0) := rfl
theorem gMo_copy_19 : fMo_copy 19 = some (.getfield 28, 6, 13) := rfl
theorem gMo_copy_22 : fMo_copy 22 = some (.bipush (16), 0, 0) := rfl
theorem gMo_copy_24 : fMo_copy 24 = some (.iload_n 2, 0, 0) := rfl
theorem gMo_copy_25 : fMo_copy 25 = some (.imul, 0, 0) := rfl
theorem gMo_copy_26 : fMo_copy 26 = some (.iload_n 3, 0, 0) := rfl
theorem gMo_copy_27 : fMo_copy 27 = some (.iadd, 0, 0) := rfl
theorem gMo_copy_28 : fMo_copy 28 = some (.iaload, 0, 0) := rfl
theorem gMo_copy_29 : fMo_copy 29 = some (.iastore, 0, 0) := rfl
theorem gMo_copy_30 : fMo_copy 30 = some (.iinc 3 (1), 0, 0) := rfl
theorem gMo_copy_33 : fMo_copy 33 = some (.goto (-31), 2, 0) := rfl
theorem gMo_copy_36 : fMo_copy 36 = some (.return_, 0, 0) := rfl
abbrev lMo_fermat : List (Nat × Instr × Nat × Nat) := [(0, .aload_n 0, 0, 0), (1, .bipush (33), 0, 0), (3, .bipush (34), 0, 0), (5, .invokevirtual 101, 42, 0), (8, .iconst 0, 0, 0), (9, .istore_n 1, 0, 0), (10, .aload_n 0, 0, 0), (11, .getfield 83, 6, 11), (14, .iconst 1, 0, 0), (15, .isub, 0, 0), (16, .istore_n 2, 0, 0), (17, .iload_n 2, 0, 0), (18, .ifCond .le (70), 88, 0), (21, .iload_n 2, 0, 0), (22, .iconst 2, 0, 0), (23, .irem, 0, 0), (24, .iconst 1, 0, 0), (25, .if_icmp .ne (38), 63, 0), (28, .iload_n 1, 0, 0), (29, .ifCond .eq (24), 53, 0), (32, .aload_n 0, 0, 0), (33, .bipush (32), 0, 0), (35, .bipush (35), 0, 0), (37, .bipush (33), 0, 0), (39, .invokevirtual 105, 41, 0), (42, .aload_n 0, 0, 0), (43, .bipush (35), 0, 0), (45, .bipush (32), 0, 0), (47, .invokevirtual 101, 42, 0), (50, .goto (11), 61, 0), (53, .aload_n 0, 0, 0), (54, .bipush (35), 0, 0), (56, .bipush (33), 0, 0), (58, .invokevirtual 101, 42, 0), (61, .iconst 1, 0, 0), (62, .istore_n 1, 0, 0), (63, .aload_n 0, 0, 0), (64, .bipush (32), 0, 0), (66, .bipush (33), 0, 0), (68, .bipush (33), 0, 0), (70, .invokevirtual 105, 41, 0), (73, .aload_n 0, 0, 0), (74, .bipush (33), 0, 0), (76, .bipush (32), 0, 0), (78, .invokevirtual 101, 42, 0), (81, .iload_n 2, 0, 0), (82, .iconst 2, 0, 0), (83, .idiv, 0, 0), (84, .istore_n 2, 0, 0), (85, .goto (-68), 17, 0), (88, .return_, 0, 0)]
def fMo_fermat : sx_F := sx_tab lMo_fermat
theorem kMo_fermat : sx_chk "ClassCharactersModel" (wy yMo_fermat prog_9_method_22_code 3 none) 3 prog_9_method_22_code lMo_fermat = true := by decide +kernel
theorem gMo_fermat_0 : fMo_fermat 0 = some (.aload_n 0, 0, 0) := rfl
theorem gMo_fermat_1 : fMo_fermat 1 = some (.bipush (33), 0, 0) := rfl
theorem gMo_fermat_3 : fMo_fermat 3 = some (.bipush (34), 0, 0) := rfl
theorem gMo_fermat_5 : fMo_fermat 5 = some (.invokevirtual 101, 42, 0) := rfl
theorem gMo_fermat_8 : fMo_fermat 8 = some (.iconst 0, 0, 0) := rfl
theorem gMo_fermat_9 : fMo_fermat 9 = some (.istore_n 1, 0, 0) := rfl
theorem gMo_fermat_10 : fMo_fermat 10 = some (.aload_n 0, 0, 0) := rfl
theorem gMo_fermat_11 : fMo_fermat 11 = some (.getfield 83, 6, 11) := rfl
theorem gMo_fermat_14 : fMo_fermat 14 = some (.iconst 1, 0, 0) := rfl
theorem gMo_fermat_15 : fMo_fermat 15 = some (.isub, 0, 0) := rfl
theorem gMo_fermat_16 : fMo_fermat 16 = some (.istore_n 2, 0, 0) := rfl
theorem gMo_fermat_17 : fMo_fermat 17 = some (.iload_n 2, 0, 0) := rfl
theorem gMo_fermat_18 : fMo_fermat 18 = some (.ifCond .le (70), 88, 0) := rfl
theorem gMo_fermat_21 : fMo_fermat 21 = some (.iload_n 2, 0, 0) := rfl
theorem gMo_fermat_22 : fMo_fermat 22 = some (.iconst 2, 0, 0) := rfl
theorem gMo_fermat_23 : fMo_fermat 23 = some (.irem, 0, 0) := rfl
theorem gMo_fermat_24 : fMo_fermat 24 = some (.iconst 1, 0, 0) := rfl
theorem gMo_fermat_25 : fMo_fermat 25 = some (.if_icmp .ne (38), 63, 0) := rfl
theorem gMo_fermat_28 : fMo_fermat 28 = some (.iload_n 1, 0, 0) := rfl
theorem gMo_fermat_29 : fMo_fermat 29 = some (.ifCond .eq (24), 53, 0) := rfl
theorem gMo_fermat_32 : fMo_fermat 32 = some (.aload_n 0, 0, 0) := rfl
theorem gMo_fermat_33 : fMo_fermat 33 = some (.bipush (32), 0, 0) := rfl
theorem gMo_fermat_35 : fMo_fermat 35 = some (.bipush (35), 0, 0) := rfl
theorem gMo_fermat_37 : fMo_fermat 37 = some (.bipush (33), 0, 0) := rfl
theorem gMo_fermat_39 : fMo_fermat 39 = some (.invokevirtual 105, 41, 0) := rfl
theorem gMo_fermat_42 : fMo_fermat 42 = some (.aload_n 0, 0, 0) := rfl
theorem gMo_fermat_43 : fMo_fermat 43 = some (.bipush (35), 0, 0) := rfl
theorem gMo_fermat_45 : fMo_fermat 45 = some (.bipush (32), 0, 0) := rfl
theorem gMo_fermat_47 : fMo_fermat 47 = some (.invokevirtual 101, 42, 0) := rfl
theorem gMo_fermat_50 : fMo_fermat 50 = some (.goto (11), 61, 0) := rfl
theorem gMo_fermat_53 : fMo_fermat 53 = some (.aload_n 0, 0, 0) := rfl
theorem gMo_fermat_54 : fMo_fermat 54 = some (.bipush (35), 0, 0) := rfl
theorem gMo_fermat_56 : fMo_fermat 56 = some (.bipush (33), 0, 0) := rfl
theorem gMo_fermat_58 : fMo_fermat 58 = some (.invokevirtual 101, 42, 0) := rfl
theorem gMo_fermat_61 : fMo_fermat 61 = some (.iconst 1, 0, 0) := rfl
theorem gMo_fermat_62 : fMo_fermat 62 = some (.istore_n 1, 0, 0) := rfl
theorem gMo_fermat_63 : fMo_fermat 63 = some (.aload_n 0, 0, 0) := rfl
theorem gMo_fermat_64 : fMo_fermat 64 = some (.bipush (32), 0, 0) := rfl
theorem gMo_fermat_66 : fMo_fermat 66 = some (.bipush (33), 0, 0) := rfl
theorem gMo_fermat_68 : fMo_fermat 68 = some (.bipush (33), 0, 0) := rfl
theorem gMo_fermat_70 : fMo_fermat 70 = some (.invokevirtual 105, 41, 0) := rfl
theorem gMo_fermat_73 : fMo_fermat 73 = some (.aload_n 0, 0, 0) := rfl
theorem gMo_fermat_74 : fMo_fermat 74 = some (.bipush (33), 0, 0) := rfl
theorem gMo_fermat_76 : fMo_fermat 76 = some (.bipush (32), 0, 0) := rfl
theorem gMo_fermat_78 : fMo_fermat 78 = some (.invokevirtual 101, 42, 0) := rfl
theorem gMo_fermat_81 : fMo_fermat 81 = some (.iload_n 2, 0, 0) := rfl
theorem gMo_fermat_82 : fMo_fermat 82 = some (.iconst 2, 0, 0) := rfl
theorem gMo_fermat_83 : fMo_fermat 83 = some (.idiv, 0, 0) := rfl
theorem gMo_fermat_84 : fMo_fermat 84 = some (.istore_n 2, 0, 0) := rfl
theorem gMo_fermat_85 : fMo_fermat 85 = some (.goto (-68), 17, 0) := rfl
theorem gMo_fermat_88 : fMo_fermat 88 = some (.return_, 0, 0) := rfl
abbrev lMo_ratio : List (Nat × Instr × Nat × Nat) := [(0, .iconst 0, 0, 0), (1, .istore_n 3, 0, 0), (2, .iload_n 3, 0, 0), (3, .bipush (16), 0, 0), (5, .if_icmp .ge (29), 34, 0), (8, .aload_n 0, 0, 0), (9, .getfield 28, 6, 13), (12, .sipush (544), 0, 0), (15, .iload_n 3, 0, 0), (16, .iadd, 0, 0), (17, .iload_n 3, 0, 0), (18, .iload_n 1, 0, 0), (19, .if_icmp .ne (7), 26, 0), (22, .iconst 1, 0, 0), (23, .goto (4), 27, 0), (26, .iconst 0, 0, 0), (27, .iastore, 0, 0), (28, .iinc 3 (1), 0, 0), (31, .goto (-29), 2, 0), (34, .aload_n 0, 0, 0), (35, .bipush (36), 0, 0), (37, .bipush (34), 0, 0), (39, .iload_n 2, 0, 0), (40, .invokevirtual 105, 41, 0), (43, .iconst 0, 0, 0), (44, .istore_n 3, 0, 0), (45, .aload_n 0, 0, 0), (46, .getfield 28, 6, 13), (49, .bipush (16), 0, 0), (51, .iload_n 2, 0, 0), (52, .imul, 0, 0), (53, .iload_n 3, 0, 0), (54, .iadd, 0, 0), (55, .iaload, 0, 0), (56, .ifCond .ne (9), 65, 0), (59, .iinc 3 (1), 0, 0), (62, .goto (-17), 45, 0), (65, .aload_n 0, 0, 0), (66, .aload_n 0, 0, 0), (67, .getfield 28, 6, 13), (70, .sipush (576), 0, 0), (73, .iload_n 3, 0, 0), (74, .iadd, 0, 0), (75, .iaload, 0, 0), (76, .aload_n 0, 0, 0), (77, .getfield 28, 6, 13), (80, .bipush (16), 0, 0), (82, .iload_n 2, 0, 0), (83, .imul, 0, 0), (84, .iload_n 3, 0, 0), (85, .iadd, 0, 0), (86, .iaload, 0, 0), (87, .invokevirtual 109, 40, 0), (90, .istore 4, 0, 0), (92, .iconst 1, 0, 0), (93, .istore 5, 0, 0), (95, .iconst 0, 0, 0), (96, .istore 6, 0, 0), (98, .iload 6, 0, 0), (100, .aload_n 0, 0, 0), (101, .getfield 68, 6, 6), (104, .if_icmp .ge (55), 159, 0), (107, .iload 5, 0, 0), (109, .ifCond .eq (41), 150, 0), (112, .aload_n 0, 0, 0), (113, .getfield 28, 6, 13), (116, .sipush (576), 0, 0), (119, .iload 6, 0, 0), (121, .iadd, 0, 0), (122, .iaload, 0, 0), (123, .iload 4, 0, 0), (125, .aload_n 0, 0, 0), (126, .getfield 28, 6, 13), (129, .bipush (16), 0, 0), (131, .iload_n 2, 0, 0), (132, .imul, 0, 0), (133, .iload 6, 0, 0), (135, .iadd, 0, 0), (136, .iaload, 0, 0), (137, .imul, 0, 0), (138, .aload_n 0, 0, 0), (139, .getfield 83, 6, 11), (142, .irem, 0, 0), (143, .if_icmp .ne (7), 150, 0), (146, .iconst 1, 0, 0), (147, .goto (4), 151, 0), (150, .iconst 0, 0, 0), (151, .istore 5, 0, 0), (153, .iinc 6 (1), 0, 0), (156, .goto (-58), 98, 0), (159, .iload 5, 0, 0), (161, .ifCond .eq (8), 169, 0), (164, .iload 4, 0, 0), (166, .goto (4), 170, 0), (169, .iconst (-1), 0, 0), (170, .ireturn, 0, 0)]
def fMo_ratio : sx_F := sx_tab lMo_ratio
theorem kMo_ratio : sx_chk "ClassCharactersModel" (wy yMo_ratio prog_9_method_23_code 7 (some .int)) 7 prog_9_method_23_code lMo_ratio = true := by decide +kernel
theorem gMo_ratio_0 : fMo_ratio 0 = some (.iconst 0, 0, 0) := rfl
theorem gMo_ratio_1 : fMo_ratio 1 = some (.istore_n 3, 0, 0) := rfl
theorem gMo_ratio_2 : fMo_ratio 2 = some (.iload_n 3, 0, 0) := rfl
theorem gMo_ratio_3 : fMo_ratio 3 = some (.bipush (16), 0, 0) := rfl
theorem gMo_ratio_5 : fMo_ratio 5 = some (.if_icmp .ge (29), 34, 0) := rfl
theorem gMo_ratio_8 : fMo_ratio 8 = some (.aload_n 0, 0, 0) := rfl
theorem gMo_ratio_9 : fMo_ratio 9 = some (.getfield 28, 6, 13) := rfl
theorem gMo_ratio_12 : fMo_ratio 12 = some (.sipush (544), 0, 0) := rfl
theorem gMo_ratio_15 : fMo_ratio 15 = some (.iload_n 3, 0, 0) := rfl
theorem gMo_ratio_16 : fMo_ratio 16 = some (.iadd, 0, 0) := rfl
theorem gMo_ratio_17 : fMo_ratio 17 = some (.iload_n 3, 0, 0) := rfl
theorem gMo_ratio_18 : fMo_ratio 18 = some (.iload_n 1, 0, 0) := rfl
theorem gMo_ratio_19 : fMo_ratio 19 = some (.if_icmp .ne (7), 26, 0) := rfl
theorem gMo_ratio_22 : fMo_ratio 22 = some (.iconst 1, 0, 0) := rfl
theorem gMo_ratio_23 : fMo_ratio 23 = some (.goto (4), 27, 0) := rfl
theorem gMo_ratio_26 : fMo_ratio 26 = some (.iconst 0, 0, 0) := rfl
theorem gMo_ratio_27 : fMo_ratio 27 = some (.iastore, 0, 0) := rfl
theorem gMo_ratio_28 : fMo_ratio 28 = some (.iinc 3 (1), 0, 0) := rfl
theorem gMo_ratio_31 : fMo_ratio 31 = some (.goto (-29), 2, 0) := rfl
theorem gMo_ratio_34 : fMo_ratio 34 = some (.aload_n 0, 0, 0) := rfl
theorem gMo_ratio_35 : fMo_ratio 35 = some (.bipush (36), 0, 0) := rfl
theorem gMo_ratio_37 : fMo_ratio 37 = some (.bipush (34), 0, 0) := rfl
theorem gMo_ratio_39 : fMo_ratio 39 = some (.iload_n 2, 0, 0) := rfl
theorem gMo_ratio_40 : fMo_ratio 40 = some (.invokevirtual 105, 41, 0) := rfl
theorem gMo_ratio_43 : fMo_ratio 43 = some (.iconst 0, 0, 0) := rfl
theorem gMo_ratio_44 : fMo_ratio 44 = some (.istore_n 3, 0, 0) := rfl
theorem gMo_ratio_45 : fMo_ratio 45 = some (.aload_n 0, 0, 0) := rfl
theorem gMo_ratio_46 : fMo_ratio 46 = some (.getfield 28, 6, 13) := rfl
theorem gMo_ratio_49 : fMo_ratio 49 = some (.bipush (16), 0, 0) := rfl
theorem gMo_ratio_51 : fMo_ratio 51 = some (.iload_n 2, 0, 0) := rfl
theorem gMo_ratio_52 : fMo_ratio 52 = some (.imul, 0, 0) := rfl
theorem gMo_ratio_53 : fMo_ratio 53 = some (.iload_n 3, 0, 0) := rfl
theorem gMo_ratio_54 : fMo_ratio 54 = some (.iadd, 0, 0) := rfl
theorem gMo_ratio_55 : fMo_ratio 55 = some (.iaload, 0, 0) := rfl
theorem gMo_ratio_56 : fMo_ratio 56 = some (.ifCond .ne (9), 65, 0) := rfl
theorem gMo_ratio_59 : fMo_ratio 59 = some (.iinc 3 (1), 0, 0) := rfl
theorem gMo_ratio_62 : fMo_ratio 62 = some (.goto (-17), 45, 0) := rfl
theorem gMo_ratio_65 : fMo_ratio 65 = some (.aload_n 0, 0, 0) := rfl
theorem gMo_ratio_66 : fMo_ratio 66 = some (.aload_n 0, 0, 0) := rfl
theorem gMo_ratio_67 : fMo_ratio 67 = some (.getfield 28, 6, 13) := rfl
theorem gMo_ratio_70 : fMo_ratio 70 = some (.sipush (576), 0, 0) := rfl
theorem gMo_ratio_73 : fMo_ratio 73 = some (.iload_n 3, 0, 0) := rfl
theorem gMo_ratio_74 : fMo_ratio 74 = some (.iadd, 0, 0) := rfl
theorem gMo_ratio_75 : fMo_ratio 75 = some (.iaload, 0, 0) := rfl
theorem gMo_ratio_76 : fMo_ratio 76 = some (.aload_n 0, 0, 0) := rfl
theorem gMo_ratio_77 : fMo_ratio 77 = some (.getfield 28, 6, 13) := rfl
theorem gMo_ratio_80 : fMo_ratio 80 = some (.bipush (16), 0, 0) := rfl
theorem gMo_ratio_82 : fMo_ratio 82 = some (.iload_n 2, 0, 0) := rfl
theorem gMo_ratio_83 : fMo_ratio 83 = some (.imul, 0, 0) := rfl
theorem gMo_ratio_84 : fMo_ratio 84 = some (.iload_n 3, 0, 0) := rfl
theorem gMo_ratio_85 : fMo_ratio 85 = some (.iadd, 0, 0) := rfl
theorem gMo_ratio_86 : fMo_ratio 86 = some (.iaload, 0, 0) := rfl
theorem gMo_ratio_87 : fMo_ratio 87 = some (.invokevirtual 109, 40, 0) := rfl
theorem gMo_ratio_90 : fMo_ratio 90 = some (.istore 4, 0, 0) := rfl
theorem gMo_ratio_92 : fMo_ratio 92 = some (.iconst 1, 0, 0) := rfl
theorem gMo_ratio_93 : fMo_ratio 93 = some (.istore 5, 0, 0) := rfl
theorem gMo_ratio_95 : fMo_ratio 95 = some (.iconst 0, 0, 0) := rfl
theorem gMo_ratio_96 : fMo_ratio 96 = some (.istore 6, 0, 0) := rfl
theorem gMo_ratio_98 : fMo_ratio 98 = some (.iload 6, 0, 0) := rfl
theorem gMo_ratio_100 : fMo_ratio 100 = some (.aload_n 0, 0, 0) := rfl
theorem gMo_ratio_101 : fMo_ratio 101 = some (.getfield 68, 6, 6) := rfl
theorem gMo_ratio_104 : fMo_ratio 104 = some (.if_icmp .ge (55), 159, 0) := rfl
theorem gMo_ratio_107 : fMo_ratio 107 = some (.iload 5, 0, 0) := rfl
theorem gMo_ratio_109 : fMo_ratio 109 = some (.ifCond .eq (41), 150, 0) := rfl
theorem gMo_ratio_112 : fMo_ratio 112 = some (.aload_n 0, 0, 0) := rfl
theorem gMo_ratio_113 : fMo_ratio 113 = some (.getfield 28, 6, 13) := rfl
theorem gMo_ratio_116 : fMo_ratio 116 = some (.sipush (576), 0, 0) := rfl
theorem gMo_ratio_119 : fMo_ratio 119 = some (.iload 6, 0, 0) := rfl
theorem gMo_ratio_121 : fMo_ratio 121 = some (.iadd, 0, 0) := rfl
theorem gMo_ratio_122 : fMo_ratio 122 = some (.iaload, 0, 0) := rfl
theorem gMo_ratio_123 : fMo_ratio 123 = some (.iload 4, 0, 0) := rfl
theorem gMo_ratio_125 : fMo_ratio 125 = some (.aload_n 0, 0, 0) := rfl
theorem gMo_ratio_126 : fMo_ratio 126 = some (.getfield 28, 6, 13) := rfl
theorem gMo_ratio_129 : fMo_ratio 129 = some (.bipush (16), 0, 0) := rfl
theorem gMo_ratio_131 : fMo_ratio 131 = some (.iload_n 2, 0, 0) := rfl
theorem gMo_ratio_132 : fMo_ratio 132 = some (.imul, 0, 0) := rfl
theorem gMo_ratio_133 : fMo_ratio 133 = some (.iload 6, 0, 0) := rfl
theorem gMo_ratio_135 : fMo_ratio 135 = some (.iadd, 0, 0) := rfl
theorem gMo_ratio_136 : fMo_ratio 136 = some (.iaload, 0, 0) := rfl
theorem gMo_ratio_137 : fMo_ratio 137 = some (.imul, 0, 0) := rfl
theorem gMo_ratio_138 : fMo_ratio 138 = some (.aload_n 0, 0, 0) := rfl
theorem gMo_ratio_139 : fMo_ratio 139 = some (.getfield 83, 6, 11) := rfl
theorem gMo_ratio_142 : fMo_ratio 142 = some (.irem, 0, 0) := rfl
theorem gMo_ratio_143 : fMo_ratio 143 = some (.if_icmp .ne (7), 150, 0) := rfl
theorem gMo_ratio_146 : fMo_ratio 146 = some (.iconst 1, 0, 0) := rfl
theorem gMo_ratio_147 : fMo_ratio 147 = some (.goto (4), 151, 0) := rfl
theorem gMo_ratio_150 : fMo_ratio 150 = some (.iconst 0, 0, 0) := rfl
theorem gMo_ratio_151 : fMo_ratio 151 = some (.istore 5, 0, 0) := rfl
theorem gMo_ratio_153 : fMo_ratio 153 = some (.iinc 6 (1), 0, 0) := rfl
theorem gMo_ratio_156 : fMo_ratio 156 = some (.goto (-58), 98, 0) := rfl
theorem gMo_ratio_159 : fMo_ratio 159 = some (.iload 5, 0, 0) := rfl
theorem gMo_ratio_161 : fMo_ratio 161 = some (.ifCond .eq (8), 169, 0) := rfl
theorem gMo_ratio_164 : fMo_ratio 164 = some (.iload 4, 0, 0) := rfl
theorem gMo_ratio_166 : fMo_ratio 166 = some (.goto (4), 170, 0) := rfl
theorem gMo_ratio_169 : fMo_ratio 169 = some (.iconst (-1), 0, 0) := rfl
theorem gMo_ratio_170 : fMo_ratio 170 = some (.ireturn, 0, 0) := rfl
abbrev lMo_split : List (Nat × Instr × Nat × Nat) := [(0, .aload_n 0, 0, 0), (1, .iload_n 1, 0, 0), (2, .iload_n 2, 0, 0), (3, .invokevirtual 112, 44, 0), (6, .iconst (-1), 0, 0), (7, .if_icmp .eq (4), 11, 0), (10, .return_, 0, 0), (11, .iconst 0, 0, 0), (12, .istore_n 3, 0, 0), (13, .iconst 0, 0, 0), (14, .istore 4, 0, 0), (16, .iload 4, 0, 0), (18, .aload_n 0, 0, 0), (19, .getfield 83, 6, 11), (22, .if_icmp .ge (204), 226, 0), (25, .iconst 0, 0, 0), (26, .istore 5, 0, 0), (28, .iload 5, 0, 0), (30, .bipush (16), 0, 0), (32, .if_icmp .ge (51), 83, 0), (35, .aload_n 0, 0, 0), (36, .getfield 28, 6, 13), (39, .sipush (544), 0, 0), (42, .iload 5, 0, 0), (44, .iadd, 0, 0), (45, .aload_n 0, 0, 0), (46, .aload_n 0, 0, 0), (47, .getfield 28, 6, 13), (50, .sipush (576), 0, 0), (53, .iload 5, 0, 0), (55, .iadd, 0, 0), (56, .iaload, 0, 0), (57, .iload 4, 0, 0), (59, .aload_n 0, 0, 0), (60, .getfield 28, 6, 13), (63, .bipush (16), 0, 0), (65, .iload_n 2, 0, 0), (66, .imul, 0, 0), (67, .iload 5, 0, 0), (69, .iadd, 0, 0), (70, .iaload, 0, 0), (71, .imul, 0, 0), (72, .isub, 0, 0), (73, .invokevirtual 95, 38, 0), (76, .iastore, 0, 0), (77, .iinc 5 (1), 0, 0), (80, .goto (-52), 28, 0), (83, .aload_n 0, 0, 0), (84, .invokevirtual 115, 43, 0), (87, .iconst 0, 0, 0), (88, .istore 5, 0, 0), (90, .iconst 0, 0, 0), (91, .istore 6, 0, 0), (93, .iload 6, 0, 0), (95, .bipush (16), 0, 0), (97, .if_icmp .ge (47), 144, 0), (100, .iload 5, 0, 0), (102, .ifCond .ne (29), 131, 0), (105, .aload_n 0, 0, 0), (106, .getfield 28, 6, 13), (109, .bipush (16), 0, 0), (111, .iload_n 2, 0, 0), (112, .imul, 0, 0), (113, .iload 6, 0, 0), (115, .iadd, 0, 0), (116, .iaload, 0, 0), (117, .aload_n 0, 0, 0), (118, .getfield 28, 6, 13), (121, .sipush (560), 0, 0), (124, .iload 6, 0, 0), (126, .iadd, 0, 0), (127, .iaload, 0, 0), (128, .if_icmp .eq (7), 135, 0), (131, .iconst 1, 0, 0), (132, .goto (4), 136, 0), (135, .iconst 0, 0, 0), (136, .istore 5, 0, 0), (138, .iinc 6 (1), 0, 0), (141, .goto (-48), 93, 0), (144, .iload 5, 0, 0), (146, .ifCond .eq (74), 220, 0), (149, .iload_n 3, 0, 0), (150, .bipush (16), 0, 0), (152, .if_icmp .ne (6), 158, 0), (155, .goto (65), 220, 0), (158, .iconst 0, 0, 0), (159, .istore 6, 0, 0), (161, .iload 6, 0, 0), (163, .bipush (16), 0, 0), (165, .if_icmp .ge (52), 217, 0), (168, .aload_n 0, 0, 0), (169, .getfield 28, 6, 13), (172, .bipush (16), 0, 0), (174, .bipush (16), 0, 0), (176, .iload_n 3, 0, 0), (177, .iadd, 0, 0), (178, .imul, 0, 0), (179, .iload 6, 0, 0), (181, .iadd, 0, 0), (182, .aload_n 0, 0, 0), (183, .aload_n 0, 0, 0), (184, .getfield 28, 6, 13), (187, .bipush (16), 0, 0), (189, .iload_n 2, 0, 0), (190, .imul, 0, 0), (191, .iload 6, 0, 0), (193, .iadd, 0, 0), (194, .iaload, 0, 0), (195, .aload_n 0, 0, 0), (196, .getfield 28, 6, 13), (199, .sipush (560), 0, 0), (202, .iload 6, 0, 0), (204, .iadd, 0, 0), (205, .iaload, 0, 0), (206, .isub, 0, 0), (207, .invokevirtual 95, 38, 0), (210, .iastore, 0, 0), (211, .iinc 6 (1), 0, 0), (214, .goto (-53), 161, 0), (217, .iinc 3 (1), 0, 0), (220, .iinc 4 (1), 0, 0), (223, .goto (-207), 16, 0), (226, .aload_n 0, 0, 0), (227, .iload_n 2, 0, 0), (228, .bipush (16), 0, 0), (230, .invokevirtual 101, 42, 0), (233, .iconst 1, 0, 0), (234, .istore 4, 0, 0), (236, .iload 4, 0, 0), (238, .iload_n 3, 0, 0), (239, .if_icmp .ge (32), 271, 0), (242, .aload_n 0, 0, 0), (243, .aload_n 0, 0, 0), (244, .getfield 118, 6, 14), (247, .bipush (16), 0, 0), (249, .iload 4, 0, 0), (251, .iadd, 0, 0), (252, .invokevirtual 101, 42, 0), (255, .aload_n 0, 0, 0), (256, .dup, 0, 0), (257, .getfield 118, 6, 14), (260, .iconst 1, 0, 0), (261, .iadd, 0, 0), (262, .putfield 118, 6, 14), (265, .iinc 4 (1), 0, 0), (268, .goto (-32), 236, 0), (271, .return_, 0, 0)]
def fMo_split : sx_F := sx_tab lMo_split
theorem kMo_split : sx_chk "ClassCharactersModel" (wy yMo_split prog_9_method_24_code 7 none) 7 prog_9_method_24_code lMo_split = true := by decide +kernel
theorem gMo_split_0 : fMo_split 0 = some (.aload_n 0, 0, 0) := rfl
theorem gMo_split_1 : fMo_split 1 = some (.iload_n 1, 0, 0) := rfl
theorem gMo_split_2 : fMo_split 2 = some (.iload_n 2, 0, 0) := rfl
theorem gMo_split_3 : fMo_split 3 = some (.invokevirtual 112, 44, 0) := rfl
theorem gMo_split_6 : fMo_split 6 = some (.iconst (-1), 0, 0) := rfl
theorem gMo_split_7 : fMo_split 7 = some (.if_icmp .eq (4), 11, 0) := rfl
theorem gMo_split_10 : fMo_split 10 = some (.return_, 0, 0) := rfl
theorem gMo_split_11 : fMo_split 11 = some (.iconst 0, 0, 0) := rfl
theorem gMo_split_12 : fMo_split 12 = some (.istore_n 3, 0, 0) := rfl
theorem gMo_split_13 : fMo_split 13 = some (.iconst 0, 0, 0) := rfl
theorem gMo_split_14 : fMo_split 14 = some (.istore 4, 0, 0) := rfl
theorem gMo_split_16 : fMo_split 16 = some (.iload 4, 0, 0) := rfl
theorem gMo_split_18 : fMo_split 18 = some (.aload_n 0, 0, 0) := rfl
theorem gMo_split_19 : fMo_split 19 = some (.getfield 83, 6, 11) := rfl
theorem gMo_split_22 : fMo_split 22 = some (.if_icmp .ge (204), 226, 0) := rfl
theorem gMo_split_25 : fMo_split 25 = some (.iconst 0, 0, 0) := rfl
theorem gMo_split_26 : fMo_split 26 = some (.istore 5, 0, 0) := rfl
theorem gMo_split_28 : fMo_split 28 = some (.iload 5, 0, 0) := rfl
theorem gMo_split_30 : fMo_split 30 = some (.bipush (16), 0, 0) := rfl
theorem gMo_split_32 : fMo_split 32 = some (.if_icmp .ge (51), 83, 0) := rfl
theorem gMo_split_35 : fMo_split 35 = some (.aload_n 0, 0, 0) := rfl
theorem gMo_split_36 : fMo_split 36 = some (.getfield 28, 6, 13) := rfl
theorem gMo_split_39 : fMo_split 39 = some (.sipush (544), 0, 0) := rfl
theorem gMo_split_42 : fMo_split 42 = some (.iload 5, 0, 0) := rfl
theorem gMo_split_44 : fMo_split 44 = some (.iadd, 0, 0) := rfl
theorem gMo_split_45 : fMo_split 45 = some (.aload_n 0, 0, 0) := rfl
theorem gMo_split_46 : fMo_split 46 = some (.aload_n 0, 0, 0) := rfl
theorem gMo_split_47 : fMo_split 47 = some (.getfield 28, 6, 13) := rfl
theorem gMo_split_50 : fMo_split 50 = some (.sipush (576), 0, 0) := rfl
theorem gMo_split_53 : fMo_split 53 = some (.iload 5, 0, 0) := rfl
theorem gMo_split_55 : fMo_split 55 = some (.iadd, 0, 0) := rfl
theorem gMo_split_56 : fMo_split 56 = some (.iaload, 0, 0) := rfl
theorem gMo_split_57 : fMo_split 57 = some (.iload 4, 0, 0) := rfl
theorem gMo_split_59 : fMo_split 59 = some (.aload_n 0, 0, 0) := rfl
theorem gMo_split_60 : fMo_split 60 = some (.getfield 28, 6, 13) := rfl
theorem gMo_split_63 : fMo_split 63 = some (.bipush (16), 0, 0) := rfl
theorem gMo_split_65 : fMo_split 65 = some (.iload_n 2, 0, 0) := rfl
theorem gMo_split_66 : fMo_split 66 = some (.imul, 0, 0) := rfl
theorem gMo_split_67 : fMo_split 67 = some (.iload 5, 0, 0) := rfl
theorem gMo_split_69 : fMo_split 69 = some (.iadd, 0, 0) := rfl
theorem gMo_split_70 : fMo_split 70 = some (.iaload, 0, 0) := rfl
theorem gMo_split_71 : fMo_split 71 = some (.imul, 0, 0) := rfl
theorem gMo_split_72 : fMo_split 72 = some (.isub, 0, 0) := rfl
theorem gMo_split_73 : fMo_split 73 = some (.invokevirtual 95, 38, 0) := rfl
theorem gMo_split_76 : fMo_split 76 = some (.iastore, 0, 0) := rfl
theorem gMo_split_77 : fMo_split 77 = some (.iinc 5 (1), 0, 0) := rfl
theorem gMo_split_80 : fMo_split 80 = some (.goto (-52), 28, 0) := rfl
theorem gMo_split_83 : fMo_split 83 = some (.aload_n 0, 0, 0) := rfl
theorem gMo_split_84 : fMo_split 84 = some (.invokevirtual 115, 43, 0) := rfl
theorem gMo_split_87 : fMo_split 87 = some (.iconst 0, 0, 0) := rfl
theorem gMo_split_88 : fMo_split 88 = some (.istore 5, 0, 0) := rfl
theorem gMo_split_90 : fMo_split 90 = some (.iconst 0, 0, 0) := rfl
theorem gMo_split_91 : fMo_split 91 = some (.istore 6, 0, 0) := rfl
theorem gMo_split_93 : fMo_split 93 = some (.iload 6, 0, 0) := rfl
theorem gMo_split_95 : fMo_split 95 = some (.bipush (16), 0, 0) := rfl
theorem gMo_split_97 : fMo_split 97 = some (.if_icmp .ge (47), 144, 0) := rfl
theorem gMo_split_100 : fMo_split 100 = some (.iload 5, 0, 0) := rfl
theorem gMo_split_102 : fMo_split 102 = some (.ifCond .ne (29), 131, 0) := rfl
theorem gMo_split_105 : fMo_split 105 = some (.aload_n 0, 0, 0) := rfl
theorem gMo_split_106 : fMo_split 106 = some (.getfield 28, 6, 13) := rfl
theorem gMo_split_109 : fMo_split 109 = some (.bipush (16), 0, 0) := rfl
theorem gMo_split_111 : fMo_split 111 = some (.iload_n 2, 0, 0) := rfl
theorem gMo_split_112 : fMo_split 112 = some (.imul, 0, 0) := rfl
theorem gMo_split_113 : fMo_split 113 = some (.iload 6, 0, 0) := rfl
theorem gMo_split_115 : fMo_split 115 = some (.iadd, 0, 0) := rfl
theorem gMo_split_116 : fMo_split 116 = some (.iaload, 0, 0) := rfl
theorem gMo_split_117 : fMo_split 117 = some (.aload_n 0, 0, 0) := rfl
theorem gMo_split_118 : fMo_split 118 = some (.getfield 28, 6, 13) := rfl
theorem gMo_split_121 : fMo_split 121 = some (.sipush (560), 0, 0) := rfl
theorem gMo_split_124 : fMo_split 124 = some (.iload 6, 0, 0) := rfl
theorem gMo_split_126 : fMo_split 126 = some (.iadd, 0, 0) := rfl
theorem gMo_split_127 : fMo_split 127 = some (.iaload, 0, 0) := rfl
theorem gMo_split_128 : fMo_split 128 = some (.if_icmp .eq (7), 135, 0) := rfl
theorem gMo_split_131 : fMo_split 131 = some (.iconst 1, 0, 0) := rfl
theorem gMo_split_132 : fMo_split 132 = some (.goto (4), 136, 0) := rfl
theorem gMo_split_135 : fMo_split 135 = some (.iconst 0, 0, 0) := rfl
theorem gMo_split_136 : fMo_split 136 = some (.istore 5, 0, 0) := rfl
theorem gMo_split_138 : fMo_split 138 = some (.iinc 6 (1), 0, 0) := rfl
theorem gMo_split_141 : fMo_split 141 = some (.goto (-48), 93, 0) := rfl
theorem gMo_split_144 : fMo_split 144 = some (.iload 5, 0, 0) := rfl
theorem gMo_split_146 : fMo_split 146 = some (.ifCond .eq (74), 220, 0) := rfl
theorem gMo_split_149 : fMo_split 149 = some (.iload_n 3, 0, 0) := rfl
theorem gMo_split_150 : fMo_split 150 = some (.bipush (16), 0, 0) := rfl
theorem gMo_split_152 : fMo_split 152 = some (.if_icmp .ne (6), 158, 0) := rfl
theorem gMo_split_155 : fMo_split 155 = some (.goto (65), 220, 0) := rfl
theorem gMo_split_158 : fMo_split 158 = some (.iconst 0, 0, 0) := rfl
theorem gMo_split_159 : fMo_split 159 = some (.istore 6, 0, 0) := rfl
theorem gMo_split_161 : fMo_split 161 = some (.iload 6, 0, 0) := rfl
theorem gMo_split_163 : fMo_split 163 = some (.bipush (16), 0, 0) := rfl
theorem gMo_split_165 : fMo_split 165 = some (.if_icmp .ge (52), 217, 0) := rfl
theorem gMo_split_168 : fMo_split 168 = some (.aload_n 0, 0, 0) := rfl
theorem gMo_split_169 : fMo_split 169 = some (.getfield 28, 6, 13) := rfl
theorem gMo_split_172 : fMo_split 172 = some (.bipush (16), 0, 0) := rfl
theorem gMo_split_174 : fMo_split 174 = some (.bipush (16), 0, 0) := rfl
theorem gMo_split_176 : fMo_split 176 = some (.iload_n 3, 0, 0) := rfl
theorem gMo_split_177 : fMo_split 177 = some (.iadd, 0, 0) := rfl
theorem gMo_split_178 : fMo_split 178 = some (.imul, 0, 0) := rfl
theorem gMo_split_179 : fMo_split 179 = some (.iload 6, 0, 0) := rfl
theorem gMo_split_181 : fMo_split 181 = some (.iadd, 0, 0) := rfl
theorem gMo_split_182 : fMo_split 182 = some (.aload_n 0, 0, 0) := rfl
theorem gMo_split_183 : fMo_split 183 = some (.aload_n 0, 0, 0) := rfl
theorem gMo_split_184 : fMo_split 184 = some (.getfield 28, 6, 13) := rfl
theorem gMo_split_187 : fMo_split 187 = some (.bipush (16), 0, 0) := rfl
theorem gMo_split_189 : fMo_split 189 = some (.iload_n 2, 0, 0) := rfl
theorem gMo_split_190 : fMo_split 190 = some (.imul, 0, 0) := rfl
theorem gMo_split_191 : fMo_split 191 = some (.iload 6, 0, 0) := rfl
theorem gMo_split_193 : fMo_split 193 = some (.iadd, 0, 0) := rfl
theorem gMo_split_194 : fMo_split 194 = some (.iaload, 0, 0) := rfl
theorem gMo_split_195 : fMo_split 195 = some (.aload_n 0, 0, 0) := rfl
theorem gMo_split_196 : fMo_split 196 = some (.getfield 28, 6, 13) := rfl
theorem gMo_split_199 : fMo_split 199 = some (.sipush (560), 0, 0) := rfl
theorem gMo_split_202 : fMo_split 202 = some (.iload 6, 0, 0) := rfl
theorem gMo_split_204 : fMo_split 204 = some (.iadd, 0, 0) := rfl
theorem gMo_split_205 : fMo_split 205 = some (.iaload, 0, 0) := rfl
theorem gMo_split_206 : fMo_split 206 = some (.isub, 0, 0) := rfl
theorem gMo_split_207 : fMo_split 207 = some (.invokevirtual 95, 38, 0) := rfl
theorem gMo_split_210 : fMo_split 210 = some (.iastore, 0, 0) := rfl
theorem gMo_split_211 : fMo_split 211 = some (.iinc 6 (1), 0, 0) := rfl
theorem gMo_split_214 : fMo_split 214 = some (.goto (-53), 161, 0) := rfl
theorem gMo_split_217 : fMo_split 217 = some (.iinc 3 (1), 0, 0) := rfl
theorem gMo_split_220 : fMo_split 220 = some (.iinc 4 (1), 0, 0) := rfl
theorem gMo_split_223 : fMo_split 223 = some (.goto (-207), 16, 0) := rfl
theorem gMo_split_226 : fMo_split 226 = some (.aload_n 0, 0, 0) := rfl
theorem gMo_split_227 : fMo_split 227 = some (.iload_n 2, 0, 0) := rfl
theorem gMo_split_228 : fMo_split 228 = some (.bipush (16), 0, 0) := rfl
theorem gMo_split_230 : fMo_split 230 = some (.invokevirtual 101, 42, 0) := rfl
theorem gMo_split_233 : fMo_split 233 = some (.iconst 1, 0, 0) := rfl
theorem gMo_split_234 : fMo_split 234 = some (.istore 4, 0, 0) := rfl
theorem gMo_split_236 : fMo_split 236 = some (.iload 4, 0, 0) := rfl
theorem gMo_split_238 : fMo_split 238 = some (.iload_n 3, 0, 0) := rfl
theorem gMo_split_239 : fMo_split 239 = some (.if_icmp .ge (32), 271, 0) := rfl
theorem gMo_split_242 : fMo_split 242 = some (.aload_n 0, 0, 0) := rfl
theorem gMo_split_243 : fMo_split 243 = some (.aload_n 0, 0, 0) := rfl
theorem gMo_split_244 : fMo_split 244 = some (.getfield 118, 6, 14) := rfl
theorem gMo_split_247 : fMo_split 247 = some (.bipush (16), 0, 0) := rfl
theorem gMo_split_249 : fMo_split 249 = some (.iload 4, 0, 0) := rfl
theorem gMo_split_251 : fMo_split 251 = some (.iadd, 0, 0) := rfl
theorem gMo_split_252 : fMo_split 252 = some (.invokevirtual 101, 42, 0) := rfl
theorem gMo_split_255 : fMo_split 255 = some (.aload_n 0, 0, 0) := rfl
theorem gMo_split_256 : fMo_split 256 = some (.dup, 0, 0) := rfl
theorem gMo_split_257 : fMo_split 257 = some (.getfield 118, 6, 14) := rfl
theorem gMo_split_260 : fMo_split 260 = some (.iconst 1, 0, 0) := rfl
theorem gMo_split_261 : fMo_split 261 = some (.iadd, 0, 0) := rfl
theorem gMo_split_262 : fMo_split 262 = some (.putfield 118, 6, 14) := rfl
theorem gMo_split_265 : fMo_split 265 = some (.iinc 4 (1), 0, 0) := rfl
theorem gMo_split_268 : fMo_split 268 = some (.goto (-32), 236, 0) := rfl
theorem gMo_split_271 : fMo_split 271 = some (.return_, 0, 0) := rfl
abbrev lMo_takeApart : List (Nat × Instr × Nat × Nat) := [(0, .iconst 0, 0, 0), (1, .istore_n 1, 0, 0), (2, .iload_n 1, 0, 0), (3, .bipush (16), 0, 0), (5, .if_icmp .ge (24), 29, 0), (8, .aload_n 0, 0, 0), (9, .getfield 28, 6, 13), (12, .iload_n 1, 0, 0), (13, .iload_n 1, 0, 0), (14, .ifCond .ne (7), 21, 0), (17, .iconst 1, 0, 0), (18, .goto (4), 22, 0), (21, .iconst 0, 0, 0), (22, .iastore, 0, 0), (23, .iinc 1 (1), 0, 0), (26, .goto (-24), 2, 0), (29, .aload_n 0, 0, 0), (30, .iconst 1, 0, 0), (31, .putfield 118, 6, 14), (34, .iconst 1, 0, 0), (35, .istore_n 1, 0, 0), (36, .iload_n 1, 0, 0), (37, .aload_n 0, 0, 0), (38, .getfield 68, 6, 6), (41, .if_icmp .ge (33), 74, 0), (44, .aload_n 0, 0, 0), (45, .getfield 118, 6, 14), (48, .istore_n 2, 0, 0), (49, .iconst 0, 0, 0), (50, .istore_n 3, 0, 0), (51, .iload_n 3, 0, 0), (52, .iload_n 2, 0, 0), (53, .if_icmp .ge (15), 68, 0), (56, .aload_n 0, 0, 0), (57, .iload_n 1, 0, 0), (58, .iload_n 3, 0, 0), (59, .invokevirtual 121, 45, 0), (62, .iinc 3 (1), 0, 0), (65, .goto (-14), 51, 0), (68, .iinc 1 (1), 0, 0), (71, .goto (-35), 36, 0), (74, .return_, 0, 0)]
def fMo_takeApart : sx_F := sx_tab lMo_takeApart
theorem kMo_takeApart : sx_chk "ClassCharactersModel" (wy yMo_takeApart prog_9_method_25_code 4 none) 4 prog_9_method_25_code lMo_takeApart = true := by decide +kernel
theorem gMo_takeApart_0 : fMo_takeApart 0 = some (.iconst 0, 0, 0) := rfl
theorem gMo_takeApart_1 : fMo_takeApart 1 = some (.istore_n 1, 0, 0) := rfl
theorem gMo_takeApart_2 : fMo_takeApart 2 = some (.iload_n 1, 0, 0) := rfl
theorem gMo_takeApart_3 : fMo_takeApart 3 = some (.bipush (16), 0, 0) := rfl
theorem gMo_takeApart_5 : fMo_takeApart 5 = some (.if_icmp .ge (24), 29, 0) := rfl
theorem gMo_takeApart_8 : fMo_takeApart 8 = some (.aload_n 0, 0, 0) := rfl
theorem gMo_takeApart_9 : fMo_takeApart 9 = some (.getfield 28, 6, 13) := rfl
theorem gMo_takeApart_12 : fMo_takeApart 12 = some (.iload_n 1, 0, 0) := rfl
theorem gMo_takeApart_13 : fMo_takeApart 13 = some (.iload_n 1, 0, 0) := rfl
theorem gMo_takeApart_14 : fMo_takeApart 14 = some (.ifCond .ne (7), 21, 0) := rfl
theorem gMo_takeApart_17 : fMo_takeApart 17 = some (.iconst 1, 0, 0) := rfl
theorem gMo_takeApart_18 : fMo_takeApart 18 = some (.goto (4), 22, 0) := rfl
theorem gMo_takeApart_21 : fMo_takeApart 21 = some (.iconst 0, 0, 0) := rfl
theorem gMo_takeApart_22 : fMo_takeApart 22 = some (.iastore, 0, 0) := rfl
theorem gMo_takeApart_23 : fMo_takeApart 23 = some (.iinc 1 (1), 0, 0) := rfl
theorem gMo_takeApart_26 : fMo_takeApart 26 = some (.goto (-24), 2, 0) := rfl
theorem gMo_takeApart_29 : fMo_takeApart 29 = some (.aload_n 0, 0, 0) := rfl
theorem gMo_takeApart_30 : fMo_takeApart 30 = some (.iconst 1, 0, 0) := rfl
theorem gMo_takeApart_31 : fMo_takeApart 31 = some (.putfield 118, 6, 14) := rfl
theorem gMo_takeApart_34 : fMo_takeApart 34 = some (.iconst 1, 0, 0) := rfl
theorem gMo_takeApart_35 : fMo_takeApart 35 = some (.istore_n 1, 0, 0) := rfl
theorem gMo_takeApart_36 : fMo_takeApart 36 = some (.iload_n 1, 0, 0) := rfl
theorem gMo_takeApart_37 : fMo_takeApart 37 = some (.aload_n 0, 0, 0) := rfl
theorem gMo_takeApart_38 : fMo_takeApart 38 = some (.getfield 68, 6, 6) := rfl
theorem gMo_takeApart_41 : fMo_takeApart 41 = some (.if_icmp .ge (33), 74, 0) := rfl
theorem gMo_takeApart_44 : fMo_takeApart 44 = some (.aload_n 0, 0, 0) := rfl
theorem gMo_takeApart_45 : fMo_takeApart 45 = some (.getfield 118, 6, 14) := rfl
theorem gMo_takeApart_48 : fMo_takeApart 48 = some (.istore_n 2, 0, 0) := rfl
theorem gMo_takeApart_49 : fMo_takeApart 49 = some (.iconst 0, 0, 0) := rfl
theorem gMo_takeApart_50 : fMo_takeApart 50 = some (.istore_n 3, 0, 0) := rfl
theorem gMo_takeApart_51 : fMo_takeApart 51 = some (.iload_n 3, 0, 0) := rfl
theorem gMo_takeApart_52 : fMo_takeApart 52 = some (.iload_n 2, 0, 0) := rfl
theorem gMo_takeApart_53 : fMo_takeApart 53 = some (.if_icmp .ge (15), 68, 0) := rfl
theorem gMo_takeApart_56 : fMo_takeApart 56 = some (.aload_n 0, 0, 0) := rfl
theorem gMo_takeApart_57 : fMo_takeApart 57 = some (.iload_n 1, 0, 0) := rfl
theorem gMo_takeApart_58 : fMo_takeApart 58 = some (.iload_n 3, 0, 0) := rfl
theorem gMo_takeApart_59 : fMo_takeApart 59 = some (.invokevirtual 121, 45, 0) := rfl
theorem gMo_takeApart_62 : fMo_takeApart 62 = some (.iinc 3 (1), 0, 0) := rfl
theorem gMo_takeApart_65 : fMo_takeApart 65 = some (.goto (-14), 51, 0) := rfl
theorem gMo_takeApart_68 : fMo_takeApart 68 = some (.iinc 1 (1), 0, 0) := rfl
theorem gMo_takeApart_71 : fMo_takeApart 71 = some (.goto (-35), 36, 0) := rfl
theorem gMo_takeApart_74 : fMo_takeApart 74 = some (.return_, 0, 0) := rfl
