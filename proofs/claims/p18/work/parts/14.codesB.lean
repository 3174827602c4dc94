abbrev lCc_add : List (Nat × Instr × Nat × Nat) := [(0, .aload_n 0, 0, 0), (1, .getfield 13, 0, 1), (4, .iconst 4, 0, 0), (5, .if_icmp .ge (10), 15, 0), (8, .iload_n 1, 0, 0), (9, .invokestatic 55, 81, 0), (12, .ifCond .ne (5), 17, 0), (15, .iconst 0, 0, 0), (16, .ireturn, 0, 0), (17, .aload_n 0, 0, 0), (18, .getfield 9, 0, 0), (21, .aload_n 0, 0, 0), (22, .getfield 13, 0, 1), (25, .iload_n 1, 0, 0), (26, .iastore, 0, 0), (27, .aload_n 0, 0, 0), (28, .dup, 0, 0), (29, .getfield 13, 0, 1), (32, .iconst 1, 0, 0), (33, .iadd, 0, 0), (34, .putfield 13, 0, 1), (37, .aload_n 0, 0, 0), (38, .iconst (-1), 0, 0), (39, .putfield 17, 0, 2), (42, .iconst 1, 0, 0), (43, .ireturn, 0, 0)]
def fCc_add : sx_F := sx_tab lCc_add
theorem kCc_add : sx_chk "ClassCharacters" (wy yCc_add prog_1_method_2_code 2 (some .boolean)) 2 prog_1_method_2_code lCc_add = true := by decide +kernel
theorem gCc_add_0 : fCc_add 0 = some (.aload_n 0, 0, 0) := rfl
theorem gCc_add_1 : fCc_add 1 = some (.getfield 13, 0, 1) := rfl
theorem gCc_add_4 : fCc_add 4 = some (.iconst 4, 0, 0) := rfl
theorem gCc_add_5 : fCc_add 5 = some (.if_icmp .ge (10), 15, 0) := rfl
theorem gCc_add_8 : fCc_add 8 = some (.iload_n 1, 0, 0) := rfl
theorem gCc_add_9 : fCc_add 9 = some (.invokestatic 55, 81, 0) := rfl
theorem gCc_add_12 : fCc_add 12 = some (.ifCond .ne (5), 17, 0) := rfl
theorem gCc_add_15 : fCc_add 15 = some (.iconst 0, 0, 0) := rfl
theorem gCc_add_16 : fCc_add 16 = some (.ireturn, 0, 0) := rfl
theorem gCc_add_17 : fCc_add 17 = some (.aload_n 0, 0, 0) := rfl
theorem gCc_add_18 : fCc_add 18 = some (.getfield 9, 0, 0) := rfl
theorem gCc_add_21 : fCc_add 21 = some (.aload_n 0, 0, 0) := rfl
theorem gCc_add_22 : fCc_add 22 = some (.getfield 13, 0, 1) := rfl
theorem gCc_add_25 : fCc_add 25 = some (.iload_n 1, 0, 0) := rfl
theorem gCc_add_26 : fCc_add 26 = some (.iastore, 0, 0) := rfl
theorem gCc_add_27 : fCc_add 27 = some (.aload_n 0, 0, 0) := rfl
theorem gCc_add_28 : fCc_add 28 = some (.dup, 0, 0) := rfl
theorem gCc_add_29 : fCc_add 29 = some (.getfield 13, 0, 1) := rfl
theorem gCc_add_32 : fCc_add 32 = some (.iconst 1, 0, 0) := rfl
theorem gCc_add_33 : fCc_add 33 = some (.iadd, 0, 0) := rfl
theorem gCc_add_34 : fCc_add 34 = some (.putfield 13, 0, 1) := rfl
theorem gCc_add_37 : fCc_add 37 = some (.aload_n 0, 0, 0) := rfl
theorem gCc_add_38 : fCc_add 38 = some (.iconst (-1), 0, 0) := rfl
theorem gCc_add_39 : fCc_add 39 = some (.putfield 17, 0, 2) := rfl
theorem gCc_add_42 : fCc_add 42 = some (.iconst 1, 0, 0) := rfl
theorem gCc_add_43 : fCc_add 43 = some (.ireturn, 0, 0) := rfl
abbrev lCc_clear : List (Nat × Instr × Nat × Nat) := [(0, .aload_n 0, 0, 0), (1, .iconst 0, 0, 0), (2, .putfield 13, 0, 1), (5, .aload_n 0, 0, 0), (6, .iconst (-1), 0, 0), (7, .putfield 17, 0, 2), (10, .return_, 0, 0)]
def fCc_clear : sx_F := sx_tab lCc_clear
theorem kCc_clear : sx_chk "ClassCharacters" (wy yCc_clear prog_1_method_3_code 1 none) 1 prog_1_method_3_code lCc_clear = true := by decide +kernel
theorem gCc_clear_0 : fCc_clear 0 = some (.aload_n 0, 0, 0) := rfl
theorem gCc_clear_1 : fCc_clear 1 = some (.iconst 0, 0, 0) := rfl
theorem gCc_clear_2 : fCc_clear 2 = some (.putfield 13, 0, 1) := rfl
theorem gCc_clear_5 : fCc_clear 5 = some (.aload_n 0, 0, 0) := rfl
theorem gCc_clear_6 : fCc_clear 6 = some (.iconst (-1), 0, 0) := rfl
theorem gCc_clear_7 : fCc_clear 7 = some (.putfield 17, 0, 2) := rfl
theorem gCc_clear_10 : fCc_clear 10 = some (.return_, 0, 0) := rfl
abbrev lCc_build : List (Nat × Instr × Nat × Nat) := [(0, .aload_n 0, 0, 0), (1, .getfield 17, 0, 2), (4, .iconst (-1), 0, 0), (5, .if_icmp .ne (11), 16, 0), (8, .aload_n 0, 0, 0), (9, .aload_n 0, 0, 0), (10, .invokevirtual 61, 22, 0), (13, .putfield 17, 0, 2), (16, .aload_n 0, 0, 0), (17, .getfield 17, 0, 2), (20, .ireturn, 0, 0)]
def fCc_build : sx_F := sx_tab lCc_build
theorem kCc_build : sx_chk "ClassCharacters" (wy yCc_build prog_1_method_4_code 1 (some .int)) 1 prog_1_method_4_code lCc_build = true := by decide +kernel
theorem gCc_build_0 : fCc_build 0 = some (.aload_n 0, 0, 0) := rfl
theorem gCc_build_1 : fCc_build 1 = some (.getfield 17, 0, 2) := rfl
theorem gCc_build_4 : fCc_build 4 = some (.iconst (-1), 0, 0) := rfl
theorem gCc_build_5 : fCc_build 5 = some (.if_icmp .ne (11), 16, 0) := rfl
theorem gCc_build_8 : fCc_build 8 = some (.aload_n 0, 0, 0) := rfl
theorem gCc_build_9 : fCc_build 9 = some (.aload_n 0, 0, 0) := rfl
theorem gCc_build_10 : fCc_build 10 = some (.invokevirtual 61, 22, 0) := rfl
theorem gCc_build_13 : fCc_build 13 = some (.putfield 17, 0, 2) := rfl
theorem gCc_build_16 : fCc_build 16 = some (.aload_n 0, 0, 0) := rfl
theorem gCc_build_17 : fCc_build 17 = some (.getfield 17, 0, 2) := rfl
theorem gCc_build_20 : fCc_build 20 = some (.ireturn, 0, 0) := rfl
abbrev lCc_order : List (Nat × Instr × Nat × Nat) := [(0, .aload_n 0, 0, 0), (1, .invokevirtual 65, 20, 0), (4, .ifCond .eq (13), 17, 0), (7, .aload_n 0, 0, 0), (8, .getfield 23, 0, 3), (11, .getfield 69, 1, 2), (14, .goto (4), 18, 0), (17, .iconst 0, 0, 0), (18, .ireturn, 0, 0)]
def fCc_order : sx_F := sx_tab lCc_order
theorem kCc_order : sx_chk "ClassCharacters" (wy yCc_order prog_1_method_5_code 1 (some .int)) 1 prog_1_method_5_code lCc_order = true := by decide +kernel
theorem gCc_order_0 : fCc_order 0 = some (.aload_n 0, 0, 0) := rfl
theorem gCc_order_1 : fCc_order 1 = some (.invokevirtual 65, 20, 0) := rfl
theorem gCc_order_4 : fCc_order 4 = some (.ifCond .eq (13), 17, 0) := rfl
theorem gCc_order_7 : fCc_order 7 = some (.aload_n 0, 0, 0) := rfl
theorem gCc_order_8 : fCc_order 8 = some (.getfield 23, 0, 3) := rfl
theorem gCc_order_11 : fCc_order 11 = some (.getfield 69, 1, 2) := rfl
theorem gCc_order_14 : fCc_order 14 = some (.goto (4), 18, 0) := rfl
theorem gCc_order_17 : fCc_order 17 = some (.iconst 0, 0, 0) := rfl
theorem gCc_order_18 : fCc_order 18 = some (.ireturn, 0, 0) := rfl
abbrev lCc_element : List (Nat × Instr × Nat × Nat) := [(0, .aload_n 0, 0, 0), (1, .invokevirtual 65, 20, 0), (4, .ifCond .eq (18), 22, 0), (7, .iload_n 1, 0, 0), (8, .ifCond .lt (14), 22, 0), (11, .iload_n 1, 0, 0), (12, .aload_n 0, 0, 0), (13, .getfield 23, 0, 3), (16, .getfield 69, 1, 2), (19, .if_icmp .lt (5), 24, 0), (22, .iconst (-1), 0, 0), (23, .ireturn, 0, 0), (24, .aload_n 0, 0, 0), (25, .getfield 23, 0, 3), (28, .getfield 72, 1, 0), (31, .iload_n 1, 0, 0), (32, .iaload, 0, 0), (33, .ireturn, 0, 0)]
def fCc_element : sx_F := sx_tab lCc_element
theorem kCc_element : sx_chk "ClassCharacters" (wy yCc_element prog_1_method_6_code 2 (some .int)) 2 prog_1_method_6_code lCc_element = true := by decide +kernel
theorem gCc_element_0 : fCc_element 0 = some (.aload_n 0, 0, 0) := rfl
theorem gCc_element_1 : fCc_element 1 = some (.invokevirtual 65, 20, 0) := rfl
theorem gCc_element_4 : fCc_element 4 = some (.ifCond .eq (18), 22, 0) := rfl
theorem gCc_element_7 : fCc_element 7 = some (.iload_n 1, 0, 0) := rfl
theorem gCc_element_8 : fCc_element 8 = some (.ifCond .lt (14), 22, 0) := rfl
theorem gCc_element_11 : fCc_element 11 = some (.iload_n 1, 0, 0) := rfl
theorem gCc_element_12 : fCc_element 12 = some (.aload_n 0, 0, 0) := rfl
theorem gCc_element_13 : fCc_element 13 = some (.getfield 23, 0, 3) := rfl
theorem gCc_element_16 : fCc_element 16 = some (.getfield 69, 1, 2) := rfl
theorem gCc_element_19 : fCc_element 19 = some (.if_icmp .lt (5), 24, 0) := rfl
theorem gCc_element_22 : fCc_element 22 = some (.iconst (-1), 0, 0) := rfl
theorem gCc_element_23 : fCc_element 23 = some (.ireturn, 0, 0) := rfl
theorem gCc_element_24 : fCc_element 24 = some (.aload_n 0, 0, 0) := rfl
theorem gCc_element_25 : fCc_element 25 = some (.getfield 23, 0, 3) := rfl
theorem gCc_element_28 : fCc_element 28 = some (.getfield 72, 1, 0) := rfl
theorem gCc_element_31 : fCc_element 31 = some (.iload_n 1, 0, 0) := rfl
theorem gCc_element_32 : fCc_element 32 = some (.iaload, 0, 0) := rfl
theorem gCc_element_33 : fCc_element 33 = some (.ireturn, 0, 0) := rfl
abbrev lCc_classOf : List (Nat × Instr × Nat × Nat) := [(0, .aload_n 0, 0, 0), (1, .invokevirtual 65, 20, 0), (4, .ifCond .eq (18), 22, 0), (7, .aload_n 0, 0, 0), (8, .getfield 30, 0, 4), (11, .iload_n 1, 0, 0), (12, .aload_n 0, 0, 0), (13, .getfield 23, 0, 3), (16, .invokevirtual 75, 86, 0), (19, .goto (4), 23, 0), (22, .iconst (-1), 0, 0), (23, .ireturn, 0, 0)]
def fCc_classOf : sx_F := sx_tab lCc_classOf
theorem kCc_classOf : sx_chk "ClassCharacters" (wy yCc_classOf prog_1_method_7_code 2 (some .int)) 2 prog_1_method_7_code lCc_classOf = true := by decide +kernel
theorem gCc_classOf_0 : fCc_classOf 0 = some (.aload_n 0, 0, 0) := rfl
theorem gCc_classOf_1 : fCc_classOf 1 = some (.invokevirtual 65, 20, 0) := rfl
theorem gCc_classOf_4 : fCc_classOf 4 = some (.ifCond .eq (18), 22, 0) := rfl
theorem gCc_classOf_7 : fCc_classOf 7 = some (.aload_n 0, 0, 0) := rfl
theorem gCc_classOf_8 : fCc_classOf 8 = some (.getfield 30, 0, 4) := rfl
theorem gCc_classOf_11 : fCc_classOf 11 = some (.iload_n 1, 0, 0) := rfl
theorem gCc_classOf_12 : fCc_classOf 12 = some (.aload_n 0, 0, 0) := rfl
theorem gCc_classOf_13 : fCc_classOf 13 = some (.getfield 23, 0, 3) := rfl
theorem gCc_classOf_16 : fCc_classOf 16 = some (.invokevirtual 75, 86, 0) := rfl
theorem gCc_classOf_19 : fCc_classOf 19 = some (.goto (4), 23, 0) := rfl
theorem gCc_classOf_22 : fCc_classOf 22 = some (.iconst (-1), 0, 0) := rfl
theorem gCc_classOf_23 : fCc_classOf 23 = some (.ireturn, 0, 0) := rfl
abbrev lCc_classes : List (Nat × Instr × Nat × Nat) := [(0, .aload_n 0, 0, 0), (1, .invokevirtual 65, 20, 0), (4, .ifCond .eq (13), 17, 0), (7, .aload_n 0, 0, 0), (8, .getfield 30, 0, 4), (11, .getfield 79, 2, 0), (14, .goto (4), 18, 0), (17, .iconst 0, 0, 0), (18, .ireturn, 0, 0)]
def fCc_classes : sx_F := sx_tab lCc_classes
theorem kCc_classes : sx_chk "ClassCharacters" (wy yCc_classes prog_1_method_8_code 1 (some .int)) 1 prog_1_method_8_code lCc_classes = true := by decide +kernel
theorem gCc_classes_0 : fCc_classes 0 = some (.aload_n 0, 0, 0) := rfl
theorem gCc_classes_1 : fCc_classes 1 = some (.invokevirtual 65, 20, 0) := rfl
theorem gCc_classes_4 : fCc_classes 4 = some (.ifCond .eq (13), 17, 0) := rfl
theorem gCc_classes_7 : fCc_classes 7 = some (.aload_n 0, 0, 0) := rfl
theorem gCc_classes_8 : fCc_classes 8 = some (.getfield 30, 0, 4) := rfl
theorem gCc_classes_11 : fCc_classes 11 = some (.getfield 79, 2, 0) := rfl
theorem gCc_classes_14 : fCc_classes 14 = some (.goto (4), 18, 0) := rfl
theorem gCc_classes_17 : fCc_classes 17 = some (.iconst 0, 0, 0) := rfl
theorem gCc_classes_18 : fCc_classes 18 = some (.ireturn, 0, 0) := rfl
abbrev lCc_size : List (Nat × Instr × Nat × Nat) := [(0, .aload_n 0, 0, 0), (1, .iload_n 1, 0, 0), (2, .invokevirtual 80, 21, 0), (5, .ifCond .eq (15), 20, 0), (8, .aload_n 0, 0, 0), (9, .getfield 30, 0, 4), (12, .getfield 83, 2, 2), (15, .iload_n 1, 0, 0), (16, .iaload, 0, 0), (17, .goto (4), 21, 0), (20, .iconst 0, 0, 0), (21, .ireturn, 0, 0)]
def fCc_size : sx_F := sx_tab lCc_size
theorem kCc_size : sx_chk "ClassCharacters" (wy yCc_size prog_1_method_9_code 2 (some .int)) 2 prog_1_method_9_code lCc_size = true := by decide +kernel
theorem gCc_size_0 : fCc_size 0 = some (.aload_n 0, 0, 0) := rfl
theorem gCc_size_1 : fCc_size 1 = some (.iload_n 1, 0, 0) := rfl
theorem gCc_size_2 : fCc_size 2 = some (.invokevirtual 80, 21, 0) := rfl
theorem gCc_size_5 : fCc_size 5 = some (.ifCond .eq (15), 20, 0) := rfl
theorem gCc_size_8 : fCc_size 8 = some (.aload_n 0, 0, 0) := rfl
theorem gCc_size_9 : fCc_size 9 = some (.getfield 30, 0, 4) := rfl
theorem gCc_size_12 : fCc_size 12 = some (.getfield 83, 2, 2) := rfl
theorem gCc_size_15 : fCc_size 15 = some (.iload_n 1, 0, 0) := rfl
theorem gCc_size_16 : fCc_size 16 = some (.iaload, 0, 0) := rfl
theorem gCc_size_17 : fCc_size 17 = some (.goto (4), 21, 0) := rfl
theorem gCc_size_20 : fCc_size 20 = some (.iconst 0, 0, 0) := rfl
theorem gCc_size_21 : fCc_size 21 = some (.ireturn, 0, 0) := rfl
abbrev lCc_least : List (Nat × Instr × Nat × Nat) := [(0, .aload_n 0, 0, 0), (1, .iload_n 1, 0, 0), (2, .invokevirtual 80, 21, 0), (5, .ifCond .eq (15), 20, 0), (8, .aload_n 0, 0, 0), (9, .getfield 30, 0, 4), (12, .getfield 86, 2, 3), (15, .iload_n 1, 0, 0), (16, .iaload, 0, 0), (17, .goto (4), 21, 0), (20, .iconst (-1), 0, 0), (21, .ireturn, 0, 0)]
def fCc_least : sx_F := sx_tab lCc_least
theorem kCc_least : sx_chk "ClassCharacters" (wy yCc_least prog_1_method_10_code 2 (some .int)) 2 prog_1_method_10_code lCc_least = true := by decide +kernel
theorem gCc_least_0 : fCc_least 0 = some (.aload_n 0, 0, 0) := rfl
theorem gCc_least_1 : fCc_least 1 = some (.iload_n 1, 0, 0) := rfl
theorem gCc_least_2 : fCc_least 2 = some (.invokevirtual 80, 21, 0) := rfl
theorem gCc_least_5 : fCc_least 5 = some (.ifCond .eq (15), 20, 0) := rfl
theorem gCc_least_8 : fCc_least 8 = some (.aload_n 0, 0, 0) := rfl
theorem gCc_least_9 : fCc_least 9 = some (.getfield 30, 0, 4) := rfl
theorem gCc_least_12 : fCc_least 12 = some (.getfield 86, 2, 3) := rfl
theorem gCc_least_15 : fCc_least 15 = some (.iload_n 1, 0, 0) := rfl
theorem gCc_least_16 : fCc_least 16 = some (.iaload, 0, 0) := rfl
theorem gCc_least_17 : fCc_least 17 = some (.goto (4), 21, 0) := rfl
theorem gCc_least_20 : fCc_least 20 = some (.iconst (-1), 0, 0) := rfl
theorem gCc_least_21 : fCc_least 21 = some (.ireturn, 0, 0) := rfl
abbrev lCc_power : List (Nat × Instr × Nat × Nat) := [(0, .aload_n 0, 0, 0), (1, .iload_n 1, 0, 0), (2, .invokevirtual 80, 21, 0), (5, .ifCond .eq (14), 19, 0), (8, .iload_n 2, 0, 0), (9, .ifCond .lt (10), 19, 0), (12, .iload_n 2, 0, 0), (13, .sipush (1000), 0, 0), (16, .if_icmp .le (5), 21, 0), (19, .iconst (-1), 0, 0), (20, .ireturn, 0, 0), (21, .aload_n 0, 0, 0), (22, .getfield 30, 0, 4), (25, .iload_n 1, 0, 0), (26, .iload_n 2, 0, 0), (27, .invokevirtual 89, 88, 0), (30, .ireturn, 0, 0)]
def fCc_power : sx_F := sx_tab lCc_power
theorem kCc_power : sx_chk "ClassCharacters" (wy yCc_power prog_1_method_11_code 3 (some .int)) 3 prog_1_method_11_code lCc_power = true := by decide +kernel
theorem gCc_power_0 : fCc_power 0 = some (.aload_n 0, 0, 0) := rfl
theorem gCc_power_1 : fCc_power 1 = some (.iload_n 1, 0, 0) := rfl
theorem gCc_power_2 : fCc_power 2 = some (.invokevirtual 80, 21, 0) := rfl
theorem gCc_power_5 : fCc_power 5 = some (.ifCond .eq (14), 19, 0) := rfl
theorem gCc_power_8 : fCc_power 8 = some (.iload_n 2, 0, 0) := rfl
theorem gCc_power_9 : fCc_power 9 = some (.ifCond .lt (10), 19, 0) := rfl
theorem gCc_power_12 : fCc_power 12 = some (.iload_n 2, 0, 0) := rfl
theorem gCc_power_13 : fCc_power 13 = some (.sipush (1000), 0, 0) := rfl
theorem gCc_power_16 : fCc_power 16 = some (.if_icmp .le (5), 21, 0) := rfl
theorem gCc_power_19 : fCc_power 19 = some (.iconst (-1), 0, 0) := rfl
theorem gCc_power_20 : fCc_power 20 = some (.ireturn, 0, 0) := rfl
theorem gCc_power_21 : fCc_power 21 = some (.aload_n 0, 0, 0) := rfl
theorem gCc_power_22 : fCc_power 22 = some (.getfield 30, 0, 4) := rfl
theorem gCc_power_25 : fCc_power 25 = some (.iload_n 1, 0, 0) := rfl
theorem gCc_power_26 : fCc_power 26 = some (.iload_n 2, 0, 0) := rfl
theorem gCc_power_27 : fCc_power 27 = some (.invokevirtual 89, 88, 0) := rfl
theorem gCc_power_30 : fCc_power 30 = some (.ireturn, 0, 0) := rfl
abbrev lCc_constant : List (Nat × Instr × Nat × Nat) := [(0, .aload_n 0, 0, 0), (1, .iload_n 1, 0, 0), (2, .invokevirtual 80, 21, 0), (5, .ifCond .eq (19), 24, 0), (8, .aload_n 0, 0, 0), (9, .iload_n 2, 0, 0), (10, .invokevirtual 80, 21, 0), (13, .ifCond .eq (11), 24, 0), (16, .aload_n 0, 0, 0), (17, .iload_n 3, 0, 0), (18, .invokevirtual 80, 21, 0), (21, .ifCond .ne (5), 26, 0), (24, .iconst (-1), 0, 0), (25, .ireturn, 0, 0), (26, .aload_n 0, 0, 0), (27, .getfield 30, 0, 4), (30, .iload_n 1, 0, 0), (31, .iload_n 2, 0, 0), (32, .iload_n 3, 0, 0), (33, .invokevirtual 93, 91, 0), (36, .ireturn, 0, 0)]
def fCc_constant : sx_F := sx_tab lCc_constant
theorem kCc_constant : sx_chk "ClassCharacters" (wy yCc_constant prog_1_method_12_code 4 (some .int)) 4 prog_1_method_12_code lCc_constant = true := by decide +kernel
theorem gCc_constant_0 : fCc_constant 0 = some (.aload_n 0, 0, 0) := rfl
theorem gCc_constant_1 : fCc_constant 1 = some (.iload_n 1, 0, 0) := rfl
theorem gCc_constant_2 : fCc_constant 2 = some (.invokevirtual 80, 21, 0) := rfl
theorem gCc_constant_5 : fCc_constant 5 = some (.ifCond .eq (19), 24, 0) := rfl
theorem gCc_constant_8 : fCc_constant 8 = some (.aload_n 0, 0, 0) := rfl
theorem gCc_constant_9 : fCc_constant 9 = some (.iload_n 2, 0, 0) := rfl
theorem gCc_constant_10 : fCc_constant 10 = some (.invokevirtual 80, 21, 0) := rfl
theorem gCc_constant_13 : fCc_constant 13 = some (.ifCond .eq (11), 24, 0) := rfl
theorem gCc_constant_16 : fCc_constant 16 = some (.aload_n 0, 0, 0) := rfl
theorem gCc_constant_17 : fCc_constant 17 = some (.iload_n 3, 0, 0) := rfl
theorem gCc_constant_18 : fCc_constant 18 = some (.invokevirtual 80, 21, 0) := rfl
theorem gCc_constant_21 : fCc_constant 21 = some (.ifCond .ne (5), 26, 0) := rfl
theorem gCc_constant_24 : fCc_constant 24 = some (.iconst (-1), 0, 0) := rfl
theorem gCc_constant_25 : fCc_constant 25 = some (.ireturn, 0, 0) := rfl
theorem gCc_constant_26 : fCc_constant 26 = some (.aload_n 0, 0, 0) := rfl
theorem gCc_constant_27 : fCc_constant 27 = some (.getfield 30, 0, 4) := rfl
theorem gCc_constant_30 : fCc_constant 30 = some (.iload_n 1, 0, 0) := rfl
theorem gCc_constant_31 : fCc_constant 31 = some (.iload_n 2, 0, 0) := rfl
theorem gCc_constant_32 : fCc_constant 32 = some (.iload_n 3, 0, 0) := rfl
theorem gCc_constant_33 : fCc_constant 33 = some (.invokevirtual 93, 91, 0) := rfl
theorem gCc_constant_36 : fCc_constant 36 = some (.ireturn, 0, 0) := rfl
abbrev lCc_exponent : List (Nat × Instr × Nat × Nat) := [(0, .aload_n 0, 0, 0), (1, .invokevirtual 65, 20, 0), (4, .ifCond .eq (13), 17, 0), (7, .aload_n 0, 0, 0), (8, .getfield 30, 0, 4), (11, .getfield 97, 2, 6), (14, .goto (4), 18, 0), (17, .iconst 0, 0, 0), (18, .ireturn, 0, 0)]
def fCc_exponent : sx_F := sx_tab lCc_exponent
theorem kCc_exponent : sx_chk "ClassCharacters" (wy yCc_exponent prog_1_method_13_code 1 (some .int)) 1 prog_1_method_13_code lCc_exponent = true := by decide +kernel
theorem gCc_exponent_0 : fCc_exponent 0 = some (.aload_n 0, 0, 0) := rfl
theorem gCc_exponent_1 : fCc_exponent 1 = some (.invokevirtual 65, 20, 0) := rfl
theorem gCc_exponent_4 : fCc_exponent 4 = some (.ifCond .eq (13), 17, 0) := rfl
theorem gCc_exponent_7 : fCc_exponent 7 = some (.aload_n 0, 0, 0) := rfl
theorem gCc_exponent_8 : fCc_exponent 8 = some (.getfield 30, 0, 4) := rfl
theorem gCc_exponent_11 : fCc_exponent 11 = some (.getfield 97, 2, 6) := rfl
theorem gCc_exponent_14 : fCc_exponent 14 = some (.goto (4), 18, 0) := rfl
theorem gCc_exponent_17 : fCc_exponent 17 = some (.iconst 0, 0, 0) := rfl
theorem gCc_exponent_18 : fCc_exponent 18 = some (.ireturn, 0, 0) := rfl
abbrev lCc_prime : List (Nat × Instr × Nat × Nat) := [(0, .aload_n 0, 0, 0), (1, .invokevirtual 65, 20, 0), (4, .ifCond .eq (13), 17, 0), (7, .aload_n 0, 0, 0), (8, .getfield 37, 0, 5), (11, .getfield 100, 3, 0), (14, .goto (4), 18, 0), (17, .iconst 0, 0, 0), (18, .ireturn, 0, 0)]
def fCc_prime : sx_F := sx_tab lCc_prime
theorem kCc_prime : sx_chk "ClassCharacters" (wy yCc_prime prog_1_method_14_code 1 (some .int)) 1 prog_1_method_14_code lCc_prime = true := by decide +kernel
theorem gCc_prime_0 : fCc_prime 0 = some (.aload_n 0, 0, 0) := rfl
theorem gCc_prime_1 : fCc_prime 1 = some (.invokevirtual 65, 20, 0) := rfl
theorem gCc_prime_4 : fCc_prime 4 = some (.ifCond .eq (13), 17, 0) := rfl
theorem gCc_prime_7 : fCc_prime 7 = some (.aload_n 0, 0, 0) := rfl
theorem gCc_prime_8 : fCc_prime 8 = some (.getfield 37, 0, 5) := rfl
theorem gCc_prime_11 : fCc_prime 11 = some (.getfield 100, 3, 0) := rfl
theorem gCc_prime_14 : fCc_prime 14 = some (.goto (4), 18, 0) := rfl
theorem gCc_prime_17 : fCc_prime 17 = some (.iconst 0, 0, 0) := rfl
theorem gCc_prime_18 : fCc_prime 18 = some (.ireturn, 0, 0) := rfl
abbrev lCc_root : List (Nat × Instr × Nat × Nat) := [(0, .aload_n 0, 0, 0), (1, .invokevirtual 65, 20, 0), (4, .ifCond .eq (13), 17, 0), (7, .aload_n 0, 0, 0), (8, .getfield 37, 0, 5), (11, .getfield 103, 3, 1), (14, .goto (4), 18, 0), (17, .iconst 0, 0, 0), (18, .ireturn, 0, 0)]
def fCc_root : sx_F := sx_tab lCc_root
theorem kCc_root : sx_chk "ClassCharacters" (wy yCc_root prog_1_method_15_code 1 (some .int)) 1 prog_1_method_15_code lCc_root = true := by decide +kernel
theorem gCc_root_0 : fCc_root 0 = some (.aload_n 0, 0, 0) := rfl
theorem gCc_root_1 : fCc_root 1 = some (.invokevirtual 65, 20, 0) := rfl
theorem gCc_root_4 : fCc_root 4 = some (.ifCond .eq (13), 17, 0) := rfl
theorem gCc_root_7 : fCc_root 7 = some (.aload_n 0, 0, 0) := rfl
theorem gCc_root_8 : fCc_root 8 = some (.getfield 37, 0, 5) := rfl
theorem gCc_root_11 : fCc_root 11 = some (.getfield 103, 3, 1) := rfl
theorem gCc_root_14 : fCc_root 14 = some (.goto (4), 18, 0) := rfl
theorem gCc_root_17 : fCc_root 17 = some (.iconst 0, 0, 0) := rfl
theorem gCc_root_18 : fCc_root 18 = some (.ireturn, 0, 0) := rfl
abbrev lCc_degree : List (Nat × Instr × Nat × Nat) := [(0, .aload_n 0, 0, 0), (1, .iload_n 1, 0, 0), (2, .invokevirtual 80, 21, 0), (5, .ifCond .eq (23), 28, 0), (8, .aload_n 0, 0, 0), (9, .getfield 51, 0, 7), (12, .getfield 106, 5, 1), (15, .aload_n 0, 0, 0), (16, .getfield 51, 0, 7), (19, .getfield 109, 5, 5), (22, .iload_n 1, 0, 0), (23, .iaload, 0, 0), (24, .iaload, 0, 0), (25, .goto (4), 29, 0), (28, .iconst 0, 0, 0), (29, .ireturn, 0, 0)]
def fCc_degree : sx_F := sx_tab lCc_degree
theorem kCc_degree : sx_chk "ClassCharacters" (wy yCc_degree prog_1_method_16_code 2 (some .int)) 2 prog_1_method_16_code lCc_degree = true := by decide +kernel
theorem gCc_degree_0 : fCc_degree 0 = some (.aload_n 0, 0, 0) := rfl
theorem gCc_degree_1 : fCc_degree 1 = some (.iload_n 1, 0, 0) := rfl
theorem gCc_degree_2 : fCc_degree 2 = some (.invokevirtual 80, 21, 0) := rfl
theorem gCc_degree_5 : fCc_degree 5 = some (.ifCond .eq (23), 28, 0) := rfl
theorem gCc_degree_8 : fCc_degree 8 = some (.aload_n 0, 0, 0) := rfl
theorem gCc_degree_9 : fCc_degree 9 = some (.getfield 51, 0, 7) := rfl
theorem gCc_degree_12 : fCc_degree 12 = some (.getfield 106, 5, 1) := rfl
theorem gCc_degree_15 : fCc_degree 15 = some (.aload_n 0, 0, 0) := rfl
theorem gCc_degree_16 : fCc_degree 16 = some (.getfield 51, 0, 7) := rfl
theorem gCc_degree_19 : fCc_degree 19 = some (.getfield 109, 5, 5) := rfl
theorem gCc_degree_22 : fCc_degree 22 = some (.iload_n 1, 0, 0) := rfl
theorem gCc_degree_23 : fCc_degree 23 = some (.iaload, 0, 0) := rfl
theorem gCc_degree_24 : fCc_degree 24 = some (.iaload, 0, 0) := rfl
theorem gCc_degree_25 : fCc_degree 25 = some (.goto (4), 29, 0) := rfl
theorem gCc_degree_28 : fCc_degree 28 = some (.iconst 0, 0, 0) := rfl
theorem gCc_degree_29 : fCc_degree 29 = some (.ireturn, 0, 0) := rfl
abbrev lCc_value : List (Nat × Instr × Nat × Nat) := [(0, .aload_n 0, 0, 0), (1, .iload_n 1, 0, 0), (2, .invokevirtual 80, 21, 0), (5, .ifCond .eq (11), 16, 0), (8, .aload_n 0, 0, 0), (9, .iload_n 2, 0, 0), (10, .invokevirtual 80, 21, 0), (13, .ifCond .ne (5), 18, 0), (16, .iconst (-1), 0, 0), (17, .ireturn, 0, 0), (18, .aload_n 0, 0, 0), (19, .getfield 51, 0, 7), (22, .getfield 112, 5, 2), (25, .aload_n 0, 0, 0), (26, .getfield 51, 0, 7), (29, .getfield 109, 5, 5), (32, .iload_n 1, 0, 0), (33, .iaload, 0, 0), (34, .aaload, 0, 0), (35, .iload_n 2, 0, 0), (36, .iaload, 0, 0), (37, .ireturn, 0, 0)]
def fCc_value : sx_F := sx_tab lCc_value
theorem kCc_value : sx_chk "ClassCharacters" (wy yCc_value prog_1_method_17_code 3 (some .int)) 3 prog_1_method_17_code lCc_value = true := by decide +kernel
theorem gCc_value_0 : fCc_value 0 = some (.aload_n 0, 0, 0) := rfl
theorem gCc_value_1 : fCc_value 1 = some (.iload_n 1, 0, 0) := rfl
theorem gCc_value_2 : fCc_value 2 = some (.invokevirtual 80, 21, 0) := rfl
theorem gCc_value_5 : fCc_value 5 = some (.ifCond .eq (11), 16, 0) := rfl
theorem gCc_value_8 : fCc_value 8 = some (.aload_n 0, 0, 0) := rfl
theorem gCc_value_9 : fCc_value 9 = some (.iload_n 2, 0, 0) := rfl
theorem gCc_value_10 : fCc_value 10 = some (.invokevirtual 80, 21, 0) := rfl
theorem gCc_value_13 : fCc_value 13 = some (.ifCond .ne (5), 18, 0) := rfl
theorem gCc_value_16 : fCc_value 16 = some (.iconst (-1), 0, 0) := rfl
theorem gCc_value_17 : fCc_value 17 = some (.ireturn, 0, 0) := rfl
theorem gCc_value_18 : fCc_value 18 = some (.aload_n 0, 0, 0) := rfl
theorem gCc_value_19 : fCc_value 19 = some (.getfield 51, 0, 7) := rfl
theorem gCc_value_22 : fCc_value 22 = some (.getfield 112, 5, 2) := rfl
theorem gCc_value_25 : fCc_value 25 = some (.aload_n 0, 0, 0) := rfl
theorem gCc_value_26 : fCc_value 26 = some (.getfield 51, 0, 7) := rfl
theorem gCc_value_29 : fCc_value 29 = some (.getfield 109, 5, 5) := rfl
theorem gCc_value_32 : fCc_value 32 = some (.iload_n 1, 0, 0) := rfl
theorem gCc_value_33 : fCc_value 33 = some (.iaload, 0, 0) := rfl
theorem gCc_value_34 : fCc_value 34 = some (.aaload, 0, 0) := rfl
theorem gCc_value_35 : fCc_value 35 = some (.iload_n 2, 0, 0) := rfl
theorem gCc_value_36 : fCc_value 36 = some (.iaload, 0, 0) := rfl
theorem gCc_value_37 : fCc_value 37 = some (.ireturn, 0, 0) := rfl
abbrev lCc_multiplicity : List (Nat × Instr × Nat × Nat) := [(0, .aload_n 0, 0, 0), (1, .iload_n 1, 0, 0), (2, .invokevirtual 80, 21, 0), (5, .ifCond .eq (26), 31, 0), (8, .aload_n 0, 0, 0), (9, .iload_n 2, 0, 0), (10, .invokevirtual 80, 21, 0), (13, .ifCond .eq (18), 31, 0), (16, .iload_n 3, 0, 0), (17, .ifCond .lt (14), 31, 0), (20, .iload_n 3, 0, 0), (21, .aload_n 0, 0, 0), (22, .getfield 30, 0, 4), (25, .getfield 97, 2, 6), (28, .if_icmp .lt (5), 33, 0), (31, .iconst (-1), 0, 0), (32, .ireturn, 0, 0), (33, .aload_n 0, 0, 0), (34, .getfield 51, 0, 7), (37, .aload_n 0, 0, 0), (38, .getfield 51, 0, 7), (41, .getfield 109, 5, 5), (44, .iload_n 1, 0, 0), (45, .iaload, 0, 0), (46, .iload_n 2, 0, 0), (47, .iload_n 3, 0, 0), (48, .aload_n 0, 0, 0), (49, .getfield 30, 0, 4), (52, .aload_n 0, 0, 0), (53, .getfield 37, 0, 5), (56, .invokevirtual 116, 116, 0), (59, .ireturn, 0, 0)]
def fCc_multiplicity : sx_F := sx_tab lCc_multiplicity
theorem kCc_multiplicity : sx_chk "ClassCharacters" (wy yCc_multiplicity prog_1_method_18_code 4 (some .int)) 4 prog_1_method_18_code lCc_multiplicity = true := by decide +kernel
theorem gCc_multiplicity_0 : fCc_multiplicity 0 = some (.aload_n 0, 0, 0) := rfl
theorem gCc_multiplicity_1 : fCc_multiplicity 1 = some (.iload_n 1, 0, 0) := rfl
theorem gCc_multiplicity_2 : fCc_multiplicity 2 = some (.invokevirtual 80, 21, 0) := rfl
theorem gCc_multiplicity_5 : fCc_multiplicity 5 = some (.ifCond .eq (26), 31, 0) := rfl
theorem gCc_multiplicity_8 : fCc_multiplicity 8 = some (.aload_n 0, 0, 0) := rfl
theorem gCc_multiplicity_9 : fCc_multiplicity 9 = some (.iload_n 2, 0, 0) := rfl
theorem gCc_multiplicity_10 : fCc_multiplicity 10 = some (.invokevirtual 80, 21, 0) := rfl
theorem gCc_multiplicity_13 : fCc_multiplicity 13 = some (.ifCond .eq (18), 31, 0) := rfl
theorem gCc_multiplicity_16 : fCc_multiplicity 16 = some (.iload_n 3, 0, 0) := rfl
theorem gCc_multiplicity_17 : fCc_multiplicity 17 = some (.ifCond .lt (14), 31, 0) := rfl
theorem gCc_multiplicity_20 : fCc_multiplicity 20 = some (.iload_n 3, 0, 0) := rfl
theorem gCc_multiplicity_21 : fCc_multiplicity 21 = some (.aload_n 0, 0, 0) := rfl
theorem gCc_multiplicity_22 : fCc_multiplicity 22 = some (.getfield 30, 0, 4) := rfl
theorem gCc_multiplicity_25 : fCc_multiplicity 25 = some (.getfield 97, 2, 6) := rfl
theorem gCc_multiplicity_28 : fCc_multiplicity 28 = some (.if_icmp .lt (5), 33, 0) := rfl
theorem gCc_multiplicity_31 : fCc_multiplicity 31 = some (.iconst (-1), 0, 0) := rfl
theorem gCc_multiplicity_32 : fCc_multiplicity 32 = some (.ireturn, 0, 0) := rfl
theorem gCc_multiplicity_33 : fCc_multiplicity 33 = some (.aload_n 0, 0, 0) := rfl
theorem gCc_multiplicity_34 : fCc_multiplicity 34 = some (.getfield 51, 0, 7) := rfl
theorem gCc_multiplicity_37 : fCc_multiplicity 37 = some (.aload_n 0, 0, 0) := rfl
theorem gCc_multiplicity_38 : fCc_multiplicity 38 = some (.getfield 51, 0, 7) := rfl
theorem gCc_multiplicity_41 : fCc_multiplicity 41 = some (.getfield 109, 5, 5) := rfl
theorem gCc_multiplicity_44 : fCc_multiplicity 44 = some (.iload_n 1, 0, 0) := rfl
theorem gCc_multiplicity_45 : fCc_multiplicity 45 = some (.iaload, 0, 0) := rfl
theorem gCc_multiplicity_46 : fCc_multiplicity 46 = some (.iload_n 2, 0, 0) := rfl
theorem gCc_multiplicity_47 : fCc_multiplicity 47 = some (.iload_n 3, 0, 0) := rfl
theorem gCc_multiplicity_48 : fCc_multiplicity 48 = some (.aload_n 0, 0, 0) := rfl
theorem gCc_multiplicity_49 : fCc_multiplicity 49 = some (.getfield 30, 0, 4) := rfl
theorem gCc_multiplicity_52 : fCc_multiplicity 52 = some (.aload_n 0, 0, 0) := rfl
theorem gCc_multiplicity_53 : fCc_multiplicity 53 = some (.getfield 37, 0, 5) := rfl
theorem gCc_multiplicity_56 : fCc_multiplicity 56 = some (.invokevirtual 116, 116, 0) := rfl
theorem gCc_multiplicity_59 : fCc_multiplicity 59 = some (.ireturn, 0, 0) := rfl
abbrev lCc_indicator : List (Nat × Instr × Nat × Nat) := [(0, .aload_n 0, 0, 0), (1, .iload_n 1, 0, 0), (2, .invokevirtual 80, 21, 0), (5, .ifCond .eq (23), 28, 0), (8, .aload_n 0, 0, 0), (9, .getfield 51, 0, 7), (12, .getfield 120, 5, 3), (15, .aload_n 0, 0, 0), (16, .getfield 51, 0, 7), (19, .getfield 109, 5, 5), (22, .iload_n 1, 0, 0), (23, .iaload, 0, 0), (24, .iaload, 0, 0), (25, .goto (4), 29, 0), (28, .iconst 0, 0, 0), (29, .ireturn, 0, 0)]
def fCc_indicator : sx_F := sx_tab lCc_indicator
theorem kCc_indicator : sx_chk "ClassCharacters" (wy yCc_indicator prog_1_method_19_code 2 (some .int)) 2 prog_1_method_19_code lCc_indicator = true := by decide +kernel
theorem gCc_indicator_0 : fCc_indicator 0 = some (.aload_n 0, 0, 0) := rfl
theorem gCc_indicator_1 : fCc_indicator 1 = some (.iload_n 1, 0, 0) := rfl
theorem gCc_indicator_2 : fCc_indicator 2 = some (.invokevirtual 80, 21, 0) := rfl
theorem gCc_indicator_5 : fCc_indicator 5 = some (.ifCond .eq (23), 28, 0) := rfl
theorem gCc_indicator_8 : fCc_indicator 8 = some (.aload_n 0, 0, 0) := rfl
theorem gCc_indicator_9 : fCc_indicator 9 = some (.getfield 51, 0, 7) := rfl
theorem gCc_indicator_12 : fCc_indicator 12 = some (.getfield 120, 5, 3) := rfl
theorem gCc_indicator_15 : fCc_indicator 15 = some (.aload_n 0, 0, 0) := rfl
theorem gCc_indicator_16 : fCc_indicator 16 = some (.getfield 51, 0, 7) := rfl
theorem gCc_indicator_19 : fCc_indicator 19 = some (.getfield 109, 5, 5) := rfl
theorem gCc_indicator_22 : fCc_indicator 22 = some (.iload_n 1, 0, 0) := rfl
theorem gCc_indicator_23 : fCc_indicator 23 = some (.iaload, 0, 0) := rfl
theorem gCc_indicator_24 : fCc_indicator 24 = some (.iaload, 0, 0) := rfl
theorem gCc_indicator_25 : fCc_indicator 25 = some (.goto (4), 29, 0) := rfl
theorem gCc_indicator_28 : fCc_indicator 28 = some (.iconst 0, 0, 0) := rfl
theorem gCc_indicator_29 : fCc_indicator 29 = some (.ireturn, 0, 0) := rfl
abbrev lCc_kernel : List (Nat × Instr × Nat × Nat) := [(0, .aload_n 0, 0, 0), (1, .iload_n 1, 0, 0), (2, .invokevirtual 80, 21, 0), (5, .ifCond .eq (23), 28, 0), (8, .aload_n 0, 0, 0), (9, .getfield 51, 0, 7), (12, .getfield 123, 5, 4), (15, .aload_n 0, 0, 0), (16, .getfield 51, 0, 7), (19, .getfield 109, 5, 5), (22, .iload_n 1, 0, 0), (23, .iaload, 0, 0), (24, .iaload, 0, 0), (25, .goto (4), 29, 0), (28, .iconst 0, 0, 0), (29, .ireturn, 0, 0)]
def fCc_kernel : sx_F := sx_tab lCc_kernel
theorem kCc_kernel : sx_chk "ClassCharacters" (wy yCc_kernel prog_1_method_20_code 2 (some .int)) 2 prog_1_method_20_code lCc_kernel = true := by decide +kernel
theorem gCc_kernel_0 : fCc_kernel 0 = some (.aload_n 0, 0, 0) := rfl
theorem gCc_kernel_1 : fCc_kernel 1 = some (.iload_n 1, 0, 0) := rfl
theorem gCc_kernel_2 : fCc_kernel 2 = some (.invokevirtual 80, 21, 0) := rfl
theorem gCc_kernel_5 : fCc_kernel 5 = some (.ifCond .eq (23), 28, 0) := rfl
theorem gCc_kernel_8 : fCc_kernel 8 = some (.aload_n 0, 0, 0) := rfl
theorem gCc_kernel_9 : fCc_kernel 9 = some (.getfield 51, 0, 7) := rfl
theorem gCc_kernel_12 : fCc_kernel 12 = some (.getfield 123, 5, 4) := rfl
theorem gCc_kernel_15 : fCc_kernel 15 = some (.aload_n 0, 0, 0) := rfl
theorem gCc_kernel_16 : fCc_kernel 16 = some (.getfield 51, 0, 7) := rfl
theorem gCc_kernel_19 : fCc_kernel 19 = some (.getfield 109, 5, 5) := rfl
theorem gCc_kernel_22 : fCc_kernel 22 = some (.iload_n 1, 0, 0) := rfl
theorem gCc_kernel_23 : fCc_kernel 23 = some (.iaload, 0, 0) := rfl
theorem gCc_kernel_24 : fCc_kernel 24 = some (.iaload, 0, 0) := rfl
theorem gCc_kernel_25 : fCc_kernel 25 = some (.goto (4), 29, 0) := rfl
theorem gCc_kernel_28 : fCc_kernel 28 = some (.iconst 0, 0, 0) := rfl
theorem gCc_kernel_29 : fCc_kernel 29 = some (.ireturn, 0, 0) := rfl
abbrev lCc_normals : List (Nat × Instr × Nat × Nat) := [(0, .aload_n 0, 0, 0), (1, .invokevirtual 65, 20, 0), (4, .ifCond .eq (13), 17, 0), (7, .aload_n 0, 0, 0), (8, .getfield 51, 0, 7), (11, .getfield 126, 5, 7), (14, .goto (4), 18, 0), (17, .iconst 0, 0, 0), (18, .ireturn, 0, 0)]
def fCc_normals : sx_F := sx_tab lCc_normals
theorem kCc_normals : sx_chk "ClassCharacters" (wy yCc_normals prog_1_method_21_code 1 (some .int)) 1 prog_1_method_21_code lCc_normals = true := by decide +kernel
theorem gCc_normals_0 : fCc_normals 0 = some (.aload_n 0, 0, 0) := rfl
theorem gCc_normals_1 : fCc_normals 1 = some (.invokevirtual 65, 20, 0) := rfl
theorem gCc_normals_4 : fCc_normals 4 = some (.ifCond .eq (13), 17, 0) := rfl
theorem gCc_normals_7 : fCc_normals 7 = some (.aload_n 0, 0, 0) := rfl
theorem gCc_normals_8 : fCc_normals 8 = some (.getfield 51, 0, 7) := rfl
theorem gCc_normals_11 : fCc_normals 11 = some (.getfield 126, 5, 7) := rfl
theorem gCc_normals_14 : fCc_normals 14 = some (.goto (4), 18, 0) := rfl
theorem gCc_normals_17 : fCc_normals 17 = some (.iconst 0, 0, 0) := rfl
theorem gCc_normals_18 : fCc_normals 18 = some (.ireturn, 0, 0) := rfl
abbrev lCc_isBuilt : List (Nat × Instr × Nat × Nat) := [(0, .aload_n 0, 0, 0), (1, .getfield 17, 0, 2), (4, .ifCond .ne (7), 11, 0), (7, .iconst 1, 0, 0), (8, .goto (4), 12, 0), (11, .iconst 0, 0, 0), (12, .ireturn, 0, 0)]
def fCc_isBuilt : sx_F := sx_tab lCc_isBuilt
theorem kCc_isBuilt : sx_chk "ClassCharacters" (wy yCc_isBuilt prog_1_method_22_code 1 (some .boolean)) 1 prog_1_method_22_code lCc_isBuilt = true := by decide +kernel
theorem gCc_isBuilt_0 : fCc_isBuilt 0 = some (.aload_n 0, 0, 0) := rfl
theorem gCc_isBuilt_1 : fCc_isBuilt 1 = some (.getfield 17, 0, 2) := rfl
theorem gCc_isBuilt_4 : fCc_isBuilt 4 = some (.ifCond .ne (7), 11, 0) := rfl
theorem gCc_isBuilt_7 : fCc_isBuilt 7 = some (.iconst 1, 0, 0) := rfl
theorem gCc_isBuilt_8 : fCc_isBuilt 8 = some (.goto (4), 12, 0) := rfl
theorem gCc_isBuilt_11 : fCc_isBuilt 11 = some (.iconst 0, 0, 0) := rfl
theorem gCc_isBuilt_12 : fCc_isBuilt 12 = some (.ireturn, 0, 0) := rfl
abbrev lCc_isClass : List (Nat × Instr × Nat × Nat) := [(0, .aload_n 0, 0, 0), (1, .invokevirtual 65, 20, 0), (4, .ifCond .eq (22), 26, 0), (7, .iload_n 1, 0, 0), (8, .ifCond .lt (18), 26, 0), (11, .iload_n 1, 0, 0), (12, .aload_n 0, 0, 0), (13, .getfield 30, 0, 4), (16, .getfield 79, 2, 0), (19, .if_icmp .ge (7), 26, 0), (22, .iconst 1, 0, 0), (23, .goto (4), 27, 0), (26, .iconst 0, 0, 0), (27, .ireturn, 0, 0)]
def fCc_isClass : sx_F := sx_tab lCc_isClass
theorem kCc_isClass : sx_chk "ClassCharacters" (wy yCc_isClass prog_1_method_23_code 2 (some .boolean)) 2 prog_1_method_23_code lCc_isClass = true := by decide +kernel
theorem gCc_isClass_0 : fCc_isClass 0 = some (.aload_n 0, 0, 0) := rfl
theorem gCc_isClass_1 : fCc_isClass 1 = some (.invokevirtual 65, 20, 0) := rfl
theorem gCc_isClass_4 : fCc_isClass 4 = some (.ifCond .eq (22), 26, 0) := rfl
theorem gCc_isClass_7 : fCc_isClass 7 = some (.iload_n 1, 0, 0) := rfl
theorem gCc_isClass_8 : fCc_isClass 8 = some (.ifCond .lt (18), 26, 0) := rfl
theorem gCc_isClass_11 : fCc_isClass 11 = some (.iload_n 1, 0, 0) := rfl
theorem gCc_isClass_12 : fCc_isClass 12 = some (.aload_n 0, 0, 0) := rfl
theorem gCc_isClass_13 : fCc_isClass 13 = some (.getfield 30, 0, 4) := rfl
theorem gCc_isClass_16 : fCc_isClass 16 = some (.getfield 79, 2, 0) := rfl
theorem gCc_isClass_19 : fCc_isClass 19 = some (.if_icmp .ge (7), 26, 0) := rfl
theorem gCc_isClass_22 : fCc_isClass 22 = some (.iconst 1, 0, 0) := rfl
theorem gCc_isClass_23 : fCc_isClass 23 = some (.goto (4), 27, 0) := rfl
theorem gCc_isClass_26 : fCc_isClass 26 = some (.iconst 0, 0, 0) := rfl
theorem gCc_isClass_27 : fCc_isClass 27 = some (.ireturn, 0, 0) := rfl
abbrev lCc_workOut : List (Nat × Instr × Nat × Nat) := [(0, .aload_n 0, 0, 0), (1, .getfield 23, 0, 3), (4, .aload_n 0, 0, 0), (5, .getfield 9, 0, 0), (8, .aload_n 0, 0, 0), (9, .getfield 13, 0, 1), (12, .invokevirtual 129, 93, 0), (15, .ifCond .ne (5), 20, 0), (18, .iconst 1, 0, 0), (19, .ireturn, 0, 0), (20, .aload_n 0, 0, 0), (21, .getfield 30, 0, 4), (24, .aload_n 0, 0, 0), (25, .getfield 23, 0, 3), (28, .invokevirtual 133, 84, 0), (31, .ifCond .ne (5), 36, 0), (34, .iconst 2, 0, 0), (35, .ireturn, 0, 0), (36, .aload_n 0, 0, 0), (37, .getfield 30, 0, 4), (40, .aload_n 0, 0, 0), (41, .getfield 23, 0, 3), (44, .invokevirtual 137, 87, 0), (47, .aload_n 0, 0, 0), (48, .getfield 30, 0, 4), (51, .aload_n 0, 0, 0), (52, .getfield 23, 0, 3), (55, .invokevirtual 141, 90, 0), (58, .aload_n 0, 0, 0), (59, .getfield 37, 0, 5), (62, .aload_n 0, 0, 0), (63, .getfield 23, 0, 3), (66, .getfield 69, 1, 2), (69, .aload_n 0, 0, 0), (70, .getfield 30, 0, 4), (73, .getfield 97, 2, 6), (76, .invokevirtual 144, 97, 0), (79, .aload_n 0, 0, 0), (80, .getfield 44, 0, 6), (83, .aload_n 0, 0, 0), (84, .getfield 30, 0, 4), (87, .aload_n 0, 0, 0), (88, .getfield 37, 0, 5), (91, .invokevirtual 148, 71, 0), (94, .aload_n 0, 0, 0), (95, .getfield 51, 0, 7), (98, .aload_n 0, 0, 0), (99, .getfield 23, 0, 3), (102, .getfield 69, 1, 2), (105, .aload_n 0, 0, 0), (106, .getfield 44, 0, 6), (109, .aload_n 0, 0, 0), (110, .getfield 30, 0, 4), (113, .aload_n 0, 0, 0), (114, .getfield 37, 0, 5), (117, .invokevirtual 152, 107, 0), (120, .iconst 0, 0, 0), (121, .ireturn, 0, 0)]
def fCc_workOut : sx_F := sx_tab lCc_workOut
theorem kCc_workOut : sx_chk "ClassCharacters" (wy yCc_workOut prog_1_method_24_code 1 (some .int)) 1 prog_1_method_24_code lCc_workOut = true := by decide +kernel
theorem gCc_workOut_0 : fCc_workOut 0 = some (.aload_n 0, 0, 0) := rfl
theorem gCc_workOut_1 : fCc_workOut 1 = some (.getfield 23, 0, 3) := rfl
theorem gCc_workOut_4 : fCc_workOut 4 = some (.aload_n 0, 0, 0) := rfl
theorem gCc_workOut_5 : fCc_workOut 5 = some (.getfield 9, 0, 0) := rfl
theorem gCc_workOut_8 : fCc_workOut 8 = some (.aload_n 0, 0, 0) := rfl
theorem gCc_workOut_9 : fCc_workOut 9 = some (.getfield 13, 0, 1) := rfl
theorem gCc_workOut_12 : fCc_workOut 12 = some (.invokevirtual 129, 93, 0) := rfl
theorem gCc_workOut_15 : fCc_workOut 15 = some (.ifCond .ne (5), 20, 0) := rfl
theorem gCc_workOut_18 : fCc_workOut 18 = some (.iconst 1, 0, 0) := rfl
theorem gCc_workOut_19 : fCc_workOut 19 = some (.ireturn, 0, 0) := rfl
theorem gCc_workOut_20 : fCc_workOut 20 = some (.aload_n 0, 0, 0) := rfl
theorem gCc_workOut_21 : fCc_workOut 21 = some (.getfield 30, 0, 4) := rfl
theorem gCc_workOut_24 : fCc_workOut 24 = some (.aload_n 0, 0, 0) := rfl
theorem gCc_workOut_25 : fCc_workOut 25 = some (.getfield 23, 0, 3) := rfl
theorem gCc_workOut_28 : fCc_workOut 28 = some (.invokevirtual 133, 84, 0) := rfl
theorem gCc_workOut_31 : fCc_workOut 31 = some (.ifCond .ne (5), 36, 0) := rfl
theorem gCc_workOut_34 : fCc_workOut 34 = some (.iconst 2, 0, 0) := rfl
theorem gCc_workOut_35 : fCc_workOut 35 = some (.ireturn, 0, 0) := rfl
theorem gCc_workOut_36 : fCc_workOut 36 = some (.aload_n 0, 0, 0) := rfl
theorem gCc_workOut_37 : fCc_workOut 37 = some (.getfield 30, 0, 4) := rfl
theorem gCc_workOut_40 : fCc_workOut 40 = some (.aload_n 0, 0, 0) := rfl
theorem gCc_workOut_41 : fCc_workOut 41 = some (.getfield 23, 0, 3) := rfl
theorem gCc_workOut_44 : fCc_workOut 44 = some (.invokevirtual 137, 87, 0) := rfl
theorem gCc_workOut_47 : fCc_workOut 47 = some (.aload_n 0, 0, 0) := rfl
theorem gCc_workOut_48 : fCc_workOut 48 = some (.getfield 30, 0, 4) := rfl
theorem gCc_workOut_51 : fCc_workOut 51 = some (.aload_n 0, 0, 0) := rfl
theorem gCc_workOut_52 : fCc_workOut 52 = some (.getfield 23, 0, 3) := rfl
theorem gCc_workOut_55 : fCc_workOut 55 = some (.invokevirtual 141, 90, 0) := rfl
theorem gCc_workOut_58 : fCc_workOut 58 = some (.aload_n 0, 0, 0) := rfl
theorem gCc_workOut_59 : fCc_workOut 59 = some (.getfield 37, 0, 5) := rfl
theorem gCc_workOut_62 : fCc_workOut 62 = some (.aload_n 0, 0, 0) := rfl
theorem gCc_workOut_63 : fCc_workOut 63 = some (.getfield 23, 0, 3) := rfl
theorem gCc_workOut_66 : fCc_workOut 66 = some (.getfield 69, 1, 2) := rfl
theorem gCc_workOut_69 : fCc_workOut 69 = some (.aload_n 0, 0, 0) := rfl
theorem gCc_workOut_70 : fCc_workOut 70 = some (.getfield 30, 0, 4) := rfl
theorem gCc_workOut_73 : fCc_workOut 73 = some (.getfield 97, 2, 6) := rfl
theorem gCc_workOut_76 : fCc_workOut 76 = some (.invokevirtual 144, 97, 0) := rfl
theorem gCc_workOut_79 : fCc_workOut 79 = some (.aload_n 0, 0, 0) := rfl
theorem gCc_workOut_80 : fCc_workOut 80 = some (.getfield 44, 0, 6) := rfl
theorem gCc_workOut_83 : fCc_workOut 83 = some (.aload_n 0, 0, 0) := rfl
theorem gCc_workOut_84 : fCc_workOut 84 = some (.getfield 30, 0, 4) := rfl
theorem gCc_workOut_87 : fCc_workOut 87 = some (.aload_n 0, 0, 0) := rfl
theorem gCc_workOut_88 : fCc_workOut 88 = some (.getfield 37, 0, 5) := rfl
theorem gCc_workOut_91 : fCc_workOut 91 = some (.invokevirtual 148, 71, 0) := rfl
theorem gCc_workOut_94 : fCc_workOut 94 = some (.aload_n 0, 0, 0) := rfl
theorem gCc_workOut_95 : fCc_workOut 95 = some (.getfield 51, 0, 7) := rfl
theorem gCc_workOut_98 : fCc_workOut 98 = some (.aload_n 0, 0, 0) := rfl
theorem gCc_workOut_99 : fCc_workOut 99 = some (.getfield 23, 0, 3) := rfl
theorem gCc_workOut_102 : fCc_workOut 102 = some (.getfield 69, 1, 2) := rfl
theorem gCc_workOut_105 : fCc_workOut 105 = some (.aload_n 0, 0, 0) := rfl
theorem gCc_workOut_106 : fCc_workOut 106 = some (.getfield 44, 0, 6) := rfl
theorem gCc_workOut_109 : fCc_workOut 109 = some (.aload_n 0, 0, 0) := rfl
theorem gCc_workOut_110 : fCc_workOut 110 = some (.getfield 30, 0, 4) := rfl
theorem gCc_workOut_113 : fCc_workOut 113 = some (.aload_n 0, 0, 0) := rfl
theorem gCc_workOut_114 : fCc_workOut 114 = some (.getfield 37, 0, 5) := rfl
theorem gCc_workOut_117 : fCc_workOut 117 = some (.invokevirtual 152, 107, 0) := rfl
theorem gCc_workOut_120 : fCc_workOut 120 = some (.iconst 0, 0, 0) := rfl
theorem gCc_workOut_121 : fCc_workOut 121 = some (.ireturn, 0, 0) := rfl
abbrev lCo_divide : List (Nat × Instr × Nat × Nat) := [(0, .aload_n 0, 0, 0), (1, .iconst 0, 0, 0), (2, .putfield 9, 2, 0), (5, .aload_n 0, 0, 0), (6, .getfield 15, 2, 1), (9, .iconst (-1), 0, 0), (10, .invokestatic 39, 119, 0), (13, .iconst 0, 0, 0), (14, .istore_n 2, 0, 0), (15, .iload_n 2, 0, 0), (16, .aload_n 1, 0, 0), (17, .getfield 45, 1, 2), (20, .if_icmp .ge (41), 61, 0), (23, .aload_n 0, 0, 0), (24, .getfield 15, 2, 1), (27, .iload_n 2, 0, 0), (28, .iaload, 0, 0), (29, .iconst (-1), 0, 0), (30, .if_icmp .ne (25), 55, 0), (33, .aload_n 0, 0, 0), (34, .getfield 9, 2, 0), (37, .bipush (16), 0, 0), (39, .if_icmp .lt (5), 44, 0), (42, .iconst 0, 0, 0), (43, .ireturn, 0, 0), (44, .aload_n 0, 0, 0), (45, .aload_n 1, 0, 0), (46, .getfield 48, 1, 0), (49, .iload_n 2, 0, 0), (50, .iaload, 0, 0), (51, .aload_n 1, 0, 0), (52, .invokevirtual 51, 85, 0), (55, .iinc 2 (1), 0, 0), (58, .goto (-43), 15, 0), (61, .iconst 1, 0, 0), (62, .ireturn, 0, 0)]
def fCo_divide : sx_F := sx_tab lCo_divide
theorem kCo_divide : sx_chk "ClassCharacters$Conjugates" (wy yCo_divide prog_4_method_2_code 3 (some .boolean)) 3 prog_4_method_2_code lCo_divide = true := by decide +kernel
theorem gCo_divide_0 : fCo_divide 0 = some (.aload_n 0, 0, 0) := rfl
theorem gCo_divide_1 : fCo_divide 1 = some (.iconst 0, 0, 0) := rfl
theorem gCo_divide_2 : fCo_divide 2 = some (.putfield 9, 2, 0) := rfl
theorem gCo_divide_5 : fCo_divide 5 = some (.aload_n 0, 0, 0) := rfl
theorem gCo_divide_6 : fCo_divide 6 = some (.getfield 15, 2, 1) := rfl
theorem gCo_divide_9 : fCo_divide 9 = some (.iconst (-1), 0, 0) := rfl
theorem gCo_divide_10 : fCo_divide 10 = some (.invokestatic 39, 119, 0) := rfl
theorem gCo_divide_13 : fCo_divide 13 = some (.iconst 0, 0, 0) := rfl
theorem gCo_divide_14 : fCo_divide 14 = some (.istore_n 2, 0, 0) := rfl
theorem gCo_divide_15 : fCo_divide 15 = some (.iload_n 2, 0, 0) := rfl
theorem gCo_divide_16 : fCo_divide 16 = some (.aload_n 1, 0, 0) := rfl
theorem gCo_divide_17 : fCo_divide 17 = some (.getfield 45, 1, 2) := rfl
theorem gCo_divide_20 : fCo_divide 20 = some (.if_icmp .ge (41), 61, 0) := rfl
theorem gCo_divide_23 : fCo_divide 23 = some (.aload_n 0, 0, 0) := rfl
theorem gCo_divide_24 : fCo_divide 24 = some (.getfield 15, 2, 1) := rfl
theorem gCo_divide_27 : fCo_divide 27 = some (.iload_n 2, 0, 0) := rfl
theorem gCo_divide_28 : fCo_divide 28 = some (.iaload, 0, 0) := rfl
theorem gCo_divide_29 : fCo_divide 29 = some (.iconst (-1), 0, 0) := rfl
theorem gCo_divide_30 : fCo_divide 30 = some (.if_icmp .ne (25), 55, 0) := rfl
theorem gCo_divide_33 : fCo_divide 33 = some (.aload_n 0, 0, 0) := rfl
theorem gCo_divide_34 : fCo_divide 34 = some (.getfield 9, 2, 0) := rfl
theorem gCo_divide_37 : fCo_divide 37 = some (.bipush (16), 0, 0) := rfl
theorem gCo_divide_39 : fCo_divide 39 = some (.if_icmp .lt (5), 44, 0) := rfl
theorem gCo_divide_42 : fCo_divide 42 = some (.iconst 0, 0, 0) := rfl
theorem gCo_divide_43 : fCo_divide 43 = some (.ireturn, 0, 0) := rfl
theorem gCo_divide_44 : fCo_divide 44 = some (.aload_n 0, 0, 0) := rfl
theorem gCo_divide_45 : fCo_divide 45 = some (.aload_n 1, 0, 0) := rfl
theorem gCo_divide_46 : fCo_divide 46 = some (.getfield 48, 1, 0) := rfl
theorem gCo_divide_49 : fCo_divide 49 = some (.iload_n 2, 0, 0) := rfl
theorem gCo_divide_50 : fCo_divide 50 = some (.iaload, 0, 0) := rfl
theorem gCo_divide_51 : fCo_divide 51 = some (.aload_n 1, 0, 0) := rfl
theorem gCo_divide_52 : fCo_divide 52 = some (.invokevirtual 51, 85, 0) := rfl
theorem gCo_divide_55 : fCo_divide 55 = some (.iinc 2 (1), 0, 0) := rfl
theorem gCo_divide_58 : fCo_divide 58 = some (.goto (-43), 15, 0) := rfl
theorem gCo_divide_61 : fCo_divide 61 = some (.iconst 1, 0, 0) := rfl
theorem gCo_divide_62 : fCo_divide 62 = some (.ireturn, 0, 0) := rfl
abbrev lCo_gather : List (Nat × Instr × Nat × Nat) := [(0, .aload_n 0, 0, 0), (1, .getfield 22, 2, 3), (4, .aload_n 0, 0, 0), (5, .getfield 9, 2, 0), (8, .iload_n 1, 0, 0), (9, .iastore, 0, 0), (10, .aload_n 0, 0, 0), (11, .getfield 19, 2, 2), (14, .aload_n 0, 0, 0), (15, .getfield 9, 2, 0), (18, .iconst 0, 0, 0), (19, .iastore, 0, 0), (20, .iconst 0, 0, 0), (21, .istore_n 3, 0, 0), (22, .iload_n 3, 0, 0), (23, .aload_n 2, 0, 0), (24, .getfield 45, 1, 2), (27, .if_icmp .ge (82), 109, 0), (30, .aload_n 2, 0, 0), (31, .getfield 48, 1, 0), (34, .iload_n 3, 0, 0), (35, .iaload, 0, 0), (36, .istore 4, 0, 0), (38, .iload 4, 0, 0), (40, .invokestatic 55, 83, 0), (43, .iload_n 1, 0, 0), (44, .invokestatic 61, 82, 0), (47, .iload 4, 0, 0), (49, .invokestatic 61, 82, 0), (52, .istore 5, 0, 0), (54, .aload_n 2, 0, 0), (55, .iload 5, 0, 0), (57, .invokevirtual 65, 94, 0), (60, .istore 6, 0, 0), (62, .iload 6, 0, 0), (64, .iconst (-1), 0, 0), (65, .if_icmp .eq (38), 103, 0), (68, .aload_n 0, 0, 0), (69, .getfield 15, 2, 1), (72, .iload 6, 0, 0), (74, .iaload, 0, 0), (75, .iconst (-1), 0, 0), (76, .if_icmp .ne (27), 103, 0), (79, .aload_n 0, 0, 0), (80, .getfield 15, 2, 1), (83, .iload 6, 0, 0), (85, .aload_n 0, 0, 0), (86, .getfield 9, 2, 0), (89, .iastore, 0, 0), (90, .aload_n 0, 0, 0), (91, .getfield 19, 2, 2), (94, .aload_n 0, 0, 0), (95, .getfield 9, 2, 0), (98, .dup2, 0, 0), (99, .iaload, 0, 0), (100, .iconst 1, 0, 0), (101, .iadd, 0, 0), (102, .iastore, 0, 0), (103, .iinc 3 (1), 0, 0), (106, .goto (-84), 22, 0), (109, .aload_n 0, 0, 0), (110, .dup, 0, 0), (111, .getfield 9, 2, 0), (114, .iconst 1, 0, 0), (115, .iadd, 0, 0), (116, .putfield 9, 2, 0), (119, .return_, 0, 0)]
def fCo_gather : sx_F := sx_tab lCo_gather
theorem kCo_gather : sx_chk "ClassCharacters$Conjugates" (wy yCo_gather prog_4_method_3_code 7 none) 7 prog_4_method_3_code lCo_gather = true := by decide +kernel
theorem gCo_gather_0 : fCo_gather 0 = some (.aload_n 0, 0, 0) := rfl
theorem gCo_gather_1 : fCo_gather 1 = some (.getfield 22, 2, 3) := rfl
theorem gCo_gather_4 : fCo_gather 4 = some (.aload_n 0, 0, 0) := rfl
theorem gCo_gather_5 : fCo_gather 5 = some (.getfield 9, 2, 0) := rfl
theorem gCo_gather_8 : fCo_gather 8 = some (.iload_n 1, 0, 0) := rfl
theorem gCo_gather_9 : fCo_gather 9 = some (.iastore, 0, 0) := rfl
theorem gCo_gather_10 : fCo_gather 10 = some (.aload_n 0, 0, 0) := rfl
theorem gCo_gather_11 : fCo_gather 11 = some (.getfield 19, 2, 2) := rfl
theorem gCo_gather_14 : fCo_gather 14 = some (.aload_n 0, 0, 0) := rfl
theorem gCo_gather_15 : fCo_gather 15 = some (.getfield 9, 2, 0) := rfl
theorem gCo_gather_18 : fCo_gather 18 = some (.iconst 0, 0, 0) := rfl
theorem gCo_gather_19 : fCo_gather 19 = some (.iastore, 0, 0) := rfl
theorem gCo_gather_20 : fCo_gather 20 = some (.iconst 0, 0, 0) := rfl
theorem gCo_gather_21 : fCo_gather 21 = some (.istore_n 3, 0, 0) := rfl
theorem gCo_gather_22 : fCo_gather 22 = some (.iload_n 3, 0, 0) := rfl
theorem gCo_gather_23 : fCo_gather 23 = some (.aload_n 2, 0, 0) := rfl
theorem gCo_gather_24 : fCo_gather 24 = some (.getfield 45, 1, 2) := rfl
theorem gCo_gather_27 : fCo_gather 27 = some (.if_icmp .ge (82), 109, 0) := rfl
theorem gCo_gather_30 : fCo_gather 30 = some (.aload_n 2, 0, 0) := rfl
theorem gCo_gather_31 : fCo_gather 31 = some (.getfield 48, 1, 0) := rfl
theorem gCo_gather_34 : fCo_gather 34 = some (.iload_n 3, 0, 0) := rfl
theorem gCo_gather_35 : fCo_gather 35 = some (.iaload, 0, 0) := rfl
theorem gCo_gather_36 : fCo_gather 36 = some (.istore 4, 0, 0) := rfl
theorem gCo_gather_38 : fCo_gather 38 = some (.iload 4, 0, 0) := rfl
theorem gCo_gather_40 : fCo_gather 40 = some (.invokestatic 55, 83, 0) := rfl
theorem gCo_gather_43 : fCo_gather 43 = some (.iload_n 1, 0, 0) := rfl
theorem gCo_gather_44 : fCo_gather 44 = some (.invokestatic 61, 82, 0) := rfl
theorem gCo_gather_47 : fCo_gather 47 = some (.iload 4, 0, 0) := rfl
theorem gCo_gather_49 : fCo_gather 49 = some (.invokestatic 61, 82, 0) := rfl
theorem gCo_gather_52 : fCo_gather 52 = some (.istore 5, 0, 0) := rfl
theorem gCo_gather_54 : fCo_gather 54 = some (.aload_n 2, 0, 0) := rfl
theorem gCo_gather_55 : fCo_gather 55 = some (.iload 5, 0, 0) := rfl
theorem gCo_gather_57 : fCo_gather 57 = some (.invokevirtual 65, 94, 0) := rfl
theorem gCo_gather_60 : fCo_gather 60 = some (.istore 6, 0, 0) := rfl
theorem gCo_gather_62 : fCo_gather 62 = some (.iload 6, 0, 0) := rfl
theorem gCo_gather_64 : fCo_gather 64 = some (.iconst (-1), 0, 0) := rfl
theorem gCo_gather_65 : fCo_gather 65 = some (.if_icmp .eq (38), 103, 0) := rfl
theorem gCo_gather_68 : fCo_gather 68 = some (.aload_n 0, 0, 0) := rfl
theorem gCo_gather_69 : fCo_gather 69 = some (.getfield 15, 2, 1) := rfl
theorem gCo_gather_72 : fCo_gather 72 = some (.iload 6, 0, 0) := rfl
theorem gCo_gather_74 : fCo_gather 74 = some (.iaload, 0, 0) := rfl
theorem gCo_gather_75 : fCo_gather 75 = some (.iconst (-1), 0, 0) := rfl
theorem gCo_gather_76 : fCo_gather 76 = some (.if_icmp .ne (27), 103, 0) := rfl
theorem gCo_gather_79 : fCo_gather 79 = some (.aload_n 0, 0, 0) := rfl
theorem gCo_gather_80 : fCo_gather 80 = some (.getfield 15, 2, 1) := rfl
theorem gCo_gather_83 : fCo_gather 83 = some (.iload 6, 0, 0) := rfl
theorem gCo_gather_85 : fCo_gather 85 = some (.aload_n 0, 0, 0) := rfl
theorem gCo_gather_86 : fCo_gather 86 = some (.getfield 9, 2, 0) := rfl
theorem gCo_gather_89 : fCo_gather 89 = some (.iastore, 0, 0) := rfl
theorem gCo_gather_90 : fCo_gather 90 = some (.aload_n 0, 0, 0) := rfl
theorem gCo_gather_91 : fCo_gather 91 = some (.getfield 19, 2, 2) := rfl
theorem gCo_gather_94 : fCo_gather 94 = some (.aload_n 0, 0, 0) := rfl
theorem gCo_gather_95 : fCo_gather 95 = some (.getfield 9, 2, 0) := rfl
theorem gCo_gather_98 : fCo_gather 98 = some (.dup2, 0, 0) := rfl
theorem gCo_gather_99 : fCo_gather 99 = some (.iaload, 0, 0) := rfl
theorem gCo_gather_100 : fCo_gather 100 = some (.iconst 1, 0, 0) := rfl
theorem gCo_gather_101 : fCo_gather 101 = some (.iadd, 0, 0) := rfl
theorem gCo_gather_102 : fCo_gather 102 = some (.iastore, 0, 0) := rfl
theorem gCo_gather_103 : fCo_gather 103 = some (.iinc 3 (1), 0, 0) := rfl
theorem gCo_gather_106 : fCo_gather 106 = some (.goto (-84), 22, 0) := rfl
theorem gCo_gather_109 : fCo_gather 109 = some (.aload_n 0, 0, 0) := rfl
theorem gCo_gather_110 : fCo_gather 110 = some (.dup, 0, 0) := rfl
theorem gCo_gather_111 : fCo_gather 111 = some (.getfield 9, 2, 0) := rfl
theorem gCo_gather_114 : fCo_gather 114 = some (.iconst 1, 0, 0) := rfl
theorem gCo_gather_115 : fCo_gather 115 = some (.iadd, 0, 0) := rfl
theorem gCo_gather_116 : fCo_gather 116 = some (.putfield 9, 2, 0) := rfl
theorem gCo_gather_119 : fCo_gather 119 = some (.return_, 0, 0) := rfl
abbrev lCo_classHolding : List (Nat × Instr × Nat × Nat) := [(0, .aload_n 2, 0, 0), (1, .iload_n 1, 0, 0), (2, .invokevirtual 65, 94, 0), (5, .istore_n 3, 0, 0), (6, .iload_n 3, 0, 0), (7, .iconst (-1), 0, 0), (8, .if_icmp .ne (7), 15, 0), (11, .iconst (-1), 0, 0), (12, .goto (9), 21, 0), (15, .aload_n 0, 0, 0), (16, .getfield 15, 2, 1), (19, .iload_n 3, 0, 0), (20, .iaload, 0, 0), (21, .ireturn, 0, 0)]
def fCo_classHolding : sx_F := sx_tab lCo_classHolding
theorem kCo_classHolding : sx_chk "ClassCharacters$Conjugates" (wy yCo_classHolding prog_4_method_4_code 4 (some .int)) 4 prog_4_method_4_code lCo_classHolding = true := by decide +kernel
theorem gCo_classHolding_0 : fCo_classHolding 0 = some (.aload_n 2, 0, 0) := rfl
theorem gCo_classHolding_1 : fCo_classHolding 1 = some (.iload_n 1, 0, 0) := rfl
theorem gCo_classHolding_2 : fCo_classHolding 2 = some (.invokevirtual 65, 94, 0) := rfl
theorem gCo_classHolding_5 : fCo_classHolding 5 = some (.istore_n 3, 0, 0) := rfl
theorem gCo_classHolding_6 : fCo_classHolding 6 = some (.iload_n 3, 0, 0) := rfl
theorem gCo_classHolding_7 : fCo_classHolding 7 = some (.iconst (-1), 0, 0) := rfl
theorem gCo_classHolding_8 : fCo_classHolding 8 = some (.if_icmp .ne (7), 15, 0) := rfl
theorem gCo_classHolding_11 : fCo_classHolding 11 = some (.iconst (-1), 0, 0) := rfl
theorem gCo_classHolding_12 : fCo_classHolding 12 = some (.goto (9), 21, 0) := rfl
theorem gCo_classHolding_15 : fCo_classHolding 15 = some (.aload_n 0, 0, 0) := rfl
theorem gCo_classHolding_16 : fCo_classHolding 16 = some (.getfield 15, 2, 1) := rfl
theorem gCo_classHolding_19 : fCo_classHolding 19 = some (.iload_n 3, 0, 0) := rfl
theorem gCo_classHolding_20 : fCo_classHolding 20 = some (.iaload, 0, 0) := rfl
theorem gCo_classHolding_21 : fCo_classHolding 21 = some (.ireturn, 0, 0) := rfl
abbrev lCo_listPowers : List (Nat × Instr × Nat × Nat) := [(0, .aload_n 0, 0, 0), (1, .getfield 30, 2, 5), (4, .ldc 68, 342391, 0), (6, .invokestatic 39, 119, 0), (9, .iconst 0, 0, 0), (10, .istore_n 2, 0, 0), (11, .iconst 0, 0, 0), (12, .istore_n 3, 0, 0), (13, .iload_n 2, 0, 0), (14, .ifCond .ne (109), 123, 0), (17, .iload_n 3, 0, 0), (18, .bipush (120), 0, 0), (20, .if_icmp .ge (103), 123, 0), (23, .iconst 1, 0, 0), (24, .istore_n 2, 0, 0), (25, .iconst 0, 0, 0), (26, .istore 4, 0, 0), (28, .iload 4, 0, 0), (30, .aload_n 0, 0, 0), (31, .getfield 9, 2, 0), (34, .if_icmp .ge (76), 110, 0), (37, .aload_n 0, 0, 0), (38, .getfield 27, 2, 4), (41, .iload 4, 0, 0), (43, .aaload, 0, 0), (44, .iload_n 3, 0, 0), (45, .aload_n 0, 0, 0), (46, .aload_n 0, 0, 0), (47, .getfield 30, 2, 5), (50, .iload 4, 0, 0), (52, .iaload, 0, 0), (53, .aload_n 1, 0, 0), (54, .invokevirtual 69, 86, 0), (57, .iastore, 0, 0), (58, .aload_n 0, 0, 0), (59, .getfield 30, 2, 5), (62, .iload 4, 0, 0), (64, .aload_n 0, 0, 0), (65, .getfield 30, 2, 5), (68, .iload 4, 0, 0), (70, .iaload, 0, 0), (71, .aload_n 0, 0, 0), (72, .getfield 22, 2, 3), (75, .iload 4, 0, 0), (77, .iaload, 0, 0), (78, .invokestatic 61, 82, 0), (81, .iastore, 0, 0), (82, .iload_n 2, 0, 0), (83, .ifCond .eq (19), 102, 0), (86, .aload_n 0, 0, 0), (87, .getfield 30, 2, 5), (90, .iload 4, 0, 0), (92, .iaload, 0, 0), (93, .ldc 68, 342391, 0), (95, .if_icmp .ne (7), 102, 0), (98, .iconst 1, 0, 0), (99, .goto (4), 103, 0), (102, .iconst 0, 0, 0), (103, .istore_n 2, 0, 0), (104, .iinc 4 (1), 0, 0), (107, .goto (-79), 28, 0), (110, .aload_n 0, 0, 0), (111, .iload_n 3, 0, 0), (112, .iconst 1, 0, 0), (113, .iadd, 0, 0), (114, .putfield 33, 2, 6), (117, .iinc 3 (1), 0, 0), (120, .goto (-107), 13, 0), (123, .return_, 0, 0)]
def fCo_listPowers : sx_F := sx_tab lCo_listPowers
theorem kCo_listPowers : sx_chk "ClassCharacters$Conjugates" (wy yCo_listPowers prog_4_method_5_code 5 none) 5 prog_4_method_5_code lCo_listPowers = true := by decide +kernel
theorem gCo_listPowers_0 : fCo_listPowers 0 = some (.aload_n 0, 0, 0) := rfl
theorem gCo_listPowers_1 : fCo_listPowers 1 = some (.getfield 30, 2, 5) := rfl
theorem gCo_listPowers_4 : fCo_listPowers 4 = some (.ldc 68, 342391, 0) := rfl
theorem gCo_listPowers_6 : fCo_listPowers 6 = some (.invokestatic 39, 119, 0) := rfl
theorem gCo_listPowers_9 : fCo_listPowers 9 = some (.iconst 0, 0, 0) := rfl
theorem gCo_listPowers_10 : fCo_listPowers 10 = some (.istore_n 2, 0, 0) := rfl
theorem gCo_listPowers_11 : fCo_listPowers 11 = some (.iconst 0, 0, 0) := rfl
theorem gCo_listPowers_12 : fCo_listPowers 12 = some (.istore_n 3, 0, 0) := rfl
theorem gCo_listPowers_13 : fCo_listPowers 13 = some (.iload_n 2, 0, 0) := rfl
theorem gCo_listPowers_14 : fCo_listPowers 14 = some (.ifCond .ne (109), 123, 0) := rfl
theorem gCo_listPowers_17 : fCo_listPowers 17 = some (.iload_n 3, 0, 0) := rfl
theorem gCo_listPowers_18 : fCo_listPowers 18 = some (.bipush (120), 0, 0) := rfl
theorem gCo_listPowers_20 : fCo_listPowers 20 = some (.if_icmp .ge (103), 123, 0) := rfl
theorem gCo_listPowers_23 : fCo_listPowers 23 = some (.iconst 1, 0, 0) := rfl
theorem gCo_listPowers_24 : fCo_listPowers 24 = some (.istore_n 2, 0, 0) := rfl
theorem gCo_listPowers_25 : fCo_listPowers 25 = some (.iconst 0, 0, 0) := rfl
theorem gCo_listPowers_26 : fCo_listPowers 26 = some (.istore 4, 0, 0) := rfl
theorem gCo_listPowers_28 : fCo_listPowers 28 = some (.iload 4, 0, 0) := rfl
theorem gCo_listPowers_30 : fCo_listPowers 30 = some (.aload_n 0, 0, 0) := rfl
theorem gCo_listPowers_31 : fCo_listPowers 31 = some (.getfield 9, 2, 0) := rfl
theorem gCo_listPowers_34 : fCo_listPowers 34 = some (.if_icmp .ge (76), 110, 0) := rfl
theorem gCo_listPowers_37 : fCo_listPowers 37 = some (.aload_n 0, 0, 0) := rfl
theorem gCo_listPowers_38 : fCo_listPowers 38 = some (.getfield 27, 2, 4) := rfl
theorem gCo_listPowers_41 : fCo_listPowers 41 = some (.iload 4, 0, 0) := rfl
theorem gCo_listPowers_43 : fCo_listPowers 43 = some (.aaload, 0, 0) := rfl
theorem gCo_listPowers_44 : fCo_listPowers 44 = some (.iload_n 3, 0, 0) := rfl
theorem gCo_listPowers_45 : fCo_listPowers 45 = some (.aload_n 0, 0, 0) := rfl
theorem gCo_listPowers_46 : fCo_listPowers 46 = some (.aload_n 0, 0, 0) := rfl
theorem gCo_listPowers_47 : fCo_listPowers 47 = some (.getfield 30, 2, 5) := rfl
theorem gCo_listPowers_50 : fCo_listPowers 50 = some (.iload 4, 0, 0) := rfl
theorem gCo_listPowers_52 : fCo_listPowers 52 = some (.iaload, 0, 0) := rfl
theorem gCo_listPowers_53 : fCo_listPowers 53 = some (.aload_n 1, 0, 0) := rfl
theorem gCo_listPowers_54 : fCo_listPowers 54 = some (.invokevirtual 69, 86, 0) := rfl
theorem gCo_listPowers_57 : fCo_listPowers 57 = some (.iastore, 0, 0) := rfl
theorem gCo_listPowers_58 : fCo_listPowers 58 = some (.aload_n 0, 0, 0) := rfl
theorem gCo_listPowers_59 : fCo_listPowers 59 = some (.getfield 30, 2, 5) := rfl
theorem gCo_listPowers_62 : fCo_listPowers 62 = some (.iload 4, 0, 0) := rfl
theorem gCo_listPowers_64 : fCo_listPowers 64 = some (.aload_n 0, 0, 0) := rfl
theorem gCo_listPowers_65 : fCo_listPowers 65 = some (.getfield 30, 2, 5) := rfl
theorem gCo_listPowers_68 : fCo_listPowers 68 = some (.iload 4, 0, 0) := rfl
theorem gCo_listPowers_70 : fCo_listPowers 70 = some (.iaload, 0, 0) := rfl
theorem gCo_listPowers_71 : fCo_listPowers 71 = some (.aload_n 0, 0, 0) := rfl
theorem gCo_listPowers_72 : fCo_listPowers 72 = some (.getfield 22, 2, 3) := rfl
theorem gCo_listPowers_75 : fCo_listPowers 75 = some (.iload 4, 0, 0) := rfl
theorem gCo_listPowers_77 : fCo_listPowers 77 = some (.iaload, 0, 0) := rfl
theorem gCo_listPowers_78 : fCo_listPowers 78 = some (.invokestatic 61, 82, 0) := rfl
theorem gCo_listPowers_81 : fCo_listPowers 81 = some (.iastore, 0, 0) := rfl
theorem gCo_listPowers_82 : fCo_listPowers 82 = some (.iload_n 2, 0, 0) := rfl
theorem gCo_listPowers_83 : fCo_listPowers 83 = some (.ifCond .eq (19), 102, 0) := rfl
theorem gCo_listPowers_86 : fCo_listPowers 86 = some (.aload_n 0, 0, 0) := rfl
theorem gCo_listPowers_87 : fCo_listPowers 87 = some (.getfield 30, 2, 5) := rfl
theorem gCo_listPowers_90 : fCo_listPowers 90 = some (.iload 4, 0, 0) := rfl
theorem gCo_listPowers_92 : fCo_listPowers 92 = some (.iaload, 0, 0) := rfl
theorem gCo_listPowers_93 : fCo_listPowers 93 = some (.ldc 68, 342391, 0) := rfl
theorem gCo_listPowers_95 : fCo_listPowers 95 = some (.if_icmp .ne (7), 102, 0) := rfl
theorem gCo_listPowers_98 : fCo_listPowers 98 = some (.iconst 1, 0, 0) := rfl
theorem gCo_listPowers_99 : fCo_listPowers 99 = some (.goto (4), 103, 0) := rfl
theorem gCo_listPowers_102 : fCo_listPowers 102 = some (.iconst 0, 0, 0) := rfl
theorem gCo_listPowers_103 : fCo_listPowers 103 = some (.istore_n 2, 0, 0) := rfl
theorem gCo_listPowers_104 : fCo_listPowers 104 = some (.iinc 4 (1), 0, 0) := rfl
theorem gCo_listPowers_107 : fCo_listPowers 107 = some (.goto (-79), 28, 0) := rfl
theorem gCo_listPowers_110 : fCo_listPowers 110 = some (.aload_n 0, 0, 0) := rfl
theorem gCo_listPowers_111 : fCo_listPowers 111 = some (.iload_n 3, 0, 0) := rfl
theorem gCo_listPowers_112 : fCo_listPowers 112 = some (.iconst 1, 0, 0) := rfl
theorem gCo_listPowers_113 : fCo_listPowers 113 = some (.iadd, 0, 0) := rfl
theorem gCo_listPowers_114 : fCo_listPowers 114 = some (.putfield 33, 2, 6) := rfl
theorem gCo_listPowers_117 : fCo_listPowers 117 = some (.iinc 3 (1), 0, 0) := rfl
theorem gCo_listPowers_120 : fCo_listPowers 120 = some (.goto (-107), 13, 0) := rfl
theorem gCo_listPowers_123 : fCo_listPowers 123 = some (.return_, 0, 0) := rfl
abbrev lCo_classRaised : List (Nat × Instr × Nat × Nat) := [(0, .aload_n 0, 0, 0), (1, .getfield 27, 2, 4), (4, .iload_n 1, 0, 0), (5, .aaload, 0, 0), (6, .iload_n 2, 0, 0), (7, .aload_n 0, 0, 0), (8, .getfield 33, 2, 6), (11, .irem, 0, 0), (12, .iaload, 0, 0), (13, .ireturn, 0, 0)]
def fCo_classRaised : sx_F := sx_tab lCo_classRaised
theorem kCo_classRaised : sx_chk "ClassCharacters$Conjugates" (wy yCo_classRaised prog_4_method_6_code 3 (some .int)) 3 prog_4_method_6_code lCo_classRaised = true := by decide +kernel
theorem gCo_classRaised_0 : fCo_classRaised 0 = some (.aload_n 0, 0, 0) := rfl
theorem gCo_classRaised_1 : fCo_classRaised 1 = some (.getfield 27, 2, 4) := rfl
theorem gCo_classRaised_4 : fCo_classRaised 4 = some (.iload_n 1, 0, 0) := rfl
theorem gCo_classRaised_5 : fCo_classRaised 5 = some (.aaload, 0, 0) := rfl
theorem gCo_classRaised_6 : fCo_classRaised 6 = some (.iload_n 2, 0, 0) := rfl
theorem gCo_classRaised_7 : fCo_classRaised 7 = some (.aload_n 0, 0, 0) := rfl
theorem gCo_classRaised_8 : fCo_classRaised 8 = some (.getfield 33, 2, 6) := rfl
theorem gCo_classRaised_11 : fCo_classRaised 11 = some (.irem, 0, 0) := rfl
theorem gCo_classRaised_12 : fCo_classRaised 12 = some (.iaload, 0, 0) := rfl
theorem gCo_classRaised_13 : fCo_classRaised 13 = some (.ireturn, 0, 0) := rfl
abbrev lCo_inverseOf : List (Nat × Instr × Nat × Nat) := [(0, .aload_n 0, 0, 0), (1, .getfield 27, 2, 4), (4, .iload_n 1, 0, 0), (5, .aaload, 0, 0), (6, .aload_n 0, 0, 0), (7, .getfield 33, 2, 6), (10, .iconst 1, 0, 0), (11, .isub, 0, 0), (12, .iaload, 0, 0), (13, .ireturn, 0, 0)]
def fCo_inverseOf : sx_F := sx_tab lCo_inverseOf
theorem kCo_inverseOf : sx_chk "ClassCharacters$Conjugates" (wy yCo_inverseOf prog_4_method_7_code 2 (some .int)) 2 prog_4_method_7_code lCo_inverseOf = true := by decide +kernel
theorem gCo_inverseOf_0 : fCo_inverseOf 0 = some (.aload_n 0, 0, 0) := rfl
theorem gCo_inverseOf_1 : fCo_inverseOf 1 = some (.getfield 27, 2, 4) := rfl
theorem gCo_inverseOf_4 : fCo_inverseOf 4 = some (.iload_n 1, 0, 0) := rfl
theorem gCo_inverseOf_5 : fCo_inverseOf 5 = some (.aaload, 0, 0) := rfl
theorem gCo_inverseOf_6 : fCo_inverseOf 6 = some (.aload_n 0, 0, 0) := rfl
theorem gCo_inverseOf_7 : fCo_inverseOf 7 = some (.getfield 33, 2, 6) := rfl
theorem gCo_inverseOf_10 : fCo_inverseOf 10 = some (.iconst 1, 0, 0) := rfl
theorem gCo_inverseOf_11 : fCo_inverseOf 11 = some (.isub, 0, 0) := rfl
theorem gCo_inverseOf_12 : fCo_inverseOf 12 = some (.iaload, 0, 0) := rfl
theorem gCo_inverseOf_13 : fCo_inverseOf 13 = some (.ireturn, 0, 0) := rfl
abbrev lCo_countPairs : List (Nat × Instr × Nat × Nat) := [(0, .aload_n 0, 0, 0), (1, .getfield 36, 2, 7), (4, .iconst 0, 0, 0), (5, .invokestatic 39, 119, 0), (8, .iconst 0, 0, 0), (9, .istore_n 2, 0, 0), (10, .iload_n 2, 0, 0), (11, .aload_n 1, 0, 0), (12, .getfield 45, 1, 2), (15, .if_icmp .ge (83), 98, 0), (18, .aload_n 1, 0, 0), (19, .getfield 48, 1, 0), (22, .iload_n 2, 0, 0), (23, .iaload, 0, 0), (24, .invokestatic 55, 83, 0), (27, .istore_n 3, 0, 0), (28, .iconst 0, 0, 0), (29, .istore 4, 0, 0), (31, .iload 4, 0, 0), (33, .aload_n 0, 0, 0), (34, .getfield 9, 2, 0), (37, .if_icmp .ge (55), 92, 0), (40, .aload_n 0, 0, 0), (41, .iload_n 3, 0, 0), (42, .aload_n 0, 0, 0), (43, .getfield 22, 2, 3), (46, .iload 4, 0, 0), (48, .iaload, 0, 0), (49, .invokestatic 61, 82, 0), (52, .aload_n 1, 0, 0), (53, .invokevirtual 69, 86, 0), (56, .istore 5, 0, 0), (58, .iload 5, 0, 0), (60, .iconst (-1), 0, 0), (61, .if_icmp .eq (25), 86, 0), (64, .aload_n 0, 0, 0), (65, .getfield 36, 2, 7), (68, .aload_n 0, 0, 0), (69, .getfield 15, 2, 1), (72, .iload_n 2, 0, 0), (73, .iaload, 0, 0), (74, .iload 5, 0, 0), (76, .iload 4, 0, 0), (78, .invokestatic 73, 92, 0), (81, .dup2, 0, 0), (82, .iaload, 0, 0), (83, .iconst 1, 0, 0), (84, .iadd, 0, 0), (85, .iastore, 0, 0), (86, .iinc 4 (1), 0, 0), (89, .goto (-58), 31, 0), (92, .iinc 2 (1), 0, 0), (95, .goto (-85), 10, 0), (98, .return_, 0, 0)]
def fCo_countPairs : sx_F := sx_tab lCo_countPairs
theorem kCo_countPairs : sx_chk "ClassCharacters$Conjugates" (wy yCo_countPairs prog_4_method_8_code 6 none) 6 prog_4_method_8_code lCo_countPairs = true := by decide +kernel
theorem gCo_countPairs_0 : fCo_countPairs 0 = some (.aload_n 0, 0, 0) := rfl
theorem gCo_countPairs_1 : fCo_countPairs 1 = some (.getfield 36, 2, 7) := rfl
theorem gCo_countPairs_4 : fCo_countPairs 4 = some (.iconst 0, 0, 0) := rfl
theorem gCo_countPairs_5 : fCo_countPairs 5 = some (.invokestatic 39, 119, 0) := rfl
theorem gCo_countPairs_8 : fCo_countPairs 8 = some (.iconst 0, 0, 0) := rfl
theorem gCo_countPairs_9 : fCo_countPairs 9 = some (.istore_n 2, 0, 0) := rfl
theorem gCo_countPairs_10 : fCo_countPairs 10 = some (.iload_n 2, 0, 0) := rfl
theorem gCo_countPairs_11 : fCo_countPairs 11 = some (.aload_n 1, 0, 0) := rfl
theorem gCo_countPairs_12 : fCo_countPairs 12 = some (.getfield 45, 1, 2) := rfl
theorem gCo_countPairs_15 : fCo_countPairs 15 = some (.if_icmp .ge (83), 98, 0) := rfl
theorem gCo_countPairs_18 : fCo_countPairs 18 = some (.aload_n 1, 0, 0) := rfl
theorem gCo_countPairs_19 : fCo_countPairs 19 = some (.getfield 48, 1, 0) := rfl
theorem gCo_countPairs_22 : fCo_countPairs 22 = some (.iload_n 2, 0, 0) := rfl
theorem gCo_countPairs_23 : fCo_countPairs 23 = some (.iaload, 0, 0) := rfl
theorem gCo_countPairs_24 : fCo_countPairs 24 = some (.invokestatic 55, 83, 0) := rfl
theorem gCo_countPairs_27 : fCo_countPairs 27 = some (.istore_n 3, 0, 0) := rfl
theorem gCo_countPairs_28 : fCo_countPairs 28 = some (.iconst 0, 0, 0) := rfl
theorem gCo_countPairs_29 : fCo_countPairs 29 = some (.istore 4, 0, 0) := rfl
theorem gCo_countPairs_31 : fCo_countPairs 31 = some (.iload 4, 0, 0) := rfl
theorem gCo_countPairs_33 : fCo_countPairs 33 = some (.aload_n 0, 0, 0) := rfl
theorem gCo_countPairs_34 : fCo_countPairs 34 = some (.getfield 9, 2, 0) := rfl
theorem gCo_countPairs_37 : fCo_countPairs 37 = some (.if_icmp .ge (55), 92, 0) := rfl
theorem gCo_countPairs_40 : fCo_countPairs 40 = some (.aload_n 0, 0, 0) := rfl
theorem gCo_countPairs_41 : fCo_countPairs 41 = some (.iload_n 3, 0, 0) := rfl
theorem gCo_countPairs_42 : fCo_countPairs 42 = some (.aload_n 0, 0, 0) := rfl
theorem gCo_countPairs_43 : fCo_countPairs 43 = some (.getfield 22, 2, 3) := rfl
theorem gCo_countPairs_46 : fCo_countPairs 46 = some (.iload 4, 0, 0) := rfl
theorem gCo_countPairs_48 : fCo_countPairs 48 = some (.iaload, 0, 0) := rfl
theorem gCo_countPairs_49 : fCo_countPairs 49 = some (.invokestatic 61, 82, 0) := rfl
theorem gCo_countPairs_52 : fCo_countPairs 52 = some (.aload_n 1, 0, 0) := rfl
theorem gCo_countPairs_53 : fCo_countPairs 53 = some (.invokevirtual 69, 86, 0) := rfl
theorem gCo_countPairs_56 : fCo_countPairs 56 = some (.istore 5, 0, 0) := rfl
theorem gCo_countPairs_58 : fCo_countPairs 58 = some (.iload 5, 0, 0) := rfl
theorem gCo_countPairs_60 : fCo_countPairs 60 = some (.iconst (-1), 0, 0) := rfl
theorem gCo_countPairs_61 : fCo_countPairs 61 = some (.if_icmp .eq (25), 86, 0) := rfl
theorem gCo_countPairs_64 : fCo_countPairs 64 = some (.aload_n 0, 0, 0) := rfl
theorem gCo_countPairs_65 : fCo_countPairs 65 = some (.getfield 36, 2, 7) := rfl
theorem gCo_countPairs_68 : fCo_countPairs 68 = some (.aload_n 0, 0, 0) := rfl
theorem gCo_countPairs_69 : fCo_countPairs 69 = some (.getfield 15, 2, 1) := rfl
theorem gCo_countPairs_72 : fCo_countPairs 72 = some (.iload_n 2, 0, 0) := rfl
theorem gCo_countPairs_73 : fCo_countPairs 73 = some (.iaload, 0, 0) := rfl
theorem gCo_countPairs_74 : fCo_countPairs 74 = some (.iload 5, 0, 0) := rfl
theorem gCo_countPairs_76 : fCo_countPairs 76 = some (.iload 4, 0, 0) := rfl
theorem gCo_countPairs_78 : fCo_countPairs 78 = some (.invokestatic 73, 92, 0) := rfl
theorem gCo_countPairs_81 : fCo_countPairs 81 = some (.dup2, 0, 0) := rfl
theorem gCo_countPairs_82 : fCo_countPairs 82 = some (.iaload, 0, 0) := rfl
theorem gCo_countPairs_83 : fCo_countPairs 83 = some (.iconst 1, 0, 0) := rfl
theorem gCo_countPairs_84 : fCo_countPairs 84 = some (.iadd, 0, 0) := rfl
theorem gCo_countPairs_85 : fCo_countPairs 85 = some (.iastore, 0, 0) := rfl
theorem gCo_countPairs_86 : fCo_countPairs 86 = some (.iinc 4 (1), 0, 0) := rfl
theorem gCo_countPairs_89 : fCo_countPairs 89 = some (.goto (-58), 31, 0) := rfl
theorem gCo_countPairs_92 : fCo_countPairs 92 = some (.iinc 2 (1), 0, 0) := rfl
theorem gCo_countPairs_95 : fCo_countPairs 95 = some (.goto (-85), 10, 0) := rfl
theorem gCo_countPairs_98 : fCo_countPairs 98 = some (.return_, 0, 0) := rfl
abbrev lCo_pairs : List (Nat × Instr × Nat × Nat) := [(0, .aload_n 0, 0, 0), (1, .getfield 36, 2, 7), (4, .iload_n 1, 0, 0), (5, .iload_n 2, 0, 0), (6, .iload_n 3, 0, 0), (7, .invokestatic 73, 92, 0), (10, .iaload, 0, 0), (11, .ireturn, 0, 0)]
def fCo_pairs : sx_F := sx_tab lCo_pairs
theorem kCo_pairs : sx_chk "ClassCharacters$Conjugates" (wy yCo_pairs prog_4_method_9_code 4 (some .int)) 4 prog_4_method_9_code lCo_pairs = true := by decide +kernel
theorem gCo_pairs_0 : fCo_pairs 0 = some (.aload_n 0, 0, 0) := rfl
theorem gCo_pairs_1 : fCo_pairs 1 = some (.getfield 36, 2, 7) := rfl
theorem gCo_pairs_4 : fCo_pairs 4 = some (.iload_n 1, 0, 0) := rfl
theorem gCo_pairs_5 : fCo_pairs 5 = some (.iload_n 2, 0, 0) := rfl
theorem gCo_pairs_6 : fCo_pairs 6 = some (.iload_n 3, 0, 0) := rfl
theorem gCo_pairs_7 : fCo_pairs 7 = some (.invokestatic 73, 92, 0) := rfl
theorem gCo_pairs_10 : fCo_pairs 10 = some (.iaload, 0, 0) := rfl
theorem gCo_pairs_11 : fCo_pairs 11 = some (.ireturn, 0, 0) := rfl
abbrev lCo_pairPlace : List (Nat × Instr × Nat × Nat) := [(0, .iload_n 0, 0, 0), (1, .bipush (16), 0, 0), (3, .imul, 0, 0), (4, .iload_n 1, 0, 0), (5, .iadd, 0, 0), (6, .bipush (16), 0, 0), (8, .imul, 0, 0), (9, .iload_n 2, 0, 0), (10, .iadd, 0, 0), (11, .ireturn, 0, 0)]
def fCo_pairPlace : sx_F := sx_tab lCo_pairPlace
theorem kCo_pairPlace : sx_chk "ClassCharacters$Conjugates" (wy yCo_pairPlace prog_4_method_10_code 3 (some .int)) 3 prog_4_method_10_code lCo_pairPlace = true := by decide +kernel
theorem gCo_pairPlace_0 : fCo_pairPlace 0 = some (.iload_n 0, 0, 0) := rfl
theorem gCo_pairPlace_1 : fCo_pairPlace 1 = some (.bipush (16), 0, 0) := rfl
theorem gCo_pairPlace_3 : fCo_pairPlace 3 = some (.imul, 0, 0) := rfl
theorem gCo_pairPlace_4 : fCo_pairPlace 4 = some (.iload_n 1, 0, 0) := rfl
theorem gCo_pairPlace_5 : fCo_pairPlace 5 = some (.iadd, 0, 0) := rfl
theorem gCo_pairPlace_6 : fCo_pairPlace 6 = some (.bipush (16), 0, 0) := rfl
theorem gCo_pairPlace_8 : fCo_pairPlace 8 = some (.imul, 0, 0) := rfl
theorem gCo_pairPlace_9 : fCo_pairPlace 9 = some (.iload_n 2, 0, 0) := rfl
theorem gCo_pairPlace_10 : fCo_pairPlace 10 = some (.iadd, 0, 0) := rfl
theorem gCo_pairPlace_11 : fCo_pairPlace 11 = some (.ireturn, 0, 0) := rfl
