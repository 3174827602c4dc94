abbrev lRo_make : List (Nat × Instr × Nat × Nat) := [(0, .aload_n 0, 0, 0), (1, .aload_n 3, 0, 0), (2, .getfield 39, 2, 0), (5, .putfield 9, 5, 0), (8, .iconst 0, 0, 0), (9, .istore 5, 0, 0), (11, .iload 5, 0, 0), (13, .aload_n 0, 0, 0), (14, .getfield 9, 5, 0), (17, .if_icmp .ge (48), 65, 0), (20, .aload_n 0, 0, 0), (21, .iload 5, 0, 0), (23, .iload_n 1, 0, 0), (24, .aload_n 2, 0, 0), (25, .getfield 42, 4, 1), (28, .iload 5, 0, 0), (30, .aaload, 0, 0), (31, .aload_n 3, 0, 0), (32, .aload 4, 0, 0), (34, .invokevirtual 47, 108, 0), (37, .aload_n 0, 0, 0), (38, .iload 5, 0, 0), (40, .iload_n 1, 0, 0), (41, .aload_n 3, 0, 0), (42, .aload 4, 0, 0), (44, .invokevirtual 51, 110, 0), (47, .aload_n 0, 0, 0), (48, .iload 5, 0, 0), (50, .invokevirtual 55, 111, 0), (53, .aload_n 0, 0, 0), (54, .iload 5, 0, 0), (56, .invokevirtual 59, 112, 0), (59, .iinc 5 (1), 0, 0), (62, .goto (-51), 11, 0), (65, .aload_n 0, 0, 0), (66, .invokevirtual 62, 114, 0), (69, .return_, 0, 0)]
def fRo_make : sx_F := sx_tab lRo_make
theorem kRo_make : sx_chk "ClassCharacters$Rows" (wy yRo_make prog_7_method_2_code 6 none) 6 prog_7_method_2_code lRo_make = true := by decide +kernel
theorem gRo_make_0 : fRo_make 0 = some (.aload_n 0, 0, 0) := rfl
theorem gRo_make_1 : fRo_make 1 = some (.aload_n 3, 0, 0) := rfl
theorem gRo_make_2 : fRo_make 2 = some (.getfield 39, 2, 0) := rfl
theorem gRo_make_5 : fRo_make 5 = some (.putfield 9, 5, 0) := rfl
theorem gRo_make_8 : fRo_make 8 = some (.iconst 0, 0, 0) := rfl
theorem gRo_make_9 : fRo_make 9 = some (.istore 5, 0, 0) := rfl
theorem gRo_make_11 : fRo_make 11 = some (.iload 5, 0, 0) := rfl
theorem gRo_make_13 : fRo_make 13 = some (.aload_n 0, 0, 0) := rfl
theorem gRo_make_14 : fRo_make 14 = some (.getfield 9, 5, 0) := rfl
theorem gRo_make_17 : fRo_make 17 = some (.if_icmp .ge (48), 65, 0) := rfl
theorem gRo_make_20 : fRo_make 20 = some (.aload_n 0, 0, 0) := rfl
theorem gRo_make_21 : fRo_make 21 = some (.iload 5, 0, 0) := rfl
theorem gRo_make_23 : fRo_make 23 = some (.iload_n 1, 0, 0) := rfl
theorem gRo_make_24 : fRo_make 24 = some (.aload_n 2, 0, 0) := rfl
theorem gRo_make_25 : fRo_make 25 = some (.getfield 42, 4, 1) := rfl
theorem gRo_make_28 : fRo_make 28 = some (.iload 5, 0, 0) := rfl
theorem gRo_make_30 : fRo_make 30 = some (.aaload, 0, 0) := rfl
theorem gRo_make_31 : fRo_make 31 = some (.aload_n 3, 0, 0) := rfl
theorem gRo_make_32 : fRo_make 32 = some (.aload 4, 0, 0) := rfl
theorem gRo_make_34 : fRo_make 34 = some (.invokevirtual 47, 108, 0) := rfl
theorem gRo_make_37 : fRo_make 37 = some (.aload_n 0, 0, 0) := rfl
theorem gRo_make_38 : fRo_make 38 = some (.iload 5, 0, 0) := rfl
theorem gRo_make_40 : fRo_make 40 = some (.iload_n 1, 0, 0) := rfl
theorem gRo_make_41 : fRo_make 41 = some (.aload_n 3, 0, 0) := rfl
theorem gRo_make_42 : fRo_make 42 = some (.aload 4, 0, 0) := rfl
theorem gRo_make_44 : fRo_make 44 = some (.invokevirtual 51, 110, 0) := rfl
theorem gRo_make_47 : fRo_make 47 = some (.aload_n 0, 0, 0) := rfl
theorem gRo_make_48 : fRo_make 48 = some (.iload 5, 0, 0) := rfl
theorem gRo_make_50 : fRo_make 50 = some (.invokevirtual 55, 111, 0) := rfl
theorem gRo_make_53 : fRo_make 53 = some (.aload_n 0, 0, 0) := rfl
theorem gRo_make_54 : fRo_make 54 = some (.iload 5, 0, 0) := rfl
theorem gRo_make_56 : fRo_make 56 = some (.invokevirtual 59, 112, 0) := rfl
theorem gRo_make_59 : fRo_make 59 = some (.iinc 5 (1), 0, 0) := rfl
theorem gRo_make_62 : fRo_make 62 = some (.goto (-51), 11, 0) := rfl
theorem gRo_make_65 : fRo_make 65 = some (.aload_n 0, 0, 0) := rfl
theorem gRo_make_66 : fRo_make 66 = some (.invokevirtual 62, 114, 0) := rfl
theorem gRo_make_69 : fRo_make 69 = some (.return_, 0, 0) := rfl
abbrev lRo_setValues : List (Nat × Instr × Nat × Nat) := [(0, .iconst 0, 0, 0), (1, .istore 6, 0, 0), (3, .iconst 0, 0, 0), (4, .istore 7, 0, 0), (6, .iload 7, 0, 0), (8, .aload_n 0, 0, 0), (9, .getfield 9, 5, 0), (12, .if_icmp .ge (59), 71, 0), (15, .aload 5, 0, 0), (17, .aload_n 3, 0, 0), (18, .iload 7, 0, 0), (20, .iaload, 0, 0), (21, .aload 4, 0, 0), (23, .getfield 65, 2, 2), (26, .iload 7, 0, 0), (28, .iaload, 0, 0), (29, .invokevirtual 68, 104, 0), (32, .istore 8, 0, 0), (34, .aload_n 0, 0, 0), (35, .getfield 21, 5, 2), (38, .iload_n 1, 0, 0), (39, .aaload, 0, 0), (40, .iload 7, 0, 0), (42, .iload 8, 0, 0), (44, .iastore, 0, 0), (45, .aload 5, 0, 0), (47, .iload 6, 0, 0), (49, .iload 8, 0, 0), (51, .aload_n 3, 0, 0), (52, .aload 4, 0, 0), (54, .iload 7, 0, 0), (56, .invokevirtual 74, 89, 0), (59, .iaload, 0, 0), (60, .invokevirtual 78, 102, 0), (63, .istore 6, 0, 0), (65, .iinc 7 (1), 0, 0), (68, .goto (-62), 6, 0), (71, .aload_n 0, 0, 0), (72, .getfield 15, 5, 1), (75, .iload_n 1, 0, 0), (76, .iload 6, 0, 0), (78, .iload_n 2, 0, 0), (79, .aload 5, 0, 0), (81, .invokestatic 82, 109, 0), (84, .iastore, 0, 0), (85, .iconst 0, 0, 0), (86, .istore 7, 0, 0), (88, .iload 7, 0, 0), (90, .aload_n 0, 0, 0), (91, .getfield 9, 5, 0), (94, .if_icmp .ge (38), 132, 0), (97, .aload_n 0, 0, 0), (98, .getfield 21, 5, 2), (101, .iload_n 1, 0, 0), (102, .aaload, 0, 0), (103, .iload 7, 0, 0), (105, .aload 5, 0, 0), (107, .aload_n 0, 0, 0), (108, .getfield 21, 5, 2), (111, .iload_n 1, 0, 0), (112, .aaload, 0, 0), (113, .iload 7, 0, 0), (115, .iaload, 0, 0), (116, .aload_n 0, 0, 0), (117, .getfield 15, 5, 1), (120, .iload_n 1, 0, 0), (121, .iaload, 0, 0), (122, .invokevirtual 86, 101, 0), (125, .iastore, 0, 0), (126, .iinc 7 (1), 0, 0), (129, .goto (-41), 88, 0), (132, .return_, 0, 0)]
def fRo_setValues : sx_F := sx_tab lRo_setValues
theorem kRo_setValues : sx_chk "ClassCharacters$Rows" (wy yRo_setValues prog_7_method_3_code 9 none) 9 prog_7_method_3_code lRo_setValues = true := by decide +kernel
theorem gRo_setValues_0 : fRo_setValues 0 = some (.iconst 0, 0, 0) := rfl
theorem gRo_setValues_1 : fRo_setValues 1 = some (.istore 6, 0, 0) := rfl
theorem gRo_setValues_3 : fRo_setValues 3 = some (.iconst 0, 0, 0) := rfl
theorem gRo_setValues_4 : fRo_setValues 4 = some (.istore 7, 0, 0) := rfl
theorem gRo_setValues_6 : fRo_setValues 6 = some (.iload 7, 0, 0) := rfl
theorem gRo_setValues_8 : fRo_setValues 8 = some (.aload_n 0, 0, 0) := rfl
theorem gRo_setValues_9 : fRo_setValues 9 = some (.getfield 9, 5, 0) := rfl
theorem gRo_setValues_12 : fRo_setValues 12 = some (.if_icmp .ge (59), 71, 0) := rfl
theorem gRo_setValues_15 : fRo_setValues 15 = some (.aload 5, 0, 0) := rfl
theorem gRo_setValues_17 : fRo_setValues 17 = some (.aload_n 3, 0, 0) := rfl
theorem gRo_setValues_18 : fRo_setValues 18 = some (.iload 7, 0, 0) := rfl
theorem gRo_setValues_20 : fRo_setValues 20 = some (.iaload, 0, 0) := rfl
theorem gRo_setValues_21 : fRo_setValues 21 = some (.aload 4, 0, 0) := rfl
theorem gRo_setValues_23 : fRo_setValues 23 = some (.getfield 65, 2, 2) := rfl
theorem gRo_setValues_26 : fRo_setValues 26 = some (.iload 7, 0, 0) := rfl
theorem gRo_setValues_28 : fRo_setValues 28 = some (.iaload, 0, 0) := rfl
theorem gRo_setValues_29 : fRo_setValues 29 = some (.invokevirtual 68, 104, 0) := rfl
theorem gRo_setValues_32 : fRo_setValues 32 = some (.istore 8, 0, 0) := rfl
theorem gRo_setValues_34 : fRo_setValues 34 = some (.aload_n 0, 0, 0) := rfl
theorem gRo_setValues_35 : fRo_setValues 35 = some (.getfield 21, 5, 2) := rfl
theorem gRo_setValues_38 : fRo_setValues 38 = some (.iload_n 1, 0, 0) := rfl
theorem gRo_setValues_39 : fRo_setValues 39 = some (.aaload, 0, 0) := rfl
theorem gRo_setValues_40 : fRo_setValues 40 = some (.iload 7, 0, 0) := rfl
theorem gRo_setValues_42 : fRo_setValues 42 = some (.iload 8, 0, 0) := rfl
theorem gRo_setValues_44 : fRo_setValues 44 = some (.iastore, 0, 0) := rfl
theorem gRo_setValues_45 : fRo_setValues 45 = some (.aload 5, 0, 0) := rfl
theorem gRo_setValues_47 : fRo_setValues 47 = some (.iload 6, 0, 0) := rfl
theorem gRo_setValues_49 : fRo_setValues 49 = some (.iload 8, 0, 0) := rfl
theorem gRo_setValues_51 : fRo_setValues 51 = some (.aload_n 3, 0, 0) := rfl
theorem gRo_setValues_52 : fRo_setValues 52 = some (.aload 4, 0, 0) := rfl
theorem gRo_setValues_54 : fRo_setValues 54 = some (.iload 7, 0, 0) := rfl
theorem gRo_setValues_56 : fRo_setValues 56 = some (.invokevirtual 74, 89, 0) := rfl
theorem gRo_setValues_59 : fRo_setValues 59 = some (.iaload, 0, 0) := rfl
theorem gRo_setValues_60 : fRo_setValues 60 = some (.invokevirtual 78, 102, 0) := rfl
theorem gRo_setValues_63 : fRo_setValues 63 = some (.istore 6, 0, 0) := rfl
theorem gRo_setValues_65 : fRo_setValues 65 = some (.iinc 7 (1), 0, 0) := rfl
theorem gRo_setValues_68 : fRo_setValues 68 = some (.goto (-62), 6, 0) := rfl
theorem gRo_setValues_71 : fRo_setValues 71 = some (.aload_n 0, 0, 0) := rfl
theorem gRo_setValues_72 : fRo_setValues 72 = some (.getfield 15, 5, 1) := rfl
theorem gRo_setValues_75 : fRo_setValues 75 = some (.iload_n 1, 0, 0) := rfl
theorem gRo_setValues_76 : fRo_setValues 76 = some (.iload 6, 0, 0) := rfl
theorem gRo_setValues_78 : fRo_setValues 78 = some (.iload_n 2, 0, 0) := rfl
theorem gRo_setValues_79 : fRo_setValues 79 = some (.aload 5, 0, 0) := rfl
theorem gRo_setValues_81 : fRo_setValues 81 = some (.invokestatic 82, 109, 0) := rfl
theorem gRo_setValues_84 : fRo_setValues 84 = some (.iastore, 0, 0) := rfl
theorem gRo_setValues_85 : fRo_setValues 85 = some (.iconst 0, 0, 0) := rfl
theorem gRo_setValues_86 : fRo_setValues 86 = some (.istore 7, 0, 0) := rfl
theorem gRo_setValues_88 : fRo_setValues 88 = some (.iload 7, 0, 0) := rfl
theorem gRo_setValues_90 : fRo_setValues 90 = some (.aload_n 0, 0, 0) := rfl
theorem gRo_setValues_91 : fRo_setValues 91 = some (.getfield 9, 5, 0) := rfl
theorem gRo_setValues_94 : fRo_setValues 94 = some (.if_icmp .ge (38), 132, 0) := rfl
theorem gRo_setValues_97 : fRo_setValues 97 = some (.aload_n 0, 0, 0) := rfl
theorem gRo_setValues_98 : fRo_setValues 98 = some (.getfield 21, 5, 2) := rfl
theorem gRo_setValues_101 : fRo_setValues 101 = some (.iload_n 1, 0, 0) := rfl
theorem gRo_setValues_102 : fRo_setValues 102 = some (.aaload, 0, 0) := rfl
theorem gRo_setValues_103 : fRo_setValues 103 = some (.iload 7, 0, 0) := rfl
theorem gRo_setValues_105 : fRo_setValues 105 = some (.aload 5, 0, 0) := rfl
theorem gRo_setValues_107 : fRo_setValues 107 = some (.aload_n 0, 0, 0) := rfl
theorem gRo_setValues_108 : fRo_setValues 108 = some (.getfield 21, 5, 2) := rfl
theorem gRo_setValues_111 : fRo_setValues 111 = some (.iload_n 1, 0, 0) := rfl
theorem gRo_setValues_112 : fRo_setValues 112 = some (.aaload, 0, 0) := rfl
theorem gRo_setValues_113 : fRo_setValues 113 = some (.iload 7, 0, 0) := rfl
theorem gRo_setValues_115 : fRo_setValues 115 = some (.iaload, 0, 0) := rfl
theorem gRo_setValues_116 : fRo_setValues 116 = some (.aload_n 0, 0, 0) := rfl
theorem gRo_setValues_117 : fRo_setValues 117 = some (.getfield 15, 5, 1) := rfl
theorem gRo_setValues_120 : fRo_setValues 120 = some (.iload_n 1, 0, 0) := rfl
theorem gRo_setValues_121 : fRo_setValues 121 = some (.iaload, 0, 0) := rfl
theorem gRo_setValues_122 : fRo_setValues 122 = some (.invokevirtual 86, 101, 0) := rfl
theorem gRo_setValues_125 : fRo_setValues 125 = some (.iastore, 0, 0) := rfl
theorem gRo_setValues_126 : fRo_setValues 126 = some (.iinc 7 (1), 0, 0) := rfl
theorem gRo_setValues_129 : fRo_setValues 129 = some (.goto (-41), 88, 0) := rfl
theorem gRo_setValues_132 : fRo_setValues 132 = some (.return_, 0, 0) := rfl
abbrev lRo_degreeFor : List (Nat × Instr × Nat × Nat) := [(0, .aload_n 2, 0, 0), (1, .iload_n 1, 0, 0), (2, .invokevirtual 89, 100, 0), (5, .istore_n 3, 0, 0), (6, .aload_n 2, 0, 0), (7, .getfield 92, 3, 0), (10, .iconst 1, 0, 0), (11, .isub, 0, 0), (12, .iconst 2, 0, 0), (13, .idiv, 0, 0), (14, .istore 4, 0, 0), (16, .iconst 1, 0, 0), (17, .istore 5, 0, 0), (19, .iload 5, 0, 0), (21, .iload 4, 0, 0), (23, .if_icmp .ge (26), 49, 0), (26, .aload_n 2, 0, 0), (27, .aload_n 2, 0, 0), (28, .iload 5, 0, 0), (30, .iload 5, 0, 0), (32, .invokevirtual 86, 101, 0), (35, .iload_n 0, 0, 0), (36, .invokevirtual 86, 101, 0), (39, .iload_n 3, 0, 0), (40, .if_icmp .eq (9), 49, 0), (43, .iinc 5 (1), 0, 0), (46, .goto (-27), 19, 0), (49, .iload 5, 0, 0), (51, .ireturn, 0, 0)]
def fRo_degreeFor : sx_F := sx_tab lRo_degreeFor
theorem kRo_degreeFor : sx_chk "ClassCharacters$Rows" (wy yRo_degreeFor prog_7_method_4_code 6 (some .int)) 6 prog_7_method_4_code lRo_degreeFor = true := by decide +kernel
theorem gRo_degreeFor_0 : fRo_degreeFor 0 = some (.aload_n 2, 0, 0) := rfl
theorem gRo_degreeFor_1 : fRo_degreeFor 1 = some (.iload_n 1, 0, 0) := rfl
theorem gRo_degreeFor_2 : fRo_degreeFor 2 = some (.invokevirtual 89, 100, 0) := rfl
theorem gRo_degreeFor_5 : fRo_degreeFor 5 = some (.istore_n 3, 0, 0) := rfl
theorem gRo_degreeFor_6 : fRo_degreeFor 6 = some (.aload_n 2, 0, 0) := rfl
theorem gRo_degreeFor_7 : fRo_degreeFor 7 = some (.getfield 92, 3, 0) := rfl
theorem gRo_degreeFor_10 : fRo_degreeFor 10 = some (.iconst 1, 0, 0) := rfl
theorem gRo_degreeFor_11 : fRo_degreeFor 11 = some (.isub, 0, 0) := rfl
theorem gRo_degreeFor_12 : fRo_degreeFor 12 = some (.iconst 2, 0, 0) := rfl
theorem gRo_degreeFor_13 : fRo_degreeFor 13 = some (.idiv, 0, 0) := rfl
theorem gRo_degreeFor_14 : fRo_degreeFor 14 = some (.istore 4, 0, 0) := rfl
theorem gRo_degreeFor_16 : fRo_degreeFor 16 = some (.iconst 1, 0, 0) := rfl
theorem gRo_degreeFor_17 : fRo_degreeFor 17 = some (.istore 5, 0, 0) := rfl
theorem gRo_degreeFor_19 : fRo_degreeFor 19 = some (.iload 5, 0, 0) := rfl
theorem gRo_degreeFor_21 : fRo_degreeFor 21 = some (.iload 4, 0, 0) := rfl
theorem gRo_degreeFor_23 : fRo_degreeFor 23 = some (.if_icmp .ge (26), 49, 0) := rfl
theorem gRo_degreeFor_26 : fRo_degreeFor 26 = some (.aload_n 2, 0, 0) := rfl
theorem gRo_degreeFor_27 : fRo_degreeFor 27 = some (.aload_n 2, 0, 0) := rfl
theorem gRo_degreeFor_28 : fRo_degreeFor 28 = some (.iload 5, 0, 0) := rfl
theorem gRo_degreeFor_30 : fRo_degreeFor 30 = some (.iload 5, 0, 0) := rfl
theorem gRo_degreeFor_32 : fRo_degreeFor 32 = some (.invokevirtual 86, 101, 0) := rfl
theorem gRo_degreeFor_35 : fRo_degreeFor 35 = some (.iload_n 0, 0, 0) := rfl
theorem gRo_degreeFor_36 : fRo_degreeFor 36 = some (.invokevirtual 86, 101, 0) := rfl
theorem gRo_degreeFor_39 : fRo_degreeFor 39 = some (.iload_n 3, 0, 0) := rfl
theorem gRo_degreeFor_40 : fRo_degreeFor 40 = some (.if_icmp .eq (9), 49, 0) := rfl
theorem gRo_degreeFor_43 : fRo_degreeFor 43 = some (.iinc 5 (1), 0, 0) := rfl
theorem gRo_degreeFor_46 : fRo_degreeFor 46 = some (.goto (-27), 19, 0) := rfl
theorem gRo_degreeFor_49 : fRo_degreeFor 49 = some (.iload 5, 0, 0) := rfl
theorem gRo_degreeFor_51 : fRo_degreeFor 51 = some (.ireturn, 0, 0) := rfl
abbrev lRo_setIndicator : List (Nat × Instr × Nat × Nat) := [(0, .iconst 0, 0, 0), (1, .istore 5, 0, 0), (3, .iconst 0, 0, 0), (4, .istore 6, 0, 0), (6, .iload 6, 0, 0), (8, .aload_n 0, 0, 0), (9, .getfield 9, 5, 0), (12, .if_icmp .ge (43), 55, 0), (15, .aload_n 3, 0, 0), (16, .iload 6, 0, 0), (18, .iconst 2, 0, 0), (19, .invokevirtual 95, 88, 0), (22, .istore 7, 0, 0), (24, .aload 4, 0, 0), (26, .iload 5, 0, 0), (28, .aload_n 3, 0, 0), (29, .getfield 65, 2, 2), (32, .iload 6, 0, 0), (34, .iaload, 0, 0), (35, .aload_n 0, 0, 0), (36, .getfield 21, 5, 2), (39, .iload_n 1, 0, 0), (40, .aaload, 0, 0), (41, .iload 7, 0, 0), (43, .iaload, 0, 0), (44, .invokevirtual 78, 102, 0), (47, .istore 5, 0, 0), (49, .iinc 6 (1), 0, 0), (52, .goto (-46), 6, 0), (55, .aload 4, 0, 0), (57, .iload 5, 0, 0), (59, .iload_n 2, 0, 0), (60, .invokevirtual 68, 104, 0), (63, .istore 6, 0, 0), (65, .aload_n 0, 0, 0), (66, .getfield 24, 5, 3), (69, .iload_n 1, 0, 0), (70, .iload 6, 0, 0), (72, .aload 4, 0, 0), (74, .getfield 92, 3, 0), (77, .iconst 1, 0, 0), (78, .isub, 0, 0), (79, .if_icmp .ne (7), 86, 0), (82, .iconst (-1), 0, 0), (83, .goto (5), 88, 0), (86, .iload 6, 0, 0), (88, .iastore, 0, 0), (89, .return_, 0, 0)]
def fRo_setIndicator : sx_F := sx_tab lRo_setIndicator
theorem kRo_setIndicator : sx_chk "ClassCharacters$Rows" (wy yRo_setIndicator prog_7_method_5_code 8 none) 8 prog_7_method_5_code lRo_setIndicator = true := by decide +kernel
theorem gRo_setIndicator_0 : fRo_setIndicator 0 = some (.iconst 0, 0, 0) := rfl
theorem gRo_setIndicator_1 : fRo_setIndicator 1 = some (.istore 5, 0, 0) := rfl
theorem gRo_setIndicator_3 : fRo_setIndicator 3 = some (.iconst 0, 0, 0) := rfl
theorem gRo_setIndicator_4 : fRo_setIndicator 4 = some (.istore 6, 0, 0) := rfl
theorem gRo_setIndicator_6 : fRo_setIndicator 6 = some (.iload 6, 0, 0) := rfl
theorem gRo_setIndicator_8 : fRo_setIndicator 8 = some (.aload_n 0, 0, 0) := rfl
theorem gRo_setIndicator_9 : fRo_setIndicator 9 = some (.getfield 9, 5, 0) := rfl
theorem gRo_setIndicator_12 : fRo_setIndicator 12 = some (.if_icmp .ge (43), 55, 0) := rfl
theorem gRo_setIndicator_15 : fRo_setIndicator 15 = some (.aload_n 3, 0, 0) := rfl
theorem gRo_setIndicator_16 : fRo_setIndicator 16 = some (.iload 6, 0, 0) := rfl
theorem gRo_setIndicator_18 : fRo_setIndicator 18 = some (.iconst 2, 0, 0) := rfl
theorem gRo_setIndicator_19 : fRo_setIndicator 19 = some (.invokevirtual 95, 88, 0) := rfl
theorem gRo_setIndicator_22 : fRo_setIndicator 22 = some (.istore 7, 0, 0) := rfl
theorem gRo_setIndicator_24 : fRo_setIndicator 24 = some (.aload 4, 0, 0) := rfl
theorem gRo_setIndicator_26 : fRo_setIndicator 26 = some (.iload 5, 0, 0) := rfl
theorem gRo_setIndicator_28 : fRo_setIndicator 28 = some (.aload_n 3, 0, 0) := rfl
theorem gRo_setIndicator_29 : fRo_setIndicator 29 = some (.getfield 65, 2, 2) := rfl
theorem gRo_setIndicator_32 : fRo_setIndicator 32 = some (.iload 6, 0, 0) := rfl
theorem gRo_setIndicator_34 : fRo_setIndicator 34 = some (.iaload, 0, 0) := rfl
theorem gRo_setIndicator_35 : fRo_setIndicator 35 = some (.aload_n 0, 0, 0) := rfl
theorem gRo_setIndicator_36 : fRo_setIndicator 36 = some (.getfield 21, 5, 2) := rfl
theorem gRo_setIndicator_39 : fRo_setIndicator 39 = some (.iload_n 1, 0, 0) := rfl
theorem gRo_setIndicator_40 : fRo_setIndicator 40 = some (.aaload, 0, 0) := rfl
theorem gRo_setIndicator_41 : fRo_setIndicator 41 = some (.iload 7, 0, 0) := rfl
theorem gRo_setIndicator_43 : fRo_setIndicator 43 = some (.iaload, 0, 0) := rfl
theorem gRo_setIndicator_44 : fRo_setIndicator 44 = some (.invokevirtual 78, 102, 0) := rfl
theorem gRo_setIndicator_47 : fRo_setIndicator 47 = some (.istore 5, 0, 0) := rfl
theorem gRo_setIndicator_49 : fRo_setIndicator 49 = some (.iinc 6 (1), 0, 0) := rfl
theorem gRo_setIndicator_52 : fRo_setIndicator 52 = some (.goto (-46), 6, 0) := rfl
theorem gRo_setIndicator_55 : fRo_setIndicator 55 = some (.aload 4, 0, 0) := rfl
theorem gRo_setIndicator_57 : fRo_setIndicator 57 = some (.iload 5, 0, 0) := rfl
theorem gRo_setIndicator_59 : fRo_setIndicator 59 = some (.iload_n 2, 0, 0) := rfl
theorem gRo_setIndicator_60 : fRo_setIndicator 60 = some (.invokevirtual 68, 104, 0) := rfl
theorem gRo_setIndicator_63 : fRo_setIndicator 63 = some (.istore 6, 0, 0) := rfl
theorem gRo_setIndicator_65 : fRo_setIndicator 65 = some (.aload_n 0, 0, 0) := rfl
theorem gRo_setIndicator_66 : fRo_setIndicator 66 = some (.getfield 24, 5, 3) := rfl
theorem gRo_setIndicator_69 : fRo_setIndicator 69 = some (.iload_n 1, 0, 0) := rfl
theorem gRo_setIndicator_70 : fRo_setIndicator 70 = some (.iload 6, 0, 0) := rfl
theorem gRo_setIndicator_72 : fRo_setIndicator 72 = some (.aload 4, 0, 0) := rfl
theorem gRo_setIndicator_74 : fRo_setIndicator 74 = some (.getfield 92, 3, 0) := rfl
theorem gRo_setIndicator_77 : fRo_setIndicator 77 = some (.iconst 1, 0, 0) := rfl
theorem gRo_setIndicator_78 : fRo_setIndicator 78 = some (.isub, 0, 0) := rfl
theorem gRo_setIndicator_79 : fRo_setIndicator 79 = some (.if_icmp .ne (7), 86, 0) := rfl
theorem gRo_setIndicator_82 : fRo_setIndicator 82 = some (.iconst (-1), 0, 0) := rfl
theorem gRo_setIndicator_83 : fRo_setIndicator 83 = some (.goto (5), 88, 0) := rfl
theorem gRo_setIndicator_86 : fRo_setIndicator 86 = some (.iload 6, 0, 0) := rfl
theorem gRo_setIndicator_88 : fRo_setIndicator 88 = some (.iastore, 0, 0) := rfl
theorem gRo_setIndicator_89 : fRo_setIndicator 89 = some (.return_, 0, 0) := rfl
abbrev lRo_setKernel : List (Nat × Instr × Nat × Nat) := [(0, .iconst 0, 0, 0), (1, .istore_n 2, 0, 0), (2, .iconst 0, 0, 0), (3, .istore_n 3, 0, 0), (4, .iload_n 3, 0, 0), (5, .aload_n 0, 0, 0), (6, .getfield 9, 5, 0), (9, .if_icmp .ge (32), 41, 0), (12, .aload_n 0, 0, 0), (13, .getfield 21, 5, 2), (16, .iload_n 1, 0, 0), (17, .aaload, 0, 0), (18, .iload_n 3, 0, 0), (19, .iaload, 0, 0), (20, .aload_n 0, 0, 0), (21, .getfield 15, 5, 1), (24, .iload_n 1, 0, 0), (25, .iaload, 0, 0), (26, .if_icmp .ne (9), 35, 0), (29, .iload_n 2, 0, 0), (30, .iconst 1, 0, 0), (31, .iload_n 3, 0, 0), (32, .ishl, 0, 0), (33, .ior, 0, 0), (34, .istore_n 2, 0, 0), (35, .iinc 3 (1), 0, 0), (38, .goto (-34), 4, 0), (41, .aload_n 0, 0, 0), (42, .getfield 27, 5, 4), (45, .iload_n 1, 0, 0), (46, .iload_n 2, 0, 0), (47, .iastore, 0, 0), (48, .return_, 0, 0)]
def fRo_setKernel : sx_F := sx_tab lRo_setKernel
theorem kRo_setKernel : sx_chk "ClassCharacters$Rows" (wy yRo_setKernel prog_7_method_6_code 4 none) 4 prog_7_method_6_code lRo_setKernel = true := by decide +kernel
theorem gRo_setKernel_0 : fRo_setKernel 0 = some (.iconst 0, 0, 0) := rfl
theorem gRo_setKernel_1 : fRo_setKernel 1 = some (.istore_n 2, 0, 0) := rfl
theorem gRo_setKernel_2 : fRo_setKernel 2 = some (.iconst 0, 0, 0) := rfl
theorem gRo_setKernel_3 : fRo_setKernel 3 = some (.istore_n 3, 0, 0) := rfl
theorem gRo_setKernel_4 : fRo_setKernel 4 = some (.iload_n 3, 0, 0) := rfl
theorem gRo_setKernel_5 : fRo_setKernel 5 = some (.aload_n 0, 0, 0) := rfl
theorem gRo_setKernel_6 : fRo_setKernel 6 = some (.getfield 9, 5, 0) := rfl
theorem gRo_setKernel_9 : fRo_setKernel 9 = some (.if_icmp .ge (32), 41, 0) := rfl
theorem gRo_setKernel_12 : fRo_setKernel 12 = some (.aload_n 0, 0, 0) := rfl
theorem gRo_setKernel_13 : fRo_setKernel 13 = some (.getfield 21, 5, 2) := rfl
theorem gRo_setKernel_16 : fRo_setKernel 16 = some (.iload_n 1, 0, 0) := rfl
theorem gRo_setKernel_17 : fRo_setKernel 17 = some (.aaload, 0, 0) := rfl
theorem gRo_setKernel_18 : fRo_setKernel 18 = some (.iload_n 3, 0, 0) := rfl
theorem gRo_setKernel_19 : fRo_setKernel 19 = some (.iaload, 0, 0) := rfl
theorem gRo_setKernel_20 : fRo_setKernel 20 = some (.aload_n 0, 0, 0) := rfl
theorem gRo_setKernel_21 : fRo_setKernel 21 = some (.getfield 15, 5, 1) := rfl
theorem gRo_setKernel_24 : fRo_setKernel 24 = some (.iload_n 1, 0, 0) := rfl
theorem gRo_setKernel_25 : fRo_setKernel 25 = some (.iaload, 0, 0) := rfl
theorem gRo_setKernel_26 : fRo_setKernel 26 = some (.if_icmp .ne (9), 35, 0) := rfl
theorem gRo_setKernel_29 : fRo_setKernel 29 = some (.iload_n 2, 0, 0) := rfl
theorem gRo_setKernel_30 : fRo_setKernel 30 = some (.iconst 1, 0, 0) := rfl
theorem gRo_setKernel_31 : fRo_setKernel 31 = some (.iload_n 3, 0, 0) := rfl
theorem gRo_setKernel_32 : fRo_setKernel 32 = some (.ishl, 0, 0) := rfl
theorem gRo_setKernel_33 : fRo_setKernel 33 = some (.ior, 0, 0) := rfl
theorem gRo_setKernel_34 : fRo_setKernel 34 = some (.istore_n 2, 0, 0) := rfl
theorem gRo_setKernel_35 : fRo_setKernel 35 = some (.iinc 3 (1), 0, 0) := rfl
theorem gRo_setKernel_38 : fRo_setKernel 38 = some (.goto (-34), 4, 0) := rfl
theorem gRo_setKernel_41 : fRo_setKernel 41 = some (.aload_n 0, 0, 0) := rfl
theorem gRo_setKernel_42 : fRo_setKernel 42 = some (.getfield 27, 5, 4) := rfl
theorem gRo_setKernel_45 : fRo_setKernel 45 = some (.iload_n 1, 0, 0) := rfl
theorem gRo_setKernel_46 : fRo_setKernel 46 = some (.iload_n 2, 0, 0) := rfl
theorem gRo_setKernel_47 : fRo_setKernel 47 = some (.iastore, 0, 0) := rfl
theorem gRo_setKernel_48 : fRo_setKernel 48 = some (.return_, 0, 0) := rfl
abbrev lRo_insertPlace : List (Nat × Instr × Nat × Nat) := [(0, .iload_n 1, 0, 0), (1, .istore_n 2, 0, 0), (2, .iload_n 2, 0, 0), (3, .ifCond .le (39), 42, 0), (6, .aload_n 0, 0, 0), (7, .iload_n 1, 0, 0), (8, .aload_n 0, 0, 0), (9, .getfield 30, 5, 5), (12, .iload_n 2, 0, 0), (13, .iconst 1, 0, 0), (14, .isub, 0, 0), (15, .iaload, 0, 0), (16, .invokevirtual 98, 113, 0), (19, .ifCond .eq (23), 42, 0), (22, .aload_n 0, 0, 0), (23, .getfield 30, 5, 5), (26, .iload_n 2, 0, 0), (27, .aload_n 0, 0, 0), (28, .getfield 30, 5, 5), (31, .iload_n 2, 0, 0), (32, .iconst 1, 0, 0), (33, .isub, 0, 0), (34, .iaload, 0, 0), (35, .iastore, 0, 0), (36, .iinc 2 (-1), 0, 0), (39, .goto (-37), 2, 0), (42, .aload_n 0, 0, 0), (43, .getfield 30, 5, 5), (46, .iload_n 2, 0, 0), (47, .iload_n 1, 0, 0), (48, .iastore, 0, 0), (49, .return_, 0, 0)]
def fRo_insertPlace : sx_F := sx_tab lRo_insertPlace
theorem kRo_insertPlace : sx_chk "ClassCharacters$Rows" (wy yRo_insertPlace prog_7_method_7_code 3 none) 3 prog_7_method_7_code lRo_insertPlace = true := by decide +kernel
theorem gRo_insertPlace_0 : fRo_insertPlace 0 = some (.iload_n 1, 0, 0) := rfl
theorem gRo_insertPlace_1 : fRo_insertPlace 1 = some (.istore_n 2, 0, 0) := rfl
theorem gRo_insertPlace_2 : fRo_insertPlace 2 = some (.iload_n 2, 0, 0) := rfl
theorem gRo_insertPlace_3 : fRo_insertPlace 3 = some (.ifCond .le (39), 42, 0) := rfl
theorem gRo_insertPlace_6 : fRo_insertPlace 6 = some (.aload_n 0, 0, 0) := rfl
theorem gRo_insertPlace_7 : fRo_insertPlace 7 = some (.iload_n 1, 0, 0) := rfl
theorem gRo_insertPlace_8 : fRo_insertPlace 8 = some (.aload_n 0, 0, 0) := rfl
theorem gRo_insertPlace_9 : fRo_insertPlace 9 = some (.getfield 30, 5, 5) := rfl
theorem gRo_insertPlace_12 : fRo_insertPlace 12 = some (.iload_n 2, 0, 0) := rfl
theorem gRo_insertPlace_13 : fRo_insertPlace 13 = some (.iconst 1, 0, 0) := rfl
theorem gRo_insertPlace_14 : fRo_insertPlace 14 = some (.isub, 0, 0) := rfl
theorem gRo_insertPlace_15 : fRo_insertPlace 15 = some (.iaload, 0, 0) := rfl
theorem gRo_insertPlace_16 : fRo_insertPlace 16 = some (.invokevirtual 98, 113, 0) := rfl
theorem gRo_insertPlace_19 : fRo_insertPlace 19 = some (.ifCond .eq (23), 42, 0) := rfl
theorem gRo_insertPlace_22 : fRo_insertPlace 22 = some (.aload_n 0, 0, 0) := rfl
theorem gRo_insertPlace_23 : fRo_insertPlace 23 = some (.getfield 30, 5, 5) := rfl
theorem gRo_insertPlace_26 : fRo_insertPlace 26 = some (.iload_n 2, 0, 0) := rfl
theorem gRo_insertPlace_27 : fRo_insertPlace 27 = some (.aload_n 0, 0, 0) := rfl
theorem gRo_insertPlace_28 : fRo_insertPlace 28 = some (.getfield 30, 5, 5) := rfl
theorem gRo_insertPlace_31 : fRo_insertPlace 31 = some (.iload_n 2, 0, 0) := rfl
theorem gRo_insertPlace_32 : fRo_insertPlace 32 = some (.iconst 1, 0, 0) := rfl
theorem gRo_insertPlace_33 : fRo_insertPlace 33 = some (.isub, 0, 0) := rfl
theorem gRo_insertPlace_34 : fRo_insertPlace 34 = some (.iaload, 0, 0) := rfl
theorem gRo_insertPlace_35 : fRo_insertPlace 35 = some (.iastore, 0, 0) := rfl
theorem gRo_insertPlace_36 : fRo_insertPlace 36 = some (.iinc 2 (-1), 0, 0) := rfl
theorem gRo_insertPlace_39 : fRo_insertPlace 39 = some (.goto (-37), 2, 0) := rfl
theorem gRo_insertPlace_42 : fRo_insertPlace 42 = some (.aload_n 0, 0, 0) := rfl
theorem gRo_insertPlace_43 : fRo_insertPlace 43 = some (.getfield 30, 5, 5) := rfl
theorem gRo_insertPlace_46 : fRo_insertPlace 46 = some (.iload_n 2, 0, 0) := rfl
theorem gRo_insertPlace_47 : fRo_insertPlace 47 = some (.iload_n 1, 0, 0) := rfl
theorem gRo_insertPlace_48 : fRo_insertPlace 48 = some (.iastore, 0, 0) := rfl
theorem gRo_insertPlace_49 : fRo_insertPlace 49 = some (.return_, 0, 0) := rfl
abbrev lRo_comesBefore : List (Nat × Instr × Nat × Nat) := [(0, .aload_n 0, 0, 0), (1, .getfield 15, 5, 1), (4, .iload_n 1, 0, 0), (5, .iaload, 0, 0), (6, .aload_n 0, 0, 0), (7, .getfield 15, 5, 1), (10, .iload_n 2, 0, 0), (11, .iaload, 0, 0), (12, .if_icmp .eq (24), 36, 0), (15, .aload_n 0, 0, 0), (16, .getfield 15, 5, 1), (19, .iload_n 1, 0, 0), (20, .iaload, 0, 0), (21, .aload_n 0, 0, 0), (22, .getfield 15, 5, 1), (25, .iload_n 2, 0, 0), (26, .iaload, 0, 0), (27, .if_icmp .ge (7), 34, 0), (30, .iconst 1, 0, 0), (31, .goto (4), 35, 0), (34, .iconst 0, 0, 0), (35, .ireturn, 0, 0), (36, .iconst 1, 0, 0), (37, .istore_n 3, 0, 0), (38, .iload_n 3, 0, 0), (39, .aload_n 0, 0, 0), (40, .getfield 9, 5, 0), (43, .if_icmp .ge (53), 96, 0), (46, .aload_n 0, 0, 0), (47, .getfield 21, 5, 2), (50, .iload_n 1, 0, 0), (51, .aaload, 0, 0), (52, .iload_n 3, 0, 0), (53, .iaload, 0, 0), (54, .aload_n 0, 0, 0), (55, .getfield 21, 5, 2), (58, .iload_n 2, 0, 0), (59, .aaload, 0, 0), (60, .iload_n 3, 0, 0), (61, .iaload, 0, 0), (62, .if_icmp .eq (28), 90, 0), (65, .aload_n 0, 0, 0), (66, .getfield 21, 5, 2), (69, .iload_n 1, 0, 0), (70, .aaload, 0, 0), (71, .iload_n 3, 0, 0), (72, .iaload, 0, 0), (73, .aload_n 0, 0, 0), (74, .getfield 21, 5, 2), (77, .iload_n 2, 0, 0), (78, .aaload, 0, 0), (79, .iload_n 3, 0, 0), (80, .iaload, 0, 0), (81, .if_icmp .ge (7), 88, 0), (84, .iconst 1, 0, 0), (85, .goto (4), 89, 0), (88, .iconst 0, 0, 0), (89, .ireturn, 0, 0), (90, .iinc 3 (1), 0, 0), (93, .goto (-55), 38, 0), (96, .iconst 0, 0, 0), (97, .ireturn, 0, 0)]
def fRo_comesBefore : sx_F := sx_tab lRo_comesBefore
theorem kRo_comesBefore : sx_chk "ClassCharacters$Rows" (wy yRo_comesBefore prog_7_method_8_code 4 (some .boolean)) 4 prog_7_method_8_code lRo_comesBefore = true := by decide +kernel
theorem gRo_comesBefore_0 : fRo_comesBefore 0 = some (.aload_n 0, 0, 0) := rfl
theorem gRo_comesBefore_1 : fRo_comesBefore 1 = some (.getfield 15, 5, 1) := rfl
theorem gRo_comesBefore_4 : fRo_comesBefore 4 = some (.iload_n 1, 0, 0) := rfl
theorem gRo_comesBefore_5 : fRo_comesBefore 5 = some (.iaload, 0, 0) := rfl
theorem gRo_comesBefore_6 : fRo_comesBefore 6 = some (.aload_n 0, 0, 0) := rfl
theorem gRo_comesBefore_7 : fRo_comesBefore 7 = some (.getfield 15, 5, 1) := rfl
theorem gRo_comesBefore_10 : fRo_comesBefore 10 = some (.iload_n 2, 0, 0) := rfl
theorem gRo_comesBefore_11 : fRo_comesBefore 11 = some (.iaload, 0, 0) := rfl
theorem gRo_comesBefore_12 : fRo_comesBefore 12 = some (.if_icmp .eq (24), 36, 0) := rfl
theorem gRo_comesBefore_15 : fRo_comesBefore 15 = some (.aload_n 0, 0, 0) := rfl
theorem gRo_comesBefore_16 : fRo_comesBefore 16 = some (.getfield 15, 5, 1) := rfl
theorem gRo_comesBefore_19 : fRo_comesBefore 19 = some (.iload_n 1, 0, 0) := rfl
theorem gRo_comesBefore_20 : fRo_comesBefore 20 = some (.iaload, 0, 0) := rfl
theorem gRo_comesBefore_21 : fRo_comesBefore 21 = some (.aload_n 0, 0, 0) := rfl
theorem gRo_comesBefore_22 : fRo_comesBefore 22 = some (.getfield 15, 5, 1) := rfl
theorem gRo_comesBefore_25 : fRo_comesBefore 25 = some (.iload_n 2, 0, 0) := rfl
theorem gRo_comesBefore_26 : fRo_comesBefore 26 = some (.iaload, 0, 0) := rfl
theorem gRo_comesBefore_27 : fRo_comesBefore 27 = some (.if_icmp .ge (7), 34, 0) := rfl
theorem gRo_comesBefore_30 : fRo_comesBefore 30 = some (.iconst 1, 0, 0) := rfl
theorem gRo_comesBefore_31 : fRo_comesBefore 31 = some (.goto (4), 35, 0) := rfl
theorem gRo_comesBefore_34 : fRo_comesBefore 34 = some (.iconst 0, 0, 0) := rfl
theorem gRo_comesBefore_35 : fRo_comesBefore 35 = some (.ireturn, 0, 0) := rfl
theorem gRo_comesBefore_36 : fRo_comesBefore 36 = some (.iconst 1, 0, 0) := rfl
theorem gRo_comesBefore_37 : fRo_comesBefore 37 = some (.istore_n 3, 0, 0) := rfl
theorem gRo_comesBefore_38 : fRo_comesBefore 38 = some (.iload_n 3, 0, 0) := rfl
theorem gRo_comesBefore_39 : fRo_comesBefore 39 = some (.aload_n 0, 0, 0) := rfl
theorem gRo_comesBefore_40 : fRo_comesBefore 40 = some (.getfield 9, 5, 0) := rfl
theorem gRo_comesBefore_43 : fRo_comesBefore 43 = some (.if_icmp .ge (53), 96, 0) := rfl
theorem gRo_comesBefore_46 : fRo_comesBefore 46 = some (.aload_n 0, 0, 0) := rfl
theorem gRo_comesBefore_47 : fRo_comesBefore 47 = some (.getfield 21, 5, 2) := rfl
theorem gRo_comesBefore_50 : fRo_comesBefore 50 = some (.iload_n 1, 0, 0) := rfl
theorem gRo_comesBefore_51 : fRo_comesBefore 51 = some (.aaload, 0, 0) := rfl
theorem gRo_comesBefore_52 : fRo_comesBefore 52 = some (.iload_n 3, 0, 0) := rfl
theorem gRo_comesBefore_53 : fRo_comesBefore 53 = some (.iaload, 0, 0) := rfl
theorem gRo_comesBefore_54 : fRo_comesBefore 54 = some (.aload_n 0, 0, 0) := rfl
theorem gRo_comesBefore_55 : fRo_comesBefore 55 = some (.getfield 21, 5, 2) := rfl
theorem gRo_comesBefore_58 : fRo_comesBefore 58 = some (.iload_n 2, 0, 0) := rfl
theorem gRo_comesBefore_59 : fRo_comesBefore 59 = some (.aaload, 0, 0) := rfl
theorem gRo_comesBefore_60 : fRo_comesBefore 60 = some (.iload_n 3, 0, 0) := rfl
theorem gRo_comesBefore_61 : fRo_comesBefore 61 = some (.iaload, 0, 0) := rfl
theorem gRo_comesBefore_62 : fRo_comesBefore 62 = some (.if_icmp .eq (28), 90, 0) := rfl
theorem gRo_comesBefore_65 : fRo_comesBefore 65 = some (.aload_n 0, 0, 0) := rfl
theorem gRo_comesBefore_66 : fRo_comesBefore 66 = some (.getfield 21, 5, 2) := rfl
theorem gRo_comesBefore_69 : fRo_comesBefore 69 = some (.iload_n 1, 0, 0) := rfl
theorem gRo_comesBefore_70 : fRo_comesBefore 70 = some (.aaload, 0, 0) := rfl
theorem gRo_comesBefore_71 : fRo_comesBefore 71 = some (.iload_n 3, 0, 0) := rfl
theorem gRo_comesBefore_72 : fRo_comesBefore 72 = some (.iaload, 0, 0) := rfl
theorem gRo_comesBefore_73 : fRo_comesBefore 73 = some (.aload_n 0, 0, 0) := rfl
theorem gRo_comesBefore_74 : fRo_comesBefore 74 = some (.getfield 21, 5, 2) := rfl
theorem gRo_comesBefore_77 : fRo_comesBefore 77 = some (.iload_n 2, 0, 0) := rfl
theorem gRo_comesBefore_78 : fRo_comesBefore 78 = some (.aaload, 0, 0) := rfl
theorem gRo_comesBefore_79 : fRo_comesBefore 79 = some (.iload_n 3, 0, 0) := rfl
theorem gRo_comesBefore_80 : fRo_comesBefore 80 = some (.iaload, 0, 0) := rfl
theorem gRo_comesBefore_81 : fRo_comesBefore 81 = some (.if_icmp .ge (7), 88, 0) := rfl
theorem gRo_comesBefore_84 : fRo_comesBefore 84 = some (.iconst 1, 0, 0) := rfl
theorem gRo_comesBefore_85 : fRo_comesBefore 85 = some (.goto (4), 89, 0) := rfl
theorem gRo_comesBefore_88 : fRo_comesBefore 88 = some (.iconst 0, 0, 0) := rfl
theorem gRo_comesBefore_89 : fRo_comesBefore 89 = some (.ireturn, 0, 0) := rfl
theorem gRo_comesBefore_90 : fRo_comesBefore 90 = some (.iinc 3 (1), 0, 0) := rfl
theorem gRo_comesBefore_93 : fRo_comesBefore 93 = some (.goto (-55), 38, 0) := rfl
theorem gRo_comesBefore_96 : fRo_comesBefore 96 = some (.iconst 0, 0, 0) := rfl
theorem gRo_comesBefore_97 : fRo_comesBefore 97 = some (.ireturn, 0, 0) := rfl
abbrev lRo_listNormals : List (Nat × Instr × Nat × Nat) := [(0, .aload_n 0, 0, 0), (1, .iconst 0, 0, 0), (2, .putfield 36, 5, 7), (5, .iconst 0, 0, 0), (6, .istore_n 1, 0, 0), (7, .iload_n 1, 0, 0), (8, .aload_n 0, 0, 0), (9, .getfield 9, 5, 0), (12, .if_icmp .ge (54), 66, 0), (15, .aload_n 0, 0, 0), (16, .getfield 36, 5, 7), (19, .istore_n 2, 0, 0), (20, .aload_n 0, 0, 0), (21, .aload_n 0, 0, 0), (22, .getfield 27, 5, 4), (25, .iload_n 1, 0, 0), (26, .iaload, 0, 0), (27, .invokevirtual 102, 115, 0), (30, .iconst 0, 0, 0), (31, .istore_n 3, 0, 0), (32, .iload_n 3, 0, 0), (33, .iload_n 2, 0, 0), (34, .if_icmp .ge (26), 60, 0), (37, .aload_n 0, 0, 0), (38, .aload_n 0, 0, 0), (39, .getfield 33, 5, 6), (42, .iload_n 3, 0, 0), (43, .iaload, 0, 0), (44, .aload_n 0, 0, 0), (45, .getfield 27, 5, 4), (48, .iload_n 1, 0, 0), (49, .iaload, 0, 0), (50, .iand, 0, 0), (51, .invokevirtual 102, 115, 0), (54, .iinc 3 (1), 0, 0), (57, .goto (-25), 32, 0), (60, .iinc 1 (1), 0, 0), (63, .goto (-56), 7, 0), (66, .return_, 0, 0)]
def fRo_listNormals : sx_F := sx_tab lRo_listNormals
theorem kRo_listNormals : sx_chk "ClassCharacters$Rows" (wy yRo_listNormals prog_7_method_9_code 4 none) 4 prog_7_method_9_code lRo_listNormals = true := by decide +kernel
theorem gRo_listNormals_0 : fRo_listNormals 0 = some (.aload_n 0, 0, 0) := rfl
theorem gRo_listNormals_1 : fRo_listNormals 1 = some (.iconst 0, 0, 0) := rfl
theorem gRo_listNormals_2 : fRo_listNormals 2 = some (.putfield 36, 5, 7) := rfl
theorem gRo_listNormals_5 : fRo_listNormals 5 = some (.iconst 0, 0, 0) := rfl
theorem gRo_listNormals_6 : fRo_listNormals 6 = some (.istore_n 1, 0, 0) := rfl
theorem gRo_listNormals_7 : fRo_listNormals 7 = some (.iload_n 1, 0, 0) := rfl
theorem gRo_listNormals_8 : fRo_listNormals 8 = some (.aload_n 0, 0, 0) := rfl
theorem gRo_listNormals_9 : fRo_listNormals 9 = some (.getfield 9, 5, 0) := rfl
theorem gRo_listNormals_12 : fRo_listNormals 12 = some (.if_icmp .ge (54), 66, 0) := rfl
theorem gRo_listNormals_15 : fRo_listNormals 15 = some (.aload_n 0, 0, 0) := rfl
theorem gRo_listNormals_16 : fRo_listNormals 16 = some (.getfield 36, 5, 7) := rfl
theorem gRo_listNormals_19 : fRo_listNormals 19 = some (.istore_n 2, 0, 0) := rfl
theorem gRo_listNormals_20 : fRo_listNormals 20 = some (.aload_n 0, 0, 0) := rfl
theorem gRo_listNormals_21 : fRo_listNormals 21 = some (.aload_n 0, 0, 0) := rfl
theorem gRo_listNormals_22 : fRo_listNormals 22 = some (.getfield 27, 5, 4) := rfl
theorem gRo_listNormals_25 : fRo_listNormals 25 = some (.iload_n 1, 0, 0) := rfl
theorem gRo_listNormals_26 : fRo_listNormals 26 = some (.iaload, 0, 0) := rfl
theorem gRo_listNormals_27 : fRo_listNormals 27 = some (.invokevirtual 102, 115, 0) := rfl
theorem gRo_listNormals_30 : fRo_listNormals 30 = some (.iconst 0, 0, 0) := rfl
theorem gRo_listNormals_31 : fRo_listNormals 31 = some (.istore_n 3, 0, 0) := rfl
theorem gRo_listNormals_32 : fRo_listNormals 32 = some (.iload_n 3, 0, 0) := rfl
theorem gRo_listNormals_33 : fRo_listNormals 33 = some (.iload_n 2, 0, 0) := rfl
theorem gRo_listNormals_34 : fRo_listNormals 34 = some (.if_icmp .ge (26), 60, 0) := rfl
theorem gRo_listNormals_37 : fRo_listNormals 37 = some (.aload_n 0, 0, 0) := rfl
theorem gRo_listNormals_38 : fRo_listNormals 38 = some (.aload_n 0, 0, 0) := rfl
theorem gRo_listNormals_39 : fRo_listNormals 39 = some (.getfield 33, 5, 6) := rfl
theorem gRo_listNormals_42 : fRo_listNormals 42 = some (.iload_n 3, 0, 0) := rfl
theorem gRo_listNormals_43 : fRo_listNormals 43 = some (.iaload, 0, 0) := rfl
theorem gRo_listNormals_44 : fRo_listNormals 44 = some (.aload_n 0, 0, 0) := rfl
theorem gRo_listNormals_45 : fRo_listNormals 45 = some (.getfield 27, 5, 4) := rfl
theorem gRo_listNormals_48 : fRo_listNormals 48 = some (.iload_n 1, 0, 0) := rfl
theorem gRo_listNormals_49 : fRo_listNormals 49 = some (.iaload, 0, 0) := rfl
theorem gRo_listNormals_50 : fRo_listNormals 50 = some (.iand, 0, 0) := rfl
theorem gRo_listNormals_51 : fRo_listNormals 51 = some (.invokevirtual 102, 115, 0) := rfl
theorem gRo_listNormals_54 : fRo_listNormals 54 = some (.iinc 3 (1), 0, 0) := rfl
theorem gRo_listNormals_57 : fRo_listNormals 57 = some (.goto (-25), 32, 0) := rfl
theorem gRo_listNormals_60 : fRo_listNormals 60 = some (.iinc 1 (1), 0, 0) := rfl
theorem gRo_listNormals_63 : fRo_listNormals 63 = some (.goto (-56), 7, 0) := rfl
theorem gRo_listNormals_66 : fRo_listNormals 66 = some (.return_, 0, 0) := rfl
abbrev lRo_includeNormal : List (Nat × Instr × Nat × Nat) := [(0, .iconst 0, 0, 0), (1, .istore_n 2, 0, 0), (2, .iload_n 2, 0, 0), (3, .aload_n 0, 0, 0), (4, .getfield 36, 5, 7), (7, .if_icmp .ge (20), 27, 0), (10, .aload_n 0, 0, 0), (11, .getfield 33, 5, 6), (14, .iload_n 2, 0, 0), (15, .iaload, 0, 0), (16, .iload_n 1, 0, 0), (17, .if_icmp .ne (4), 21, 0), (20, .return_, 0, 0), (21, .iinc 2 (1), 0, 0), (24, .goto (-22), 2, 0), (27, .aload_n 0, 0, 0), (28, .getfield 36, 5, 7), (31, .sipush (128), 0, 0), (34, .if_icmp .ge (23), 57, 0), (37, .aload_n 0, 0, 0), (38, .getfield 33, 5, 6), (41, .aload_n 0, 0, 0), (42, .getfield 36, 5, 7), (45, .iload_n 1, 0, 0), (46, .iastore, 0, 0), (47, .aload_n 0, 0, 0), (48, .dup, 0, 0), (49, .getfield 36, 5, 7), (52, .iconst 1, 0, 0), (53, .iadd, 0, 0), (54, .putfield 36, 5, 7), (57, .return_, 0, 0)]
def fRo_includeNormal : sx_F := sx_tab lRo_includeNormal
theorem kRo_includeNormal : sx_chk "ClassCharacters$Rows" (wy yRo_includeNormal prog_7_method_10_code 3 none) 3 prog_7_method_10_code lRo_includeNormal = true := by decide +kernel
theorem gRo_includeNormal_0 : fRo_includeNormal 0 = some (.iconst 0, 0, 0) := rfl
theorem gRo_includeNormal_1 : fRo_includeNormal 1 = some (.istore_n 2, 0, 0) := rfl
theorem gRo_includeNormal_2 : fRo_includeNormal 2 = some (.iload_n 2, 0, 0) := rfl
theorem gRo_includeNormal_3 : fRo_includeNormal 3 = some (.aload_n 0, 0, 0) := rfl
theorem gRo_includeNormal_4 : fRo_includeNormal 4 = some (.getfield 36, 5, 7) := rfl
theorem gRo_includeNormal_7 : fRo_includeNormal 7 = some (.if_icmp .ge (20), 27, 0) := rfl
theorem gRo_includeNormal_10 : fRo_includeNormal 10 = some (.aload_n 0, 0, 0) := rfl
theorem gRo_includeNormal_11 : fRo_includeNormal 11 = some (.getfield 33, 5, 6) := rfl
theorem gRo_includeNormal_14 : fRo_includeNormal 14 = some (.iload_n 2, 0, 0) := rfl
theorem gRo_includeNormal_15 : fRo_includeNormal 15 = some (.iaload, 0, 0) := rfl
theorem gRo_includeNormal_16 : fRo_includeNormal 16 = some (.iload_n 1, 0, 0) := rfl
theorem gRo_includeNormal_17 : fRo_includeNormal 17 = some (.if_icmp .ne (4), 21, 0) := rfl
theorem gRo_includeNormal_20 : fRo_includeNormal 20 = some (.return_, 0, 0) := rfl
theorem gRo_includeNormal_21 : fRo_includeNormal 21 = some (.iinc 2 (1), 0, 0) := rfl
theorem gRo_includeNormal_24 : fRo_includeNormal 24 = some (.goto (-22), 2, 0) := rfl
theorem gRo_includeNormal_27 : fRo_includeNormal 27 = some (.aload_n 0, 0, 0) := rfl
theorem gRo_includeNormal_28 : fRo_includeNormal 28 = some (.getfield 36, 5, 7) := rfl
theorem gRo_includeNormal_31 : fRo_includeNormal 31 = some (.sipush (128), 0, 0) := rfl
theorem gRo_includeNormal_34 : fRo_includeNormal 34 = some (.if_icmp .ge (23), 57, 0) := rfl
theorem gRo_includeNormal_37 : fRo_includeNormal 37 = some (.aload_n 0, 0, 0) := rfl
theorem gRo_includeNormal_38 : fRo_includeNormal 38 = some (.getfield 33, 5, 6) := rfl
theorem gRo_includeNormal_41 : fRo_includeNormal 41 = some (.aload_n 0, 0, 0) := rfl
theorem gRo_includeNormal_42 : fRo_includeNormal 42 = some (.getfield 36, 5, 7) := rfl
theorem gRo_includeNormal_45 : fRo_includeNormal 45 = some (.iload_n 1, 0, 0) := rfl
theorem gRo_includeNormal_46 : fRo_includeNormal 46 = some (.iastore, 0, 0) := rfl
theorem gRo_includeNormal_47 : fRo_includeNormal 47 = some (.aload_n 0, 0, 0) := rfl
theorem gRo_includeNormal_48 : fRo_includeNormal 48 = some (.dup, 0, 0) := rfl
theorem gRo_includeNormal_49 : fRo_includeNormal 49 = some (.getfield 36, 5, 7) := rfl
theorem gRo_includeNormal_52 : fRo_includeNormal 52 = some (.iconst 1, 0, 0) := rfl
theorem gRo_includeNormal_53 : fRo_includeNormal 53 = some (.iadd, 0, 0) := rfl
theorem gRo_includeNormal_54 : fRo_includeNormal 54 = some (.putfield 36, 5, 7) := rfl
theorem gRo_includeNormal_57 : fRo_includeNormal 57 = some (.return_, 0, 0) := rfl
abbrev lRo_timesOfRoot : List (Nat × Instr × Nat × Nat) := [(0, .aload 4, 0, 0), (2, .getfield 105, 2, 6), (5, .istore 6, 0, 0), (7, .aload 5, 0, 0), (9, .aload 5, 0, 0), (11, .getfield 108, 3, 1), (14, .iload 6, 0, 0), (16, .iload_n 3, 0, 0), (17, .isub, 0, 0), (18, .invokevirtual 111, 106, 0), (21, .istore 7, 0, 0), (23, .iconst 1, 0, 0), (24, .istore 8, 0, 0), (26, .iconst 0, 0, 0), (27, .istore 9, 0, 0), (29, .iconst 0, 0, 0), (30, .istore 10, 0, 0), (32, .iload 10, 0, 0), (34, .iload 6, 0, 0), (36, .if_icmp .ge (46), 82, 0), (39, .aload 5, 0, 0), (41, .iload 9, 0, 0), (43, .aload_n 0, 0, 0), (44, .getfield 21, 5, 2), (47, .iload_n 1, 0, 0), (48, .aaload, 0, 0), (49, .aload 4, 0, 0), (51, .iload_n 2, 0, 0), (52, .iload 10, 0, 0), (54, .invokevirtual 95, 88, 0), (57, .iaload, 0, 0), (58, .iload 8, 0, 0), (60, .invokevirtual 78, 102, 0), (63, .istore 9, 0, 0), (65, .aload 5, 0, 0), (67, .iload 8, 0, 0), (69, .iload 7, 0, 0), (71, .invokevirtual 86, 101, 0), (74, .istore 8, 0, 0), (76, .iinc 10 (1), 0, 0), (79, .goto (-47), 32, 0), (82, .aload 5, 0, 0), (84, .iload 9, 0, 0), (86, .iload 6, 0, 0), (88, .invokevirtual 68, 104, 0), (91, .ireturn, 0, 0)]
def fRo_timesOfRoot : sx_F := sx_tab lRo_timesOfRoot
theorem kRo_timesOfRoot : sx_chk "ClassCharacters$Rows" (wy yRo_timesOfRoot prog_7_method_11_code 11 (some .int)) 11 prog_7_method_11_code lRo_timesOfRoot = true := by decide +kernel
theorem gRo_timesOfRoot_0 : fRo_timesOfRoot 0 = some (.aload 4, 0, 0) := rfl
theorem gRo_timesOfRoot_2 : fRo_timesOfRoot 2 = some (.getfield 105, 2, 6) := rfl
theorem gRo_timesOfRoot_5 : fRo_timesOfRoot 5 = some (.istore 6, 0, 0) := rfl
theorem gRo_timesOfRoot_7 : fRo_timesOfRoot 7 = some (.aload 5, 0, 0) := rfl
theorem gRo_timesOfRoot_9 : fRo_timesOfRoot 9 = some (.aload 5, 0, 0) := rfl
theorem gRo_timesOfRoot_11 : fRo_timesOfRoot 11 = some (.getfield 108, 3, 1) := rfl
theorem gRo_timesOfRoot_14 : fRo_timesOfRoot 14 = some (.iload 6, 0, 0) := rfl
theorem gRo_timesOfRoot_16 : fRo_timesOfRoot 16 = some (.iload_n 3, 0, 0) := rfl
theorem gRo_timesOfRoot_17 : fRo_timesOfRoot 17 = some (.isub, 0, 0) := rfl
theorem gRo_timesOfRoot_18 : fRo_timesOfRoot 18 = some (.invokevirtual 111, 106, 0) := rfl
theorem gRo_timesOfRoot_21 : fRo_timesOfRoot 21 = some (.istore 7, 0, 0) := rfl
theorem gRo_timesOfRoot_23 : fRo_timesOfRoot 23 = some (.iconst 1, 0, 0) := rfl
theorem gRo_timesOfRoot_24 : fRo_timesOfRoot 24 = some (.istore 8, 0, 0) := rfl
theorem gRo_timesOfRoot_26 : fRo_timesOfRoot 26 = some (.iconst 0, 0, 0) := rfl
theorem gRo_timesOfRoot_27 : fRo_timesOfRoot 27 = some (.istore 9, 0, 0) := rfl
theorem gRo_timesOfRoot_29 : fRo_timesOfRoot 29 = some (.iconst 0, 0, 0) := rfl
theorem gRo_timesOfRoot_30 : fRo_timesOfRoot 30 = some (.istore 10, 0, 0) := rfl
theorem gRo_timesOfRoot_32 : fRo_timesOfRoot 32 = some (.iload 10, 0, 0) := rfl
theorem gRo_timesOfRoot_34 : fRo_timesOfRoot 34 = some (.iload 6, 0, 0) := rfl
theorem gRo_timesOfRoot_36 : fRo_timesOfRoot 36 = some (.if_icmp .ge (46), 82, 0) := rfl
theorem gRo_timesOfRoot_39 : fRo_timesOfRoot 39 = some (.aload 5, 0, 0) := rfl
theorem gRo_timesOfRoot_41 : fRo_timesOfRoot 41 = some (.iload 9, 0, 0) := rfl
theorem gRo_timesOfRoot_43 : fRo_timesOfRoot 43 = some (.aload_n 0, 0, 0) := rfl
theorem gRo_timesOfRoot_44 : fRo_timesOfRoot 44 = some (.getfield 21, 5, 2) := rfl
theorem gRo_timesOfRoot_47 : fRo_timesOfRoot 47 = some (.iload_n 1, 0, 0) := rfl
theorem gRo_timesOfRoot_48 : fRo_timesOfRoot 48 = some (.aaload, 0, 0) := rfl
theorem gRo_timesOfRoot_49 : fRo_timesOfRoot 49 = some (.aload 4, 0, 0) := rfl
theorem gRo_timesOfRoot_51 : fRo_timesOfRoot 51 = some (.iload_n 2, 0, 0) := rfl
theorem gRo_timesOfRoot_52 : fRo_timesOfRoot 52 = some (.iload 10, 0, 0) := rfl
theorem gRo_timesOfRoot_54 : fRo_timesOfRoot 54 = some (.invokevirtual 95, 88, 0) := rfl
theorem gRo_timesOfRoot_57 : fRo_timesOfRoot 57 = some (.iaload, 0, 0) := rfl
theorem gRo_timesOfRoot_58 : fRo_timesOfRoot 58 = some (.iload 8, 0, 0) := rfl
theorem gRo_timesOfRoot_60 : fRo_timesOfRoot 60 = some (.invokevirtual 78, 102, 0) := rfl
theorem gRo_timesOfRoot_63 : fRo_timesOfRoot 63 = some (.istore 9, 0, 0) := rfl
theorem gRo_timesOfRoot_65 : fRo_timesOfRoot 65 = some (.aload 5, 0, 0) := rfl
theorem gRo_timesOfRoot_67 : fRo_timesOfRoot 67 = some (.iload 8, 0, 0) := rfl
theorem gRo_timesOfRoot_69 : fRo_timesOfRoot 69 = some (.iload 7, 0, 0) := rfl
theorem gRo_timesOfRoot_71 : fRo_timesOfRoot 71 = some (.invokevirtual 86, 101, 0) := rfl
theorem gRo_timesOfRoot_74 : fRo_timesOfRoot 74 = some (.istore 8, 0, 0) := rfl
theorem gRo_timesOfRoot_76 : fRo_timesOfRoot 76 = some (.iinc 10 (1), 0, 0) := rfl
theorem gRo_timesOfRoot_79 : fRo_timesOfRoot 79 = some (.goto (-47), 32, 0) := rfl
theorem gRo_timesOfRoot_82 : fRo_timesOfRoot 82 = some (.aload 5, 0, 0) := rfl
theorem gRo_timesOfRoot_84 : fRo_timesOfRoot 84 = some (.iload 9, 0, 0) := rfl
theorem gRo_timesOfRoot_86 : fRo_timesOfRoot 86 = some (.iload 6, 0, 0) := rfl
theorem gRo_timesOfRoot_88 : fRo_timesOfRoot 88 = some (.invokevirtual 68, 104, 0) := rfl
theorem gRo_timesOfRoot_91 : fRo_timesOfRoot 91 = some (.ireturn, 0, 0) := rfl
