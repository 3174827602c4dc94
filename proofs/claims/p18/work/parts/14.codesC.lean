abbrev lCm_find : List (Nat × Instr × Nat × Nat) := [(0, .aload_n 0, 0, 0), (1, .aload_n 1, 0, 0), (2, .getfield 42, 2, 0), (5, .putfield 9, 4, 0), (8, .aload_n 0, 0, 0), (9, .invokevirtual 45, 72, 0), (12, .iconst 1, 0, 0), (13, .istore_n 3, 0, 0), (14, .iload_n 3, 0, 0), (15, .aload_n 0, 0, 0), (16, .getfield 9, 4, 0), (19, .if_icmp .ge (80), 99, 0), (22, .iconst 0, 0, 0), (23, .istore 4, 0, 0), (25, .iload 4, 0, 0), (27, .aload_n 0, 0, 0), (28, .getfield 9, 4, 0), (31, .if_icmp .ge (62), 93, 0), (34, .aload_n 0, 0, 0), (35, .getfield 24, 4, 3), (38, .iload 4, 0, 0), (40, .iaload, 0, 0), (41, .iload 4, 0, 0), (43, .iconst 1, 0, 0), (44, .iadd, 0, 0), (45, .if_icmp .le (29), 74, 0), (48, .aload_n 0, 0, 0), (49, .iload_n 3, 0, 0), (50, .iload 4, 0, 0), (52, .aload_n 1, 0, 0), (53, .aload_n 2, 0, 0), (54, .invokevirtual 48, 73, 0), (57, .aload_n 0, 0, 0), (58, .iload 4, 0, 0), (60, .aload_n 0, 0, 0), (61, .getfield 24, 4, 3), (64, .iload 4, 0, 0), (66, .iaload, 0, 0), (67, .iload 4, 0, 0), (69, .isub, 0, 0), (70, .aload_n 2, 0, 0), (71, .invokevirtual 52, 74, 0), (74, .aload_n 0, 0, 0), (75, .getfield 24, 4, 3), (78, .iload 4, 0, 0), (80, .iaload, 0, 0), (81, .iload 4, 0, 0), (83, .iconst 1, 0, 0), (84, .iadd, 0, 0), (85, .invokestatic 56, 118, 0), (88, .istore 4, 0, 0), (90, .goto (-65), 25, 0), (93, .iinc 3 (1), 0, 0), (96, .goto (-82), 14, 0), (99, .aload_n 0, 0, 0), (100, .aload_n 2, 0, 0), (101, .invokevirtual 62, 80, 0), (104, .return_, 0, 0)]
def fCm_find : sx_F := sx_tab lCm_find
theorem kCm_find : sx_chk "ClassCharacters$CentralMaps" (wy yCm_find prog_2_method_2_code 5 none) 5 prog_2_method_2_code lCm_find = true := by decide +kernel
theorem gCm_find_0 : fCm_find 0 = some (.aload_n 0, 0, 0) := rfl
theorem gCm_find_1 : fCm_find 1 = some (.aload_n 1, 0, 0) := rfl
theorem gCm_find_2 : fCm_find 2 = some (.getfield 42, 2, 0) := rfl
theorem gCm_find_5 : fCm_find 5 = some (.putfield 9, 4, 0) := rfl
theorem gCm_find_8 : fCm_find 8 = some (.aload_n 0, 0, 0) := rfl
theorem gCm_find_9 : fCm_find 9 = some (.invokevirtual 45, 72, 0) := rfl
theorem gCm_find_12 : fCm_find 12 = some (.iconst 1, 0, 0) := rfl
theorem gCm_find_13 : fCm_find 13 = some (.istore_n 3, 0, 0) := rfl
theorem gCm_find_14 : fCm_find 14 = some (.iload_n 3, 0, 0) := rfl
theorem gCm_find_15 : fCm_find 15 = some (.aload_n 0, 0, 0) := rfl
theorem gCm_find_16 : fCm_find 16 = some (.getfield 9, 4, 0) := rfl
theorem gCm_find_19 : fCm_find 19 = some (.if_icmp .ge (80), 99, 0) := rfl
theorem gCm_find_22 : fCm_find 22 = some (.iconst 0, 0, 0) := rfl
theorem gCm_find_23 : fCm_find 23 = some (.istore 4, 0, 0) := rfl
theorem gCm_find_25 : fCm_find 25 = some (.iload 4, 0, 0) := rfl
theorem gCm_find_27 : fCm_find 27 = some (.aload_n 0, 0, 0) := rfl
theorem gCm_find_28 : fCm_find 28 = some (.getfield 9, 4, 0) := rfl
theorem gCm_find_31 : fCm_find 31 = some (.if_icmp .ge (62), 93, 0) := rfl
theorem gCm_find_34 : fCm_find 34 = some (.aload_n 0, 0, 0) := rfl
theorem gCm_find_35 : fCm_find 35 = some (.getfield 24, 4, 3) := rfl
theorem gCm_find_38 : fCm_find 38 = some (.iload 4, 0, 0) := rfl
theorem gCm_find_40 : fCm_find 40 = some (.iaload, 0, 0) := rfl
theorem gCm_find_41 : fCm_find 41 = some (.iload 4, 0, 0) := rfl
theorem gCm_find_43 : fCm_find 43 = some (.iconst 1, 0, 0) := rfl
theorem gCm_find_44 : fCm_find 44 = some (.iadd, 0, 0) := rfl
theorem gCm_find_45 : fCm_find 45 = some (.if_icmp .le (29), 74, 0) := rfl
theorem gCm_find_48 : fCm_find 48 = some (.aload_n 0, 0, 0) := rfl
theorem gCm_find_49 : fCm_find 49 = some (.iload_n 3, 0, 0) := rfl
theorem gCm_find_50 : fCm_find 50 = some (.iload 4, 0, 0) := rfl
theorem gCm_find_52 : fCm_find 52 = some (.aload_n 1, 0, 0) := rfl
theorem gCm_find_53 : fCm_find 53 = some (.aload_n 2, 0, 0) := rfl
theorem gCm_find_54 : fCm_find 54 = some (.invokevirtual 48, 73, 0) := rfl
theorem gCm_find_57 : fCm_find 57 = some (.aload_n 0, 0, 0) := rfl
theorem gCm_find_58 : fCm_find 58 = some (.iload 4, 0, 0) := rfl
theorem gCm_find_60 : fCm_find 60 = some (.aload_n 0, 0, 0) := rfl
theorem gCm_find_61 : fCm_find 61 = some (.getfield 24, 4, 3) := rfl
theorem gCm_find_64 : fCm_find 64 = some (.iload 4, 0, 0) := rfl
theorem gCm_find_66 : fCm_find 66 = some (.iaload, 0, 0) := rfl
theorem gCm_find_67 : fCm_find 67 = some (.iload 4, 0, 0) := rfl
theorem gCm_find_69 : fCm_find 69 = some (.isub, 0, 0) := rfl
theorem gCm_find_70 : fCm_find 70 = some (.aload_n 2, 0, 0) := rfl
theorem gCm_find_71 : fCm_find 71 = some (.invokevirtual 52, 74, 0) := rfl
theorem gCm_find_74 : fCm_find 74 = some (.aload_n 0, 0, 0) := rfl
theorem gCm_find_75 : fCm_find 75 = some (.getfield 24, 4, 3) := rfl
theorem gCm_find_78 : fCm_find 78 = some (.iload 4, 0, 0) := rfl
theorem gCm_find_80 : fCm_find 80 = some (.iaload, 0, 0) := rfl
theorem gCm_find_81 : fCm_find 81 = some (.iload 4, 0, 0) := rfl
theorem gCm_find_83 : fCm_find 83 = some (.iconst 1, 0, 0) := rfl
theorem gCm_find_84 : fCm_find 84 = some (.iadd, 0, 0) := rfl
theorem gCm_find_85 : fCm_find 85 = some (.invokestatic 56, 118, 0) := rfl
theorem gCm_find_88 : fCm_find 88 = some (.istore 4, 0, 0) := rfl
theorem gCm_find_90 : fCm_find 90 = some (.goto (-65), 25, 0) := rfl
theorem gCm_find_93 : fCm_find 93 = some (.iinc 3 (1), 0, 0) := rfl
theorem gCm_find_96 : fCm_find 96 = some (.goto (-82), 14, 0) := rfl
theorem gCm_find_99 : fCm_find 99 = some (.aload_n 0, 0, 0) := rfl
theorem gCm_find_100 : fCm_find 100 = some (.aload_n 2, 0, 0) := rfl
theorem gCm_find_101 : fCm_find 101 = some (.invokevirtual 62, 80, 0) := rfl
theorem gCm_find_104 : fCm_find 104 = some (.return_, 0, 0) := rfl
abbrev lCm_startWhole : List (Nat × Instr × Nat × Nat) := [(0, .iconst 0, 0, 0), (1, .istore_n 1, 0, 0), (2, .iload_n 1, 0, 0), (3, .aload_n 0, 0, 0), (4, .getfield 9, 4, 0), (7, .if_icmp .ge (44), 51, 0), (10, .aload_n 0, 0, 0), (11, .getfield 17, 4, 1), (14, .iload_n 1, 0, 0), (15, .aaload, 0, 0), (16, .iconst 0, 0, 0), (17, .invokestatic 66, 119, 0), (20, .aload_n 0, 0, 0), (21, .getfield 17, 4, 1), (24, .iload_n 1, 0, 0), (25, .aaload, 0, 0), (26, .iload_n 1, 0, 0), (27, .iconst 1, 0, 0), (28, .iastore, 0, 0), (29, .aload_n 0, 0, 0), (30, .getfield 20, 4, 2), (33, .iload_n 1, 0, 0), (34, .iload_n 1, 0, 0), (35, .iastore, 0, 0), (36, .aload_n 0, 0, 0), (37, .getfield 24, 4, 3), (40, .iload_n 1, 0, 0), (41, .iload_n 1, 0, 0), (42, .iconst 1, 0, 0), (43, .iadd, 0, 0), (44, .iastore, 0, 0), (45, .iinc 1 (1), 0, 0), (48, .goto (-46), 2, 0), (51, .aload_n 0, 0, 0), (52, .getfield 24, 4, 3), (55, .iconst 0, 0, 0), (56, .aload_n 0, 0, 0), (57, .getfield 9, 4, 0), (60, .iastore, 0, 0), (61, .return_, 0, 0)]
def fCm_startWhole : sx_F := sx_tab lCm_startWhole
theorem kCm_startWhole : sx_chk "ClassCharacters$CentralMaps" (wy yCm_startWhole prog_2_method_3_code 2 none) 2 prog_2_method_3_code lCm_startWhole = true := by decide +kernel
theorem gCm_startWhole_0 : fCm_startWhole 0 = some (.iconst 0, 0, 0) := rfl
theorem gCm_startWhole_1 : fCm_startWhole 1 = some (.istore_n 1, 0, 0) := rfl
theorem gCm_startWhole_2 : fCm_startWhole 2 = some (.iload_n 1, 0, 0) := rfl
theorem gCm_startWhole_3 : fCm_startWhole 3 = some (.aload_n 0, 0, 0) := rfl
theorem gCm_startWhole_4 : fCm_startWhole 4 = some (.getfield 9, 4, 0) := rfl
theorem gCm_startWhole_7 : fCm_startWhole 7 = some (.if_icmp .ge (44), 51, 0) := rfl
theorem gCm_startWhole_10 : fCm_startWhole 10 = some (.aload_n 0, 0, 0) := rfl
theorem gCm_startWhole_11 : fCm_startWhole 11 = some (.getfield 17, 4, 1) := rfl
theorem gCm_startWhole_14 : fCm_startWhole 14 = some (.iload_n 1, 0, 0) := rfl
theorem gCm_startWhole_15 : fCm_startWhole 15 = some (.aaload, 0, 0) := rfl
theorem gCm_startWhole_16 : fCm_startWhole 16 = some (.iconst 0, 0, 0) := rfl
theorem gCm_startWhole_17 : fCm_startWhole 17 = some (.invokestatic 66, 119, 0) := rfl
theorem gCm_startWhole_20 : fCm_startWhole 20 = some (.aload_n 0, 0, 0) := rfl
theorem gCm_startWhole_21 : fCm_startWhole 21 = some (.getfield 17, 4, 1) := rfl
theorem gCm_startWhole_24 : fCm_startWhole 24 = some (.iload_n 1, 0, 0) := rfl
theorem gCm_startWhole_25 : fCm_startWhole 25 = some (.aaload, 0, 0) := rfl
theorem gCm_startWhole_26 : fCm_startWhole 26 = some (.iload_n 1, 0, 0) := rfl
theorem gCm_startWhole_27 : fCm_startWhole 27 = some (.iconst 1, 0, 0) := rfl
theorem gCm_startWhole_28 : fCm_startWhole 28 = some (.iastore, 0, 0) := rfl
theorem gCm_startWhole_29 : fCm_startWhole 29 = some (.aload_n 0, 0, 0) := rfl
theorem gCm_startWhole_30 : fCm_startWhole 30 = some (.getfield 20, 4, 2) := rfl
theorem gCm_startWhole_33 : fCm_startWhole 33 = some (.iload_n 1, 0, 0) := rfl
theorem gCm_startWhole_34 : fCm_startWhole 34 = some (.iload_n 1, 0, 0) := rfl
theorem gCm_startWhole_35 : fCm_startWhole 35 = some (.iastore, 0, 0) := rfl
theorem gCm_startWhole_36 : fCm_startWhole 36 = some (.aload_n 0, 0, 0) := rfl
theorem gCm_startWhole_37 : fCm_startWhole 37 = some (.getfield 24, 4, 3) := rfl
theorem gCm_startWhole_40 : fCm_startWhole 40 = some (.iload_n 1, 0, 0) := rfl
theorem gCm_startWhole_41 : fCm_startWhole 41 = some (.iload_n 1, 0, 0) := rfl
theorem gCm_startWhole_42 : fCm_startWhole 42 = some (.iconst 1, 0, 0) := rfl
theorem gCm_startWhole_43 : fCm_startWhole 43 = some (.iadd, 0, 0) := rfl
theorem gCm_startWhole_44 : fCm_startWhole 44 = some (.iastore, 0, 0) := rfl
theorem gCm_startWhole_45 : fCm_startWhole 45 = some (.iinc 1 (1), 0, 0) := rfl
theorem gCm_startWhole_48 : fCm_startWhole 48 = some (.goto (-46), 2, 0) := rfl
theorem gCm_startWhole_51 : fCm_startWhole 51 = some (.aload_n 0, 0, 0) := rfl
theorem gCm_startWhole_52 : fCm_startWhole 52 = some (.getfield 24, 4, 3) := rfl
theorem gCm_startWhole_55 : fCm_startWhole 55 = some (.iconst 0, 0, 0) := rfl
theorem gCm_startWhole_56 : fCm_startWhole 56 = some (.aload_n 0, 0, 0) := rfl
theorem gCm_startWhole_57 : fCm_startWhole 57 = some (.getfield 9, 4, 0) := rfl
theorem gCm_startWhole_60 : fCm_startWhole 60 = some (.iastore, 0, 0) := rfl
theorem gCm_startWhole_61 : fCm_startWhole 61 = some (.return_, 0, 0) := rfl
abbrev lCm_setAction : List (Nat × Instr × Nat × Nat) := [(0, .aload_n 0, 0, 0), (1, .getfield 24, 4, 3), (4, .iload_n 2, 0, 0), (5, .iaload, 0, 0), (6, .iload_n 2, 0, 0), (7, .isub, 0, 0), (8, .istore 5, 0, 0), (10, .iconst 0, 0, 0), (11, .istore 6, 0, 0), (13, .iload 6, 0, 0), (15, .iload 5, 0, 0), (17, .if_icmp .ge (99), 116, 0), (20, .iconst 0, 0, 0), (21, .istore 7, 0, 0), (23, .iload 7, 0, 0), (25, .iload 5, 0, 0), (27, .if_icmp .ge (83), 110, 0), (30, .iconst 0, 0, 0), (31, .istore 8, 0, 0), (33, .iconst 0, 0, 0), (34, .istore 9, 0, 0), (36, .iload 9, 0, 0), (38, .aload_n 0, 0, 0), (39, .getfield 9, 4, 0), (42, .if_icmp .ge (50), 92, 0), (45, .aload_n 3, 0, 0), (46, .iload_n 1, 0, 0), (47, .aload_n 0, 0, 0), (48, .getfield 20, 4, 2), (51, .iload_n 2, 0, 0), (52, .iload 6, 0, 0), (54, .iadd, 0, 0), (55, .iaload, 0, 0), (56, .iload 9, 0, 0), (58, .invokevirtual 72, 91, 0), (61, .istore 10, 0, 0), (63, .aload 4, 0, 0), (65, .iload 8, 0, 0), (67, .iload 10, 0, 0), (69, .aload_n 0, 0, 0), (70, .getfield 17, 4, 1), (73, .iload_n 2, 0, 0), (74, .iload 7, 0, 0), (76, .iadd, 0, 0), (77, .aaload, 0, 0), (78, .iload 9, 0, 0), (80, .iaload, 0, 0), (81, .invokevirtual 76, 102, 0), (84, .istore 8, 0, 0), (86, .iinc 9 (1), 0, 0), (89, .goto (-53), 36, 0), (92, .aload_n 0, 0, 0), (93, .getfield 33, 4, 6), (96, .iload 6, 0, 0), (98, .aaload, 0, 0), (99, .iload 7, 0, 0), (101, .iload 8, 0, 0), (103, .iastore, 0, 0), (104, .iinc 7 (1), 0, 0), (107, .goto (-84), 23, 0), (110, .iinc 6 (1), 0, 0), (113, .goto (-100), 13, 0), (116, .return_, 0, 0)]
def fCm_setAction : sx_F := sx_tab lCm_setAction
theorem kCm_setAction : sx_chk "ClassCharacters$CentralMaps" (wy yCm_setAction prog_2_method_4_code 11 none) 11 prog_2_method_4_code lCm_setAction = true := by decide +kernel
theorem gCm_setAction_0 : fCm_setAction 0 = some (.aload_n 0, 0, 0) := rfl
theorem gCm_setAction_1 : fCm_setAction 1 = some (.getfield 24, 4, 3) := rfl
theorem gCm_setAction_4 : fCm_setAction 4 = some (.iload_n 2, 0, 0) := rfl
theorem gCm_setAction_5 : fCm_setAction 5 = some (.iaload, 0, 0) := rfl
theorem gCm_setAction_6 : fCm_setAction 6 = some (.iload_n 2, 0, 0) := rfl
theorem gCm_setAction_7 : fCm_setAction 7 = some (.isub, 0, 0) := rfl
theorem gCm_setAction_8 : fCm_setAction 8 = some (.istore 5, 0, 0) := rfl
theorem gCm_setAction_10 : fCm_setAction 10 = some (.iconst 0, 0, 0) := rfl
theorem gCm_setAction_11 : fCm_setAction 11 = some (.istore 6, 0, 0) := rfl
theorem gCm_setAction_13 : fCm_setAction 13 = some (.iload 6, 0, 0) := rfl
theorem gCm_setAction_15 : fCm_setAction 15 = some (.iload 5, 0, 0) := rfl
theorem gCm_setAction_17 : fCm_setAction 17 = some (.if_icmp .ge (99), 116, 0) := rfl
theorem gCm_setAction_20 : fCm_setAction 20 = some (.iconst 0, 0, 0) := rfl
theorem gCm_setAction_21 : fCm_setAction 21 = some (.istore 7, 0, 0) := rfl
theorem gCm_setAction_23 : fCm_setAction 23 = some (.iload 7, 0, 0) := rfl
theorem gCm_setAction_25 : fCm_setAction 25 = some (.iload 5, 0, 0) := rfl
theorem gCm_setAction_27 : fCm_setAction 27 = some (.if_icmp .ge (83), 110, 0) := rfl
theorem gCm_setAction_30 : fCm_setAction 30 = some (.iconst 0, 0, 0) := rfl
theorem gCm_setAction_31 : fCm_setAction 31 = some (.istore 8, 0, 0) := rfl
theorem gCm_setAction_33 : fCm_setAction 33 = some (.iconst 0, 0, 0) := rfl
theorem gCm_setAction_34 : fCm_setAction 34 = some (.istore 9, 0, 0) := rfl
theorem gCm_setAction_36 : fCm_setAction 36 = some (.iload 9, 0, 0) := rfl
theorem gCm_setAction_38 : fCm_setAction 38 = some (.aload_n 0, 0, 0) := rfl
theorem gCm_setAction_39 : fCm_setAction 39 = some (.getfield 9, 4, 0) := rfl
theorem gCm_setAction_42 : fCm_setAction 42 = some (.if_icmp .ge (50), 92, 0) := rfl
theorem gCm_setAction_45 : fCm_setAction 45 = some (.aload_n 3, 0, 0) := rfl
theorem gCm_setAction_46 : fCm_setAction 46 = some (.iload_n 1, 0, 0) := rfl
theorem gCm_setAction_47 : fCm_setAction 47 = some (.aload_n 0, 0, 0) := rfl
theorem gCm_setAction_48 : fCm_setAction 48 = some (.getfield 20, 4, 2) := rfl
theorem gCm_setAction_51 : fCm_setAction 51 = some (.iload_n 2, 0, 0) := rfl
theorem gCm_setAction_52 : fCm_setAction 52 = some (.iload 6, 0, 0) := rfl
theorem gCm_setAction_54 : fCm_setAction 54 = some (.iadd, 0, 0) := rfl
theorem gCm_setAction_55 : fCm_setAction 55 = some (.iaload, 0, 0) := rfl
theorem gCm_setAction_56 : fCm_setAction 56 = some (.iload 9, 0, 0) := rfl
theorem gCm_setAction_58 : fCm_setAction 58 = some (.invokevirtual 72, 91, 0) := rfl
theorem gCm_setAction_61 : fCm_setAction 61 = some (.istore 10, 0, 0) := rfl
theorem gCm_setAction_63 : fCm_setAction 63 = some (.aload 4, 0, 0) := rfl
theorem gCm_setAction_65 : fCm_setAction 65 = some (.iload 8, 0, 0) := rfl
theorem gCm_setAction_67 : fCm_setAction 67 = some (.iload 10, 0, 0) := rfl
theorem gCm_setAction_69 : fCm_setAction 69 = some (.aload_n 0, 0, 0) := rfl
theorem gCm_setAction_70 : fCm_setAction 70 = some (.getfield 17, 4, 1) := rfl
theorem gCm_setAction_73 : fCm_setAction 73 = some (.iload_n 2, 0, 0) := rfl
theorem gCm_setAction_74 : fCm_setAction 74 = some (.iload 7, 0, 0) := rfl
theorem gCm_setAction_76 : fCm_setAction 76 = some (.iadd, 0, 0) := rfl
theorem gCm_setAction_77 : fCm_setAction 77 = some (.aaload, 0, 0) := rfl
theorem gCm_setAction_78 : fCm_setAction 78 = some (.iload 9, 0, 0) := rfl
theorem gCm_setAction_80 : fCm_setAction 80 = some (.iaload, 0, 0) := rfl
theorem gCm_setAction_81 : fCm_setAction 81 = some (.invokevirtual 76, 102, 0) := rfl
theorem gCm_setAction_84 : fCm_setAction 84 = some (.istore 8, 0, 0) := rfl
theorem gCm_setAction_86 : fCm_setAction 86 = some (.iinc 9 (1), 0, 0) := rfl
theorem gCm_setAction_89 : fCm_setAction 89 = some (.goto (-53), 36, 0) := rfl
theorem gCm_setAction_92 : fCm_setAction 92 = some (.aload_n 0, 0, 0) := rfl
theorem gCm_setAction_93 : fCm_setAction 93 = some (.getfield 33, 4, 6) := rfl
theorem gCm_setAction_96 : fCm_setAction 96 = some (.iload 6, 0, 0) := rfl
theorem gCm_setAction_98 : fCm_setAction 98 = some (.aaload, 0, 0) := rfl
theorem gCm_setAction_99 : fCm_setAction 99 = some (.iload 7, 0, 0) := rfl
theorem gCm_setAction_101 : fCm_setAction 101 = some (.iload 8, 0, 0) := rfl
theorem gCm_setAction_103 : fCm_setAction 103 = some (.iastore, 0, 0) := rfl
theorem gCm_setAction_104 : fCm_setAction 104 = some (.iinc 7 (1), 0, 0) := rfl
theorem gCm_setAction_107 : fCm_setAction 107 = some (.goto (-84), 23, 0) := rfl
theorem gCm_setAction_110 : fCm_setAction 110 = some (.iinc 6 (1), 0, 0) := rfl
theorem gCm_setAction_113 : fCm_setAction 113 = some (.goto (-100), 13, 0) := rfl
theorem gCm_setAction_116 : fCm_setAction 116 = some (.return_, 0, 0) := rfl
abbrev lCm_split : List (Nat × Instr × Nat × Nat) := [(0, .iconst 0, 0, 0), (1, .istore 4, 0, 0), (3, .iconst 0, 0, 0), (4, .istore 5, 0, 0), (6, .iload 5, 0, 0), (8, .aload_n 3, 0, 0), (9, .getfield 81, 3, 0), (12, .if_icmp .ge (99), 111, 0), (15, .iload 4, 0, 0), (17, .iload_n 2, 0, 0), (18, .if_icmp .ge (93), 111, 0), (21, .iload 4, 0, 0), (23, .istore 6, 0, 0), (25, .aload_n 0, 0, 0), (26, .iload 5, 0, 0), (28, .iload_n 2, 0, 0), (29, .aload_n 3, 0, 0), (30, .invokevirtual 84, 75, 0), (33, .aload_n 0, 0, 0), (34, .iload_n 2, 0, 0), (35, .aload_n 3, 0, 0), (36, .invokevirtual 87, 76, 0), (39, .iconst 0, 0, 0), (40, .istore 7, 0, 0), (42, .iload 7, 0, 0), (44, .iload_n 2, 0, 0), (45, .if_icmp .ge (40), 85, 0), (48, .iload 4, 0, 0), (50, .iload_n 2, 0, 0), (51, .if_icmp .ge (34), 85, 0), (54, .aload_n 0, 0, 0), (55, .getfield 39, 4, 8), (58, .iload 7, 0, 0), (60, .iaload, 0, 0), (61, .iconst (-1), 0, 0), (62, .if_icmp .ne (17), 79, 0), (65, .aload_n 0, 0, 0), (66, .iload 7, 0, 0), (68, .iload_n 1, 0, 0), (69, .iload_n 2, 0, 0), (70, .iload 4, 0, 0), (72, .aload_n 3, 0, 0), (73, .invokevirtual 91, 79, 0), (76, .iinc 4 (1), 0, 0), (79, .iinc 7 (1), 0, 0), (82, .goto (-40), 42, 0), (85, .iload 4, 0, 0), (87, .iload 6, 0, 0), (89, .if_icmp .le (16), 105, 0), (92, .aload_n 0, 0, 0), (93, .getfield 24, 4, 3), (96, .iload_n 1, 0, 0), (97, .iload 6, 0, 0), (99, .iadd, 0, 0), (100, .iload_n 1, 0, 0), (101, .iload 4, 0, 0), (103, .iadd, 0, 0), (104, .iastore, 0, 0), (105, .iinc 5 (1), 0, 0), (108, .goto (-102), 6, 0), (111, .iconst 0, 0, 0), (112, .istore 5, 0, 0), (114, .iload 5, 0, 0), (116, .iload 4, 0, 0), (118, .if_icmp .ge (50), 168, 0), (121, .aload_n 0, 0, 0), (122, .getfield 27, 4, 4), (125, .iload 5, 0, 0), (127, .aaload, 0, 0), (128, .iconst 0, 0, 0), (129, .aload_n 0, 0, 0), (130, .getfield 17, 4, 1), (133, .iload_n 1, 0, 0), (134, .iload 5, 0, 0), (136, .iadd, 0, 0), (137, .aaload, 0, 0), (138, .iconst 0, 0, 0), (139, .aload_n 0, 0, 0), (140, .getfield 9, 4, 0), (143, .invokestatic 95, 900, 0), (146, .aload_n 0, 0, 0), (147, .getfield 20, 4, 2), (150, .iload_n 1, 0, 0), (151, .iload 5, 0, 0), (153, .iadd, 0, 0), (154, .aload_n 0, 0, 0), (155, .getfield 30, 4, 5), (158, .iload 5, 0, 0), (160, .iaload, 0, 0), (161, .iastore, 0, 0), (162, .iinc 5 (1), 0, 0), (165, .goto (-51), 114, 0), (168, .return_, 0, 0)]
def fCm_split : sx_F := sx_tab lCm_split
theorem kCm_split : sx_chk "ClassCharacters$CentralMaps" (wy yCm_split prog_2_method_5_code 8 none) 8 prog_2_method_5_code lCm_split = true := by decide +kernel
theorem gCm_split_0 : fCm_split 0 = some (.iconst 0, 0, 0) := rfl
theorem gCm_split_1 : fCm_split 1 = some (.istore 4, 0, 0) := rfl
theorem gCm_split_3 : fCm_split 3 = some (.iconst 0, 0, 0) := rfl
theorem gCm_split_4 : fCm_split 4 = some (.istore 5, 0, 0) := rfl
theorem gCm_split_6 : fCm_split 6 = some (.iload 5, 0, 0) := rfl
theorem gCm_split_8 : fCm_split 8 = some (.aload_n 3, 0, 0) := rfl
theorem gCm_split_9 : fCm_split 9 = some (.getfield 81, 3, 0) := rfl
theorem gCm_split_12 : fCm_split 12 = some (.if_icmp .ge (99), 111, 0) := rfl
theorem gCm_split_15 : fCm_split 15 = some (.iload 4, 0, 0) := rfl
theorem gCm_split_17 : fCm_split 17 = some (.iload_n 2, 0, 0) := rfl
theorem gCm_split_18 : fCm_split 18 = some (.if_icmp .ge (93), 111, 0) := rfl
theorem gCm_split_21 : fCm_split 21 = some (.iload 4, 0, 0) := rfl
theorem gCm_split_23 : fCm_split 23 = some (.istore 6, 0, 0) := rfl
theorem gCm_split_25 : fCm_split 25 = some (.aload_n 0, 0, 0) := rfl
theorem gCm_split_26 : fCm_split 26 = some (.iload 5, 0, 0) := rfl
theorem gCm_split_28 : fCm_split 28 = some (.iload_n 2, 0, 0) := rfl
theorem gCm_split_29 : fCm_split 29 = some (.aload_n 3, 0, 0) := rfl
theorem gCm_split_30 : fCm_split 30 = some (.invokevirtual 84, 75, 0) := rfl
theorem gCm_split_33 : fCm_split 33 = some (.aload_n 0, 0, 0) := rfl
theorem gCm_split_34 : fCm_split 34 = some (.iload_n 2, 0, 0) := rfl
theorem gCm_split_35 : fCm_split 35 = some (.aload_n 3, 0, 0) := rfl
theorem gCm_split_36 : fCm_split 36 = some (.invokevirtual 87, 76, 0) := rfl
theorem gCm_split_39 : fCm_split 39 = some (.iconst 0, 0, 0) := rfl
theorem gCm_split_40 : fCm_split 40 = some (.istore 7, 0, 0) := rfl
theorem gCm_split_42 : fCm_split 42 = some (.iload 7, 0, 0) := rfl
theorem gCm_split_44 : fCm_split 44 = some (.iload_n 2, 0, 0) := rfl
theorem gCm_split_45 : fCm_split 45 = some (.if_icmp .ge (40), 85, 0) := rfl
theorem gCm_split_48 : fCm_split 48 = some (.iload 4, 0, 0) := rfl
theorem gCm_split_50 : fCm_split 50 = some (.iload_n 2, 0, 0) := rfl
theorem gCm_split_51 : fCm_split 51 = some (.if_icmp .ge (34), 85, 0) := rfl
theorem gCm_split_54 : fCm_split 54 = some (.aload_n 0, 0, 0) := rfl
theorem gCm_split_55 : fCm_split 55 = some (.getfield 39, 4, 8) := rfl
theorem gCm_split_58 : fCm_split 58 = some (.iload 7, 0, 0) := rfl
theorem gCm_split_60 : fCm_split 60 = some (.iaload, 0, 0) := rfl
theorem gCm_split_61 : fCm_split 61 = some (.iconst (-1), 0, 0) := rfl
theorem gCm_split_62 : fCm_split 62 = some (.if_icmp .ne (17), 79, 0) := rfl
theorem gCm_split_65 : fCm_split 65 = some (.aload_n 0, 0, 0) := rfl
theorem gCm_split_66 : fCm_split 66 = some (.iload 7, 0, 0) := rfl
theorem gCm_split_68 : fCm_split 68 = some (.iload_n 1, 0, 0) := rfl
theorem gCm_split_69 : fCm_split 69 = some (.iload_n 2, 0, 0) := rfl
theorem gCm_split_70 : fCm_split 70 = some (.iload 4, 0, 0) := rfl
theorem gCm_split_72 : fCm_split 72 = some (.aload_n 3, 0, 0) := rfl
theorem gCm_split_73 : fCm_split 73 = some (.invokevirtual 91, 79, 0) := rfl
theorem gCm_split_76 : fCm_split 76 = some (.iinc 4 (1), 0, 0) := rfl
theorem gCm_split_79 : fCm_split 79 = some (.iinc 7 (1), 0, 0) := rfl
theorem gCm_split_82 : fCm_split 82 = some (.goto (-40), 42, 0) := rfl
theorem gCm_split_85 : fCm_split 85 = some (.iload 4, 0, 0) := rfl
theorem gCm_split_87 : fCm_split 87 = some (.iload 6, 0, 0) := rfl
theorem gCm_split_89 : fCm_split 89 = some (.if_icmp .le (16), 105, 0) := rfl
theorem gCm_split_92 : fCm_split 92 = some (.aload_n 0, 0, 0) := rfl
theorem gCm_split_93 : fCm_split 93 = some (.getfield 24, 4, 3) := rfl
theorem gCm_split_96 : fCm_split 96 = some (.iload_n 1, 0, 0) := rfl
theorem gCm_split_97 : fCm_split 97 = some (.iload 6, 0, 0) := rfl
theorem gCm_split_99 : fCm_split 99 = some (.iadd, 0, 0) := rfl
theorem gCm_split_100 : fCm_split 100 = some (.iload_n 1, 0, 0) := rfl
theorem gCm_split_101 : fCm_split 101 = some (.iload 4, 0, 0) := rfl
theorem gCm_split_103 : fCm_split 103 = some (.iadd, 0, 0) := rfl
theorem gCm_split_104 : fCm_split 104 = some (.iastore, 0, 0) := rfl
theorem gCm_split_105 : fCm_split 105 = some (.iinc 5 (1), 0, 0) := rfl
theorem gCm_split_108 : fCm_split 108 = some (.goto (-102), 6, 0) := rfl
theorem gCm_split_111 : fCm_split 111 = some (.iconst 0, 0, 0) := rfl
theorem gCm_split_112 : fCm_split 112 = some (.istore 5, 0, 0) := rfl
theorem gCm_split_114 : fCm_split 114 = some (.iload 5, 0, 0) := rfl
theorem gCm_split_116 : fCm_split 116 = some (.iload 4, 0, 0) := rfl
theorem gCm_split_118 : fCm_split 118 = some (.if_icmp .ge (50), 168, 0) := rfl
theorem gCm_split_121 : fCm_split 121 = some (.aload_n 0, 0, 0) := rfl
theorem gCm_split_122 : fCm_split 122 = some (.getfield 27, 4, 4) := rfl
theorem gCm_split_125 : fCm_split 125 = some (.iload 5, 0, 0) := rfl
theorem gCm_split_127 : fCm_split 127 = some (.aaload, 0, 0) := rfl
theorem gCm_split_128 : fCm_split 128 = some (.iconst 0, 0, 0) := rfl
theorem gCm_split_129 : fCm_split 129 = some (.aload_n 0, 0, 0) := rfl
theorem gCm_split_130 : fCm_split 130 = some (.getfield 17, 4, 1) := rfl
theorem gCm_split_133 : fCm_split 133 = some (.iload_n 1, 0, 0) := rfl
theorem gCm_split_134 : fCm_split 134 = some (.iload 5, 0, 0) := rfl
theorem gCm_split_136 : fCm_split 136 = some (.iadd, 0, 0) := rfl
theorem gCm_split_137 : fCm_split 137 = some (.aaload, 0, 0) := rfl
theorem gCm_split_138 : fCm_split 138 = some (.iconst 0, 0, 0) := rfl
theorem gCm_split_139 : fCm_split 139 = some (.aload_n 0, 0, 0) := rfl
theorem gCm_split_140 : fCm_split 140 = some (.getfield 9, 4, 0) := rfl
theorem gCm_split_143 : fCm_split 143 = some (.invokestatic 95, 900, 0) := rfl
theorem gCm_split_146 : fCm_split 146 = some (.aload_n 0, 0, 0) := rfl
theorem gCm_split_147 : fCm_split 147 = some (.getfield 20, 4, 2) := rfl
theorem gCm_split_150 : fCm_split 150 = some (.iload_n 1, 0, 0) := rfl
theorem gCm_split_151 : fCm_split 151 = some (.iload 5, 0, 0) := rfl
theorem gCm_split_153 : fCm_split 153 = some (.iadd, 0, 0) := rfl
theorem gCm_split_154 : fCm_split 154 = some (.aload_n 0, 0, 0) := rfl
theorem gCm_split_155 : fCm_split 155 = some (.getfield 30, 4, 5) := rfl
theorem gCm_split_158 : fCm_split 158 = some (.iload 5, 0, 0) := rfl
theorem gCm_split_160 : fCm_split 160 = some (.iaload, 0, 0) := rfl
theorem gCm_split_161 : fCm_split 161 = some (.iastore, 0, 0) := rfl
theorem gCm_split_162 : fCm_split 162 = some (.iinc 5 (1), 0, 0) := rfl
theorem gCm_split_165 : fCm_split 165 = some (.goto (-51), 114, 0) := rfl
theorem gCm_split_168 : fCm_split 168 = some (.return_, 0, 0) := rfl
abbrev lCm_setSystem : List (Nat × Instr × Nat × Nat) := [(0, .iconst 0, 0, 0), (1, .istore 4, 0, 0), (3, .iload 4, 0, 0), (5, .iload_n 2, 0, 0), (6, .if_icmp .ge (55), 61, 0), (9, .aload_n 0, 0, 0), (10, .getfield 33, 4, 6), (13, .iload 4, 0, 0), (15, .aaload, 0, 0), (16, .iconst 0, 0, 0), (17, .aload_n 0, 0, 0), (18, .getfield 36, 4, 7), (21, .iload 4, 0, 0), (23, .aaload, 0, 0), (24, .iconst 0, 0, 0), (25, .iload_n 2, 0, 0), (26, .invokestatic 95, 900, 0), (29, .aload_n 0, 0, 0), (30, .getfield 36, 4, 7), (33, .iload 4, 0, 0), (35, .aaload, 0, 0), (36, .iload 4, 0, 0), (38, .aload_n 3, 0, 0), (39, .aload_n 0, 0, 0), (40, .getfield 36, 4, 7), (43, .iload 4, 0, 0), (45, .aaload, 0, 0), (46, .iload 4, 0, 0), (48, .iaload, 0, 0), (49, .iload_n 1, 0, 0), (50, .isub, 0, 0), (51, .invokevirtual 101, 100, 0), (54, .iastore, 0, 0), (55, .iinc 4 (1), 0, 0), (58, .goto (-55), 3, 0), (61, .return_, 0, 0)]
def fCm_setSystem : sx_F := sx_tab lCm_setSystem
theorem kCm_setSystem : sx_chk "ClassCharacters$CentralMaps" (wy yCm_setSystem prog_2_method_6_code 5 none) 5 prog_2_method_6_code lCm_setSystem = true := by decide +kernel
theorem gCm_setSystem_0 : fCm_setSystem 0 = some (.iconst 0, 0, 0) := rfl
theorem gCm_setSystem_1 : fCm_setSystem 1 = some (.istore 4, 0, 0) := rfl
theorem gCm_setSystem_3 : fCm_setSystem 3 = some (.iload 4, 0, 0) := rfl
theorem gCm_setSystem_5 : fCm_setSystem 5 = some (.iload_n 2, 0, 0) := rfl
theorem gCm_setSystem_6 : fCm_setSystem 6 = some (.if_icmp .ge (55), 61, 0) := rfl
theorem gCm_setSystem_9 : fCm_setSystem 9 = some (.aload_n 0, 0, 0) := rfl
theorem gCm_setSystem_10 : fCm_setSystem 10 = some (.getfield 33, 4, 6) := rfl
theorem gCm_setSystem_13 : fCm_setSystem 13 = some (.iload 4, 0, 0) := rfl
theorem gCm_setSystem_15 : fCm_setSystem 15 = some (.aaload, 0, 0) := rfl
theorem gCm_setSystem_16 : fCm_setSystem 16 = some (.iconst 0, 0, 0) := rfl
theorem gCm_setSystem_17 : fCm_setSystem 17 = some (.aload_n 0, 0, 0) := rfl
theorem gCm_setSystem_18 : fCm_setSystem 18 = some (.getfield 36, 4, 7) := rfl
theorem gCm_setSystem_21 : fCm_setSystem 21 = some (.iload 4, 0, 0) := rfl
theorem gCm_setSystem_23 : fCm_setSystem 23 = some (.aaload, 0, 0) := rfl
theorem gCm_setSystem_24 : fCm_setSystem 24 = some (.iconst 0, 0, 0) := rfl
theorem gCm_setSystem_25 : fCm_setSystem 25 = some (.iload_n 2, 0, 0) := rfl
theorem gCm_setSystem_26 : fCm_setSystem 26 = some (.invokestatic 95, 900, 0) := rfl
theorem gCm_setSystem_29 : fCm_setSystem 29 = some (.aload_n 0, 0, 0) := rfl
theorem gCm_setSystem_30 : fCm_setSystem 30 = some (.getfield 36, 4, 7) := rfl
theorem gCm_setSystem_33 : fCm_setSystem 33 = some (.iload 4, 0, 0) := rfl
theorem gCm_setSystem_35 : fCm_setSystem 35 = some (.aaload, 0, 0) := rfl
theorem gCm_setSystem_36 : fCm_setSystem 36 = some (.iload 4, 0, 0) := rfl
theorem gCm_setSystem_38 : fCm_setSystem 38 = some (.aload_n 3, 0, 0) := rfl
theorem gCm_setSystem_39 : fCm_setSystem 39 = some (.aload_n 0, 0, 0) := rfl
theorem gCm_setSystem_40 : fCm_setSystem 40 = some (.getfield 36, 4, 7) := rfl
theorem gCm_setSystem_43 : fCm_setSystem 43 = some (.iload 4, 0, 0) := rfl
theorem gCm_setSystem_45 : fCm_setSystem 45 = some (.aaload, 0, 0) := rfl
theorem gCm_setSystem_46 : fCm_setSystem 46 = some (.iload 4, 0, 0) := rfl
theorem gCm_setSystem_48 : fCm_setSystem 48 = some (.iaload, 0, 0) := rfl
theorem gCm_setSystem_49 : fCm_setSystem 49 = some (.iload_n 1, 0, 0) := rfl
theorem gCm_setSystem_50 : fCm_setSystem 50 = some (.isub, 0, 0) := rfl
theorem gCm_setSystem_51 : fCm_setSystem 51 = some (.invokevirtual 101, 100, 0) := rfl
theorem gCm_setSystem_54 : fCm_setSystem 54 = some (.iastore, 0, 0) := rfl
theorem gCm_setSystem_55 : fCm_setSystem 55 = some (.iinc 4 (1), 0, 0) := rfl
theorem gCm_setSystem_58 : fCm_setSystem 58 = some (.goto (-55), 3, 0) := rfl
theorem gCm_setSystem_61 : fCm_setSystem 61 = some (.return_, 0, 0) := rfl
abbrev lCm_solve : List (Nat × Instr × Nat × Nat) := [(0, .iconst 0, 0, 0), (1, .istore_n 3, 0, 0), (2, .iconst 0, 0, 0), (3, .istore 4, 0, 0), (5, .iload 4, 0, 0), (7, .iload_n 1, 0, 0), (8, .if_icmp .ge (79), 87, 0), (11, .iload_n 3, 0, 0), (12, .istore 5, 0, 0), (14, .iload 5, 0, 0), (16, .iload_n 1, 0, 0), (17, .if_icmp .ge (22), 39, 0), (20, .aload_n 0, 0, 0), (21, .getfield 36, 4, 7), (24, .iload 5, 0, 0), (26, .aaload, 0, 0), (27, .iload 4, 0, 0), (29, .iaload, 0, 0), (30, .ifCond .ne (9), 39, 0), (33, .iinc 5 (1), 0, 0), (36, .goto (-22), 14, 0), (39, .aload_n 0, 0, 0), (40, .getfield 39, 4, 8), (43, .iload 4, 0, 0), (45, .iconst (-1), 0, 0), (46, .iastore, 0, 0), (47, .iload 5, 0, 0), (49, .iload_n 1, 0, 0), (50, .if_icmp .ge (31), 81, 0), (53, .aload_n 0, 0, 0), (54, .iload 5, 0, 0), (56, .iload_n 3, 0, 0), (57, .iload_n 1, 0, 0), (58, .invokevirtual 105, 77, 0), (61, .aload_n 0, 0, 0), (62, .iload 4, 0, 0), (64, .iload_n 3, 0, 0), (65, .iload_n 1, 0, 0), (66, .aload_n 2, 0, 0), (67, .invokevirtual 109, 78, 0), (70, .aload_n 0, 0, 0), (71, .getfield 39, 4, 8), (74, .iload 4, 0, 0), (76, .iload_n 3, 0, 0), (77, .iastore, 0, 0), (78, .iinc 3 (1), 0, 0), (81, .iinc 4 (1), 0, 0), (84, .goto (-79), 5, 0), (87, .return_, 0, 0)]
def fCm_solve : sx_F := sx_tab lCm_solve
theorem kCm_solve : sx_chk "ClassCharacters$CentralMaps" (wy yCm_solve prog_2_method_7_code 6 none) 6 prog_2_method_7_code lCm_solve = true := by decide +kernel
theorem gCm_solve_0 : fCm_solve 0 = some (.iconst 0, 0, 0) := rfl
theorem gCm_solve_1 : fCm_solve 1 = some (.istore_n 3, 0, 0) := rfl
theorem gCm_solve_2 : fCm_solve 2 = some (.iconst 0, 0, 0) := rfl
theorem gCm_solve_3 : fCm_solve 3 = some (.istore 4, 0, 0) := rfl
theorem gCm_solve_5 : fCm_solve 5 = some (.iload 4, 0, 0) := rfl
theorem gCm_solve_7 : fCm_solve 7 = some (.iload_n 1, 0, 0) := rfl
theorem gCm_solve_8 : fCm_solve 8 = some (.if_icmp .ge (79), 87, 0) := rfl
theorem gCm_solve_11 : fCm_solve 11 = some (.iload_n 3, 0, 0) := rfl
theorem gCm_solve_12 : fCm_solve 12 = some (.istore 5, 0, 0) := rfl
theorem gCm_solve_14 : fCm_solve 14 = some (.iload 5, 0, 0) := rfl
theorem gCm_solve_16 : fCm_solve 16 = some (.iload_n 1, 0, 0) := rfl
theorem gCm_solve_17 : fCm_solve 17 = some (.if_icmp .ge (22), 39, 0) := rfl
theorem gCm_solve_20 : fCm_solve 20 = some (.aload_n 0, 0, 0) := rfl
theorem gCm_solve_21 : fCm_solve 21 = some (.getfield 36, 4, 7) := rfl
theorem gCm_solve_24 : fCm_solve 24 = some (.iload 5, 0, 0) := rfl
theorem gCm_solve_26 : fCm_solve 26 = some (.aaload, 0, 0) := rfl
theorem gCm_solve_27 : fCm_solve 27 = some (.iload 4, 0, 0) := rfl
theorem gCm_solve_29 : fCm_solve 29 = some (.iaload, 0, 0) := rfl
theorem gCm_solve_30 : fCm_solve 30 = some (.ifCond .ne (9), 39, 0) := rfl
theorem gCm_solve_33 : fCm_solve 33 = some (.iinc 5 (1), 0, 0) := rfl
theorem gCm_solve_36 : fCm_solve 36 = some (.goto (-22), 14, 0) := rfl
theorem gCm_solve_39 : fCm_solve 39 = some (.aload_n 0, 0, 0) := rfl
theorem gCm_solve_40 : fCm_solve 40 = some (.getfield 39, 4, 8) := rfl
theorem gCm_solve_43 : fCm_solve 43 = some (.iload 4, 0, 0) := rfl
theorem gCm_solve_45 : fCm_solve 45 = some (.iconst (-1), 0, 0) := rfl
theorem gCm_solve_46 : fCm_solve 46 = some (.iastore, 0, 0) := rfl
theorem gCm_solve_47 : fCm_solve 47 = some (.iload 5, 0, 0) := rfl
theorem gCm_solve_49 : fCm_solve 49 = some (.iload_n 1, 0, 0) := rfl
theorem gCm_solve_50 : fCm_solve 50 = some (.if_icmp .ge (31), 81, 0) := rfl
theorem gCm_solve_53 : fCm_solve 53 = some (.aload_n 0, 0, 0) := rfl
theorem gCm_solve_54 : fCm_solve 54 = some (.iload 5, 0, 0) := rfl
theorem gCm_solve_56 : fCm_solve 56 = some (.iload_n 3, 0, 0) := rfl
theorem gCm_solve_57 : fCm_solve 57 = some (.iload_n 1, 0, 0) := rfl
theorem gCm_solve_58 : fCm_solve 58 = some (.invokevirtual 105, 77, 0) := rfl
theorem gCm_solve_61 : fCm_solve 61 = some (.aload_n 0, 0, 0) := rfl
theorem gCm_solve_62 : fCm_solve 62 = some (.iload 4, 0, 0) := rfl
theorem gCm_solve_64 : fCm_solve 64 = some (.iload_n 3, 0, 0) := rfl
theorem gCm_solve_65 : fCm_solve 65 = some (.iload_n 1, 0, 0) := rfl
theorem gCm_solve_66 : fCm_solve 66 = some (.aload_n 2, 0, 0) := rfl
theorem gCm_solve_67 : fCm_solve 67 = some (.invokevirtual 109, 78, 0) := rfl
theorem gCm_solve_70 : fCm_solve 70 = some (.aload_n 0, 0, 0) := rfl
theorem gCm_solve_71 : fCm_solve 71 = some (.getfield 39, 4, 8) := rfl
theorem gCm_solve_74 : fCm_solve 74 = some (.iload 4, 0, 0) := rfl
theorem gCm_solve_76 : fCm_solve 76 = some (.iload_n 3, 0, 0) := rfl
theorem gCm_solve_77 : fCm_solve 77 = some (.iastore, 0, 0) := rfl
theorem gCm_solve_78 : fCm_solve 78 = some (.iinc 3 (1), 0, 0) := rfl
theorem gCm_solve_81 : fCm_solve 81 = some (.iinc 4 (1), 0, 0) := rfl
theorem gCm_solve_84 : fCm_solve 84 = some (.goto (-79), 5, 0) := rfl
theorem gCm_solve_87 : fCm_solve 87 = some (.return_, 0, 0) := rfl
abbrev lCm_swapRows : List (Nat × Instr × Nat × Nat) := [(0, .iconst 0, 0, 0), (1, .istore 4, 0, 0), (3, .iload 4, 0, 0), (5, .iload_n 3, 0, 0), (6, .if_icmp .ge (49), 55, 0), (9, .aload_n 0, 0, 0), (10, .getfield 36, 4, 7), (13, .iload_n 1, 0, 0), (14, .aaload, 0, 0), (15, .iload 4, 0, 0), (17, .iaload, 0, 0), (18, .istore 5, 0, 0), (20, .aload_n 0, 0, 0), (21, .getfield 36, 4, 7), (24, .iload_n 1, 0, 0), (25, .aaload, 0, 0), (26, .iload 4, 0, 0), (28, .aload_n 0, 0, 0), (29, .getfield 36, 4, 7), (32, .iload_n 2, 0, 0), (33, .aaload, 0, 0), (34, .iload 4, 0, 0), (36, .iaload, 0, 0), (37, .iastore, 0, 0), (38, .aload_n 0, 0, 0), (39, .getfield 36, 4, 7), (42, .iload_n 2, 0, 0), (43, .aaload, 0, 0), (44, .iload 4, 0, 0), (46, .iload 5, 0, 0), (48, .iastore, 0, 0), (49, .iinc 4 (1), 0, 0), (52, .goto (-49), 3, 0), (55, .return_, 0, 0)]
def fCm_swapRows : sx_F := sx_tab lCm_swapRows
theorem kCm_swapRows : sx_chk "ClassCharacters$CentralMaps" (wy yCm_swapRows prog_2_method_8_code 6 none) 6 prog_2_method_8_code lCm_swapRows = true := by decide +kernel
theorem gCm_swapRows_0 : fCm_swapRows 0 = some (.iconst 0, 0, 0) := rfl
theorem gCm_swapRows_1 : fCm_swapRows 1 = some (.istore 4, 0, 0) := rfl
theorem gCm_swapRows_3 : fCm_swapRows 3 = some (.iload 4, 0, 0) := rfl
theorem gCm_swapRows_5 : fCm_swapRows 5 = some (.iload_n 3, 0, 0) := rfl
theorem gCm_swapRows_6 : fCm_swapRows 6 = some (.if_icmp .ge (49), 55, 0) := rfl
theorem gCm_swapRows_9 : fCm_swapRows 9 = some (.aload_n 0, 0, 0) := rfl
theorem gCm_swapRows_10 : fCm_swapRows 10 = some (.getfield 36, 4, 7) := rfl
theorem gCm_swapRows_13 : fCm_swapRows 13 = some (.iload_n 1, 0, 0) := rfl
theorem gCm_swapRows_14 : fCm_swapRows 14 = some (.aaload, 0, 0) := rfl
theorem gCm_swapRows_15 : fCm_swapRows 15 = some (.iload 4, 0, 0) := rfl
theorem gCm_swapRows_17 : fCm_swapRows 17 = some (.iaload, 0, 0) := rfl
theorem gCm_swapRows_18 : fCm_swapRows 18 = some (.istore 5, 0, 0) := rfl
theorem gCm_swapRows_20 : fCm_swapRows 20 = some (.aload_n 0, 0, 0) := rfl
theorem gCm_swapRows_21 : fCm_swapRows 21 = some (.getfield 36, 4, 7) := rfl
theorem gCm_swapRows_24 : fCm_swapRows 24 = some (.iload_n 1, 0, 0) := rfl
theorem gCm_swapRows_25 : fCm_swapRows 25 = some (.aaload, 0, 0) := rfl
theorem gCm_swapRows_26 : fCm_swapRows 26 = some (.iload 4, 0, 0) := rfl
theorem gCm_swapRows_28 : fCm_swapRows 28 = some (.aload_n 0, 0, 0) := rfl
theorem gCm_swapRows_29 : fCm_swapRows 29 = some (.getfield 36, 4, 7) := rfl
theorem gCm_swapRows_32 : fCm_swapRows 32 = some (.iload_n 2, 0, 0) := rfl
theorem gCm_swapRows_33 : fCm_swapRows 33 = some (.aaload, 0, 0) := rfl
theorem gCm_swapRows_34 : fCm_swapRows 34 = some (.iload 4, 0, 0) := rfl
theorem gCm_swapRows_36 : fCm_swapRows 36 = some (.iaload, 0, 0) := rfl
theorem gCm_swapRows_37 : fCm_swapRows 37 = some (.iastore, 0, 0) := rfl
theorem gCm_swapRows_38 : fCm_swapRows 38 = some (.aload_n 0, 0, 0) := rfl
theorem gCm_swapRows_39 : fCm_swapRows 39 = some (.getfield 36, 4, 7) := rfl
theorem gCm_swapRows_42 : fCm_swapRows 42 = some (.iload_n 2, 0, 0) := rfl
theorem gCm_swapRows_43 : fCm_swapRows 43 = some (.aaload, 0, 0) := rfl
theorem gCm_swapRows_44 : fCm_swapRows 44 = some (.iload 4, 0, 0) := rfl
theorem gCm_swapRows_46 : fCm_swapRows 46 = some (.iload 5, 0, 0) := rfl
theorem gCm_swapRows_48 : fCm_swapRows 48 = some (.iastore, 0, 0) := rfl
theorem gCm_swapRows_49 : fCm_swapRows 49 = some (.iinc 4 (1), 0, 0) := rfl
theorem gCm_swapRows_52 : fCm_swapRows 52 = some (.goto (-49), 3, 0) := rfl
theorem gCm_swapRows_55 : fCm_swapRows 55 = some (.return_, 0, 0) := rfl
abbrev lCm_clearColumn : List (Nat × Instr × Nat × Nat) := [(0, .aload 4, 0, 0), (2, .aload_n 0, 0, 0), (3, .getfield 36, 4, 7), (6, .iload_n 2, 0, 0), (7, .aaload, 0, 0), (8, .iload_n 1, 0, 0), (9, .iaload, 0, 0), (10, .invokevirtual 113, 105, 0), (13, .istore 5, 0, 0), (15, .iload_n 1, 0, 0), (16, .istore 6, 0, 0), (18, .iload 6, 0, 0), (20, .iload_n 3, 0, 0), (21, .if_icmp .ge (34), 55, 0), (24, .aload_n 0, 0, 0), (25, .getfield 36, 4, 7), (28, .iload_n 2, 0, 0), (29, .aaload, 0, 0), (30, .iload 6, 0, 0), (32, .aload 4, 0, 0), (34, .aload_n 0, 0, 0), (35, .getfield 36, 4, 7), (38, .iload_n 2, 0, 0), (39, .aaload, 0, 0), (40, .iload 6, 0, 0), (42, .iaload, 0, 0), (43, .iload 5, 0, 0), (45, .invokevirtual 116, 101, 0), (48, .iastore, 0, 0), (49, .iinc 6 (1), 0, 0), (52, .goto (-34), 18, 0), (55, .iconst 0, 0, 0), (56, .istore 6, 0, 0), (58, .iload 6, 0, 0), (60, .iload_n 3, 0, 0), (61, .if_icmp .ge (82), 143, 0), (64, .aload_n 0, 0, 0), (65, .getfield 36, 4, 7), (68, .iload 6, 0, 0), (70, .aaload, 0, 0), (71, .iload_n 1, 0, 0), (72, .iaload, 0, 0), (73, .istore 7, 0, 0), (75, .iload 6, 0, 0), (77, .iload_n 2, 0, 0), (78, .if_icmp .eq (59), 137, 0), (81, .iload 7, 0, 0), (83, .ifCond .eq (54), 137, 0), (86, .iload_n 1, 0, 0), (87, .istore 8, 0, 0), (89, .iload 8, 0, 0), (91, .iload_n 3, 0, 0), (92, .if_icmp .ge (45), 137, 0), (95, .aload_n 0, 0, 0), (96, .getfield 36, 4, 7), (99, .iload 6, 0, 0), (101, .aaload, 0, 0), (102, .iload 8, 0, 0), (104, .aload 4, 0, 0), (106, .aload_n 0, 0, 0), (107, .getfield 36, 4, 7), (110, .iload 6, 0, 0), (112, .aaload, 0, 0), (113, .iload 8, 0, 0), (115, .iaload, 0, 0), (116, .iload 7, 0, 0), (118, .aload_n 0, 0, 0), (119, .getfield 36, 4, 7), (122, .iload_n 2, 0, 0), (123, .aaload, 0, 0), (124, .iload 8, 0, 0), (126, .iaload, 0, 0), (127, .invokevirtual 119, 103, 0), (130, .iastore, 0, 0), (131, .iinc 8 (1), 0, 0), (134, .goto (-45), 89, 0), (137, .iinc 6 (1), 0, 0), (140, .goto (-82), 58, 0), (143, .return_, 0, 0)]
def fCm_clearColumn : sx_F := sx_tab lCm_clearColumn
theorem kCm_clearColumn : sx_chk "ClassCharacters$CentralMaps" (wy yCm_clearColumn prog_2_method_9_code 9 none) 9 prog_2_method_9_code lCm_clearColumn = true := by decide +kernel
theorem gCm_clearColumn_0 : fCm_clearColumn 0 = some (.aload 4, 0, 0) := rfl
theorem gCm_clearColumn_2 : fCm_clearColumn 2 = some (.aload_n 0, 0, 0) := rfl
theorem gCm_clearColumn_3 : fCm_clearColumn 3 = some (.getfield 36, 4, 7) := rfl
theorem gCm_clearColumn_6 : fCm_clearColumn 6 = some (.iload_n 2, 0, 0) := rfl
theorem gCm_clearColumn_7 : fCm_clearColumn 7 = some (.aaload, 0, 0) := rfl
theorem gCm_clearColumn_8 : fCm_clearColumn 8 = some (.iload_n 1, 0, 0) := rfl
theorem gCm_clearColumn_9 : fCm_clearColumn 9 = some (.iaload, 0, 0) := rfl
theorem gCm_clearColumn_10 : fCm_clearColumn 10 = some (.invokevirtual 113, 105, 0) := rfl
theorem gCm_clearColumn_13 : fCm_clearColumn 13 = some (.istore 5, 0, 0) := rfl
theorem gCm_clearColumn_15 : fCm_clearColumn 15 = some (.iload_n 1, 0, 0) := rfl
theorem gCm_clearColumn_16 : fCm_clearColumn 16 = some (.istore 6, 0, 0) := rfl
theorem gCm_clearColumn_18 : fCm_clearColumn 18 = some (.iload 6, 0, 0) := rfl
theorem gCm_clearColumn_20 : fCm_clearColumn 20 = some (.iload_n 3, 0, 0) := rfl
theorem gCm_clearColumn_21 : fCm_clearColumn 21 = some (.if_icmp .ge (34), 55, 0) := rfl
theorem gCm_clearColumn_24 : fCm_clearColumn 24 = some (.aload_n 0, 0, 0) := rfl
theorem gCm_clearColumn_25 : fCm_clearColumn 25 = some (.getfield 36, 4, 7) := rfl
theorem gCm_clearColumn_28 : fCm_clearColumn 28 = some (.iload_n 2, 0, 0) := rfl
theorem gCm_clearColumn_29 : fCm_clearColumn 29 = some (.aaload, 0, 0) := rfl
theorem gCm_clearColumn_30 : fCm_clearColumn 30 = some (.iload 6, 0, 0) := rfl
theorem gCm_clearColumn_32 : fCm_clearColumn 32 = some (.aload 4, 0, 0) := rfl
theorem gCm_clearColumn_34 : fCm_clearColumn 34 = some (.aload_n 0, 0, 0) := rfl
theorem gCm_clearColumn_35 : fCm_clearColumn 35 = some (.getfield 36, 4, 7) := rfl
theorem gCm_clearColumn_38 : fCm_clearColumn 38 = some (.iload_n 2, 0, 0) := rfl
theorem gCm_clearColumn_39 : fCm_clearColumn 39 = some (.aaload, 0, 0) := rfl
theorem gCm_clearColumn_40 : fCm_clearColumn 40 = some (.iload 6, 0, 0) := rfl
theorem gCm_clearColumn_42 : fCm_clearColumn 42 = some (.iaload, 0, 0) := rfl
theorem gCm_clearColumn_43 : fCm_clearColumn 43 = some (.iload 5, 0, 0) := rfl
theorem gCm_clearColumn_45 : fCm_clearColumn 45 = some (.invokevirtual 116, 101, 0) := rfl
theorem gCm_clearColumn_48 : fCm_clearColumn 48 = some (.iastore, 0, 0) := rfl
theorem gCm_clearColumn_49 : fCm_clearColumn 49 = some (.iinc 6 (1), 0, 0) := rfl
theorem gCm_clearColumn_52 : fCm_clearColumn 52 = some (.goto (-34), 18, 0) := rfl
theorem gCm_clearColumn_55 : fCm_clearColumn 55 = some (.iconst 0, 0, 0) := rfl
theorem gCm_clearColumn_56 : fCm_clearColumn 56 = some (.istore 6, 0, 0) := rfl
theorem gCm_clearColumn_58 : fCm_clearColumn 58 = some (.iload 6, 0, 0) := rfl
theorem gCm_clearColumn_60 : fCm_clearColumn 60 = some (.iload_n 3, 0, 0) := rfl
theorem gCm_clearColumn_61 : fCm_clearColumn 61 = some (.if_icmp .ge (82), 143, 0) := rfl
theorem gCm_clearColumn_64 : fCm_clearColumn 64 = some (.aload_n 0, 0, 0) := rfl
theorem gCm_clearColumn_65 : fCm_clearColumn 65 = some (.getfield 36, 4, 7) := rfl
theorem gCm_clearColumn_68 : fCm_clearColumn 68 = some (.iload 6, 0, 0) := rfl
theorem gCm_clearColumn_70 : fCm_clearColumn 70 = some (.aaload, 0, 0) := rfl
theorem gCm_clearColumn_71 : fCm_clearColumn 71 = some (.iload_n 1, 0, 0) := rfl
theorem gCm_clearColumn_72 : fCm_clearColumn 72 = some (.iaload, 0, 0) := rfl
theorem gCm_clearColumn_73 : fCm_clearColumn 73 = some (.istore 7, 0, 0) := rfl
theorem gCm_clearColumn_75 : fCm_clearColumn 75 = some (.iload 6, 0, 0) := rfl
theorem gCm_clearColumn_77 : fCm_clearColumn 77 = some (.iload_n 2, 0, 0) := rfl
theorem gCm_clearColumn_78 : fCm_clearColumn 78 = some (.if_icmp .eq (59), 137, 0) := rfl
theorem gCm_clearColumn_81 : fCm_clearColumn 81 = some (.iload 7, 0, 0) := rfl
theorem gCm_clearColumn_83 : fCm_clearColumn 83 = some (.ifCond .eq (54), 137, 0) := rfl
theorem gCm_clearColumn_86 : fCm_clearColumn 86 = some (.iload_n 1, 0, 0) := rfl
theorem gCm_clearColumn_87 : fCm_clearColumn 87 = some (.istore 8, 0, 0) := rfl
theorem gCm_clearColumn_89 : fCm_clearColumn 89 = some (.iload 8, 0, 0) := rfl
theorem gCm_clearColumn_91 : fCm_clearColumn 91 = some (.iload_n 3, 0, 0) := rfl
theorem gCm_clearColumn_92 : fCm_clearColumn 92 = some (.if_icmp .ge (45), 137, 0) := rfl
theorem gCm_clearColumn_95 : fCm_clearColumn 95 = some (.aload_n 0, 0, 0) := rfl
theorem gCm_clearColumn_96 : fCm_clearColumn 96 = some (.getfield 36, 4, 7) := rfl
theorem gCm_clearColumn_99 : fCm_clearColumn 99 = some (.iload 6, 0, 0) := rfl
theorem gCm_clearColumn_101 : fCm_clearColumn 101 = some (.aaload, 0, 0) := rfl
theorem gCm_clearColumn_102 : fCm_clearColumn 102 = some (.iload 8, 0, 0) := rfl
theorem gCm_clearColumn_104 : fCm_clearColumn 104 = some (.aload 4, 0, 0) := rfl
theorem gCm_clearColumn_106 : fCm_clearColumn 106 = some (.aload_n 0, 0, 0) := rfl
theorem gCm_clearColumn_107 : fCm_clearColumn 107 = some (.getfield 36, 4, 7) := rfl
theorem gCm_clearColumn_110 : fCm_clearColumn 110 = some (.iload 6, 0, 0) := rfl
theorem gCm_clearColumn_112 : fCm_clearColumn 112 = some (.aaload, 0, 0) := rfl
theorem gCm_clearColumn_113 : fCm_clearColumn 113 = some (.iload 8, 0, 0) := rfl
theorem gCm_clearColumn_115 : fCm_clearColumn 115 = some (.iaload, 0, 0) := rfl
theorem gCm_clearColumn_116 : fCm_clearColumn 116 = some (.iload 7, 0, 0) := rfl
theorem gCm_clearColumn_118 : fCm_clearColumn 118 = some (.aload_n 0, 0, 0) := rfl
theorem gCm_clearColumn_119 : fCm_clearColumn 119 = some (.getfield 36, 4, 7) := rfl
theorem gCm_clearColumn_122 : fCm_clearColumn 122 = some (.iload_n 2, 0, 0) := rfl
theorem gCm_clearColumn_123 : fCm_clearColumn 123 = some (.aaload, 0, 0) := rfl
theorem gCm_clearColumn_124 : fCm_clearColumn 124 = some (.iload 8, 0, 0) := rfl
theorem gCm_clearColumn_126 : fCm_clearColumn 126 = some (.iaload, 0, 0) := rfl
theorem gCm_clearColumn_127 : fCm_clearColumn 127 = some (.invokevirtual 119, 103, 0) := rfl
theorem gCm_clearColumn_130 : fCm_clearColumn 130 = some (.iastore, 0, 0) := rfl
theorem gCm_clearColumn_131 : fCm_clearColumn 131 = some (.iinc 8 (1), 0, 0) := rfl
theorem gCm_clearColumn_134 : fCm_clearColumn 134 = some (.goto (-45), 89, 0) := rfl
theorem gCm_clearColumn_137 : fCm_clearColumn 137 = some (.iinc 6 (1), 0, 0) := rfl
theorem gCm_clearColumn_140 : fCm_clearColumn 140 = some (.goto (-82), 58, 0) := rfl
theorem gCm_clearColumn_143 : fCm_clearColumn 143 = some (.return_, 0, 0) := rfl
abbrev lCm_takeSolution : List (Nat × Instr × Nat × Nat) := [(0, .aload_n 0, 0, 0), (1, .getfield 27, 4, 4), (4, .iload 4, 0, 0), (6, .aaload, 0, 0), (7, .astore 6, 0, 0), (9, .aload_n 0, 0, 0), (10, .getfield 17, 4, 1), (13, .iload_n 2, 0, 0), (14, .iload_n 1, 0, 0), (15, .iadd, 0, 0), (16, .aaload, 0, 0), (17, .iconst 0, 0, 0), (18, .aload 6, 0, 0), (20, .iconst 0, 0, 0), (21, .aload_n 0, 0, 0), (22, .getfield 9, 4, 0), (25, .invokestatic 95, 900, 0), (28, .iconst 0, 0, 0), (29, .istore 7, 0, 0), (31, .iload 7, 0, 0), (33, .iload_n 3, 0, 0), (34, .if_icmp .ge (83), 117, 0), (37, .aload_n 0, 0, 0), (38, .getfield 39, 4, 8), (41, .iload 7, 0, 0), (43, .iaload, 0, 0), (44, .iconst (-1), 0, 0), (45, .if_icmp .eq (66), 111, 0), (48, .aload_n 0, 0, 0), (49, .getfield 36, 4, 7), (52, .aload_n 0, 0, 0), (53, .getfield 39, 4, 8), (56, .iload 7, 0, 0), (58, .iaload, 0, 0), (59, .aaload, 0, 0), (60, .iload_n 1, 0, 0), (61, .iaload, 0, 0), (62, .istore 8, 0, 0), (64, .iconst 0, 0, 0), (65, .istore 9, 0, 0), (67, .iload 9, 0, 0), (69, .aload_n 0, 0, 0), (70, .getfield 9, 4, 0), (73, .if_icmp .ge (38), 111, 0), (76, .aload 6, 0, 0), (78, .iload 9, 0, 0), (80, .aload 5, 0, 0), (82, .aload 6, 0, 0), (84, .iload 9, 0, 0), (86, .iaload, 0, 0), (87, .iload 8, 0, 0), (89, .aload_n 0, 0, 0), (90, .getfield 17, 4, 1), (93, .iload_n 2, 0, 0), (94, .iload 7, 0, 0), (96, .iadd, 0, 0), (97, .aaload, 0, 0), (98, .iload 9, 0, 0), (100, .iaload, 0, 0), (101, .invokevirtual 119, 103, 0), (104, .iastore, 0, 0), (105, .iinc 9 (1), 0, 0), (108, .goto (-41), 67, 0), (111, .iinc 7 (1), 0, 0), (114, .goto (-83), 31, 0), (117, .aload_n 0, 0, 0), (118, .getfield 30, 4, 5), (121, .iload 4, 0, 0), (123, .aload_n 0, 0, 0), (124, .getfield 20, 4, 2), (127, .iload_n 2, 0, 0), (128, .iload_n 1, 0, 0), (129, .iadd, 0, 0), (130, .iaload, 0, 0), (131, .iastore, 0, 0), (132, .return_, 0, 0)]
def fCm_takeSolution : sx_F := sx_tab lCm_takeSolution
theorem kCm_takeSolution : sx_chk "ClassCharacters$CentralMaps" (wy yCm_takeSolution prog_2_method_10_code 10 none) 10 prog_2_method_10_code lCm_takeSolution = true := by decide +kernel
theorem gCm_takeSolution_0 : fCm_takeSolution 0 = some (.aload_n 0, 0, 0) := rfl
theorem gCm_takeSolution_1 : fCm_takeSolution 1 = some (.getfield 27, 4, 4) := rfl
theorem gCm_takeSolution_4 : fCm_takeSolution 4 = some (.iload 4, 0, 0) := rfl
theorem gCm_takeSolution_6 : fCm_takeSolution 6 = some (.aaload, 0, 0) := rfl
theorem gCm_takeSolution_7 : fCm_takeSolution 7 = some (.astore 6, 0, 0) := rfl
theorem gCm_takeSolution_9 : fCm_takeSolution 9 = some (.aload_n 0, 0, 0) := rfl
theorem gCm_takeSolution_10 : fCm_takeSolution 10 = some (.getfield 17, 4, 1) := rfl
theorem gCm_takeSolution_13 : fCm_takeSolution 13 = some (.iload_n 2, 0, 0) := rfl
theorem gCm_takeSolution_14 : fCm_takeSolution 14 = some (.iload_n 1, 0, 0) := rfl
theorem gCm_takeSolution_15 : fCm_takeSolution 15 = some (.iadd, 0, 0) := rfl
theorem gCm_takeSolution_16 : fCm_takeSolution 16 = some (.aaload, 0, 0) := rfl
theorem gCm_takeSolution_17 : fCm_takeSolution 17 = some (.iconst 0, 0, 0) := rfl
theorem gCm_takeSolution_18 : fCm_takeSolution 18 = some (.aload 6, 0, 0) := rfl
theorem gCm_takeSolution_20 : fCm_takeSolution 20 = some (.iconst 0, 0, 0) := rfl
theorem gCm_takeSolution_21 : fCm_takeSolution 21 = some (.aload_n 0, 0, 0) := rfl
theorem gCm_takeSolution_22 : fCm_takeSolution 22 = some (.getfield 9, 4, 0) := rfl
theorem gCm_takeSolution_25 : fCm_takeSolution 25 = some (.invokestatic 95, 900, 0) := rfl
theorem gCm_takeSolution_28 : fCm_takeSolution 28 = some (.iconst 0, 0, 0) := rfl
theorem gCm_takeSolution_29 : fCm_takeSolution 29 = some (.istore 7, 0, 0) := rfl
theorem gCm_takeSolution_31 : fCm_takeSolution 31 = some (.iload 7, 0, 0) := rfl
theorem gCm_takeSolution_33 : fCm_takeSolution 33 = some (.iload_n 3, 0, 0) := rfl
theorem gCm_takeSolution_34 : fCm_takeSolution 34 = some (.if_icmp .ge (83), 117, 0) := rfl
theorem gCm_takeSolution_37 : fCm_takeSolution 37 = some (.aload_n 0, 0, 0) := rfl
theorem gCm_takeSolution_38 : fCm_takeSolution 38 = some (.getfield 39, 4, 8) := rfl
theorem gCm_takeSolution_41 : fCm_takeSolution 41 = some (.iload 7, 0, 0) := rfl
theorem gCm_takeSolution_43 : fCm_takeSolution 43 = some (.iaload, 0, 0) := rfl
theorem gCm_takeSolution_44 : fCm_takeSolution 44 = some (.iconst (-1), 0, 0) := rfl
theorem gCm_takeSolution_45 : fCm_takeSolution 45 = some (.if_icmp .eq (66), 111, 0) := rfl
theorem gCm_takeSolution_48 : fCm_takeSolution 48 = some (.aload_n 0, 0, 0) := rfl
theorem gCm_takeSolution_49 : fCm_takeSolution 49 = some (.getfield 36, 4, 7) := rfl
theorem gCm_takeSolution_52 : fCm_takeSolution 52 = some (.aload_n 0, 0, 0) := rfl
theorem gCm_takeSolution_53 : fCm_takeSolution 53 = some (.getfield 39, 4, 8) := rfl
theorem gCm_takeSolution_56 : fCm_takeSolution 56 = some (.iload 7, 0, 0) := rfl
theorem gCm_takeSolution_58 : fCm_takeSolution 58 = some (.iaload, 0, 0) := rfl
theorem gCm_takeSolution_59 : fCm_takeSolution 59 = some (.aaload, 0, 0) := rfl
theorem gCm_takeSolution_60 : fCm_takeSolution 60 = some (.iload_n 1, 0, 0) := rfl
theorem gCm_takeSolution_61 : fCm_takeSolution 61 = some (.iaload, 0, 0) := rfl
theorem gCm_takeSolution_62 : fCm_takeSolution 62 = some (.istore 8, 0, 0) := rfl
theorem gCm_takeSolution_64 : fCm_takeSolution 64 = some (.iconst 0, 0, 0) := rfl
theorem gCm_takeSolution_65 : fCm_takeSolution 65 = some (.istore 9, 0, 0) := rfl
theorem gCm_takeSolution_67 : fCm_takeSolution 67 = some (.iload 9, 0, 0) := rfl
theorem gCm_takeSolution_69 : fCm_takeSolution 69 = some (.aload_n 0, 0, 0) := rfl
theorem gCm_takeSolution_70 : fCm_takeSolution 70 = some (.getfield 9, 4, 0) := rfl
theorem gCm_takeSolution_73 : fCm_takeSolution 73 = some (.if_icmp .ge (38), 111, 0) := rfl
theorem gCm_takeSolution_76 : fCm_takeSolution 76 = some (.aload 6, 0, 0) := rfl
theorem gCm_takeSolution_78 : fCm_takeSolution 78 = some (.iload 9, 0, 0) := rfl
theorem gCm_takeSolution_80 : fCm_takeSolution 80 = some (.aload 5, 0, 0) := rfl
theorem gCm_takeSolution_82 : fCm_takeSolution 82 = some (.aload 6, 0, 0) := rfl
theorem gCm_takeSolution_84 : fCm_takeSolution 84 = some (.iload 9, 0, 0) := rfl
theorem gCm_takeSolution_86 : fCm_takeSolution 86 = some (.iaload, 0, 0) := rfl
theorem gCm_takeSolution_87 : fCm_takeSolution 87 = some (.iload 8, 0, 0) := rfl
theorem gCm_takeSolution_89 : fCm_takeSolution 89 = some (.aload_n 0, 0, 0) := rfl
theorem gCm_takeSolution_90 : fCm_takeSolution 90 = some (.getfield 17, 4, 1) := rfl
theorem gCm_takeSolution_93 : fCm_takeSolution 93 = some (.iload_n 2, 0, 0) := rfl
theorem gCm_takeSolution_94 : fCm_takeSolution 94 = some (.iload 7, 0, 0) := rfl
theorem gCm_takeSolution_96 : fCm_takeSolution 96 = some (.iadd, 0, 0) := rfl
theorem gCm_takeSolution_97 : fCm_takeSolution 97 = some (.aaload, 0, 0) := rfl
theorem gCm_takeSolution_98 : fCm_takeSolution 98 = some (.iload 9, 0, 0) := rfl
theorem gCm_takeSolution_100 : fCm_takeSolution 100 = some (.iaload, 0, 0) := rfl
theorem gCm_takeSolution_101 : fCm_takeSolution 101 = some (.invokevirtual 119, 103, 0) := rfl
theorem gCm_takeSolution_104 : fCm_takeSolution 104 = some (.iastore, 0, 0) := rfl
theorem gCm_takeSolution_105 : fCm_takeSolution 105 = some (.iinc 9 (1), 0, 0) := rfl
theorem gCm_takeSolution_108 : fCm_takeSolution 108 = some (.goto (-41), 67, 0) := rfl
theorem gCm_takeSolution_111 : fCm_takeSolution 111 = some (.iinc 7 (1), 0, 0) := rfl
theorem gCm_takeSolution_114 : fCm_takeSolution 114 = some (.goto (-83), 31, 0) := rfl
theorem gCm_takeSolution_117 : fCm_takeSolution 117 = some (.aload_n 0, 0, 0) := rfl
theorem gCm_takeSolution_118 : fCm_takeSolution 118 = some (.getfield 30, 4, 5) := rfl
theorem gCm_takeSolution_121 : fCm_takeSolution 121 = some (.iload 4, 0, 0) := rfl
theorem gCm_takeSolution_123 : fCm_takeSolution 123 = some (.aload_n 0, 0, 0) := rfl
theorem gCm_takeSolution_124 : fCm_takeSolution 124 = some (.getfield 20, 4, 2) := rfl
theorem gCm_takeSolution_127 : fCm_takeSolution 127 = some (.iload_n 2, 0, 0) := rfl
theorem gCm_takeSolution_128 : fCm_takeSolution 128 = some (.iload_n 1, 0, 0) := rfl
theorem gCm_takeSolution_129 : fCm_takeSolution 129 = some (.iadd, 0, 0) := rfl
theorem gCm_takeSolution_130 : fCm_takeSolution 130 = some (.iaload, 0, 0) := rfl
theorem gCm_takeSolution_131 : fCm_takeSolution 131 = some (.iastore, 0, 0) := rfl
theorem gCm_takeSolution_132 : fCm_takeSolution 132 = some (.return_, 0, 0) := rfl
abbrev lCm_scale : List (Nat × Instr × Nat × Nat) := [(0, .iconst 0, 0, 0), (1, .istore_n 2, 0, 0), (2, .iload_n 2, 0, 0), (3, .aload_n 0, 0, 0), (4, .getfield 9, 4, 0), (7, .if_icmp .ge (63), 70, 0), (10, .aload_n 1, 0, 0), (11, .aload_n 0, 0, 0), (12, .getfield 17, 4, 1), (15, .iload_n 2, 0, 0), (16, .aaload, 0, 0), (17, .iconst 0, 0, 0), (18, .iaload, 0, 0), (19, .invokevirtual 113, 105, 0), (22, .istore_n 3, 0, 0), (23, .iconst 0, 0, 0), (24, .istore 4, 0, 0), (26, .iload 4, 0, 0), (28, .aload_n 0, 0, 0), (29, .getfield 9, 4, 0), (32, .if_icmp .ge (32), 64, 0), (35, .aload_n 0, 0, 0), (36, .getfield 17, 4, 1), (39, .iload_n 2, 0, 0), (40, .aaload, 0, 0), (41, .iload 4, 0, 0), (43, .aload_n 1, 0, 0), (44, .aload_n 0, 0, 0), (45, .getfield 17, 4, 1), (48, .iload_n 2, 0, 0), (49, .aaload, 0, 0), (50, .iload 4, 0, 0), (52, .iaload, 0, 0), (53, .iload_n 3, 0, 0), (54, .invokevirtual 116, 101, 0), (57, .iastore, 0, 0), (58, .iinc 4 (1), 0, 0), (61, .goto (-35), 26, 0), (64, .iinc 2 (1), 0, 0), (67, .goto (-65), 2, 0), (70, .return_, 0, 0)]
def fCm_scale : sx_F := sx_tab lCm_scale
theorem kCm_scale : sx_chk "ClassCharacters$CentralMaps" (wy yCm_scale prog_2_method_11_code 5 none) 5 prog_2_method_11_code lCm_scale = true := by decide +kernel
theorem gCm_scale_0 : fCm_scale 0 = some (.iconst 0, 0, 0) := rfl
theorem gCm_scale_1 : fCm_scale 1 = some (.istore_n 2, 0, 0) := rfl
theorem gCm_scale_2 : fCm_scale 2 = some (.iload_n 2, 0, 0) := rfl
theorem gCm_scale_3 : fCm_scale 3 = some (.aload_n 0, 0, 0) := rfl
theorem gCm_scale_4 : fCm_scale 4 = some (.getfield 9, 4, 0) := rfl
theorem gCm_scale_7 : fCm_scale 7 = some (.if_icmp .ge (63), 70, 0) := rfl
theorem gCm_scale_10 : fCm_scale 10 = some (.aload_n 1, 0, 0) := rfl
theorem gCm_scale_11 : fCm_scale 11 = some (.aload_n 0, 0, 0) := rfl
theorem gCm_scale_12 : fCm_scale 12 = some (.getfield 17, 4, 1) := rfl
theorem gCm_scale_15 : fCm_scale 15 = some (.iload_n 2, 0, 0) := rfl
theorem gCm_scale_16 : fCm_scale 16 = some (.aaload, 0, 0) := rfl
theorem gCm_scale_17 : fCm_scale 17 = some (.iconst 0, 0, 0) := rfl
theorem gCm_scale_18 : fCm_scale 18 = some (.iaload, 0, 0) := rfl
theorem gCm_scale_19 : fCm_scale 19 = some (.invokevirtual 113, 105, 0) := rfl
theorem gCm_scale_22 : fCm_scale 22 = some (.istore_n 3, 0, 0) := rfl
theorem gCm_scale_23 : fCm_scale 23 = some (.iconst 0, 0, 0) := rfl
theorem gCm_scale_24 : fCm_scale 24 = some (.istore 4, 0, 0) := rfl
theorem gCm_scale_26 : fCm_scale 26 = some (.iload 4, 0, 0) := rfl
theorem gCm_scale_28 : fCm_scale 28 = some (.aload_n 0, 0, 0) := rfl
theorem gCm_scale_29 : fCm_scale 29 = some (.getfield 9, 4, 0) := rfl
theorem gCm_scale_32 : fCm_scale 32 = some (.if_icmp .ge (32), 64, 0) := rfl
theorem gCm_scale_35 : fCm_scale 35 = some (.aload_n 0, 0, 0) := rfl
theorem gCm_scale_36 : fCm_scale 36 = some (.getfield 17, 4, 1) := rfl
theorem gCm_scale_39 : fCm_scale 39 = some (.iload_n 2, 0, 0) := rfl
theorem gCm_scale_40 : fCm_scale 40 = some (.aaload, 0, 0) := rfl
theorem gCm_scale_41 : fCm_scale 41 = some (.iload 4, 0, 0) := rfl
theorem gCm_scale_43 : fCm_scale 43 = some (.aload_n 1, 0, 0) := rfl
theorem gCm_scale_44 : fCm_scale 44 = some (.aload_n 0, 0, 0) := rfl
theorem gCm_scale_45 : fCm_scale 45 = some (.getfield 17, 4, 1) := rfl
theorem gCm_scale_48 : fCm_scale 48 = some (.iload_n 2, 0, 0) := rfl
theorem gCm_scale_49 : fCm_scale 49 = some (.aaload, 0, 0) := rfl
theorem gCm_scale_50 : fCm_scale 50 = some (.iload 4, 0, 0) := rfl
theorem gCm_scale_52 : fCm_scale 52 = some (.iaload, 0, 0) := rfl
theorem gCm_scale_53 : fCm_scale 53 = some (.iload_n 3, 0, 0) := rfl
theorem gCm_scale_54 : fCm_scale 54 = some (.invokevirtual 116, 101, 0) := rfl
theorem gCm_scale_57 : fCm_scale 57 = some (.iastore, 0, 0) := rfl
theorem gCm_scale_58 : fCm_scale 58 = some (.iinc 4 (1), 0, 0) := rfl
theorem gCm_scale_61 : fCm_scale 61 = some (.goto (-35), 26, 0) := rfl
theorem gCm_scale_64 : fCm_scale 64 = some (.iinc 2 (1), 0, 0) := rfl
theorem gCm_scale_67 : fCm_scale 67 = some (.goto (-65), 2, 0) := rfl
theorem gCm_scale_70 : fCm_scale 70 = some (.return_, 0, 0) := rfl
