abbrev lMo_inverseOf : List (Nat × Instr × Nat × Nat) := [(0, .aload_n 0, 0, 0), (1, .getfield 22, 6, 8), (4, .iload_n 1, 0, 0), (5, .iaload, 0, 0), (6, .invokestatic 71, 25, 0), (9, .istore_n 2, 0, 0), (10, .aload_n 0, 0, 0), (11, .getfield 16, 6, 5), (14, .aload_n 0, 0, 0), (15, .iload_n 2, 0, 0), (16, .invokevirtual 64, 29, 0), (19, .iaload, 0, 0), (20, .ireturn, 0, 0)]
def fMo_inverseOf : sx_F := sx_tab lMo_inverseOf
theorem kMo_inverseOf : sx_chk "ClassCharactersModel" (wy yMo_inverseOf prog_9_method_26_code 3 (some .int)) 3 prog_9_method_26_code lMo_inverseOf = true := by decide +kernel
theorem gMo_inverseOf_0 : fMo_inverseOf 0 = some (.aload_n 0, 0, 0) := rfl
theorem gMo_inverseOf_1 : fMo_inverseOf 1 = some (.getfield 22, 6, 8) := rfl
theorem gMo_inverseOf_4 : fMo_inverseOf 4 = some (.iload_n 1, 0, 0) := rfl
theorem gMo_inverseOf_5 : fMo_inverseOf 5 = some (.iaload, 0, 0) := rfl
theorem gMo_inverseOf_6 : fMo_inverseOf 6 = some (.invokestatic 71, 25, 0) := rfl
theorem gMo_inverseOf_9 : fMo_inverseOf 9 = some (.istore_n 2, 0, 0) := rfl
theorem gMo_inverseOf_10 : fMo_inverseOf 10 = some (.aload_n 0, 0, 0) := rfl
theorem gMo_inverseOf_11 : fMo_inverseOf 11 = some (.getfield 16, 6, 5) := rfl
theorem gMo_inverseOf_14 : fMo_inverseOf 14 = some (.aload_n 0, 0, 0) := rfl
theorem gMo_inverseOf_15 : fMo_inverseOf 15 = some (.iload_n 2, 0, 0) := rfl
theorem gMo_inverseOf_16 : fMo_inverseOf 16 = some (.invokevirtual 64, 29, 0) := rfl
theorem gMo_inverseOf_19 : fMo_inverseOf 19 = some (.iaload, 0, 0) := rfl
theorem gMo_inverseOf_20 : fMo_inverseOf 20 = some (.ireturn, 0, 0) := rfl
abbrev lMo_makeRow : List (Nat × Instr × Nat × Nat) := [(0, .iconst 0, 0, 0), (1, .istore_n 2, 0, 0), (2, .iconst 0, 0, 0), (3, .istore_n 3, 0, 0), (4, .iload_n 3, 0, 0), (5, .aload_n 0, 0, 0), (6, .getfield 68, 6, 6), (9, .if_icmp .ge (25), 34, 0), (12, .aload_n 0, 0, 0), (13, .getfield 28, 6, 13), (16, .sipush (256), 0, 0), (19, .iload_n 3, 0, 0), (20, .iadd, 0, 0), (21, .aload_n 0, 0, 0), (22, .iload_n 3, 0, 0), (23, .iload_n 1, 0, 0), (24, .invokevirtual 112, 44, 0), (27, .iastore, 0, 0), (28, .iinc 3 (1), 0, 0), (31, .goto (-27), 4, 0), (34, .iconst 0, 0, 0), (35, .istore_n 3, 0, 0), (36, .iload_n 3, 0, 0), (37, .aload_n 0, 0, 0), (38, .getfield 68, 6, 6), (41, .if_icmp .ge (61), 102, 0), (44, .aload_n 0, 0, 0), (45, .getfield 28, 6, 13), (48, .sipush (256), 0, 0), (51, .iload_n 3, 0, 0), (52, .iadd, 0, 0), (53, .iaload, 0, 0), (54, .aload_n 0, 0, 0), (55, .getfield 28, 6, 13), (58, .sipush (256), 0, 0), (61, .aload_n 0, 0, 0), (62, .iload_n 3, 0, 0), (63, .invokevirtual 124, 47, 0), (66, .iadd, 0, 0), (67, .iaload, 0, 0), (68, .imul, 0, 0), (69, .aload_n 0, 0, 0), (70, .getfield 83, 6, 11), (73, .irem, 0, 0), (74, .istore 4, 0, 0), (76, .iload_n 2, 0, 0), (77, .aload_n 0, 0, 0), (78, .iload 4, 0, 0), (80, .aload_n 0, 0, 0), (81, .getfield 19, 6, 7), (84, .iload_n 3, 0, 0), (85, .iaload, 0, 0), (86, .invokevirtual 109, 40, 0), (89, .iadd, 0, 0), (90, .aload_n 0, 0, 0), (91, .getfield 83, 6, 11), (94, .irem, 0, 0), (95, .istore_n 2, 0, 0), (96, .iinc 3 (1), 0, 0), (99, .goto (-63), 36, 0), (102, .iconst 1, 0, 0), (103, .istore_n 3, 0, 0), (104, .iload_n 3, 0, 0), (105, .aload_n 0, 0, 0), (106, .getfield 83, 6, 11), (109, .if_icmp .ge (36), 145, 0), (112, .iload_n 3, 0, 0), (113, .iload_n 3, 0, 0), (114, .imul, 0, 0), (115, .aload_n 0, 0, 0), (116, .getfield 83, 6, 11), (119, .irem, 0, 0), (120, .iload_n 2, 0, 0), (121, .imul, 0, 0), (122, .aload_n 0, 0, 0), (123, .getfield 83, 6, 11), (126, .irem, 0, 0), (127, .aload_n 0, 0, 0), (128, .getfield 57, 6, 3), (131, .aload_n 0, 0, 0), (132, .getfield 83, 6, 11), (135, .irem, 0, 0), (136, .if_icmp .eq (9), 145, 0), (139, .iinc 3 (1), 0, 0), (142, .goto (-38), 104, 0), (145, .aload_n 0, 0, 0), (146, .getfield 31, 6, 15), (149, .iload_n 1, 0, 0), (150, .iload_n 3, 0, 0), (151, .iastore, 0, 0), (152, .iconst 0, 0, 0), (153, .istore 4, 0, 0), (155, .iload 4, 0, 0), (157, .aload_n 0, 0, 0), (158, .getfield 68, 6, 6), (161, .if_icmp .ge (54), 215, 0), (164, .iload_n 3, 0, 0), (165, .aload_n 0, 0, 0), (166, .getfield 28, 6, 13), (169, .sipush (256), 0, 0), (172, .iload 4, 0, 0), (174, .iadd, 0, 0), (175, .iaload, 0, 0), (176, .imul, 0, 0), (177, .aload_n 0, 0, 0), (178, .getfield 83, 6, 11), (181, .irem, 0, 0), (182, .istore 5, 0, 0), (184, .aload_n 0, 0, 0), (185, .getfield 34, 6, 16), (188, .bipush (16), 0, 0), (190, .iload_n 1, 0, 0), (191, .imul, 0, 0), (192, .iload 4, 0, 0), (194, .iadd, 0, 0), (195, .aload_n 0, 0, 0), (196, .iload 5, 0, 0), (198, .aload_n 0, 0, 0), (199, .getfield 19, 6, 7), (202, .iload 4, 0, 0), (204, .iaload, 0, 0), (205, .invokevirtual 109, 40, 0), (208, .iastore, 0, 0), (209, .iinc 4 (1), 0, 0), (212, .goto (-57), 155, 0), (215, .return_, 0, 0)]
def fMo_makeRow : sx_F := sx_tab lMo_makeRow
theorem kMo_makeRow : sx_chk "ClassCharactersModel" (wy yMo_makeRow prog_9_method_27_code 6 none) 6 prog_9_method_27_code lMo_makeRow = true := by decide +kernel
theorem gMo_makeRow_0 : fMo_makeRow 0 = some (.iconst 0, 0, 0) := rfl
theorem gMo_makeRow_1 : fMo_makeRow 1 = some (.istore_n 2, 0, 0) := rfl
theorem gMo_makeRow_2 : fMo_makeRow 2 = some (.iconst 0, 0, 0) := rfl
theorem gMo_makeRow_3 : fMo_makeRow 3 = some (.istore_n 3, 0, 0) := rfl
theorem gMo_makeRow_4 : fMo_makeRow 4 = some (.iload_n 3, 0, 0) := rfl
theorem gMo_makeRow_5 : fMo_makeRow 5 = some (.aload_n 0, 0, 0) := rfl
theorem gMo_makeRow_6 : fMo_makeRow 6 = some (.getfield 68, 6, 6) := rfl
theorem gMo_makeRow_9 : fMo_makeRow 9 = some (.if_icmp .ge (25), 34, 0) := rfl
theorem gMo_makeRow_12 : fMo_makeRow 12 = some (.aload_n 0, 0, 0) := rfl
theorem gMo_makeRow_13 : fMo_makeRow 13 = some (.getfield 28, 6, 13) := rfl
theorem gMo_makeRow_16 : fMo_makeRow 16 = some (.sipush (256), 0, 0) := rfl
theorem gMo_makeRow_19 : fMo_makeRow 19 = some (.iload_n 3, 0, 0) := rfl
theorem gMo_makeRow_20 : fMo_makeRow 20 = some (.iadd, 0, 0) := rfl
theorem gMo_makeRow_21 : fMo_makeRow 21 = some (.aload_n 0, 0, 0) := rfl
theorem gMo_makeRow_22 : fMo_makeRow 22 = some (.iload_n 3, 0, 0) := rfl
theorem gMo_makeRow_23 : fMo_makeRow 23 = some (.iload_n 1, 0, 0) := rfl
theorem gMo_makeRow_24 : fMo_makeRow 24 = some (.invokevirtual 112, 44, 0) := rfl
theorem gMo_makeRow_27 : fMo_makeRow 27 = some (.iastore, 0, 0) := rfl
theorem gMo_makeRow_28 : fMo_makeRow 28 = some (.iinc 3 (1), 0, 0) := rfl
theorem gMo_makeRow_31 : fMo_makeRow 31 = some (.goto (-27), 4, 0) := rfl
theorem gMo_makeRow_34 : fMo_makeRow 34 = some (.iconst 0, 0, 0) := rfl
theorem gMo_makeRow_35 : fMo_makeRow 35 = some (.istore_n 3, 0, 0) := rfl
theorem gMo_makeRow_36 : fMo_makeRow 36 = some (.iload_n 3, 0, 0) := rfl
theorem gMo_makeRow_37 : fMo_makeRow 37 = some (.aload_n 0, 0, 0) := rfl
theorem gMo_makeRow_38 : fMo_makeRow 38 = some (.getfield 68, 6, 6) := rfl
theorem gMo_makeRow_41 : fMo_makeRow 41 = some (.if_icmp .ge (61), 102, 0) := rfl
theorem gMo_makeRow_44 : fMo_makeRow 44 = some (.aload_n 0, 0, 0) := rfl
theorem gMo_makeRow_45 : fMo_makeRow 45 = some (.getfield 28, 6, 13) := rfl
theorem gMo_makeRow_48 : fMo_makeRow 48 = some (.sipush (256), 0, 0) := rfl
theorem gMo_makeRow_51 : fMo_makeRow 51 = some (.iload_n 3, 0, 0) := rfl
theorem gMo_makeRow_52 : fMo_makeRow 52 = some (.iadd, 0, 0) := rfl
theorem gMo_makeRow_53 : fMo_makeRow 53 = some (.iaload, 0, 0) := rfl
theorem gMo_makeRow_54 : fMo_makeRow 54 = some (.aload_n 0, 0, 0) := rfl
theorem gMo_makeRow_55 : fMo_makeRow 55 = some (.getfield 28, 6, 13) := rfl
theorem gMo_makeRow_58 : fMo_makeRow 58 = some (.sipush (256), 0, 0) := rfl
theorem gMo_makeRow_61 : fMo_makeRow 61 = some (.aload_n 0, 0, 0) := rfl
theorem gMo_makeRow_62 : fMo_makeRow 62 = some (.iload_n 3, 0, 0) := rfl
theorem gMo_makeRow_63 : fMo_makeRow 63 = some (.invokevirtual 124, 47, 0) := rfl
theorem gMo_makeRow_66 : fMo_makeRow 66 = some (.iadd, 0, 0) := rfl
theorem gMo_makeRow_67 : fMo_makeRow 67 = some (.iaload, 0, 0) := rfl
theorem gMo_makeRow_68 : fMo_makeRow 68 = some (.imul, 0, 0) := rfl
theorem gMo_makeRow_69 : fMo_makeRow 69 = some (.aload_n 0, 0, 0) := rfl
theorem gMo_makeRow_70 : fMo_makeRow 70 = some (.getfield 83, 6, 11) := rfl
theorem gMo_makeRow_73 : fMo_makeRow 73 = some (.irem, 0, 0) := rfl
theorem gMo_makeRow_74 : fMo_makeRow 74 = some (.istore 4, 0, 0) := rfl
theorem gMo_makeRow_76 : fMo_makeRow 76 = some (.iload_n 2, 0, 0) := rfl
theorem gMo_makeRow_77 : fMo_makeRow 77 = some (.aload_n 0, 0, 0) := rfl
theorem gMo_makeRow_78 : fMo_makeRow 78 = some (.iload 4, 0, 0) := rfl
theorem gMo_makeRow_80 : fMo_makeRow 80 = some (.aload_n 0, 0, 0) := rfl
theorem gMo_makeRow_81 : fMo_makeRow 81 = some (.getfield 19, 6, 7) := rfl
theorem gMo_makeRow_84 : fMo_makeRow 84 = some (.iload_n 3, 0, 0) := rfl
theorem gMo_makeRow_85 : fMo_makeRow 85 = some (.iaload, 0, 0) := rfl
theorem gMo_makeRow_86 : fMo_makeRow 86 = some (.invokevirtual 109, 40, 0) := rfl
theorem gMo_makeRow_89 : fMo_makeRow 89 = some (.iadd, 0, 0) := rfl
theorem gMo_makeRow_90 : fMo_makeRow 90 = some (.aload_n 0, 0, 0) := rfl
theorem gMo_makeRow_91 : fMo_makeRow 91 = some (.getfield 83, 6, 11) := rfl
theorem gMo_makeRow_94 : fMo_makeRow 94 = some (.irem, 0, 0) := rfl
theorem gMo_makeRow_95 : fMo_makeRow 95 = some (.istore_n 2, 0, 0) := rfl
theorem gMo_makeRow_96 : fMo_makeRow 96 = some (.iinc 3 (1), 0, 0) := rfl
theorem gMo_makeRow_99 : fMo_makeRow 99 = some (.goto (-63), 36, 0) := rfl
theorem gMo_makeRow_102 : fMo_makeRow 102 = some (.iconst 1, 0, 0) := rfl
theorem gMo_makeRow_103 : fMo_makeRow 103 = some (.istore_n 3, 0, 0) := rfl
theorem gMo_makeRow_104 : fMo_makeRow 104 = some (.iload_n 3, 0, 0) := rfl
theorem gMo_makeRow_105 : fMo_makeRow 105 = some (.aload_n 0, 0, 0) := rfl
theorem gMo_makeRow_106 : fMo_makeRow 106 = some (.getfield 83, 6, 11) := rfl
theorem gMo_makeRow_109 : fMo_makeRow 109 = some (.if_icmp .ge (36), 145, 0) := rfl
theorem gMo_makeRow_112 : fMo_makeRow 112 = some (.iload_n 3, 0, 0) := rfl
theorem gMo_makeRow_113 : fMo_makeRow 113 = some (.iload_n 3, 0, 0) := rfl
theorem gMo_makeRow_114 : fMo_makeRow 114 = some (.imul, 0, 0) := rfl
theorem gMo_makeRow_115 : fMo_makeRow 115 = some (.aload_n 0, 0, 0) := rfl
theorem gMo_makeRow_116 : fMo_makeRow 116 = some (.getfield 83, 6, 11) := rfl
theorem gMo_makeRow_119 : fMo_makeRow 119 = some (.irem, 0, 0) := rfl
theorem gMo_makeRow_120 : fMo_makeRow 120 = some (.iload_n 2, 0, 0) := rfl
theorem gMo_makeRow_121 : fMo_makeRow 121 = some (.imul, 0, 0) := rfl
theorem gMo_makeRow_122 : fMo_makeRow 122 = some (.aload_n 0, 0, 0) := rfl
theorem gMo_makeRow_123 : fMo_makeRow 123 = some (.getfield 83, 6, 11) := rfl
theorem gMo_makeRow_126 : fMo_makeRow 126 = some (.irem, 0, 0) := rfl
theorem gMo_makeRow_127 : fMo_makeRow 127 = some (.aload_n 0, 0, 0) := rfl
theorem gMo_makeRow_128 : fMo_makeRow 128 = some (.getfield 57, 6, 3) := rfl
theorem gMo_makeRow_131 : fMo_makeRow 131 = some (.aload_n 0, 0, 0) := rfl
theorem gMo_makeRow_132 : fMo_makeRow 132 = some (.getfield 83, 6, 11) := rfl
theorem gMo_makeRow_135 : fMo_makeRow 135 = some (.irem, 0, 0) := rfl
theorem gMo_makeRow_136 : fMo_makeRow 136 = some (.if_icmp .eq (9), 145, 0) := rfl
theorem gMo_makeRow_139 : fMo_makeRow 139 = some (.iinc 3 (1), 0, 0) := rfl
theorem gMo_makeRow_142 : fMo_makeRow 142 = some (.goto (-38), 104, 0) := rfl
theorem gMo_makeRow_145 : fMo_makeRow 145 = some (.aload_n 0, 0, 0) := rfl
theorem gMo_makeRow_146 : fMo_makeRow 146 = some (.getfield 31, 6, 15) := rfl
theorem gMo_makeRow_149 : fMo_makeRow 149 = some (.iload_n 1, 0, 0) := rfl
theorem gMo_makeRow_150 : fMo_makeRow 150 = some (.iload_n 3, 0, 0) := rfl
theorem gMo_makeRow_151 : fMo_makeRow 151 = some (.iastore, 0, 0) := rfl
theorem gMo_makeRow_152 : fMo_makeRow 152 = some (.iconst 0, 0, 0) := rfl
theorem gMo_makeRow_153 : fMo_makeRow 153 = some (.istore 4, 0, 0) := rfl
theorem gMo_makeRow_155 : fMo_makeRow 155 = some (.iload 4, 0, 0) := rfl
theorem gMo_makeRow_157 : fMo_makeRow 157 = some (.aload_n 0, 0, 0) := rfl
theorem gMo_makeRow_158 : fMo_makeRow 158 = some (.getfield 68, 6, 6) := rfl
theorem gMo_makeRow_161 : fMo_makeRow 161 = some (.if_icmp .ge (54), 215, 0) := rfl
theorem gMo_makeRow_164 : fMo_makeRow 164 = some (.iload_n 3, 0, 0) := rfl
theorem gMo_makeRow_165 : fMo_makeRow 165 = some (.aload_n 0, 0, 0) := rfl
theorem gMo_makeRow_166 : fMo_makeRow 166 = some (.getfield 28, 6, 13) := rfl
theorem gMo_makeRow_169 : fMo_makeRow 169 = some (.sipush (256), 0, 0) := rfl
theorem gMo_makeRow_172 : fMo_makeRow 172 = some (.iload 4, 0, 0) := rfl
theorem gMo_makeRow_174 : fMo_makeRow 174 = some (.iadd, 0, 0) := rfl
theorem gMo_makeRow_175 : fMo_makeRow 175 = some (.iaload, 0, 0) := rfl
theorem gMo_makeRow_176 : fMo_makeRow 176 = some (.imul, 0, 0) := rfl
theorem gMo_makeRow_177 : fMo_makeRow 177 = some (.aload_n 0, 0, 0) := rfl
theorem gMo_makeRow_178 : fMo_makeRow 178 = some (.getfield 83, 6, 11) := rfl
theorem gMo_makeRow_181 : fMo_makeRow 181 = some (.irem, 0, 0) := rfl
theorem gMo_makeRow_182 : fMo_makeRow 182 = some (.istore 5, 0, 0) := rfl
theorem gMo_makeRow_184 : fMo_makeRow 184 = some (.aload_n 0, 0, 0) := rfl
theorem gMo_makeRow_185 : fMo_makeRow 185 = some (.getfield 34, 6, 16) := rfl
theorem gMo_makeRow_188 : fMo_makeRow 188 = some (.bipush (16), 0, 0) := rfl
theorem gMo_makeRow_190 : fMo_makeRow 190 = some (.iload_n 1, 0, 0) := rfl
theorem gMo_makeRow_191 : fMo_makeRow 191 = some (.imul, 0, 0) := rfl
theorem gMo_makeRow_192 : fMo_makeRow 192 = some (.iload 4, 0, 0) := rfl
theorem gMo_makeRow_194 : fMo_makeRow 194 = some (.iadd, 0, 0) := rfl
theorem gMo_makeRow_195 : fMo_makeRow 195 = some (.aload_n 0, 0, 0) := rfl
theorem gMo_makeRow_196 : fMo_makeRow 196 = some (.iload 5, 0, 0) := rfl
theorem gMo_makeRow_198 : fMo_makeRow 198 = some (.aload_n 0, 0, 0) := rfl
theorem gMo_makeRow_199 : fMo_makeRow 199 = some (.getfield 19, 6, 7) := rfl
theorem gMo_makeRow_202 : fMo_makeRow 202 = some (.iload 4, 0, 0) := rfl
theorem gMo_makeRow_204 : fMo_makeRow 204 = some (.iaload, 0, 0) := rfl
theorem gMo_makeRow_205 : fMo_makeRow 205 = some (.invokevirtual 109, 40, 0) := rfl
theorem gMo_makeRow_208 : fMo_makeRow 208 = some (.iastore, 0, 0) := rfl
theorem gMo_makeRow_209 : fMo_makeRow 209 = some (.iinc 4 (1), 0, 0) := rfl
theorem gMo_makeRow_212 : fMo_makeRow 212 = some (.goto (-57), 155, 0) := rfl
theorem gMo_makeRow_215 : fMo_makeRow 215 = some (.return_, 0, 0) := rfl
abbrev lMo_comesBefore : List (Nat × Instr × Nat × Nat) := [(0, .aload_n 0, 0, 0), (1, .getfield 31, 6, 15), (4, .iload_n 1, 0, 0), (5, .iaload, 0, 0), (6, .aload_n 0, 0, 0), (7, .getfield 31, 6, 15), (10, .iload_n 2, 0, 0), (11, .iaload, 0, 0), (12, .if_icmp .eq (24), 36, 0), (15, .aload_n 0, 0, 0), (16, .getfield 31, 6, 15), (19, .iload_n 1, 0, 0), (20, .iaload, 0, 0), (21, .aload_n 0, 0, 0), (22, .getfield 31, 6, 15), (25, .iload_n 2, 0, 0), (26, .iaload, 0, 0), (27, .if_icmp .ge (7), 34, 0), (30, .iconst 1, 0, 0), (31, .goto (4), 35, 0), (34, .iconst 0, 0, 0), (35, .ireturn, 0, 0), (36, .iconst 1, 0, 0), (37, .istore_n 3, 0, 0), (38, .iload_n 3, 0, 0), (39, .aload_n 0, 0, 0), (40, .getfield 68, 6, 6), (43, .if_icmp .ge (65), 108, 0), (46, .aload_n 0, 0, 0), (47, .getfield 34, 6, 16), (50, .bipush (16), 0, 0), (52, .iload_n 1, 0, 0), (53, .imul, 0, 0), (54, .iload_n 3, 0, 0), (55, .iadd, 0, 0), (56, .iaload, 0, 0), (57, .aload_n 0, 0, 0), (58, .getfield 34, 6, 16), (61, .bipush (16), 0, 0), (63, .iload_n 2, 0, 0), (64, .imul, 0, 0), (65, .iload_n 3, 0, 0), (66, .iadd, 0, 0), (67, .iaload, 0, 0), (68, .if_icmp .eq (34), 102, 0), (71, .aload_n 0, 0, 0), (72, .getfield 34, 6, 16), (75, .bipush (16), 0, 0), (77, .iload_n 1, 0, 0), (78, .imul, 0, 0), (79, .iload_n 3, 0, 0), (80, .iadd, 0, 0), (81, .iaload, 0, 0), (82, .aload_n 0, 0, 0), (83, .getfield 34, 6, 16), (86, .bipush (16), 0, 0), (88, .iload_n 2, 0, 0), (89, .imul, 0, 0), (90, .iload_n 3, 0, 0), (91, .iadd, 0, 0), (92, .iaload, 0, 0), (93, .if_icmp .ge (7), 100, 0), (96, .iconst 1, 0, 0), (97, .goto (4), 101, 0), (100, .iconst 0, 0, 0), (101, .ireturn, 0, 0), (102, .iinc 3 (1), 0, 0), (105, .goto (-67), 38, 0), (108, .iconst 0, 0, 0), (109, .ireturn, 0, 0)]
def fMo_comesBefore : sx_F := sx_tab lMo_comesBefore
theorem kMo_comesBefore : sx_chk "ClassCharactersModel" (wy yMo_comesBefore prog_9_method_28_code 4 (some .boolean)) 4 prog_9_method_28_code lMo_comesBefore = true := by decide +kernel
theorem gMo_comesBefore_0 : fMo_comesBefore 0 = some (.aload_n 0, 0, 0) := rfl
theorem gMo_comesBefore_1 : fMo_comesBefore 1 = some (.getfield 31, 6, 15) := rfl
theorem gMo_comesBefore_4 : fMo_comesBefore 4 = some (.iload_n 1, 0, 0) := rfl
theorem gMo_comesBefore_5 : fMo_comesBefore 5 = some (.iaload, 0, 0) := rfl
theorem gMo_comesBefore_6 : fMo_comesBefore 6 = some (.aload_n 0, 0, 0) := rfl
theorem gMo_comesBefore_7 : fMo_comesBefore 7 = some (.getfield 31, 6, 15) := rfl
theorem gMo_comesBefore_10 : fMo_comesBefore 10 = some (.iload_n 2, 0, 0) := rfl
theorem gMo_comesBefore_11 : fMo_comesBefore 11 = some (.iaload, 0, 0) := rfl
theorem gMo_comesBefore_12 : fMo_comesBefore 12 = some (.if_icmp .eq (24), 36, 0) := rfl
theorem gMo_comesBefore_15 : fMo_comesBefore 15 = some (.aload_n 0, 0, 0) := rfl
theorem gMo_comesBefore_16 : fMo_comesBefore 16 = some (.getfield 31, 6, 15) := rfl
theorem gMo_comesBefore_19 : fMo_comesBefore 19 = some (.iload_n 1, 0, 0) := rfl
theorem gMo_comesBefore_20 : fMo_comesBefore 20 = some (.iaload, 0, 0) := rfl
theorem gMo_comesBefore_21 : fMo_comesBefore 21 = some (.aload_n 0, 0, 0) := rfl
theorem gMo_comesBefore_22 : fMo_comesBefore 22 = some (.getfield 31, 6, 15) := rfl
theorem gMo_comesBefore_25 : fMo_comesBefore 25 = some (.iload_n 2, 0, 0) := rfl
theorem gMo_comesBefore_26 : fMo_comesBefore 26 = some (.iaload, 0, 0) := rfl
theorem gMo_comesBefore_27 : fMo_comesBefore 27 = some (.if_icmp .ge (7), 34, 0) := rfl
theorem gMo_comesBefore_30 : fMo_comesBefore 30 = some (.iconst 1, 0, 0) := rfl
theorem gMo_comesBefore_31 : fMo_comesBefore 31 = some (.goto (4), 35, 0) := rfl
theorem gMo_comesBefore_34 : fMo_comesBefore 34 = some (.iconst 0, 0, 0) := rfl
theorem gMo_comesBefore_35 : fMo_comesBefore 35 = some (.ireturn, 0, 0) := rfl
theorem gMo_comesBefore_36 : fMo_comesBefore 36 = some (.iconst 1, 0, 0) := rfl
theorem gMo_comesBefore_37 : fMo_comesBefore 37 = some (.istore_n 3, 0, 0) := rfl
theorem gMo_comesBefore_38 : fMo_comesBefore 38 = some (.iload_n 3, 0, 0) := rfl
theorem gMo_comesBefore_39 : fMo_comesBefore 39 = some (.aload_n 0, 0, 0) := rfl
theorem gMo_comesBefore_40 : fMo_comesBefore 40 = some (.getfield 68, 6, 6) := rfl
theorem gMo_comesBefore_43 : fMo_comesBefore 43 = some (.if_icmp .ge (65), 108, 0) := rfl
theorem gMo_comesBefore_46 : fMo_comesBefore 46 = some (.aload_n 0, 0, 0) := rfl
theorem gMo_comesBefore_47 : fMo_comesBefore 47 = some (.getfield 34, 6, 16) := rfl
theorem gMo_comesBefore_50 : fMo_comesBefore 50 = some (.bipush (16), 0, 0) := rfl
theorem gMo_comesBefore_52 : fMo_comesBefore 52 = some (.iload_n 1, 0, 0) := rfl
theorem gMo_comesBefore_53 : fMo_comesBefore 53 = some (.imul, 0, 0) := rfl
theorem gMo_comesBefore_54 : fMo_comesBefore 54 = some (.iload_n 3, 0, 0) := rfl
theorem gMo_comesBefore_55 : fMo_comesBefore 55 = some (.iadd, 0, 0) := rfl
theorem gMo_comesBefore_56 : fMo_comesBefore 56 = some (.iaload, 0, 0) := rfl
theorem gMo_comesBefore_57 : fMo_comesBefore 57 = some (.aload_n 0, 0, 0) := rfl
theorem gMo_comesBefore_58 : fMo_comesBefore 58 = some (.getfield 34, 6, 16) := rfl
theorem gMo_comesBefore_61 : fMo_comesBefore 61 = some (.bipush (16), 0, 0) := rfl
theorem gMo_comesBefore_63 : fMo_comesBefore 63 = some (.iload_n 2, 0, 0) := rfl
theorem gMo_comesBefore_64 : fMo_comesBefore 64 = some (.imul, 0, 0) := rfl
theorem gMo_comesBefore_65 : fMo_comesBefore 65 = some (.iload_n 3, 0, 0) := rfl
theorem gMo_comesBefore_66 : fMo_comesBefore 66 = some (.iadd, 0, 0) := rfl
theorem gMo_comesBefore_67 : fMo_comesBefore 67 = some (.iaload, 0, 0) := rfl
theorem gMo_comesBefore_68 : fMo_comesBefore 68 = some (.if_icmp .eq (34), 102, 0) := rfl
theorem gMo_comesBefore_71 : fMo_comesBefore 71 = some (.aload_n 0, 0, 0) := rfl
theorem gMo_comesBefore_72 : fMo_comesBefore 72 = some (.getfield 34, 6, 16) := rfl
theorem gMo_comesBefore_75 : fMo_comesBefore 75 = some (.bipush (16), 0, 0) := rfl
theorem gMo_comesBefore_77 : fMo_comesBefore 77 = some (.iload_n 1, 0, 0) := rfl
theorem gMo_comesBefore_78 : fMo_comesBefore 78 = some (.imul, 0, 0) := rfl
theorem gMo_comesBefore_79 : fMo_comesBefore 79 = some (.iload_n 3, 0, 0) := rfl
theorem gMo_comesBefore_80 : fMo_comesBefore 80 = some (.iadd, 0, 0) := rfl
theorem gMo_comesBefore_81 : fMo_comesBefore 81 = some (.iaload, 0, 0) := rfl
theorem gMo_comesBefore_82 : fMo_comesBefore 82 = some (.aload_n 0, 0, 0) := rfl
theorem gMo_comesBefore_83 : fMo_comesBefore 83 = some (.getfield 34, 6, 16) := rfl
theorem gMo_comesBefore_86 : fMo_comesBefore 86 = some (.bipush (16), 0, 0) := rfl
theorem gMo_comesBefore_88 : fMo_comesBefore 88 = some (.iload_n 2, 0, 0) := rfl
theorem gMo_comesBefore_89 : fMo_comesBefore 89 = some (.imul, 0, 0) := rfl
theorem gMo_comesBefore_90 : fMo_comesBefore 90 = some (.iload_n 3, 0, 0) := rfl
theorem gMo_comesBefore_91 : fMo_comesBefore 91 = some (.iadd, 0, 0) := rfl
theorem gMo_comesBefore_92 : fMo_comesBefore 92 = some (.iaload, 0, 0) := rfl
theorem gMo_comesBefore_93 : fMo_comesBefore 93 = some (.if_icmp .ge (7), 100, 0) := rfl
theorem gMo_comesBefore_96 : fMo_comesBefore 96 = some (.iconst 1, 0, 0) := rfl
theorem gMo_comesBefore_97 : fMo_comesBefore 97 = some (.goto (4), 101, 0) := rfl
theorem gMo_comesBefore_100 : fMo_comesBefore 100 = some (.iconst 0, 0, 0) := rfl
theorem gMo_comesBefore_101 : fMo_comesBefore 101 = some (.ireturn, 0, 0) := rfl
theorem gMo_comesBefore_102 : fMo_comesBefore 102 = some (.iinc 3 (1), 0, 0) := rfl
theorem gMo_comesBefore_105 : fMo_comesBefore 105 = some (.goto (-67), 38, 0) := rfl
theorem gMo_comesBefore_108 : fMo_comesBefore 108 = some (.iconst 0, 0, 0) := rfl
theorem gMo_comesBefore_109 : fMo_comesBefore 109 = some (.ireturn, 0, 0) := rfl
abbrev lMo_exchange : List (Nat × Instr × Nat × Nat) := [(0, .aload_n 0, 0, 0), (1, .getfield 31, 6, 15), (4, .iload_n 1, 0, 0), (5, .iaload, 0, 0), (6, .istore_n 3, 0, 0), (7, .aload_n 0, 0, 0), (8, .getfield 31, 6, 15), (11, .iload_n 1, 0, 0), (12, .aload_n 0, 0, 0), (13, .getfield 31, 6, 15), (16, .iload_n 2, 0, 0), (17, .iaload, 0, 0), (18, .iastore, 0, 0), (19, .aload_n 0, 0, 0), (20, .getfield 31, 6, 15), (23, .iload_n 2, 0, 0), (24, .iload_n 3, 0, 0), (25, .iastore, 0, 0), (26, .iconst 0, 0, 0), (27, .istore 4, 0, 0), (29, .iload 4, 0, 0), (31, .bipush (16), 0, 0), (33, .if_icmp .ge (61), 94, 0), (36, .aload_n 0, 0, 0), (37, .getfield 34, 6, 16), (40, .bipush (16), 0, 0), (42, .iload_n 1, 0, 0), (43, .imul, 0, 0), (44, .iload 4, 0, 0), (46, .iadd, 0, 0), (47, .iaload, 0, 0), (48, .istore 5, 0, 0), (50, .aload_n 0, 0, 0), (51, .getfield 34, 6, 16), (54, .bipush (16), 0, 0), (56, .iload_n 1, 0, 0), (57, .imul, 0, 0), (58, .iload 4, 0, 0), (60, .iadd, 0, 0), (61, .aload_n 0, 0, 0), (62, .getfield 34, 6, 16), (65, .bipush (16), 0, 0), (67, .iload_n 2, 0, 0), (68, .imul, 0, 0), (69, .iload 4, 0, 0), (71, .iadd, 0, 0), (72, .iaload, 0, 0), (73, .iastore, 0, 0), (74, .aload_n 0, 0, 0), (75, .getfield 34, 6, 16), (78, .bipush (16), 0, 0), (80, .iload_n 2, 0, 0), (81, .imul, 0, 0), (82, .iload 4, 0, 0), (84, .iadd, 0, 0), (85, .iload 5, 0, 0), (87, .iastore, 0, 0), (88, .iinc 4 (1), 0, 0), (91, .goto (-62), 29, 0), (94, .return_, 0, 0)]
def fMo_exchange : sx_F := sx_tab lMo_exchange
theorem kMo_exchange : sx_chk "ClassCharactersModel" (wy yMo_exchange prog_9_method_29_code 6 none) 6 prog_9_method_29_code lMo_exchange = true := by decide +kernel
theorem gMo_exchange_0 : fMo_exchange 0 = some (.aload_n 0, 0, 0) := rfl
theorem gMo_exchange_1 : fMo_exchange 1 = some (.getfield 31, 6, 15) := rfl
theorem gMo_exchange_4 : fMo_exchange 4 = some (.iload_n 1, 0, 0) := rfl
theorem gMo_exchange_5 : fMo_exchange 5 = some (.iaload, 0, 0) := rfl
theorem gMo_exchange_6 : fMo_exchange 6 = some (.istore_n 3, 0, 0) := rfl
theorem gMo_exchange_7 : fMo_exchange 7 = some (.aload_n 0, 0, 0) := rfl
theorem gMo_exchange_8 : fMo_exchange 8 = some (.getfield 31, 6, 15) := rfl
theorem gMo_exchange_11 : fMo_exchange 11 = some (.iload_n 1, 0, 0) := rfl
theorem gMo_exchange_12 : fMo_exchange 12 = some (.aload_n 0, 0, 0) := rfl
theorem gMo_exchange_13 : fMo_exchange 13 = some (.getfield 31, 6, 15) := rfl
theorem gMo_exchange_16 : fMo_exchange 16 = some (.iload_n 2, 0, 0) := rfl
theorem gMo_exchange_17 : fMo_exchange 17 = some (.iaload, 0, 0) := rfl
theorem gMo_exchange_18 : fMo_exchange 18 = some (.iastore, 0, 0) := rfl
theorem gMo_exchange_19 : fMo_exchange 19 = some (.aload_n 0, 0, 0) := rfl
theorem gMo_exchange_20 : fMo_exchange 20 = some (.getfield 31, 6, 15) := rfl
theorem gMo_exchange_23 : fMo_exchange 23 = some (.iload_n 2, 0, 0) := rfl
theorem gMo_exchange_24 : fMo_exchange 24 = some (.iload_n 3, 0, 0) := rfl
theorem gMo_exchange_25 : fMo_exchange 25 = some (.iastore, 0, 0) := rfl
theorem gMo_exchange_26 : fMo_exchange 26 = some (.iconst 0, 0, 0) := rfl
theorem gMo_exchange_27 : fMo_exchange 27 = some (.istore 4, 0, 0) := rfl
theorem gMo_exchange_29 : fMo_exchange 29 = some (.iload 4, 0, 0) := rfl
theorem gMo_exchange_31 : fMo_exchange 31 = some (.bipush (16), 0, 0) := rfl
theorem gMo_exchange_33 : fMo_exchange 33 = some (.if_icmp .ge (61), 94, 0) := rfl
theorem gMo_exchange_36 : fMo_exchange 36 = some (.aload_n 0, 0, 0) := rfl
theorem gMo_exchange_37 : fMo_exchange 37 = some (.getfield 34, 6, 16) := rfl
theorem gMo_exchange_40 : fMo_exchange 40 = some (.bipush (16), 0, 0) := rfl
theorem gMo_exchange_42 : fMo_exchange 42 = some (.iload_n 1, 0, 0) := rfl
theorem gMo_exchange_43 : fMo_exchange 43 = some (.imul, 0, 0) := rfl
theorem gMo_exchange_44 : fMo_exchange 44 = some (.iload 4, 0, 0) := rfl
theorem gMo_exchange_46 : fMo_exchange 46 = some (.iadd, 0, 0) := rfl
theorem gMo_exchange_47 : fMo_exchange 47 = some (.iaload, 0, 0) := rfl
theorem gMo_exchange_48 : fMo_exchange 48 = some (.istore 5, 0, 0) := rfl
theorem gMo_exchange_50 : fMo_exchange 50 = some (.aload_n 0, 0, 0) := rfl
theorem gMo_exchange_51 : fMo_exchange 51 = some (.getfield 34, 6, 16) := rfl
theorem gMo_exchange_54 : fMo_exchange 54 = some (.bipush (16), 0, 0) := rfl
theorem gMo_exchange_56 : fMo_exchange 56 = some (.iload_n 1, 0, 0) := rfl
theorem gMo_exchange_57 : fMo_exchange 57 = some (.imul, 0, 0) := rfl
theorem gMo_exchange_58 : fMo_exchange 58 = some (.iload 4, 0, 0) := rfl
theorem gMo_exchange_60 : fMo_exchange 60 = some (.iadd, 0, 0) := rfl
theorem gMo_exchange_61 : fMo_exchange 61 = some (.aload_n 0, 0, 0) := rfl
theorem gMo_exchange_62 : fMo_exchange 62 = some (.getfield 34, 6, 16) := rfl
theorem gMo_exchange_65 : fMo_exchange 65 = some (.bipush (16), 0, 0) := rfl
theorem gMo_exchange_67 : fMo_exchange 67 = some (.iload_n 2, 0, 0) := rfl
theorem gMo_exchange_68 : fMo_exchange 68 = some (.imul, 0, 0) := rfl
theorem gMo_exchange_69 : fMo_exchange 69 = some (.iload 4, 0, 0) := rfl
theorem gMo_exchange_71 : fMo_exchange 71 = some (.iadd, 0, 0) := rfl
theorem gMo_exchange_72 : fMo_exchange 72 = some (.iaload, 0, 0) := rfl
theorem gMo_exchange_73 : fMo_exchange 73 = some (.iastore, 0, 0) := rfl
theorem gMo_exchange_74 : fMo_exchange 74 = some (.aload_n 0, 0, 0) := rfl
theorem gMo_exchange_75 : fMo_exchange 75 = some (.getfield 34, 6, 16) := rfl
theorem gMo_exchange_78 : fMo_exchange 78 = some (.bipush (16), 0, 0) := rfl
theorem gMo_exchange_80 : fMo_exchange 80 = some (.iload_n 2, 0, 0) := rfl
theorem gMo_exchange_81 : fMo_exchange 81 = some (.imul, 0, 0) := rfl
theorem gMo_exchange_82 : fMo_exchange 82 = some (.iload 4, 0, 0) := rfl
theorem gMo_exchange_84 : fMo_exchange 84 = some (.iadd, 0, 0) := rfl
theorem gMo_exchange_85 : fMo_exchange 85 = some (.iload 5, 0, 0) := rfl
theorem gMo_exchange_87 : fMo_exchange 87 = some (.iastore, 0, 0) := rfl
theorem gMo_exchange_88 : fMo_exchange 88 = some (.iinc 4 (1), 0, 0) := rfl
theorem gMo_exchange_91 : fMo_exchange 91 = some (.goto (-62), 29, 0) := rfl
theorem gMo_exchange_94 : fMo_exchange 94 = some (.return_, 0, 0) := rfl
abbrev lMo_build : List (Nat × Instr × Nat × Nat) := [(0, .aload_n 0, 0, 0), (1, .iconst 0, 0, 0), (2, .putfield 53, 106, 2), (5, .aload_n 0, 0, 0), (6, .invokevirtual 127, 30, 0), (9, .ifCond .ne (5), 14, 0), (12, .iconst 1, 0, 0), (13, .ireturn, 0, 0), (14, .aload_n 0, 0, 0), (15, .invokevirtual 131, 31, 0), (18, .ifCond .ne (5), 23, 0), (21, .iconst 2, 0, 0), (22, .ireturn, 0, 0), (23, .aload_n 0, 0, 0), (24, .invokevirtual 134, 32, 0), (27, .aload_n 0, 0, 0), (28, .invokevirtual 137, 36, 0), (31, .aload_n 0, 0, 0), (32, .invokevirtual 140, 46, 0), (35, .iconst 0, 0, 0), (36, .istore_n 1, 0, 0), (37, .iload_n 1, 0, 0), (38, .aload_n 0, 0, 0), (39, .getfield 68, 6, 6), (42, .if_icmp .ge (14), 56, 0), (45, .aload_n 0, 0, 0), (46, .iload_n 1, 0, 0), (47, .invokevirtual 143, 48, 0), (50, .iinc 1 (1), 0, 0), (53, .goto (-16), 37, 0), (56, .iconst 0, 0, 0), (57, .istore_n 1, 0, 0), (58, .iload_n 1, 0, 0), (59, .aload_n 0, 0, 0), (60, .getfield 68, 6, 6), (63, .if_icmp .ge (42), 105, 0), (66, .iload_n 1, 0, 0), (67, .iconst 1, 0, 0), (68, .iadd, 0, 0), (69, .istore_n 2, 0, 0), (70, .iload_n 2, 0, 0), (71, .aload_n 0, 0, 0), (72, .getfield 68, 6, 6), (75, .if_icmp .ge (24), 99, 0), (78, .aload_n 0, 0, 0), (79, .iload_n 2, 0, 0), (80, .iload_n 1, 0, 0), (81, .invokevirtual 147, 49, 0), (84, .ifCond .eq (9), 93, 0), (87, .aload_n 0, 0, 0), (88, .iload_n 1, 0, 0), (89, .iload_n 2, 0, 0), (90, .invokevirtual 151, 50, 0), (93, .iinc 2 (1), 0, 0), (96, .goto (-26), 70, 0), (99, .iinc 1 (1), 0, 0), (102, .goto (-44), 58, 0), (105, .aload_n 0, 0, 0), (106, .iconst 1, 0, 0), (107, .putfield 53, 106, 2), (110, .iconst 0, 0, 0), (111, .ireturn, 0, 0)]
def fMo_build : sx_F := sx_tab lMo_build
theorem kMo_build : sx_chk "ClassCharactersModel" (wy yMo_build prog_9_method_30_code 3 (some .int)) 3 prog_9_method_30_code lMo_build = true := by decide +kernel
theorem gMo_build_0 : fMo_build 0 = some (.aload_n 0, 0, 0) := rfl
theorem gMo_build_1 : fMo_build 1 = some (.iconst 0, 0, 0) := rfl
theorem gMo_build_2 : fMo_build 2 = some (.putfield 53, 106, 2) := rfl
theorem gMo_build_5 : fMo_build 5 = some (.aload_n 0, 0, 0) := rfl
theorem gMo_build_6 : fMo_build 6 = some (.invokevirtual 127, 30, 0) := rfl
theorem gMo_build_9 : fMo_build 9 = some (.ifCond .ne (5), 14, 0) := rfl
theorem gMo_build_12 : fMo_build 12 = some (.iconst 1, 0, 0) := rfl
theorem gMo_build_13 : fMo_build 13 = some (.ireturn, 0, 0) := rfl
theorem gMo_build_14 : fMo_build 14 = some (.aload_n 0, 0, 0) := rfl
theorem gMo_build_15 : fMo_build 15 = some (.invokevirtual 131, 31, 0) := rfl
theorem gMo_build_18 : fMo_build 18 = some (.ifCond .ne (5), 23, 0) := rfl
theorem gMo_build_21 : fMo_build 21 = some (.iconst 2, 0, 0) := rfl
theorem gMo_build_22 : fMo_build 22 = some (.ireturn, 0, 0) := rfl
theorem gMo_build_23 : fMo_build 23 = some (.aload_n 0, 0, 0) := rfl
theorem gMo_build_24 : fMo_build 24 = some (.invokevirtual 134, 32, 0) := rfl
theorem gMo_build_27 : fMo_build 27 = some (.aload_n 0, 0, 0) := rfl
theorem gMo_build_28 : fMo_build 28 = some (.invokevirtual 137, 36, 0) := rfl
theorem gMo_build_31 : fMo_build 31 = some (.aload_n 0, 0, 0) := rfl
theorem gMo_build_32 : fMo_build 32 = some (.invokevirtual 140, 46, 0) := rfl
theorem gMo_build_35 : fMo_build 35 = some (.iconst 0, 0, 0) := rfl
theorem gMo_build_36 : fMo_build 36 = some (.istore_n 1, 0, 0) := rfl
theorem gMo_build_37 : fMo_build 37 = some (.iload_n 1, 0, 0) := rfl
theorem gMo_build_38 : fMo_build 38 = some (.aload_n 0, 0, 0) := rfl
theorem gMo_build_39 : fMo_build 39 = some (.getfield 68, 6, 6) := rfl
theorem gMo_build_42 : fMo_build 42 = some (.if_icmp .ge (14), 56, 0) := rfl
theorem gMo_build_45 : fMo_build 45 = some (.aload_n 0, 0, 0) := rfl
theorem gMo_build_46 : fMo_build 46 = some (.iload_n 1, 0, 0) := rfl
theorem gMo_build_47 : fMo_build 47 = some (.invokevirtual 143, 48, 0) := rfl
theorem gMo_build_50 : fMo_build 50 = some (.iinc 1 (1), 0, 0) := rfl
theorem gMo_build_53 : fMo_build 53 = some (.goto (-16), 37, 0) := rfl
theorem gMo_build_56 : fMo_build 56 = some (.iconst 0, 0, 0) := rfl
theorem gMo_build_57 : fMo_build 57 = some (.istore_n 1, 0, 0) := rfl
theorem gMo_build_58 : fMo_build 58 = some (.iload_n 1, 0, 0) := rfl
theorem gMo_build_59 : fMo_build 59 = some (.aload_n 0, 0, 0) := rfl
theorem gMo_build_60 : fMo_build 60 = some (.getfield 68, 6, 6) := rfl
theorem gMo_build_63 : fMo_build 63 = some (.if_icmp .ge (42), 105, 0) := rfl
theorem gMo_build_66 : fMo_build 66 = some (.iload_n 1, 0, 0) := rfl
theorem gMo_build_67 : fMo_build 67 = some (.iconst 1, 0, 0) := rfl
theorem gMo_build_68 : fMo_build 68 = some (.iadd, 0, 0) := rfl
theorem gMo_build_69 : fMo_build 69 = some (.istore_n 2, 0, 0) := rfl
theorem gMo_build_70 : fMo_build 70 = some (.iload_n 2, 0, 0) := rfl
theorem gMo_build_71 : fMo_build 71 = some (.aload_n 0, 0, 0) := rfl
theorem gMo_build_72 : fMo_build 72 = some (.getfield 68, 6, 6) := rfl
theorem gMo_build_75 : fMo_build 75 = some (.if_icmp .ge (24), 99, 0) := rfl
theorem gMo_build_78 : fMo_build 78 = some (.aload_n 0, 0, 0) := rfl
theorem gMo_build_79 : fMo_build 79 = some (.iload_n 2, 0, 0) := rfl
theorem gMo_build_80 : fMo_build 80 = some (.iload_n 1, 0, 0) := rfl
theorem gMo_build_81 : fMo_build 81 = some (.invokevirtual 147, 49, 0) := rfl
theorem gMo_build_84 : fMo_build 84 = some (.ifCond .eq (9), 93, 0) := rfl
theorem gMo_build_87 : fMo_build 87 = some (.aload_n 0, 0, 0) := rfl
theorem gMo_build_88 : fMo_build 88 = some (.iload_n 1, 0, 0) := rfl
theorem gMo_build_89 : fMo_build 89 = some (.iload_n 2, 0, 0) := rfl
theorem gMo_build_90 : fMo_build 90 = some (.invokevirtual 151, 50, 0) := rfl
theorem gMo_build_93 : fMo_build 93 = some (.iinc 2 (1), 0, 0) := rfl
theorem gMo_build_96 : fMo_build 96 = some (.goto (-26), 70, 0) := rfl
theorem gMo_build_99 : fMo_build 99 = some (.iinc 1 (1), 0, 0) := rfl
theorem gMo_build_102 : fMo_build 102 = some (.goto (-44), 58, 0) := rfl
theorem gMo_build_105 : fMo_build 105 = some (.aload_n 0, 0, 0) := rfl
theorem gMo_build_106 : fMo_build 106 = some (.iconst 1, 0, 0) := rfl
theorem gMo_build_107 : fMo_build 107 = some (.putfield 53, 106, 2) := rfl
theorem gMo_build_110 : fMo_build 110 = some (.iconst 0, 0, 0) := rfl
theorem gMo_build_111 : fMo_build 111 = some (.ireturn, 0, 0) := rfl
abbrev lMo_isClass : List (Nat × Instr × Nat × Nat) := [(0, .aload_n 0, 0, 0), (1, .getfield 53, 6, 2), (4, .ifCond .eq (19), 23, 0), (7, .iload_n 1, 0, 0), (8, .ifCond .lt (15), 23, 0), (11, .iload_n 1, 0, 0), (12, .aload_n 0, 0, 0), (13, .getfield 68, 6, 6), (16, .if_icmp .ge (7), 23, 0), (19, .iconst 1, 0, 0), (20, .goto (4), 24, 0), (23, .iconst 0, 0, 0), (24, .ireturn, 0, 0)]
def fMo_isClass : sx_F := sx_tab lMo_isClass
theorem kMo_isClass : sx_chk "ClassCharactersModel" (wy yMo_isClass prog_9_method_31_code 2 (some .boolean)) 2 prog_9_method_31_code lMo_isClass = true := by decide +kernel
theorem gMo_isClass_0 : fMo_isClass 0 = some (.aload_n 0, 0, 0) := rfl
theorem gMo_isClass_1 : fMo_isClass 1 = some (.getfield 53, 6, 2) := rfl
theorem gMo_isClass_4 : fMo_isClass 4 = some (.ifCond .eq (19), 23, 0) := rfl
theorem gMo_isClass_7 : fMo_isClass 7 = some (.iload_n 1, 0, 0) := rfl
theorem gMo_isClass_8 : fMo_isClass 8 = some (.ifCond .lt (15), 23, 0) := rfl
theorem gMo_isClass_11 : fMo_isClass 11 = some (.iload_n 1, 0, 0) := rfl
theorem gMo_isClass_12 : fMo_isClass 12 = some (.aload_n 0, 0, 0) := rfl
theorem gMo_isClass_13 : fMo_isClass 13 = some (.getfield 68, 6, 6) := rfl
theorem gMo_isClass_16 : fMo_isClass 16 = some (.if_icmp .ge (7), 23, 0) := rfl
theorem gMo_isClass_19 : fMo_isClass 19 = some (.iconst 1, 0, 0) := rfl
theorem gMo_isClass_20 : fMo_isClass 20 = some (.goto (4), 24, 0) := rfl
theorem gMo_isClass_23 : fMo_isClass 23 = some (.iconst 0, 0, 0) := rfl
theorem gMo_isClass_24 : fMo_isClass 24 = some (.ireturn, 0, 0) := rfl
abbrev lMo_order : List (Nat × Instr × Nat × Nat) := [(0, .aload_n 0, 0, 0), (1, .getfield 53, 6, 2), (4, .ifCond .eq (10), 14, 0), (7, .aload_n 0, 0, 0), (8, .getfield 57, 6, 3), (11, .goto (4), 15, 0), (14, .iconst 0, 0, 0), (15, .ireturn, 0, 0)]
def fMo_order : sx_F := sx_tab lMo_order
theorem kMo_order : sx_chk "ClassCharactersModel" (wy yMo_order prog_9_method_32_code 1 (some .int)) 1 prog_9_method_32_code lMo_order = true := by decide +kernel
theorem gMo_order_0 : fMo_order 0 = some (.aload_n 0, 0, 0) := rfl
theorem gMo_order_1 : fMo_order 1 = some (.getfield 53, 6, 2) := rfl
theorem gMo_order_4 : fMo_order 4 = some (.ifCond .eq (10), 14, 0) := rfl
theorem gMo_order_7 : fMo_order 7 = some (.aload_n 0, 0, 0) := rfl
theorem gMo_order_8 : fMo_order 8 = some (.getfield 57, 6, 3) := rfl
theorem gMo_order_11 : fMo_order 11 = some (.goto (4), 15, 0) := rfl
theorem gMo_order_14 : fMo_order 14 = some (.iconst 0, 0, 0) := rfl
theorem gMo_order_15 : fMo_order 15 = some (.ireturn, 0, 0) := rfl
abbrev lMo_element : List (Nat × Instr × Nat × Nat) := [(0, .aload_n 0, 0, 0), (1, .getfield 53, 6, 2), (4, .ifCond .eq (24), 28, 0), (7, .iload_n 1, 0, 0), (8, .ifCond .lt (20), 28, 0), (11, .iload_n 1, 0, 0), (12, .aload_n 0, 0, 0), (13, .getfield 57, 6, 3), (16, .if_icmp .ge (12), 28, 0), (19, .aload_n 0, 0, 0), (20, .getfield 13, 6, 4), (23, .iload_n 1, 0, 0), (24, .iaload, 0, 0), (25, .goto (4), 29, 0), (28, .iconst (-1), 0, 0), (29, .ireturn, 0, 0)]
def fMo_element : sx_F := sx_tab lMo_element
theorem kMo_element : sx_chk "ClassCharactersModel" (wy yMo_element prog_9_method_33_code 2 (some .int)) 2 prog_9_method_33_code lMo_element = true := by decide +kernel
theorem gMo_element_0 : fMo_element 0 = some (.aload_n 0, 0, 0) := rfl
theorem gMo_element_1 : fMo_element 1 = some (.getfield 53, 6, 2) := rfl
theorem gMo_element_4 : fMo_element 4 = some (.ifCond .eq (24), 28, 0) := rfl
theorem gMo_element_7 : fMo_element 7 = some (.iload_n 1, 0, 0) := rfl
theorem gMo_element_8 : fMo_element 8 = some (.ifCond .lt (20), 28, 0) := rfl
theorem gMo_element_11 : fMo_element 11 = some (.iload_n 1, 0, 0) := rfl
theorem gMo_element_12 : fMo_element 12 = some (.aload_n 0, 0, 0) := rfl
theorem gMo_element_13 : fMo_element 13 = some (.getfield 57, 6, 3) := rfl
theorem gMo_element_16 : fMo_element 16 = some (.if_icmp .ge (12), 28, 0) := rfl
theorem gMo_element_19 : fMo_element 19 = some (.aload_n 0, 0, 0) := rfl
theorem gMo_element_20 : fMo_element 20 = some (.getfield 13, 6, 4) := rfl
theorem gMo_element_23 : fMo_element 23 = some (.iload_n 1, 0, 0) := rfl
theorem gMo_element_24 : fMo_element 24 = some (.iaload, 0, 0) := rfl
theorem gMo_element_25 : fMo_element 25 = some (.goto (4), 29, 0) := rfl
theorem gMo_element_28 : fMo_element 28 = some (.iconst (-1), 0, 0) := rfl
theorem gMo_element_29 : fMo_element 29 = some (.ireturn, 0, 0) := rfl
abbrev lMo_classOf : List (Nat × Instr × Nat × Nat) := [(0, .aload_n 0, 0, 0), (1, .getfield 53, 6, 2), (4, .ifCond .eq (11), 15, 0), (7, .aload_n 0, 0, 0), (8, .iload_n 1, 0, 0), (9, .invokevirtual 64, 29, 0), (12, .goto (4), 16, 0), (15, .iconst (-1), 0, 0), (16, .istore_n 2, 0, 0), (17, .iload_n 2, 0, 0), (18, .iconst (-1), 0, 0), (19, .if_icmp .ne (7), 26, 0), (22, .iconst (-1), 0, 0), (23, .goto (9), 32, 0), (26, .aload_n 0, 0, 0), (27, .getfield 16, 6, 5), (30, .iload_n 2, 0, 0), (31, .iaload, 0, 0), (32, .ireturn, 0, 0)]
def fMo_classOf : sx_F := sx_tab lMo_classOf
theorem kMo_classOf : sx_chk "ClassCharactersModel" (wy yMo_classOf prog_9_method_34_code 3 (some .int)) 3 prog_9_method_34_code lMo_classOf = true := by decide +kernel
theorem gMo_classOf_0 : fMo_classOf 0 = some (.aload_n 0, 0, 0) := rfl
theorem gMo_classOf_1 : fMo_classOf 1 = some (.getfield 53, 6, 2) := rfl
theorem gMo_classOf_4 : fMo_classOf 4 = some (.ifCond .eq (11), 15, 0) := rfl
theorem gMo_classOf_7 : fMo_classOf 7 = some (.aload_n 0, 0, 0) := rfl
theorem gMo_classOf_8 : fMo_classOf 8 = some (.iload_n 1, 0, 0) := rfl
theorem gMo_classOf_9 : fMo_classOf 9 = some (.invokevirtual 64, 29, 0) := rfl
theorem gMo_classOf_12 : fMo_classOf 12 = some (.goto (4), 16, 0) := rfl
theorem gMo_classOf_15 : fMo_classOf 15 = some (.iconst (-1), 0, 0) := rfl
theorem gMo_classOf_16 : fMo_classOf 16 = some (.istore_n 2, 0, 0) := rfl
theorem gMo_classOf_17 : fMo_classOf 17 = some (.iload_n 2, 0, 0) := rfl
theorem gMo_classOf_18 : fMo_classOf 18 = some (.iconst (-1), 0, 0) := rfl
theorem gMo_classOf_19 : fMo_classOf 19 = some (.if_icmp .ne (7), 26, 0) := rfl
theorem gMo_classOf_22 : fMo_classOf 22 = some (.iconst (-1), 0, 0) := rfl
theorem gMo_classOf_23 : fMo_classOf 23 = some (.goto (9), 32, 0) := rfl
theorem gMo_classOf_26 : fMo_classOf 26 = some (.aload_n 0, 0, 0) := rfl
theorem gMo_classOf_27 : fMo_classOf 27 = some (.getfield 16, 6, 5) := rfl
theorem gMo_classOf_30 : fMo_classOf 30 = some (.iload_n 2, 0, 0) := rfl
theorem gMo_classOf_31 : fMo_classOf 31 = some (.iaload, 0, 0) := rfl
theorem gMo_classOf_32 : fMo_classOf 32 = some (.ireturn, 0, 0) := rfl
abbrev lMo_classes : List (Nat × Instr × Nat × Nat) := [(0, .aload_n 0, 0, 0), (1, .getfield 53, 6, 2), (4, .ifCond .eq (10), 14, 0), (7, .aload_n 0, 0, 0), (8, .getfield 68, 6, 6), (11, .goto (4), 15, 0), (14, .iconst 0, 0, 0), (15, .ireturn, 0, 0)]
def fMo_classes : sx_F := sx_tab lMo_classes
theorem kMo_classes : sx_chk "ClassCharactersModel" (wy yMo_classes prog_9_method_35_code 1 (some .int)) 1 prog_9_method_35_code lMo_classes = true := by decide +kernel
theorem gMo_classes_0 : fMo_classes 0 = some (.aload_n 0, 0, 0) := rfl
theorem gMo_classes_1 : fMo_classes 1 = some (.getfield 53, 6, 2) := rfl
theorem gMo_classes_4 : fMo_classes 4 = some (.ifCond .eq (10), 14, 0) := rfl
theorem gMo_classes_7 : fMo_classes 7 = some (.aload_n 0, 0, 0) := rfl
theorem gMo_classes_8 : fMo_classes 8 = some (.getfield 68, 6, 6) := rfl
theorem gMo_classes_11 : fMo_classes 11 = some (.goto (4), 15, 0) := rfl
theorem gMo_classes_14 : fMo_classes 14 = some (.iconst 0, 0, 0) := rfl
theorem gMo_classes_15 : fMo_classes 15 = some (.ireturn, 0, 0) := rfl
abbrev lMo_size : List (Nat × Instr × Nat × Nat) := [(0, .aload_n 0, 0, 0), (1, .iload_n 1, 0, 0), (2, .invokevirtual 154, 52, 0), (5, .ifCond .eq (12), 17, 0), (8, .aload_n 0, 0, 0), (9, .getfield 19, 6, 7), (12, .iload_n 1, 0, 0), (13, .iaload, 0, 0), (14, .goto (4), 18, 0), (17, .iconst 0, 0, 0), (18, .ireturn, 0, 0)]
def fMo_size : sx_F := sx_tab lMo_size
theorem kMo_size : sx_chk "ClassCharactersModel" (wy yMo_size prog_9_method_36_code 2 (some .int)) 2 prog_9_method_36_code lMo_size = true := by decide +kernel
theorem gMo_size_0 : fMo_size 0 = some (.aload_n 0, 0, 0) := rfl
theorem gMo_size_1 : fMo_size 1 = some (.iload_n 1, 0, 0) := rfl
theorem gMo_size_2 : fMo_size 2 = some (.invokevirtual 154, 52, 0) := rfl
theorem gMo_size_5 : fMo_size 5 = some (.ifCond .eq (12), 17, 0) := rfl
theorem gMo_size_8 : fMo_size 8 = some (.aload_n 0, 0, 0) := rfl
theorem gMo_size_9 : fMo_size 9 = some (.getfield 19, 6, 7) := rfl
theorem gMo_size_12 : fMo_size 12 = some (.iload_n 1, 0, 0) := rfl
theorem gMo_size_13 : fMo_size 13 = some (.iaload, 0, 0) := rfl
theorem gMo_size_14 : fMo_size 14 = some (.goto (4), 18, 0) := rfl
theorem gMo_size_17 : fMo_size 17 = some (.iconst 0, 0, 0) := rfl
theorem gMo_size_18 : fMo_size 18 = some (.ireturn, 0, 0) := rfl
abbrev lMo_least : List (Nat × Instr × Nat × Nat) := [(0, .aload_n 0, 0, 0), (1, .iload_n 1, 0, 0), (2, .invokevirtual 154, 52, 0), (5, .ifCond .eq (12), 17, 0), (8, .aload_n 0, 0, 0), (9, .getfield 22, 6, 8), (12, .iload_n 1, 0, 0), (13, .iaload, 0, 0), (14, .goto (4), 18, 0), (17, .iconst (-1), 0, 0), (18, .ireturn, 0, 0)]
def fMo_least : sx_F := sx_tab lMo_least
theorem kMo_least : sx_chk "ClassCharactersModel" (wy yMo_least prog_9_method_37_code 2 (some .int)) 2 prog_9_method_37_code lMo_least = true := by decide +kernel
theorem gMo_least_0 : fMo_least 0 = some (.aload_n 0, 0, 0) := rfl
theorem gMo_least_1 : fMo_least 1 = some (.iload_n 1, 0, 0) := rfl
theorem gMo_least_2 : fMo_least 2 = some (.invokevirtual 154, 52, 0) := rfl
theorem gMo_least_5 : fMo_least 5 = some (.ifCond .eq (12), 17, 0) := rfl
theorem gMo_least_8 : fMo_least 8 = some (.aload_n 0, 0, 0) := rfl
theorem gMo_least_9 : fMo_least 9 = some (.getfield 22, 6, 8) := rfl
theorem gMo_least_12 : fMo_least 12 = some (.iload_n 1, 0, 0) := rfl
theorem gMo_least_13 : fMo_least 13 = some (.iaload, 0, 0) := rfl
theorem gMo_least_14 : fMo_least 14 = some (.goto (4), 18, 0) := rfl
theorem gMo_least_17 : fMo_least 17 = some (.iconst (-1), 0, 0) := rfl
theorem gMo_least_18 : fMo_least 18 = some (.ireturn, 0, 0) := rfl
abbrev lMo_power : List (Nat × Instr × Nat × Nat) := [(0, .aload_n 0, 0, 0), (1, .iload_n 1, 0, 0), (2, .invokevirtual 154, 52, 0), (5, .ifCond .eq (14), 19, 0), (8, .iload_n 2, 0, 0), (9, .ifCond .lt (10), 19, 0), (12, .iload_n 2, 0, 0), (13, .sipush (1000), 0, 0), (16, .if_icmp .le (5), 21, 0), (19, .iconst (-1), 0, 0), (20, .ireturn, 0, 0), (21, .aload_n 0, 0, 0), (22, .aload_n 0, 0, 0), (23, .getfield 22, 6, 8), (26, .iload_n 1, 0, 0), (27, .iaload, 0, 0), (28, .iload_n 2, 0, 0), (29, .invokevirtual 74, 33, 0), (32, .istore_n 3, 0, 0), (33, .aload_n 0, 0, 0), (34, .getfield 16, 6, 5), (37, .aload_n 0, 0, 0), (38, .iload_n 3, 0, 0), (39, .invokevirtual 64, 29, 0), (42, .iaload, 0, 0), (43, .ireturn, 0, 0)]
def fMo_power : sx_F := sx_tab lMo_power
theorem kMo_power : sx_chk "ClassCharactersModel" (wy yMo_power prog_9_method_38_code 4 (some .int)) 4 prog_9_method_38_code lMo_power = true := by decide +kernel
theorem gMo_power_0 : fMo_power 0 = some (.aload_n 0, 0, 0) := rfl
theorem gMo_power_1 : fMo_power 1 = some (.iload_n 1, 0, 0) := rfl
theorem gMo_power_2 : fMo_power 2 = some (.invokevirtual 154, 52, 0) := rfl
theorem gMo_power_5 : fMo_power 5 = some (.ifCond .eq (14), 19, 0) := rfl
theorem gMo_power_8 : fMo_power 8 = some (.iload_n 2, 0, 0) := rfl
theorem gMo_power_9 : fMo_power 9 = some (.ifCond .lt (10), 19, 0) := rfl
theorem gMo_power_12 : fMo_power 12 = some (.iload_n 2, 0, 0) := rfl
theorem gMo_power_13 : fMo_power 13 = some (.sipush (1000), 0, 0) := rfl
theorem gMo_power_16 : fMo_power 16 = some (.if_icmp .le (5), 21, 0) := rfl
theorem gMo_power_19 : fMo_power 19 = some (.iconst (-1), 0, 0) := rfl
theorem gMo_power_20 : fMo_power 20 = some (.ireturn, 0, 0) := rfl
theorem gMo_power_21 : fMo_power 21 = some (.aload_n 0, 0, 0) := rfl
theorem gMo_power_22 : fMo_power 22 = some (.aload_n 0, 0, 0) := rfl
theorem gMo_power_23 : fMo_power 23 = some (.getfield 22, 6, 8) := rfl
theorem gMo_power_26 : fMo_power 26 = some (.iload_n 1, 0, 0) := rfl
theorem gMo_power_27 : fMo_power 27 = some (.iaload, 0, 0) := rfl
theorem gMo_power_28 : fMo_power 28 = some (.iload_n 2, 0, 0) := rfl
theorem gMo_power_29 : fMo_power 29 = some (.invokevirtual 74, 33, 0) := rfl
theorem gMo_power_32 : fMo_power 32 = some (.istore_n 3, 0, 0) := rfl
theorem gMo_power_33 : fMo_power 33 = some (.aload_n 0, 0, 0) := rfl
theorem gMo_power_34 : fMo_power 34 = some (.getfield 16, 6, 5) := rfl
theorem gMo_power_37 : fMo_power 37 = some (.aload_n 0, 0, 0) := rfl
theorem gMo_power_38 : fMo_power 38 = some (.iload_n 3, 0, 0) := rfl
theorem gMo_power_39 : fMo_power 39 = some (.invokevirtual 64, 29, 0) := rfl
theorem gMo_power_42 : fMo_power 42 = some (.iaload, 0, 0) := rfl
theorem gMo_power_43 : fMo_power 43 = some (.ireturn, 0, 0) := rfl
abbrev lMo_constant : List (Nat × Instr × Nat × Nat) := [(0, .aload_n 0, 0, 0), (1, .iload_n 1, 0, 0), (2, .invokevirtual 154, 52, 0), (5, .ifCond .eq (39), 44, 0), (8, .aload_n 0, 0, 0), (9, .iload_n 2, 0, 0), (10, .invokevirtual 154, 52, 0), (13, .ifCond .eq (31), 44, 0), (16, .aload_n 0, 0, 0), (17, .iload_n 3, 0, 0), (18, .invokevirtual 154, 52, 0), (21, .ifCond .eq (23), 44, 0), (24, .aload_n 0, 0, 0), (25, .getfield 25, 6, 9), (28, .sipush (256), 0, 0), (31, .iload_n 1, 0, 0), (32, .imul, 0, 0), (33, .bipush (16), 0, 0), (35, .iload_n 2, 0, 0), (36, .imul, 0, 0), (37, .iadd, 0, 0), (38, .iload_n 3, 0, 0), (39, .iadd, 0, 0), (40, .iaload, 0, 0), (41, .goto (4), 45, 0), (44, .iconst (-1), 0, 0), (45, .ireturn, 0, 0)]
def fMo_constant : sx_F := sx_tab lMo_constant
theorem kMo_constant : sx_chk "ClassCharactersModel" (wy yMo_constant prog_9_method_39_code 4 (some .int)) 4 prog_9_method_39_code lMo_constant = true := by decide +kernel
theorem gMo_constant_0 : fMo_constant 0 = some (.aload_n 0, 0, 0) := rfl
theorem gMo_constant_1 : fMo_constant 1 = some (.iload_n 1, 0, 0) := rfl
theorem gMo_constant_2 : fMo_constant 2 = some (.invokevirtual 154, 52, 0) := rfl
theorem gMo_constant_5 : fMo_constant 5 = some (.ifCond .eq (39), 44, 0) := rfl
theorem gMo_constant_8 : fMo_constant 8 = some (.aload_n 0, 0, 0) := rfl
theorem gMo_constant_9 : fMo_constant 9 = some (.iload_n 2, 0, 0) := rfl
theorem gMo_constant_10 : fMo_constant 10 = some (.invokevirtual 154, 52, 0) := rfl
theorem gMo_constant_13 : fMo_constant 13 = some (.ifCond .eq (31), 44, 0) := rfl
theorem gMo_constant_16 : fMo_constant 16 = some (.aload_n 0, 0, 0) := rfl
theorem gMo_constant_17 : fMo_constant 17 = some (.iload_n 3, 0, 0) := rfl
theorem gMo_constant_18 : fMo_constant 18 = some (.invokevirtual 154, 52, 0) := rfl
theorem gMo_constant_21 : fMo_constant 21 = some (.ifCond .eq (23), 44, 0) := rfl
theorem gMo_constant_24 : fMo_constant 24 = some (.aload_n 0, 0, 0) := rfl
theorem gMo_constant_25 : fMo_constant 25 = some (.getfield 25, 6, 9) := rfl
theorem gMo_constant_28 : fMo_constant 28 = some (.sipush (256), 0, 0) := rfl
theorem gMo_constant_31 : fMo_constant 31 = some (.iload_n 1, 0, 0) := rfl
theorem gMo_constant_32 : fMo_constant 32 = some (.imul, 0, 0) := rfl
theorem gMo_constant_33 : fMo_constant 33 = some (.bipush (16), 0, 0) := rfl
theorem gMo_constant_35 : fMo_constant 35 = some (.iload_n 2, 0, 0) := rfl
theorem gMo_constant_36 : fMo_constant 36 = some (.imul, 0, 0) := rfl
theorem gMo_constant_37 : fMo_constant 37 = some (.iadd, 0, 0) := rfl
theorem gMo_constant_38 : fMo_constant 38 = some (.iload_n 3, 0, 0) := rfl
theorem gMo_constant_39 : fMo_constant 39 = some (.iadd, 0, 0) := rfl
theorem gMo_constant_40 : fMo_constant 40 = some (.iaload, 0, 0) := rfl
theorem gMo_constant_41 : fMo_constant 41 = some (.goto (4), 45, 0) := rfl
theorem gMo_constant_44 : fMo_constant 44 = some (.iconst (-1), 0, 0) := rfl
theorem gMo_constant_45 : fMo_constant 45 = some (.ireturn, 0, 0) := rfl
abbrev lMo_exponent : List (Nat × Instr × Nat × Nat) := [(0, .aload_n 0, 0, 0), (1, .getfield 53, 6, 2), (4, .ifCond .eq (10), 14, 0), (7, .aload_n 0, 0, 0), (8, .getfield 77, 6, 10), (11, .goto (4), 15, 0), (14, .iconst 0, 0, 0), (15, .ireturn, 0, 0)]
def fMo_exponent : sx_F := sx_tab lMo_exponent
theorem kMo_exponent : sx_chk "ClassCharactersModel" (wy yMo_exponent prog_9_method_40_code 1 (some .int)) 1 prog_9_method_40_code lMo_exponent = true := by decide +kernel
theorem gMo_exponent_0 : fMo_exponent 0 = some (.aload_n 0, 0, 0) := rfl
theorem gMo_exponent_1 : fMo_exponent 1 = some (.getfield 53, 6, 2) := rfl
theorem gMo_exponent_4 : fMo_exponent 4 = some (.ifCond .eq (10), 14, 0) := rfl
theorem gMo_exponent_7 : fMo_exponent 7 = some (.aload_n 0, 0, 0) := rfl
theorem gMo_exponent_8 : fMo_exponent 8 = some (.getfield 77, 6, 10) := rfl
theorem gMo_exponent_11 : fMo_exponent 11 = some (.goto (4), 15, 0) := rfl
theorem gMo_exponent_14 : fMo_exponent 14 = some (.iconst 0, 0, 0) := rfl
theorem gMo_exponent_15 : fMo_exponent 15 = some (.ireturn, 0, 0) := rfl
abbrev lMo_prime : List (Nat × Instr × Nat × Nat) := [(0, .aload_n 0, 0, 0), (1, .getfield 53, 6, 2), (4, .ifCond .eq (10), 14, 0), (7, .aload_n 0, 0, 0), (8, .getfield 83, 6, 11), (11, .goto (4), 15, 0), (14, .iconst 0, 0, 0), (15, .ireturn, 0, 0)]
def fMo_prime : sx_F := sx_tab lMo_prime
theorem kMo_prime : sx_chk "ClassCharactersModel" (wy yMo_prime prog_9_method_41_code 1 (some .int)) 1 prog_9_method_41_code lMo_prime = true := by decide +kernel
theorem gMo_prime_0 : fMo_prime 0 = some (.aload_n 0, 0, 0) := rfl
theorem gMo_prime_1 : fMo_prime 1 = some (.getfield 53, 6, 2) := rfl
theorem gMo_prime_4 : fMo_prime 4 = some (.ifCond .eq (10), 14, 0) := rfl
theorem gMo_prime_7 : fMo_prime 7 = some (.aload_n 0, 0, 0) := rfl
theorem gMo_prime_8 : fMo_prime 8 = some (.getfield 83, 6, 11) := rfl
theorem gMo_prime_11 : fMo_prime 11 = some (.goto (4), 15, 0) := rfl
theorem gMo_prime_14 : fMo_prime 14 = some (.iconst 0, 0, 0) := rfl
theorem gMo_prime_15 : fMo_prime 15 = some (.ireturn, 0, 0) := rfl
abbrev lMo_root : List (Nat × Instr × Nat × Nat) := [(0, .aload_n 0, 0, 0), (1, .getfield 53, 6, 2), (4, .ifCond .eq (10), 14, 0), (7, .aload_n 0, 0, 0), (8, .getfield 89, 6, 12), (11, .goto (4), 15, 0), (14, .iconst 0, 0, 0), (15, .ireturn, 0, 0)]
def fMo_root : sx_F := sx_tab lMo_root
theorem kMo_root : sx_chk "ClassCharactersModel" (wy yMo_root prog_9_method_42_code 1 (some .int)) 1 prog_9_method_42_code lMo_root = true := by decide +kernel
theorem gMo_root_0 : fMo_root 0 = some (.aload_n 0, 0, 0) := rfl
theorem gMo_root_1 : fMo_root 1 = some (.getfield 53, 6, 2) := rfl
theorem gMo_root_4 : fMo_root 4 = some (.ifCond .eq (10), 14, 0) := rfl
theorem gMo_root_7 : fMo_root 7 = some (.aload_n 0, 0, 0) := rfl
theorem gMo_root_8 : fMo_root 8 = some (.getfield 89, 6, 12) := rfl
theorem gMo_root_11 : fMo_root 11 = some (.goto (4), 15, 0) := rfl
theorem gMo_root_14 : fMo_root 14 = some (.iconst 0, 0, 0) := rfl
theorem gMo_root_15 : fMo_root 15 = some (.ireturn, 0, 0) := rfl
abbrev lMo_degree : List (Nat × Instr × Nat × Nat) := [(0, .aload_n 0, 0, 0), (1, .iload_n 1, 0, 0), (2, .invokevirtual 154, 52, 0), (5, .ifCond .eq (12), 17, 0), (8, .aload_n 0, 0, 0), (9, .getfield 31, 6, 15), (12, .iload_n 1, 0, 0), (13, .iaload, 0, 0), (14, .goto (4), 18, 0), (17, .iconst 0, 0, 0), (18, .ireturn, 0, 0)]
def fMo_degree : sx_F := sx_tab lMo_degree
theorem kMo_degree : sx_chk "ClassCharactersModel" (wy yMo_degree prog_9_method_43_code 2 (some .int)) 2 prog_9_method_43_code lMo_degree = true := by decide +kernel
theorem gMo_degree_0 : fMo_degree 0 = some (.aload_n 0, 0, 0) := rfl
theorem gMo_degree_1 : fMo_degree 1 = some (.iload_n 1, 0, 0) := rfl
theorem gMo_degree_2 : fMo_degree 2 = some (.invokevirtual 154, 52, 0) := rfl
theorem gMo_degree_5 : fMo_degree 5 = some (.ifCond .eq (12), 17, 0) := rfl
theorem gMo_degree_8 : fMo_degree 8 = some (.aload_n 0, 0, 0) := rfl
theorem gMo_degree_9 : fMo_degree 9 = some (.getfield 31, 6, 15) := rfl
theorem gMo_degree_12 : fMo_degree 12 = some (.iload_n 1, 0, 0) := rfl
theorem gMo_degree_13 : fMo_degree 13 = some (.iaload, 0, 0) := rfl
theorem gMo_degree_14 : fMo_degree 14 = some (.goto (4), 18, 0) := rfl
theorem gMo_degree_17 : fMo_degree 17 = some (.iconst 0, 0, 0) := rfl
theorem gMo_degree_18 : fMo_degree 18 = some (.ireturn, 0, 0) := rfl
abbrev lMo_value : List (Nat × Instr × Nat × Nat) := [(0, .aload_n 0, 0, 0), (1, .iload_n 1, 0, 0), (2, .invokevirtual 154, 52, 0), (5, .ifCond .eq (25), 30, 0), (8, .aload_n 0, 0, 0), (9, .iload_n 2, 0, 0), (10, .invokevirtual 154, 52, 0), (13, .ifCond .eq (17), 30, 0), (16, .aload_n 0, 0, 0), (17, .getfield 34, 6, 16), (20, .bipush (16), 0, 0), (22, .iload_n 1, 0, 0), (23, .imul, 0, 0), (24, .iload_n 2, 0, 0), (25, .iadd, 0, 0), (26, .iaload, 0, 0), (27, .goto (4), 31, 0), (30, .iconst (-1), 0, 0), (31, .ireturn, 0, 0)]
def fMo_value : sx_F := sx_tab lMo_value
theorem kMo_value : sx_chk "ClassCharactersModel" (wy yMo_value prog_9_method_44_code 3 (some .int)) 3 prog_9_method_44_code lMo_value = true := by decide +kernel
theorem gMo_value_0 : fMo_value 0 = some (.aload_n 0, 0, 0) := rfl
theorem gMo_value_1 : fMo_value 1 = some (.iload_n 1, 0, 0) := rfl
theorem gMo_value_2 : fMo_value 2 = some (.invokevirtual 154, 52, 0) := rfl
theorem gMo_value_5 : fMo_value 5 = some (.ifCond .eq (25), 30, 0) := rfl
theorem gMo_value_8 : fMo_value 8 = some (.aload_n 0, 0, 0) := rfl
theorem gMo_value_9 : fMo_value 9 = some (.iload_n 2, 0, 0) := rfl
theorem gMo_value_10 : fMo_value 10 = some (.invokevirtual 154, 52, 0) := rfl
theorem gMo_value_13 : fMo_value 13 = some (.ifCond .eq (17), 30, 0) := rfl
theorem gMo_value_16 : fMo_value 16 = some (.aload_n 0, 0, 0) := rfl
theorem gMo_value_17 : fMo_value 17 = some (.getfield 34, 6, 16) := rfl
theorem gMo_value_20 : fMo_value 20 = some (.bipush (16), 0, 0) := rfl
theorem gMo_value_22 : fMo_value 22 = some (.iload_n 1, 0, 0) := rfl
theorem gMo_value_23 : fMo_value 23 = some (.imul, 0, 0) := rfl
theorem gMo_value_24 : fMo_value 24 = some (.iload_n 2, 0, 0) := rfl
theorem gMo_value_25 : fMo_value 25 = some (.iadd, 0, 0) := rfl
theorem gMo_value_26 : fMo_value 26 = some (.iaload, 0, 0) := rfl
theorem gMo_value_27 : fMo_value 27 = some (.goto (4), 31, 0) := rfl
theorem gMo_value_30 : fMo_value 30 = some (.iconst (-1), 0, 0) := rfl
theorem gMo_value_31 : fMo_value 31 = some (.ireturn, 0, 0) := rfl
abbrev lMo_multiplicity : List (Nat × Instr × Nat × Nat) := [(0, .aload_n 0, 0, 0), (1, .iload_n 1, 0, 0), (2, .invokevirtual 154, 52, 0), (5, .ifCond .eq (23), 28, 0), (8, .aload_n 0, 0, 0), (9, .iload_n 2, 0, 0), (10, .invokevirtual 154, 52, 0), (13, .ifCond .eq (15), 28, 0), (16, .iload_n 3, 0, 0), (17, .ifCond .lt (11), 28, 0), (20, .iload_n 3, 0, 0), (21, .aload_n 0, 0, 0), (22, .getfield 77, 6, 10), (25, .if_icmp .lt (5), 30, 0), (28, .iconst (-1), 0, 0), (29, .ireturn, 0, 0), (30, .aload_n 0, 0, 0), (31, .iconst 1, 0, 0), (32, .aload_n 0, 0, 0), (33, .aload_n 0, 0, 0), (34, .getfield 89, 6, 12), (37, .iload_n 3, 0, 0), (38, .invokevirtual 98, 39, 0), (41, .invokevirtual 109, 40, 0), (44, .istore 4, 0, 0), (46, .iconst 0, 0, 0), (47, .istore 5, 0, 0), (49, .iconst 1, 0, 0), (50, .istore 6, 0, 0), (52, .ldc 60, 342391, 0), (54, .istore 7, 0, 0), (56, .iconst 0, 0, 0), (57, .istore 8, 0, 0), (59, .iload 8, 0, 0), (61, .aload_n 0, 0, 0), (62, .getfield 77, 6, 10), (65, .if_icmp .ge (68), 133, 0), (68, .iload 5, 0, 0), (70, .aload_n 0, 0, 0), (71, .getfield 34, 6, 16), (74, .bipush (16), 0, 0), (76, .iload_n 1, 0, 0), (77, .imul, 0, 0), (78, .aload_n 0, 0, 0), (79, .getfield 16, 6, 5), (82, .aload_n 0, 0, 0), (83, .iload 7, 0, 0), (85, .invokevirtual 64, 29, 0), (88, .iaload, 0, 0), (89, .iadd, 0, 0), (90, .iaload, 0, 0), (91, .iload 6, 0, 0), (93, .imul, 0, 0), (94, .iadd, 0, 0), (95, .aload_n 0, 0, 0), (96, .getfield 83, 6, 11), (99, .irem, 0, 0), (100, .istore 5, 0, 0), (102, .iload 6, 0, 0), (104, .iload 4, 0, 0), (106, .imul, 0, 0), (107, .aload_n 0, 0, 0), (108, .getfield 83, 6, 11), (111, .irem, 0, 0), (112, .istore 6, 0, 0), (114, .iload 7, 0, 0), (116, .aload_n 0, 0, 0), (117, .getfield 22, 6, 8), (120, .iload_n 2, 0, 0), (121, .iaload, 0, 0), (122, .invokestatic 61, 24, 0), (125, .istore 7, 0, 0), (127, .iinc 8 (1), 0, 0), (130, .goto (-71), 59, 0), (133, .aload_n 0, 0, 0), (134, .iload 5, 0, 0), (136, .aload_n 0, 0, 0), (137, .getfield 77, 6, 10), (140, .invokevirtual 109, 40, 0), (143, .ireturn, 0, 0)]
def fMo_multiplicity : sx_F := sx_tab lMo_multiplicity
theorem kMo_multiplicity : sx_chk "ClassCharactersModel" (wy yMo_multiplicity prog_9_method_45_code 9 (some .int)) 9 prog_9_method_45_code lMo_multiplicity = true := by decide +kernel
theorem gMo_multiplicity_0 : fMo_multiplicity 0 = some (.aload_n 0, 0, 0) := rfl
theorem gMo_multiplicity_1 : fMo_multiplicity 1 = some (.iload_n 1, 0, 0) := rfl
theorem gMo_multiplicity_2 : fMo_multiplicity 2 = some (.invokevirtual 154, 52, 0) := rfl
theorem gMo_multiplicity_5 : fMo_multiplicity 5 = some (.ifCond .eq (23), 28, 0) := rfl
theorem gMo_multiplicity_8 : fMo_multiplicity 8 = some (.aload_n 0, 0, 0) := rfl
theorem gMo_multiplicity_9 : fMo_multiplicity 9 = some (.iload_n 2, 0, 0) := rfl
theorem gMo_multiplicity_10 : fMo_multiplicity 10 = some (.invokevirtual 154, 52, 0) := rfl
theorem gMo_multiplicity_13 : fMo_multiplicity 13 = some (.ifCond .eq (15), 28, 0) := rfl
theorem gMo_multiplicity_16 : fMo_multiplicity 16 = some (.iload_n 3, 0, 0) := rfl
theorem gMo_multiplicity_17 : fMo_multiplicity 17 = some (.ifCond .lt (11), 28, 0) := rfl
theorem gMo_multiplicity_20 : fMo_multiplicity 20 = some (.iload_n 3, 0, 0) := rfl
theorem gMo_multiplicity_21 : fMo_multiplicity 21 = some (.aload_n 0, 0, 0) := rfl
theorem gMo_multiplicity_22 : fMo_multiplicity 22 = some (.getfield 77, 6, 10) := rfl
theorem gMo_multiplicity_25 : fMo_multiplicity 25 = some (.if_icmp .lt (5), 30, 0) := rfl
theorem gMo_multiplicity_28 : fMo_multiplicity 28 = some (.iconst (-1), 0, 0) := rfl
theorem gMo_multiplicity_29 : fMo_multiplicity 29 = some (.ireturn, 0, 0) := rfl
theorem gMo_multiplicity_30 : fMo_multiplicity 30 = some (.aload_n 0, 0, 0) := rfl
theorem gMo_multiplicity_31 : fMo_multiplicity 31 = some (.iconst 1, 0, 0) := rfl
theorem gMo_multiplicity_32 : fMo_multiplicity 32 = some (.aload_n 0, 0, 0) := rfl
theorem gMo_multiplicity_33 : fMo_multiplicity 33 = some (.aload_n 0, 0, 0) := rfl
theorem gMo_multiplicity_34 : fMo_multiplicity 34 = some (.getfield 89, 6, 12) := rfl
theorem gMo_multiplicity_37 : fMo_multiplicity 37 = some (.iload_n 3, 0, 0) := rfl
theorem gMo_multiplicity_38 : fMo_multiplicity 38 = some (.invokevirtual 98, 39, 0) := rfl
theorem gMo_multiplicity_41 : fMo_multiplicity 41 = some (.invokevirtual 109, 40, 0) := rfl
theorem gMo_multiplicity_44 : fMo_multiplicity 44 = some (.istore 4, 0, 0) := rfl
theorem gMo_multiplicity_46 : fMo_multiplicity 46 = some (.iconst 0, 0, 0) := rfl
theorem gMo_multiplicity_47 : fMo_multiplicity 47 = some (.istore 5, 0, 0) := rfl
theorem gMo_multiplicity_49 : fMo_multiplicity 49 = some (.iconst 1, 0, 0) := rfl
theorem gMo_multiplicity_50 : fMo_multiplicity 50 = some (.istore 6, 0, 0) := rfl
theorem gMo_multiplicity_52 : fMo_multiplicity 52 = some (.ldc 60, 342391, 0) := rfl
theorem gMo_multiplicity_54 : fMo_multiplicity 54 = some (.istore 7, 0, 0) := rfl
theorem gMo_multiplicity_56 : fMo_multiplicity 56 = some (.iconst 0, 0, 0) := rfl
theorem gMo_multiplicity_57 : fMo_multiplicity 57 = some (.istore 8, 0, 0) := rfl
theorem gMo_multiplicity_59 : fMo_multiplicity 59 = some (.iload 8, 0, 0) := rfl
theorem gMo_multiplicity_61 : fMo_multiplicity 61 = some (.aload_n 0, 0, 0) := rfl
theorem gMo_multiplicity_62 : fMo_multiplicity 62 = some (.getfield 77, 6, 10) := rfl
theorem gMo_multiplicity_65 : fMo_multiplicity 65 = some (.if_icmp .ge (68), 133, 0) := rfl
theorem gMo_multiplicity_68 : fMo_multiplicity 68 = some (.iload 5, 0, 0) := rfl
theorem gMo_multiplicity_70 : fMo_multiplicity 70 = some (.aload_n 0, 0, 0) := rfl
theorem gMo_multiplicity_71 : fMo_multiplicity 71 = some (.getfield 34, 6, 16) := rfl
theorem gMo_multiplicity_74 : fMo_multiplicity 74 = some (.bipush (16), 0, 0) := rfl
theorem gMo_multiplicity_76 : fMo_multiplicity 76 = some (.iload_n 1, 0, 0) := rfl
theorem gMo_multiplicity_77 : fMo_multiplicity 77 = some (.imul, 0, 0) := rfl
theorem gMo_multiplicity_78 : fMo_multiplicity 78 = some (.aload_n 0, 0, 0) := rfl
theorem gMo_multiplicity_79 : fMo_multiplicity 79 = some (.getfield 16, 6, 5) := rfl
theorem gMo_multiplicity_82 : fMo_multiplicity 82 = some (.aload_n 0, 0, 0) := rfl
theorem gMo_multiplicity_83 : fMo_multiplicity 83 = some (.iload 7, 0, 0) := rfl
theorem gMo_multiplicity_85 : fMo_multiplicity 85 = some (.invokevirtual 64, 29, 0) := rfl
theorem gMo_multiplicity_88 : fMo_multiplicity 88 = some (.iaload, 0, 0) := rfl
theorem gMo_multiplicity_89 : fMo_multiplicity 89 = some (.iadd, 0, 0) := rfl
theorem gMo_multiplicity_90 : fMo_multiplicity 90 = some (.iaload, 0, 0) := rfl
theorem gMo_multiplicity_91 : fMo_multiplicity 91 = some (.iload 6, 0, 0) := rfl
theorem gMo_multiplicity_93 : fMo_multiplicity 93 = some (.imul, 0, 0) := rfl
theorem gMo_multiplicity_94 : fMo_multiplicity 94 = some (.iadd, 0, 0) := rfl
theorem gMo_multiplicity_95 : fMo_multiplicity 95 = some (.aload_n 0, 0, 0) := rfl
theorem gMo_multiplicity_96 : fMo_multiplicity 96 = some (.getfield 83, 6, 11) := rfl
theorem gMo_multiplicity_99 : fMo_multiplicity 99 = some (.irem, 0, 0) := rfl
theorem gMo_multiplicity_100 : fMo_multiplicity 100 = some (.istore 5, 0, 0) := rfl
theorem gMo_multiplicity_102 : fMo_multiplicity 102 = some (.iload 6, 0, 0) := rfl
theorem gMo_multiplicity_104 : fMo_multiplicity 104 = some (.iload 4, 0, 0) := rfl
theorem gMo_multiplicity_106 : fMo_multiplicity 106 = some (.imul, 0, 0) := rfl
theorem gMo_multiplicity_107 : fMo_multiplicity 107 = some (.aload_n 0, 0, 0) := rfl
theorem gMo_multiplicity_108 : fMo_multiplicity 108 = some (.getfield 83, 6, 11) := rfl
theorem gMo_multiplicity_111 : fMo_multiplicity 111 = some (.irem, 0, 0) := rfl
theorem gMo_multiplicity_112 : fMo_multiplicity 112 = some (.istore 6, 0, 0) := rfl
theorem gMo_multiplicity_114 : fMo_multiplicity 114 = some (.iload 7, 0, 0) := rfl
theorem gMo_multiplicity_116 : fMo_multiplicity 116 = some (.aload_n 0, 0, 0) := rfl
theorem gMo_multiplicity_117 : fMo_multiplicity 117 = some (.getfield 22, 6, 8) := rfl
theorem gMo_multiplicity_120 : fMo_multiplicity 120 = some (.iload_n 2, 0, 0) := rfl
theorem gMo_multiplicity_121 : fMo_multiplicity 121 = some (.iaload, 0, 0) := rfl
theorem gMo_multiplicity_122 : fMo_multiplicity 122 = some (.invokestatic 61, 24, 0) := rfl
theorem gMo_multiplicity_125 : fMo_multiplicity 125 = some (.istore 7, 0, 0) := rfl
theorem gMo_multiplicity_127 : fMo_multiplicity 127 = some (.iinc 8 (1), 0, 0) := rfl
theorem gMo_multiplicity_130 : fMo_multiplicity 130 = some (.goto (-71), 59, 0) := rfl
theorem gMo_multiplicity_133 : fMo_multiplicity 133 = some (.aload_n 0, 0, 0) := rfl
theorem gMo_multiplicity_134 : fMo_multiplicity 134 = some (.iload 5, 0, 0) := rfl
theorem gMo_multiplicity_136 : fMo_multiplicity 136 = some (.aload_n 0, 0, 0) := rfl
theorem gMo_multiplicity_137 : fMo_multiplicity 137 = some (.getfield 77, 6, 10) := rfl
theorem gMo_multiplicity_140 : fMo_multiplicity 140 = some (.invokevirtual 109, 40, 0) := rfl
theorem gMo_multiplicity_143 : fMo_multiplicity 143 = some (.ireturn, 0, 0) := rfl
abbrev lMo_indicator : List (Nat × Instr × Nat × Nat) := [(0, .aload_n 0, 0, 0), (1, .iload_n 1, 0, 0), (2, .invokevirtual 154, 52, 0), (5, .ifCond .ne (5), 10, 0), (8, .iconst 0, 0, 0), (9, .ireturn, 0, 0), (10, .iconst 0, 0, 0), (11, .istore_n 2, 0, 0), (12, .iconst 0, 0, 0), (13, .istore_n 3, 0, 0), (14, .iload_n 3, 0, 0), (15, .aload_n 0, 0, 0), (16, .getfield 68, 6, 6), (19, .if_icmp .ge (40), 59, 0), (22, .iload_n 2, 0, 0), (23, .aload_n 0, 0, 0), (24, .getfield 19, 6, 7), (27, .iload_n 3, 0, 0), (28, .iaload, 0, 0), (29, .aload_n 0, 0, 0), (30, .getfield 34, 6, 16), (33, .bipush (16), 0, 0), (35, .iload_n 1, 0, 0), (36, .imul, 0, 0), (37, .aload_n 0, 0, 0), (38, .iload_n 3, 0, 0), (39, .iconst 2, 0, 0), (40, .invokevirtual 157, 59, 0), (43, .iadd, 0, 0), (44, .iaload, 0, 0), (45, .imul, 0, 0), (46, .iadd, 0, 0), (47, .aload_n 0, 0, 0), (48, .getfield 83, 6, 11), (51, .irem, 0, 0), (52, .istore_n 2, 0, 0), (53, .iinc 3 (1), 0, 0), (56, .goto (-42), 14, 0), (59, .aload_n 0, 0, 0), (60, .iload_n 2, 0, 0), (61, .aload_n 0, 0, 0), (62, .getfield 57, 6, 3), (65, .invokevirtual 109, 40, 0), (68, .istore_n 3, 0, 0), (69, .iload_n 3, 0, 0), (70, .aload_n 0, 0, 0), (71, .getfield 83, 6, 11), (74, .iconst 1, 0, 0), (75, .isub, 0, 0), (76, .if_icmp .ne (7), 83, 0), (79, .iconst (-1), 0, 0), (80, .goto (4), 84, 0), (83, .iload_n 3, 0, 0), (84, .ireturn, 0, 0)]
def fMo_indicator : sx_F := sx_tab lMo_indicator
theorem kMo_indicator : sx_chk "ClassCharactersModel" (wy yMo_indicator prog_9_method_46_code 4 (some .int)) 4 prog_9_method_46_code lMo_indicator = true := by decide +kernel
theorem gMo_indicator_0 : fMo_indicator 0 = some (.aload_n 0, 0, 0) := rfl
theorem gMo_indicator_1 : fMo_indicator 1 = some (.iload_n 1, 0, 0) := rfl
theorem gMo_indicator_2 : fMo_indicator 2 = some (.invokevirtual 154, 52, 0) := rfl
theorem gMo_indicator_5 : fMo_indicator 5 = some (.ifCond .ne (5), 10, 0) := rfl
theorem gMo_indicator_8 : fMo_indicator 8 = some (.iconst 0, 0, 0) := rfl
theorem gMo_indicator_9 : fMo_indicator 9 = some (.ireturn, 0, 0) := rfl
theorem gMo_indicator_10 : fMo_indicator 10 = some (.iconst 0, 0, 0) := rfl
theorem gMo_indicator_11 : fMo_indicator 11 = some (.istore_n 2, 0, 0) := rfl
theorem gMo_indicator_12 : fMo_indicator 12 = some (.iconst 0, 0, 0) := rfl
theorem gMo_indicator_13 : fMo_indicator 13 = some (.istore_n 3, 0, 0) := rfl
theorem gMo_indicator_14 : fMo_indicator 14 = some (.iload_n 3, 0, 0) := rfl
theorem gMo_indicator_15 : fMo_indicator 15 = some (.aload_n 0, 0, 0) := rfl
theorem gMo_indicator_16 : fMo_indicator 16 = some (.getfield 68, 6, 6) := rfl
theorem gMo_indicator_19 : fMo_indicator 19 = some (.if_icmp .ge (40), 59, 0) := rfl
theorem gMo_indicator_22 : fMo_indicator 22 = some (.iload_n 2, 0, 0) := rfl
theorem gMo_indicator_23 : fMo_indicator 23 = some (.aload_n 0, 0, 0) := rfl
theorem gMo_indicator_24 : fMo_indicator 24 = some (.getfield 19, 6, 7) := rfl
theorem gMo_indicator_27 : fMo_indicator 27 = some (.iload_n 3, 0, 0) := rfl
theorem gMo_indicator_28 : fMo_indicator 28 = some (.iaload, 0, 0) := rfl
theorem gMo_indicator_29 : fMo_indicator 29 = some (.aload_n 0, 0, 0) := rfl
theorem gMo_indicator_30 : fMo_indicator 30 = some (.getfield 34, 6, 16) := rfl
theorem gMo_indicator_33 : fMo_indicator 33 = some (.bipush (16), 0, 0) := rfl
theorem gMo_indicator_35 : fMo_indicator 35 = some (.iload_n 1, 0, 0) := rfl
theorem gMo_indicator_36 : fMo_indicator 36 = some (.imul, 0, 0) := rfl
theorem gMo_indicator_37 : fMo_indicator 37 = some (.aload_n 0, 0, 0) := rfl
theorem gMo_indicator_38 : fMo_indicator 38 = some (.iload_n 3, 0, 0) := rfl
theorem gMo_indicator_39 : fMo_indicator 39 = some (.iconst 2, 0, 0) := rfl
theorem gMo_indicator_40 : fMo_indicator 40 = some (.invokevirtual 157, 59, 0) := rfl
theorem gMo_indicator_43 : fMo_indicator 43 = some (.iadd, 0, 0) := rfl
theorem gMo_indicator_44 : fMo_indicator 44 = some (.iaload, 0, 0) := rfl
theorem gMo_indicator_45 : fMo_indicator 45 = some (.imul, 0, 0) := rfl
theorem gMo_indicator_46 : fMo_indicator 46 = some (.iadd, 0, 0) := rfl
theorem gMo_indicator_47 : fMo_indicator 47 = some (.aload_n 0, 0, 0) := rfl
theorem gMo_indicator_48 : fMo_indicator 48 = some (.getfield 83, 6, 11) := rfl
theorem gMo_indicator_51 : fMo_indicator 51 = some (.irem, 0, 0) := rfl
theorem gMo_indicator_52 : fMo_indicator 52 = some (.istore_n 2, 0, 0) := rfl
theorem gMo_indicator_53 : fMo_indicator 53 = some (.iinc 3 (1), 0, 0) := rfl
theorem gMo_indicator_56 : fMo_indicator 56 = some (.goto (-42), 14, 0) := rfl
theorem gMo_indicator_59 : fMo_indicator 59 = some (.aload_n 0, 0, 0) := rfl
theorem gMo_indicator_60 : fMo_indicator 60 = some (.iload_n 2, 0, 0) := rfl
theorem gMo_indicator_61 : fMo_indicator 61 = some (.aload_n 0, 0, 0) := rfl
theorem gMo_indicator_62 : fMo_indicator 62 = some (.getfield 57, 6, 3) := rfl
theorem gMo_indicator_65 : fMo_indicator 65 = some (.invokevirtual 109, 40, 0) := rfl
theorem gMo_indicator_68 : fMo_indicator 68 = some (.istore_n 3, 0, 0) := rfl
theorem gMo_indicator_69 : fMo_indicator 69 = some (.iload_n 3, 0, 0) := rfl
theorem gMo_indicator_70 : fMo_indicator 70 = some (.aload_n 0, 0, 0) := rfl
theorem gMo_indicator_71 : fMo_indicator 71 = some (.getfield 83, 6, 11) := rfl
theorem gMo_indicator_74 : fMo_indicator 74 = some (.iconst 1, 0, 0) := rfl
theorem gMo_indicator_75 : fMo_indicator 75 = some (.isub, 0, 0) := rfl
theorem gMo_indicator_76 : fMo_indicator 76 = some (.if_icmp .ne (7), 83, 0) := rfl
theorem gMo_indicator_79 : fMo_indicator 79 = some (.iconst (-1), 0, 0) := rfl
theorem gMo_indicator_80 : fMo_indicator 80 = some (.goto (4), 84, 0) := rfl
theorem gMo_indicator_83 : fMo_indicator 83 = some (.iload_n 3, 0, 0) := rfl
theorem gMo_indicator_84 : fMo_indicator 84 = some (.ireturn, 0, 0) := rfl
abbrev lMo_kernel : List (Nat × Instr × Nat × Nat) := [(0, .iconst 0, 0, 0), (1, .istore_n 2, 0, 0), (2, .iconst 0, 0, 0), (3, .istore_n 3, 0, 0), (4, .iload_n 3, 0, 0), (5, .aload_n 0, 0, 0), (6, .getfield 68, 6, 6), (9, .if_icmp .ge (47), 56, 0), (12, .aload_n 0, 0, 0), (13, .iload_n 1, 0, 0), (14, .invokevirtual 154, 52, 0), (17, .ifCond .eq (39), 56, 0), (20, .iload_n 2, 0, 0), (21, .aload_n 0, 0, 0), (22, .getfield 34, 6, 16), (25, .bipush (16), 0, 0), (27, .iload_n 1, 0, 0), (28, .imul, 0, 0), (29, .iload_n 3, 0, 0), (30, .iadd, 0, 0), (31, .iaload, 0, 0), (32, .aload_n 0, 0, 0), (33, .getfield 31, 6, 15), (36, .iload_n 1, 0, 0), (37, .iaload, 0, 0), (38, .if_icmp .ne (9), 47, 0), (41, .iconst 1, 0, 0), (42, .iload_n 3, 0, 0), (43, .ishl, 0, 0), (44, .goto (4), 48, 0), (47, .iconst 0, 0, 0), (48, .iadd, 0, 0), (49, .istore_n 2, 0, 0), (50, .iinc 3 (1), 0, 0), (53, .goto (-49), 4, 0), (56, .iload_n 2, 0, 0), (57, .ireturn, 0, 0)]
def fMo_kernel : sx_F := sx_tab lMo_kernel
theorem kMo_kernel : sx_chk "ClassCharactersModel" (wy yMo_kernel prog_9_method_47_code 4 (some .int)) 4 prog_9_method_47_code lMo_kernel = true := by decide +kernel
theorem gMo_kernel_0 : fMo_kernel 0 = some (.iconst 0, 0, 0) := rfl
theorem gMo_kernel_1 : fMo_kernel 1 = some (.istore_n 2, 0, 0) := rfl
theorem gMo_kernel_2 : fMo_kernel 2 = some (.iconst 0, 0, 0) := rfl
theorem gMo_kernel_3 : fMo_kernel 3 = some (.istore_n 3, 0, 0) := rfl
theorem gMo_kernel_4 : fMo_kernel 4 = some (.iload_n 3, 0, 0) := rfl
theorem gMo_kernel_5 : fMo_kernel 5 = some (.aload_n 0, 0, 0) := rfl
theorem gMo_kernel_6 : fMo_kernel 6 = some (.getfield 68, 6, 6) := rfl
theorem gMo_kernel_9 : fMo_kernel 9 = some (.if_icmp .ge (47), 56, 0) := rfl
theorem gMo_kernel_12 : fMo_kernel 12 = some (.aload_n 0, 0, 0) := rfl
theorem gMo_kernel_13 : fMo_kernel 13 = some (.iload_n 1, 0, 0) := rfl
theorem gMo_kernel_14 : fMo_kernel 14 = some (.invokevirtual 154, 52, 0) := rfl
theorem gMo_kernel_17 : fMo_kernel 17 = some (.ifCond .eq (39), 56, 0) := rfl
theorem gMo_kernel_20 : fMo_kernel 20 = some (.iload_n 2, 0, 0) := rfl
theorem gMo_kernel_21 : fMo_kernel 21 = some (.aload_n 0, 0, 0) := rfl
theorem gMo_kernel_22 : fMo_kernel 22 = some (.getfield 34, 6, 16) := rfl
theorem gMo_kernel_25 : fMo_kernel 25 = some (.bipush (16), 0, 0) := rfl
theorem gMo_kernel_27 : fMo_kernel 27 = some (.iload_n 1, 0, 0) := rfl
theorem gMo_kernel_28 : fMo_kernel 28 = some (.imul, 0, 0) := rfl
theorem gMo_kernel_29 : fMo_kernel 29 = some (.iload_n 3, 0, 0) := rfl
theorem gMo_kernel_30 : fMo_kernel 30 = some (.iadd, 0, 0) := rfl
theorem gMo_kernel_31 : fMo_kernel 31 = some (.iaload, 0, 0) := rfl
theorem gMo_kernel_32 : fMo_kernel 32 = some (.aload_n 0, 0, 0) := rfl
theorem gMo_kernel_33 : fMo_kernel 33 = some (.getfield 31, 6, 15) := rfl
theorem gMo_kernel_36 : fMo_kernel 36 = some (.iload_n 1, 0, 0) := rfl
theorem gMo_kernel_37 : fMo_kernel 37 = some (.iaload, 0, 0) := rfl
theorem gMo_kernel_38 : fMo_kernel 38 = some (.if_icmp .ne (9), 47, 0) := rfl
theorem gMo_kernel_41 : fMo_kernel 41 = some (.iconst 1, 0, 0) := rfl
theorem gMo_kernel_42 : fMo_kernel 42 = some (.iload_n 3, 0, 0) := rfl
theorem gMo_kernel_43 : fMo_kernel 43 = some (.ishl, 0, 0) := rfl
theorem gMo_kernel_44 : fMo_kernel 44 = some (.goto (4), 48, 0) := rfl
theorem gMo_kernel_47 : fMo_kernel 47 = some (.iconst 0, 0, 0) := rfl
theorem gMo_kernel_48 : fMo_kernel 48 = some (.iadd, 0, 0) := rfl
theorem gMo_kernel_49 : fMo_kernel 49 = some (.istore_n 2, 0, 0) := rfl
theorem gMo_kernel_50 : fMo_kernel 50 = some (.iinc 3 (1), 0, 0) := rfl
theorem gMo_kernel_53 : fMo_kernel 53 = some (.goto (-49), 4, 0) := rfl
theorem gMo_kernel_56 : fMo_kernel 56 = some (.iload_n 2, 0, 0) := rfl
theorem gMo_kernel_57 : fMo_kernel 57 = some (.ireturn, 0, 0) := rfl
abbrev lMo_insert : List (Nat × Instr × Nat × Nat) := [(0, .iconst 0, 0, 0), (1, .istore_n 3, 0, 0), (2, .iload_n 3, 0, 0), (3, .iload_n 2, 0, 0), (4, .if_icmp .ge (21), 25, 0), (7, .aload_n 0, 0, 0), (8, .getfield 37, 6, 17), (11, .iload_n 3, 0, 0), (12, .iaload, 0, 0), (13, .iload_n 1, 0, 0), (14, .if_icmp .ne (5), 19, 0), (17, .iload_n 2, 0, 0), (18, .ireturn, 0, 0), (19, .iinc 3 (1), 0, 0), (22, .goto (-20), 2, 0), (25, .aload_n 0, 0, 0), (26, .getfield 37, 6, 17), (29, .iload_n 2, 0, 0), (30, .iload_n 1, 0, 0), (31, .iastore, 0, 0), (32, .iload_n 2, 0, 0), (33, .iconst 1, 0, 0), (34, .iadd, 0, 0), (35, .ireturn, 0, 0)]
def fMo_insert : sx_F := sx_tab lMo_insert
theorem kMo_insert : sx_chk "ClassCharactersModel" (wy yMo_insert prog_9_method_48_code 4 (some .int)) 4 prog_9_method_48_code lMo_insert = true := by decide +kernel
theorem gMo_insert_0 : fMo_insert 0 = some (.iconst 0, 0, 0) := rfl
theorem gMo_insert_1 : fMo_insert 1 = some (.istore_n 3, 0, 0) := rfl
theorem gMo_insert_2 : fMo_insert 2 = some (.iload_n 3, 0, 0) := rfl
theorem gMo_insert_3 : fMo_insert 3 = some (.iload_n 2, 0, 0) := rfl
theorem gMo_insert_4 : fMo_insert 4 = some (.if_icmp .ge (21), 25, 0) := rfl
theorem gMo_insert_7 : fMo_insert 7 = some (.aload_n 0, 0, 0) := rfl
theorem gMo_insert_8 : fMo_insert 8 = some (.getfield 37, 6, 17) := rfl
theorem gMo_insert_11 : fMo_insert 11 = some (.iload_n 3, 0, 0) := rfl
theorem gMo_insert_12 : fMo_insert 12 = some (.iaload, 0, 0) := rfl
theorem gMo_insert_13 : fMo_insert 13 = some (.iload_n 1, 0, 0) := rfl
theorem gMo_insert_14 : fMo_insert 14 = some (.if_icmp .ne (5), 19, 0) := rfl
theorem gMo_insert_17 : fMo_insert 17 = some (.iload_n 2, 0, 0) := rfl
theorem gMo_insert_18 : fMo_insert 18 = some (.ireturn, 0, 0) := rfl
theorem gMo_insert_19 : fMo_insert 19 = some (.iinc 3 (1), 0, 0) := rfl
theorem gMo_insert_22 : fMo_insert 22 = some (.goto (-20), 2, 0) := rfl
theorem gMo_insert_25 : fMo_insert 25 = some (.aload_n 0, 0, 0) := rfl
theorem gMo_insert_26 : fMo_insert 26 = some (.getfield 37, 6, 17) := rfl
theorem gMo_insert_29 : fMo_insert 29 = some (.iload_n 2, 0, 0) := rfl
theorem gMo_insert_30 : fMo_insert 30 = some (.iload_n 1, 0, 0) := rfl
theorem gMo_insert_31 : fMo_insert 31 = some (.iastore, 0, 0) := rfl
theorem gMo_insert_32 : fMo_insert 32 = some (.iload_n 2, 0, 0) := rfl
theorem gMo_insert_33 : fMo_insert 33 = some (.iconst 1, 0, 0) := rfl
theorem gMo_insert_34 : fMo_insert 34 = some (.iadd, 0, 0) := rfl
theorem gMo_insert_35 : fMo_insert 35 = some (.ireturn, 0, 0) := rfl
abbrev lMo_normals : List (Nat × Instr × Nat × Nat) := [(0, .aload_n 0, 0, 0), (1, .getfield 53, 6, 2), (4, .ifCond .ne (5), 9, 0), (7, .iconst 0, 0, 0), (8, .ireturn, 0, 0), (9, .iconst 0, 0, 0), (10, .istore_n 1, 0, 0), (11, .iconst 0, 0, 0), (12, .istore_n 2, 0, 0), (13, .iload_n 2, 0, 0), (14, .aload_n 0, 0, 0), (15, .getfield 68, 6, 6), (18, .if_icmp .ge (20), 38, 0), (21, .aload_n 0, 0, 0), (22, .aload_n 0, 0, 0), (23, .iload_n 2, 0, 0), (24, .invokevirtual 160, 68, 0), (27, .iload_n 1, 0, 0), (28, .invokevirtual 163, 69, 0), (31, .istore_n 1, 0, 0), (32, .iinc 2 (1), 0, 0), (35, .goto (-22), 13, 0), (38, .iconst 0, 0, 0), (39, .istore_n 2, 0, 0), (40, .iload_n 2, 0, 0), (41, .iload_n 1, 0, 0), (42, .if_icmp .ge (55), 97, 0), (45, .iload_n 1, 0, 0), (46, .sipush (190), 0, 0), (49, .if_icmp .ge (48), 97, 0), (52, .iconst 0, 0, 0), (53, .istore_n 3, 0, 0), (54, .iload_n 3, 0, 0), (55, .iload_n 2, 0, 0), (56, .if_icmp .ge (35), 91, 0), (59, .iload_n 1, 0, 0), (60, .sipush (190), 0, 0), (63, .if_icmp .ge (28), 91, 0), (66, .aload_n 0, 0, 0), (67, .aload_n 0, 0, 0), (68, .getfield 37, 6, 17), (71, .iload_n 2, 0, 0), (72, .iaload, 0, 0), (73, .aload_n 0, 0, 0), (74, .getfield 37, 6, 17), (77, .iload_n 3, 0, 0), (78, .iaload, 0, 0), (79, .iand, 0, 0), (80, .iload_n 1, 0, 0), (81, .invokevirtual 163, 69, 0), (84, .istore_n 1, 0, 0), (85, .iinc 3 (1), 0, 0), (88, .goto (-34), 54, 0), (91, .iinc 2 (1), 0, 0), (94, .goto (-54), 40, 0), (97, .iload_n 1, 0, 0), (98, .ireturn, 0, 0)]
def fMo_normals : sx_F := sx_tab lMo_normals
theorem kMo_normals : sx_chk "ClassCharactersModel" (wy yMo_normals prog_9_method_49_code 4 (some .int)) 4 prog_9_method_49_code lMo_normals = true := by decide +kernel
theorem gMo_normals_0 : fMo_normals 0 = some (.aload_n 0, 0, 0) := rfl
theorem gMo_normals_1 : fMo_normals 1 = some (.getfield 53, 6, 2) := rfl
theorem gMo_normals_4 : fMo_normals 4 = some (.ifCond .ne (5), 9, 0) := rfl
theorem gMo_normals_7 : fMo_normals 7 = some (.iconst 0, 0, 0) := rfl
theorem gMo_normals_8 : fMo_normals 8 = some (.ireturn, 0, 0) := rfl
theorem gMo_normals_9 : fMo_normals 9 = some (.iconst 0, 0, 0) := rfl
theorem gMo_normals_10 : fMo_normals 10 = some (.istore_n 1, 0, 0) := rfl
theorem gMo_normals_11 : fMo_normals 11 = some (.iconst 0, 0, 0) := rfl
theorem gMo_normals_12 : fMo_normals 12 = some (.istore_n 2, 0, 0) := rfl
theorem gMo_normals_13 : fMo_normals 13 = some (.iload_n 2, 0, 0) := rfl
theorem gMo_normals_14 : fMo_normals 14 = some (.aload_n 0, 0, 0) := rfl
theorem gMo_normals_15 : fMo_normals 15 = some (.getfield 68, 6, 6) := rfl
theorem gMo_normals_18 : fMo_normals 18 = some (.if_icmp .ge (20), 38, 0) := rfl
theorem gMo_normals_21 : fMo_normals 21 = some (.aload_n 0, 0, 0) := rfl
theorem gMo_normals_22 : fMo_normals 22 = some (.aload_n 0, 0, 0) := rfl
theorem gMo_normals_23 : fMo_normals 23 = some (.iload_n 2, 0, 0) := rfl
theorem gMo_normals_24 : fMo_normals 24 = some (.invokevirtual 160, 68, 0) := rfl
theorem gMo_normals_27 : fMo_normals 27 = some (.iload_n 1, 0, 0) := rfl
theorem gMo_normals_28 : fMo_normals 28 = some (.invokevirtual 163, 69, 0) := rfl
theorem gMo_normals_31 : fMo_normals 31 = some (.istore_n 1, 0, 0) := rfl
theorem gMo_normals_32 : fMo_normals 32 = some (.iinc 2 (1), 0, 0) := rfl
theorem gMo_normals_35 : fMo_normals 35 = some (.goto (-22), 13, 0) := rfl
theorem gMo_normals_38 : fMo_normals 38 = some (.iconst 0, 0, 0) := rfl
theorem gMo_normals_39 : fMo_normals 39 = some (.istore_n 2, 0, 0) := rfl
theorem gMo_normals_40 : fMo_normals 40 = some (.iload_n 2, 0, 0) := rfl
theorem gMo_normals_41 : fMo_normals 41 = some (.iload_n 1, 0, 0) := rfl
theorem gMo_normals_42 : fMo_normals 42 = some (.if_icmp .ge (55), 97, 0) := rfl
theorem gMo_normals_45 : fMo_normals 45 = some (.iload_n 1, 0, 0) := rfl
theorem gMo_normals_46 : fMo_normals 46 = some (.sipush (190), 0, 0) := rfl
theorem gMo_normals_49 : fMo_normals 49 = some (.if_icmp .ge (48), 97, 0) := rfl
theorem gMo_normals_52 : fMo_normals 52 = some (.iconst 0, 0, 0) := rfl
theorem gMo_normals_53 : fMo_normals 53 = some (.istore_n 3, 0, 0) := rfl
theorem gMo_normals_54 : fMo_normals 54 = some (.iload_n 3, 0, 0) := rfl
theorem gMo_normals_55 : fMo_normals 55 = some (.iload_n 2, 0, 0) := rfl
theorem gMo_normals_56 : fMo_normals 56 = some (.if_icmp .ge (35), 91, 0) := rfl
theorem gMo_normals_59 : fMo_normals 59 = some (.iload_n 1, 0, 0) := rfl
theorem gMo_normals_60 : fMo_normals 60 = some (.sipush (190), 0, 0) := rfl
theorem gMo_normals_63 : fMo_normals 63 = some (.if_icmp .ge (28), 91, 0) := rfl
theorem gMo_normals_66 : fMo_normals 66 = some (.aload_n 0, 0, 0) := rfl
theorem gMo_normals_67 : fMo_normals 67 = some (.aload_n 0, 0, 0) := rfl
theorem gMo_normals_68 : fMo_normals 68 = some (.getfield 37, 6, 17) := rfl
theorem gMo_normals_71 : fMo_normals 71 = some (.iload_n 2, 0, 0) := rfl
theorem gMo_normals_72 : fMo_normals 72 = some (.iaload, 0, 0) := rfl
theorem gMo_normals_73 : fMo_normals 73 = some (.aload_n 0, 0, 0) := rfl
theorem gMo_normals_74 : fMo_normals 74 = some (.getfield 37, 6, 17) := rfl
theorem gMo_normals_77 : fMo_normals 77 = some (.iload_n 3, 0, 0) := rfl
theorem gMo_normals_78 : fMo_normals 78 = some (.iaload, 0, 0) := rfl
theorem gMo_normals_79 : fMo_normals 79 = some (.iand, 0, 0) := rfl
theorem gMo_normals_80 : fMo_normals 80 = some (.iload_n 1, 0, 0) := rfl
theorem gMo_normals_81 : fMo_normals 81 = some (.invokevirtual 163, 69, 0) := rfl
theorem gMo_normals_84 : fMo_normals 84 = some (.istore_n 1, 0, 0) := rfl
theorem gMo_normals_85 : fMo_normals 85 = some (.iinc 3 (1), 0, 0) := rfl
theorem gMo_normals_88 : fMo_normals 88 = some (.goto (-34), 54, 0) := rfl
theorem gMo_normals_91 : fMo_normals 91 = some (.iinc 2 (1), 0, 0) := rfl
theorem gMo_normals_94 : fMo_normals 94 = some (.goto (-54), 40, 0) := rfl
theorem gMo_normals_97 : fMo_normals 97 = some (.iload_n 1, 0, 0) := rfl
theorem gMo_normals_98 : fMo_normals 98 = some (.ireturn, 0, 0) := rfl
