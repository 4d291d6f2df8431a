noncomputable def dTL_below_0 : List (Nat × Instr × Nat) := [(0, .iload_n 0, 1), (1, .ldc 7, 2), (3, .iand, 1), (4, .iload_n 1, 1), (5, .irem, 1), (6, .ireturn, 1)]
theorem dTL_below_0_ok : ∀ (k : Nat) (q : Nat × Instr × Nat), dTL_below_0[k]? = some q → decode cL_below q.1 = .ok q.2 := dT_of (by decide +kernel)
theorem dL_below_0 : decode cL_below 0 = .ok (.iload_n 0, 1) := dTL_below_0_ok 0 (0, .iload_n 0, 1) rfl
theorem dL_below_1 : decode cL_below 1 = .ok (.ldc 7, 2) := dTL_below_0_ok 1 (1, .ldc 7, 2) rfl
theorem dL_below_3 : decode cL_below 3 = .ok (.iand, 1) := dTL_below_0_ok 2 (3, .iand, 1) rfl
theorem dL_below_4 : decode cL_below 4 = .ok (.iload_n 1, 1) := dTL_below_0_ok 3 (4, .iload_n 1, 1) rfl
theorem dL_below_5 : decode cL_below 5 = .ok (.irem, 1) := dTL_below_0_ok 4 (5, .irem, 1) rfl
theorem dL_below_6 : decode cL_below 6 = .ok (.ireturn, 1) := dTL_below_0_ok 5 (6, .ireturn, 1) rfl
noncomputable def dTL_cell_0 : List (Nat × Instr × Nat) := [(0, .iload_n 1, 1), (1, .aload_n 0, 1), (2, .arraylength, 1), (3, .if_icmp .ge 9, 3), (6, .aload_n 0, 1), (7, .iload_n 1, 1), (8, .iaload, 1), (9, .goto 9, 3), (12, .ldc 8, 2), (14, .iload_n 1, 1), (15, .iconst 3, 1), (16, .iadd, 1), (17, .imul, 1), (18, .ireturn, 1)]
theorem dTL_cell_0_ok : ∀ (k : Nat) (q : Nat × Instr × Nat), dTL_cell_0[k]? = some q → decode cL_cell q.1 = .ok q.2 := dT_of (by decide +kernel)
theorem dL_cell_0 : decode cL_cell 0 = .ok (.iload_n 1, 1) := dTL_cell_0_ok 0 (0, .iload_n 1, 1) rfl
theorem dL_cell_1 : decode cL_cell 1 = .ok (.aload_n 0, 1) := dTL_cell_0_ok 1 (1, .aload_n 0, 1) rfl
theorem dL_cell_2 : decode cL_cell 2 = .ok (.arraylength, 1) := dTL_cell_0_ok 2 (2, .arraylength, 1) rfl
theorem dL_cell_3 : decode cL_cell 3 = .ok (.if_icmp .ge 9, 3) := dTL_cell_0_ok 3 (3, .if_icmp .ge 9, 3) rfl
theorem dL_cell_6 : decode cL_cell 6 = .ok (.aload_n 0, 1) := dTL_cell_0_ok 4 (6, .aload_n 0, 1) rfl
theorem dL_cell_7 : decode cL_cell 7 = .ok (.iload_n 1, 1) := dTL_cell_0_ok 5 (7, .iload_n 1, 1) rfl
theorem dL_cell_8 : decode cL_cell 8 = .ok (.iaload, 1) := dTL_cell_0_ok 6 (8, .iaload, 1) rfl
theorem dL_cell_9 : decode cL_cell 9 = .ok (.goto 9, 3) := dTL_cell_0_ok 7 (9, .goto 9, 3) rfl
theorem dL_cell_12 : decode cL_cell 12 = .ok (.ldc 8, 2) := dTL_cell_0_ok 8 (12, .ldc 8, 2) rfl
theorem dL_cell_14 : decode cL_cell 14 = .ok (.iload_n 1, 1) := dTL_cell_0_ok 9 (14, .iload_n 1, 1) rfl
theorem dL_cell_15 : decode cL_cell 15 = .ok (.iconst 3, 1) := dTL_cell_0_ok 10 (15, .iconst 3, 1) rfl
theorem dL_cell_16 : decode cL_cell 16 = .ok (.iadd, 1) := dTL_cell_0_ok 11 (16, .iadd, 1) rfl
theorem dL_cell_17 : decode cL_cell 17 = .ok (.imul, 1) := dTL_cell_0_ok 12 (17, .imul, 1) rfl
theorem dL_cell_18 : decode cL_cell 18 = .ok (.ireturn, 1) := dTL_cell_0_ok 13 (18, .ireturn, 1) rfl
noncomputable def dTL_act_0 : List (Nat × Instr × Nat) := [(0, .iload_n 2, 1), (1, .bipush 9, 2), (3, .invokestatic 9, 3), (6, .istore_n 3, 1), (7, .iload_n 2, 1), (8, .iconst 3, 1), (9, .ishr, 1), (10, .bipush 7, 2), (12, .invokestatic 9, 3), (15, .istore 4, 2), (17, .aload_n 1, 1), (18, .getfield 15, 3), (21, .arraylength, 1), (22, .istore 5, 2), (24, .aload_n 1, 1), (25, .getfield 21, 3), (28, .iload_n 3, 1), (29, .aaload, 1), (30, .iload 4, 2), (32, .iaload, 1), (33, .istore 6, 2), (35, .iload_n 2, 1), (36, .bipush 9, 2), (38, .ishr, 1), (39, .bipush 14, 2), (41, .invokestatic 9, 3), (44, .tableswitch 748 0 11 #[64, 64, 64, 64, 135, 135, 221, 307, 355, 420, 491, 636], 64), (108, .iload_n 2, 1), (109, .iconst 2, 1), (110, .ishr, 1), (111, .iconst 4, 1), (112, .invokestatic 9, 3), (115, .istore 7, 2), (117, .iload_n 3, 1), (118, .iload 7, 2), (120, .invokestatic 25, 3), (123, .iadd, 1), (124, .iload 4, 2), (126, .iload 7, 2), (128, .invokestatic 29, 3), (131, .iadd, 1), (132, .invokestatic 32, 3), (135, .ifCond .ne 5, 3), (138, .iconst 1, 1), (139, .ireturn, 1), (140, .aload_n 1, 1), (141, .iload_n 3, 1), (142, .iload 4, 2), (144, .iload 7, 2), (146, .invokevirtual 36, 3), (149, .aload_n 0, 1), (150, .iload_n 3, 1), (151, .iload 4, 2), (153, .iload 7, 2), (155, .invokevirtual 40, 3), (158, .aload_n 1, 1), (159, .getfield 46, 3), (162, .iload_n 3, 1), (163, .aaload, 1), (164, .iload 4, 2)]
theorem dTL_act_0_ok : ∀ (k : Nat) (q : Nat × Instr × Nat), dTL_act_0[k]? = some q → decode cL_act q.1 = .ok q.2 := dT_of (by decide +kernel)
theorem dL_act_0 : decode cL_act 0 = .ok (.iload_n 2, 1) := dTL_act_0_ok 0 (0, .iload_n 2, 1) rfl
theorem dL_act_1 : decode cL_act 1 = .ok (.bipush 9, 2) := dTL_act_0_ok 1 (1, .bipush 9, 2) rfl
theorem dL_act_3 : decode cL_act 3 = .ok (.invokestatic 9, 3) := dTL_act_0_ok 2 (3, .invokestatic 9, 3) rfl
theorem dL_act_6 : decode cL_act 6 = .ok (.istore_n 3, 1) := dTL_act_0_ok 3 (6, .istore_n 3, 1) rfl
theorem dL_act_7 : decode cL_act 7 = .ok (.iload_n 2, 1) := dTL_act_0_ok 4 (7, .iload_n 2, 1) rfl
theorem dL_act_8 : decode cL_act 8 = .ok (.iconst 3, 1) := dTL_act_0_ok 5 (8, .iconst 3, 1) rfl
theorem dL_act_9 : decode cL_act 9 = .ok (.ishr, 1) := dTL_act_0_ok 6 (9, .ishr, 1) rfl
theorem dL_act_10 : decode cL_act 10 = .ok (.bipush 7, 2) := dTL_act_0_ok 7 (10, .bipush 7, 2) rfl
theorem dL_act_12 : decode cL_act 12 = .ok (.invokestatic 9, 3) := dTL_act_0_ok 8 (12, .invokestatic 9, 3) rfl
theorem dL_act_15 : decode cL_act 15 = .ok (.istore 4, 2) := dTL_act_0_ok 9 (15, .istore 4, 2) rfl
theorem dL_act_17 : decode cL_act 17 = .ok (.aload_n 1, 1) := dTL_act_0_ok 10 (17, .aload_n 1, 1) rfl
theorem dL_act_18 : decode cL_act 18 = .ok (.getfield 15, 3) := dTL_act_0_ok 11 (18, .getfield 15, 3) rfl
theorem dL_act_21 : decode cL_act 21 = .ok (.arraylength, 1) := dTL_act_0_ok 12 (21, .arraylength, 1) rfl
theorem dL_act_22 : decode cL_act 22 = .ok (.istore 5, 2) := dTL_act_0_ok 13 (22, .istore 5, 2) rfl
theorem dL_act_24 : decode cL_act 24 = .ok (.aload_n 1, 1) := dTL_act_0_ok 14 (24, .aload_n 1, 1) rfl
theorem dL_act_25 : decode cL_act 25 = .ok (.getfield 21, 3) := dTL_act_0_ok 15 (25, .getfield 21, 3) rfl
theorem dL_act_28 : decode cL_act 28 = .ok (.iload_n 3, 1) := dTL_act_0_ok 16 (28, .iload_n 3, 1) rfl
theorem dL_act_29 : decode cL_act 29 = .ok (.aaload, 1) := dTL_act_0_ok 17 (29, .aaload, 1) rfl
theorem dL_act_30 : decode cL_act 30 = .ok (.iload 4, 2) := dTL_act_0_ok 18 (30, .iload 4, 2) rfl
theorem dL_act_32 : decode cL_act 32 = .ok (.iaload, 1) := dTL_act_0_ok 19 (32, .iaload, 1) rfl
theorem dL_act_33 : decode cL_act 33 = .ok (.istore 6, 2) := dTL_act_0_ok 20 (33, .istore 6, 2) rfl
theorem dL_act_35 : decode cL_act 35 = .ok (.iload_n 2, 1) := dTL_act_0_ok 21 (35, .iload_n 2, 1) rfl
theorem dL_act_36 : decode cL_act 36 = .ok (.bipush 9, 2) := dTL_act_0_ok 22 (36, .bipush 9, 2) rfl
theorem dL_act_38 : decode cL_act 38 = .ok (.ishr, 1) := dTL_act_0_ok 23 (38, .ishr, 1) rfl
theorem dL_act_39 : decode cL_act 39 = .ok (.bipush 14, 2) := dTL_act_0_ok 24 (39, .bipush 14, 2) rfl
theorem dL_act_41 : decode cL_act 41 = .ok (.invokestatic 9, 3) := dTL_act_0_ok 25 (41, .invokestatic 9, 3) rfl
theorem dL_act_44 : decode cL_act 44 = .ok (.tableswitch 748 0 11 #[64, 64, 64, 64, 135, 135, 221, 307, 355, 420, 491, 636], 64) := dTL_act_0_ok 26 (44, .tableswitch 748 0 11 #[64, 64, 64, 64, 135, 135, 221, 307, 355, 420, 491, 636], 64) rfl
theorem dL_act_108 : decode cL_act 108 = .ok (.iload_n 2, 1) := dTL_act_0_ok 27 (108, .iload_n 2, 1) rfl
theorem dL_act_109 : decode cL_act 109 = .ok (.iconst 2, 1) := dTL_act_0_ok 28 (109, .iconst 2, 1) rfl
theorem dL_act_110 : decode cL_act 110 = .ok (.ishr, 1) := dTL_act_0_ok 29 (110, .ishr, 1) rfl
theorem dL_act_111 : decode cL_act 111 = .ok (.iconst 4, 1) := dTL_act_0_ok 30 (111, .iconst 4, 1) rfl
theorem dL_act_112 : decode cL_act 112 = .ok (.invokestatic 9, 3) := dTL_act_0_ok 31 (112, .invokestatic 9, 3) rfl
theorem dL_act_115 : decode cL_act 115 = .ok (.istore 7, 2) := dTL_act_0_ok 32 (115, .istore 7, 2) rfl
theorem dL_act_117 : decode cL_act 117 = .ok (.iload_n 3, 1) := dTL_act_0_ok 33 (117, .iload_n 3, 1) rfl
theorem dL_act_118 : decode cL_act 118 = .ok (.iload 7, 2) := dTL_act_0_ok 34 (118, .iload 7, 2) rfl
theorem dL_act_120 : decode cL_act 120 = .ok (.invokestatic 25, 3) := dTL_act_0_ok 35 (120, .invokestatic 25, 3) rfl
theorem dL_act_123 : decode cL_act 123 = .ok (.iadd, 1) := dTL_act_0_ok 36 (123, .iadd, 1) rfl
theorem dL_act_124 : decode cL_act 124 = .ok (.iload 4, 2) := dTL_act_0_ok 37 (124, .iload 4, 2) rfl
theorem dL_act_126 : decode cL_act 126 = .ok (.iload 7, 2) := dTL_act_0_ok 38 (126, .iload 7, 2) rfl
theorem dL_act_128 : decode cL_act 128 = .ok (.invokestatic 29, 3) := dTL_act_0_ok 39 (128, .invokestatic 29, 3) rfl
theorem dL_act_131 : decode cL_act 131 = .ok (.iadd, 1) := dTL_act_0_ok 40 (131, .iadd, 1) rfl
theorem dL_act_132 : decode cL_act 132 = .ok (.invokestatic 32, 3) := dTL_act_0_ok 41 (132, .invokestatic 32, 3) rfl
theorem dL_act_135 : decode cL_act 135 = .ok (.ifCond .ne 5, 3) := dTL_act_0_ok 42 (135, .ifCond .ne 5, 3) rfl
theorem dL_act_138 : decode cL_act 138 = .ok (.iconst 1, 1) := dTL_act_0_ok 43 (138, .iconst 1, 1) rfl
theorem dL_act_139 : decode cL_act 139 = .ok (.ireturn, 1) := dTL_act_0_ok 44 (139, .ireturn, 1) rfl
theorem dL_act_140 : decode cL_act 140 = .ok (.aload_n 1, 1) := dTL_act_0_ok 45 (140, .aload_n 1, 1) rfl
theorem dL_act_141 : decode cL_act 141 = .ok (.iload_n 3, 1) := dTL_act_0_ok 46 (141, .iload_n 3, 1) rfl
theorem dL_act_142 : decode cL_act 142 = .ok (.iload 4, 2) := dTL_act_0_ok 47 (142, .iload 4, 2) rfl
theorem dL_act_144 : decode cL_act 144 = .ok (.iload 7, 2) := dTL_act_0_ok 48 (144, .iload 7, 2) rfl
theorem dL_act_146 : decode cL_act 146 = .ok (.invokevirtual 36, 3) := dTL_act_0_ok 49 (146, .invokevirtual 36, 3) rfl
theorem dL_act_149 : decode cL_act 149 = .ok (.aload_n 0, 1) := dTL_act_0_ok 50 (149, .aload_n 0, 1) rfl
theorem dL_act_150 : decode cL_act 150 = .ok (.iload_n 3, 1) := dTL_act_0_ok 51 (150, .iload_n 3, 1) rfl
theorem dL_act_151 : decode cL_act 151 = .ok (.iload 4, 2) := dTL_act_0_ok 52 (151, .iload 4, 2) rfl
theorem dL_act_153 : decode cL_act 153 = .ok (.iload 7, 2) := dTL_act_0_ok 53 (153, .iload 7, 2) rfl
theorem dL_act_155 : decode cL_act 155 = .ok (.invokevirtual 40, 3) := dTL_act_0_ok 54 (155, .invokevirtual 40, 3) rfl
theorem dL_act_158 : decode cL_act 158 = .ok (.aload_n 1, 1) := dTL_act_0_ok 55 (158, .aload_n 1, 1) rfl
theorem dL_act_159 : decode cL_act 159 = .ok (.getfield 46, 3) := dTL_act_0_ok 56 (159, .getfield 46, 3) rfl
theorem dL_act_162 : decode cL_act 162 = .ok (.iload_n 3, 1) := dTL_act_0_ok 57 (162, .iload_n 3, 1) rfl
theorem dL_act_163 : decode cL_act 163 = .ok (.aaload, 1) := dTL_act_0_ok 58 (163, .aaload, 1) rfl
theorem dL_act_164 : decode cL_act 164 = .ok (.iload 4, 2) := dTL_act_0_ok 59 (164, .iload 4, 2) rfl
noncomputable def dTL_act_1 : List (Nat × Instr × Nat) := [(166, .aaload, 1), (167, .iload 7, 2), (169, .baload, 1), (170, .if_icmp .ne 7, 3), (173, .iconst 1, 1), (174, .goto 4, 3), (177, .iconst 0, 1), (178, .ireturn, 1), (179, .iload 6, 2), (181, .ifCond .ne 13, 3), (184, .aload_n 1, 1), (185, .iconst 1, 1), (186, .invokevirtual 50, 3), (189, .bipush 10, 2), (191, .if_icmp .ne 5, 3), (194, .iconst 1, 1), (195, .ireturn, 1), (196, .aload_n 1, 1), (197, .getfield 21, 3), (200, .iload_n 3, 1), (201, .aaload, 1), (202, .iload 4, 2), (204, .iconst 1, 1), (205, .iastore, 1), (206, .aload_n 1, 1), (207, .getfield 53, 3), (210, .iload_n 3, 1), (211, .aaload, 1), (212, .iload 4, 2), (214, .iconst 1, 1), (215, .iload_n 2, 1), (216, .iconst 4, 1), (217, .ishr, 1), (218, .bipush 60, 2), (220, .invokestatic 9, 3), (223, .iadd, 1), (224, .iastore, 1), (225, .aload_n 1, 1), (226, .getfield 56, 3), (229, .iload_n 3, 1), (230, .aaload, 1), (231, .iload 4, 2), (233, .iconst 1, 1), (234, .bastore, 1), (235, .aload_n 0, 1), (236, .iload_n 3, 1), (237, .iload 4, 2), (239, .aload_n 1, 1), (240, .getfield 53, 3), (243, .iload_n 3, 1), (244, .aaload, 1), (245, .iload 4, 2), (247, .iaload, 1), (248, .invokevirtual 60, 3), (251, .aload_n 1, 1), (252, .iconst 1, 1), (253, .invokevirtual 50, 3), (256, .if_icmp .ne 7, 3), (259, .iconst 1, 1), (260, .goto 4, 3)]
theorem dTL_act_1_ok : ∀ (k : Nat) (q : Nat × Instr × Nat), dTL_act_1[k]? = some q → decode cL_act q.1 = .ok q.2 := dT_of (by decide +kernel)
theorem dL_act_166 : decode cL_act 166 = .ok (.aaload, 1) := dTL_act_1_ok 0 (166, .aaload, 1) rfl
theorem dL_act_167 : decode cL_act 167 = .ok (.iload 7, 2) := dTL_act_1_ok 1 (167, .iload 7, 2) rfl
theorem dL_act_169 : decode cL_act 169 = .ok (.baload, 1) := dTL_act_1_ok 2 (169, .baload, 1) rfl
theorem dL_act_170 : decode cL_act 170 = .ok (.if_icmp .ne 7, 3) := dTL_act_1_ok 3 (170, .if_icmp .ne 7, 3) rfl
theorem dL_act_173 : decode cL_act 173 = .ok (.iconst 1, 1) := dTL_act_1_ok 4 (173, .iconst 1, 1) rfl
theorem dL_act_174 : decode cL_act 174 = .ok (.goto 4, 3) := dTL_act_1_ok 5 (174, .goto 4, 3) rfl
theorem dL_act_177 : decode cL_act 177 = .ok (.iconst 0, 1) := dTL_act_1_ok 6 (177, .iconst 0, 1) rfl
theorem dL_act_178 : decode cL_act 178 = .ok (.ireturn, 1) := dTL_act_1_ok 7 (178, .ireturn, 1) rfl
theorem dL_act_179 : decode cL_act 179 = .ok (.iload 6, 2) := dTL_act_1_ok 8 (179, .iload 6, 2) rfl
theorem dL_act_181 : decode cL_act 181 = .ok (.ifCond .ne 13, 3) := dTL_act_1_ok 9 (181, .ifCond .ne 13, 3) rfl
theorem dL_act_184 : decode cL_act 184 = .ok (.aload_n 1, 1) := dTL_act_1_ok 10 (184, .aload_n 1, 1) rfl
theorem dL_act_185 : decode cL_act 185 = .ok (.iconst 1, 1) := dTL_act_1_ok 11 (185, .iconst 1, 1) rfl
theorem dL_act_186 : decode cL_act 186 = .ok (.invokevirtual 50, 3) := dTL_act_1_ok 12 (186, .invokevirtual 50, 3) rfl
theorem dL_act_189 : decode cL_act 189 = .ok (.bipush 10, 2) := dTL_act_1_ok 13 (189, .bipush 10, 2) rfl
theorem dL_act_191 : decode cL_act 191 = .ok (.if_icmp .ne 5, 3) := dTL_act_1_ok 14 (191, .if_icmp .ne 5, 3) rfl
theorem dL_act_194 : decode cL_act 194 = .ok (.iconst 1, 1) := dTL_act_1_ok 15 (194, .iconst 1, 1) rfl
theorem dL_act_195 : decode cL_act 195 = .ok (.ireturn, 1) := dTL_act_1_ok 16 (195, .ireturn, 1) rfl
theorem dL_act_196 : decode cL_act 196 = .ok (.aload_n 1, 1) := dTL_act_1_ok 17 (196, .aload_n 1, 1) rfl
theorem dL_act_197 : decode cL_act 197 = .ok (.getfield 21, 3) := dTL_act_1_ok 18 (197, .getfield 21, 3) rfl
theorem dL_act_200 : decode cL_act 200 = .ok (.iload_n 3, 1) := dTL_act_1_ok 19 (200, .iload_n 3, 1) rfl
theorem dL_act_201 : decode cL_act 201 = .ok (.aaload, 1) := dTL_act_1_ok 20 (201, .aaload, 1) rfl
theorem dL_act_202 : decode cL_act 202 = .ok (.iload 4, 2) := dTL_act_1_ok 21 (202, .iload 4, 2) rfl
theorem dL_act_204 : decode cL_act 204 = .ok (.iconst 1, 1) := dTL_act_1_ok 22 (204, .iconst 1, 1) rfl
theorem dL_act_205 : decode cL_act 205 = .ok (.iastore, 1) := dTL_act_1_ok 23 (205, .iastore, 1) rfl
theorem dL_act_206 : decode cL_act 206 = .ok (.aload_n 1, 1) := dTL_act_1_ok 24 (206, .aload_n 1, 1) rfl
theorem dL_act_207 : decode cL_act 207 = .ok (.getfield 53, 3) := dTL_act_1_ok 25 (207, .getfield 53, 3) rfl
theorem dL_act_210 : decode cL_act 210 = .ok (.iload_n 3, 1) := dTL_act_1_ok 26 (210, .iload_n 3, 1) rfl
theorem dL_act_211 : decode cL_act 211 = .ok (.aaload, 1) := dTL_act_1_ok 27 (211, .aaload, 1) rfl
theorem dL_act_212 : decode cL_act 212 = .ok (.iload 4, 2) := dTL_act_1_ok 28 (212, .iload 4, 2) rfl
theorem dL_act_214 : decode cL_act 214 = .ok (.iconst 1, 1) := dTL_act_1_ok 29 (214, .iconst 1, 1) rfl
theorem dL_act_215 : decode cL_act 215 = .ok (.iload_n 2, 1) := dTL_act_1_ok 30 (215, .iload_n 2, 1) rfl
theorem dL_act_216 : decode cL_act 216 = .ok (.iconst 4, 1) := dTL_act_1_ok 31 (216, .iconst 4, 1) rfl
theorem dL_act_217 : decode cL_act 217 = .ok (.ishr, 1) := dTL_act_1_ok 32 (217, .ishr, 1) rfl
theorem dL_act_218 : decode cL_act 218 = .ok (.bipush 60, 2) := dTL_act_1_ok 33 (218, .bipush 60, 2) rfl
theorem dL_act_220 : decode cL_act 220 = .ok (.invokestatic 9, 3) := dTL_act_1_ok 34 (220, .invokestatic 9, 3) rfl
theorem dL_act_223 : decode cL_act 223 = .ok (.iadd, 1) := dTL_act_1_ok 35 (223, .iadd, 1) rfl
theorem dL_act_224 : decode cL_act 224 = .ok (.iastore, 1) := dTL_act_1_ok 36 (224, .iastore, 1) rfl
theorem dL_act_225 : decode cL_act 225 = .ok (.aload_n 1, 1) := dTL_act_1_ok 37 (225, .aload_n 1, 1) rfl
theorem dL_act_226 : decode cL_act 226 = .ok (.getfield 56, 3) := dTL_act_1_ok 38 (226, .getfield 56, 3) rfl
theorem dL_act_229 : decode cL_act 229 = .ok (.iload_n 3, 1) := dTL_act_1_ok 39 (229, .iload_n 3, 1) rfl
theorem dL_act_230 : decode cL_act 230 = .ok (.aaload, 1) := dTL_act_1_ok 40 (230, .aaload, 1) rfl
theorem dL_act_231 : decode cL_act 231 = .ok (.iload 4, 2) := dTL_act_1_ok 41 (231, .iload 4, 2) rfl
theorem dL_act_233 : decode cL_act 233 = .ok (.iconst 1, 1) := dTL_act_1_ok 42 (233, .iconst 1, 1) rfl
theorem dL_act_234 : decode cL_act 234 = .ok (.bastore, 1) := dTL_act_1_ok 43 (234, .bastore, 1) rfl
theorem dL_act_235 : decode cL_act 235 = .ok (.aload_n 0, 1) := dTL_act_1_ok 44 (235, .aload_n 0, 1) rfl
theorem dL_act_236 : decode cL_act 236 = .ok (.iload_n 3, 1) := dTL_act_1_ok 45 (236, .iload_n 3, 1) rfl
theorem dL_act_237 : decode cL_act 237 = .ok (.iload 4, 2) := dTL_act_1_ok 46 (237, .iload 4, 2) rfl
theorem dL_act_239 : decode cL_act 239 = .ok (.aload_n 1, 1) := dTL_act_1_ok 47 (239, .aload_n 1, 1) rfl
theorem dL_act_240 : decode cL_act 240 = .ok (.getfield 53, 3) := dTL_act_1_ok 48 (240, .getfield 53, 3) rfl
theorem dL_act_243 : decode cL_act 243 = .ok (.iload_n 3, 1) := dTL_act_1_ok 49 (243, .iload_n 3, 1) rfl
theorem dL_act_244 : decode cL_act 244 = .ok (.aaload, 1) := dTL_act_1_ok 50 (244, .aaload, 1) rfl
theorem dL_act_245 : decode cL_act 245 = .ok (.iload 4, 2) := dTL_act_1_ok 51 (245, .iload 4, 2) rfl
theorem dL_act_247 : decode cL_act 247 = .ok (.iaload, 1) := dTL_act_1_ok 52 (247, .iaload, 1) rfl
theorem dL_act_248 : decode cL_act 248 = .ok (.invokevirtual 60, 3) := dTL_act_1_ok 53 (248, .invokevirtual 60, 3) rfl
theorem dL_act_251 : decode cL_act 251 = .ok (.aload_n 1, 1) := dTL_act_1_ok 54 (251, .aload_n 1, 1) rfl
theorem dL_act_252 : decode cL_act 252 = .ok (.iconst 1, 1) := dTL_act_1_ok 55 (252, .iconst 1, 1) rfl
theorem dL_act_253 : decode cL_act 253 = .ok (.invokevirtual 50, 3) := dTL_act_1_ok 56 (253, .invokevirtual 50, 3) rfl
theorem dL_act_256 : decode cL_act 256 = .ok (.if_icmp .ne 7, 3) := dTL_act_1_ok 57 (256, .if_icmp .ne 7, 3) rfl
theorem dL_act_259 : decode cL_act 259 = .ok (.iconst 1, 1) := dTL_act_1_ok 58 (259, .iconst 1, 1) rfl
theorem dL_act_260 : decode cL_act 260 = .ok (.goto 4, 3) := dTL_act_1_ok 59 (260, .goto 4, 3) rfl
noncomputable def dTL_act_2 : List (Nat × Instr × Nat) := [(263, .iconst 0, 1), (264, .ireturn, 1), (265, .iload 6, 2), (267, .ifCond .ne 19, 3), (270, .aload_n 1, 1), (271, .iconst 2, 1), (272, .invokevirtual 50, 3), (275, .aload_n 1, 1), (276, .iconst 3, 1), (277, .invokevirtual 50, 3), (280, .iadd, 1), (281, .bipush 10, 2), (283, .if_icmp .ne 5, 3), (286, .iconst 1, 1), (287, .ireturn, 1), (288, .aload_n 1, 1), (289, .getfield 21, 3), (292, .iload_n 3, 1), (293, .aaload, 1), (294, .iload 4, 2), (296, .iconst 2, 1), (297, .iload_n 2, 1), (298, .iconst 4, 1), (299, .ishr, 1), (300, .iconst 2, 1), (301, .invokestatic 9, 3), (304, .iadd, 1), (305, .iastore, 1), (306, .aload_n 0, 1), (307, .iload_n 3, 1), (308, .iload 4, 2), (310, .aload_n 1, 1), (311, .getfield 21, 3), (314, .iload_n 3, 1), (315, .aaload, 1), (316, .iload 4, 2), (318, .iaload, 1), (319, .iconst 2, 1), (320, .if_icmp .ne 7, 3), (323, .iconst 1, 1), (324, .goto 4, 3), (327, .iconst 0, 1), (328, .invokevirtual 64, 3), (331, .aload_n 1, 1), (332, .iconst 2, 1), (333, .invokevirtual 50, 3), (336, .aload_n 1, 1), (337, .iconst 3, 1), (338, .invokevirtual 50, 3), (341, .iadd, 1), (342, .if_icmp .ne 7, 3), (345, .iconst 1, 1), (346, .goto 4, 3), (349, .iconst 0, 1), (350, .ireturn, 1), (351, .iload 6, 2), (353, .ifCond .ne 13, 3), (356, .aload_n 1, 1), (357, .iconst 4, 1), (358, .invokevirtual 50, 3)]
theorem dTL_act_2_ok : ∀ (k : Nat) (q : Nat × Instr × Nat), dTL_act_2[k]? = some q → decode cL_act q.1 = .ok q.2 := dT_of (by decide +kernel)
theorem dL_act_263 : decode cL_act 263 = .ok (.iconst 0, 1) := dTL_act_2_ok 0 (263, .iconst 0, 1) rfl
theorem dL_act_264 : decode cL_act 264 = .ok (.ireturn, 1) := dTL_act_2_ok 1 (264, .ireturn, 1) rfl
theorem dL_act_265 : decode cL_act 265 = .ok (.iload 6, 2) := dTL_act_2_ok 2 (265, .iload 6, 2) rfl
theorem dL_act_267 : decode cL_act 267 = .ok (.ifCond .ne 19, 3) := dTL_act_2_ok 3 (267, .ifCond .ne 19, 3) rfl
theorem dL_act_270 : decode cL_act 270 = .ok (.aload_n 1, 1) := dTL_act_2_ok 4 (270, .aload_n 1, 1) rfl
theorem dL_act_271 : decode cL_act 271 = .ok (.iconst 2, 1) := dTL_act_2_ok 5 (271, .iconst 2, 1) rfl
theorem dL_act_272 : decode cL_act 272 = .ok (.invokevirtual 50, 3) := dTL_act_2_ok 6 (272, .invokevirtual 50, 3) rfl
theorem dL_act_275 : decode cL_act 275 = .ok (.aload_n 1, 1) := dTL_act_2_ok 7 (275, .aload_n 1, 1) rfl
theorem dL_act_276 : decode cL_act 276 = .ok (.iconst 3, 1) := dTL_act_2_ok 8 (276, .iconst 3, 1) rfl
theorem dL_act_277 : decode cL_act 277 = .ok (.invokevirtual 50, 3) := dTL_act_2_ok 9 (277, .invokevirtual 50, 3) rfl
theorem dL_act_280 : decode cL_act 280 = .ok (.iadd, 1) := dTL_act_2_ok 10 (280, .iadd, 1) rfl
theorem dL_act_281 : decode cL_act 281 = .ok (.bipush 10, 2) := dTL_act_2_ok 11 (281, .bipush 10, 2) rfl
theorem dL_act_283 : decode cL_act 283 = .ok (.if_icmp .ne 5, 3) := dTL_act_2_ok 12 (283, .if_icmp .ne 5, 3) rfl
theorem dL_act_286 : decode cL_act 286 = .ok (.iconst 1, 1) := dTL_act_2_ok 13 (286, .iconst 1, 1) rfl
theorem dL_act_287 : decode cL_act 287 = .ok (.ireturn, 1) := dTL_act_2_ok 14 (287, .ireturn, 1) rfl
theorem dL_act_288 : decode cL_act 288 = .ok (.aload_n 1, 1) := dTL_act_2_ok 15 (288, .aload_n 1, 1) rfl
theorem dL_act_289 : decode cL_act 289 = .ok (.getfield 21, 3) := dTL_act_2_ok 16 (289, .getfield 21, 3) rfl
theorem dL_act_292 : decode cL_act 292 = .ok (.iload_n 3, 1) := dTL_act_2_ok 17 (292, .iload_n 3, 1) rfl
theorem dL_act_293 : decode cL_act 293 = .ok (.aaload, 1) := dTL_act_2_ok 18 (293, .aaload, 1) rfl
theorem dL_act_294 : decode cL_act 294 = .ok (.iload 4, 2) := dTL_act_2_ok 19 (294, .iload 4, 2) rfl
theorem dL_act_296 : decode cL_act 296 = .ok (.iconst 2, 1) := dTL_act_2_ok 20 (296, .iconst 2, 1) rfl
theorem dL_act_297 : decode cL_act 297 = .ok (.iload_n 2, 1) := dTL_act_2_ok 21 (297, .iload_n 2, 1) rfl
theorem dL_act_298 : decode cL_act 298 = .ok (.iconst 4, 1) := dTL_act_2_ok 22 (298, .iconst 4, 1) rfl
theorem dL_act_299 : decode cL_act 299 = .ok (.ishr, 1) := dTL_act_2_ok 23 (299, .ishr, 1) rfl
theorem dL_act_300 : decode cL_act 300 = .ok (.iconst 2, 1) := dTL_act_2_ok 24 (300, .iconst 2, 1) rfl
theorem dL_act_301 : decode cL_act 301 = .ok (.invokestatic 9, 3) := dTL_act_2_ok 25 (301, .invokestatic 9, 3) rfl
theorem dL_act_304 : decode cL_act 304 = .ok (.iadd, 1) := dTL_act_2_ok 26 (304, .iadd, 1) rfl
theorem dL_act_305 : decode cL_act 305 = .ok (.iastore, 1) := dTL_act_2_ok 27 (305, .iastore, 1) rfl
theorem dL_act_306 : decode cL_act 306 = .ok (.aload_n 0, 1) := dTL_act_2_ok 28 (306, .aload_n 0, 1) rfl
theorem dL_act_307 : decode cL_act 307 = .ok (.iload_n 3, 1) := dTL_act_2_ok 29 (307, .iload_n 3, 1) rfl
theorem dL_act_308 : decode cL_act 308 = .ok (.iload 4, 2) := dTL_act_2_ok 30 (308, .iload 4, 2) rfl
theorem dL_act_310 : decode cL_act 310 = .ok (.aload_n 1, 1) := dTL_act_2_ok 31 (310, .aload_n 1, 1) rfl
theorem dL_act_311 : decode cL_act 311 = .ok (.getfield 21, 3) := dTL_act_2_ok 32 (311, .getfield 21, 3) rfl
theorem dL_act_314 : decode cL_act 314 = .ok (.iload_n 3, 1) := dTL_act_2_ok 33 (314, .iload_n 3, 1) rfl
theorem dL_act_315 : decode cL_act 315 = .ok (.aaload, 1) := dTL_act_2_ok 34 (315, .aaload, 1) rfl
theorem dL_act_316 : decode cL_act 316 = .ok (.iload 4, 2) := dTL_act_2_ok 35 (316, .iload 4, 2) rfl
theorem dL_act_318 : decode cL_act 318 = .ok (.iaload, 1) := dTL_act_2_ok 36 (318, .iaload, 1) rfl
theorem dL_act_319 : decode cL_act 319 = .ok (.iconst 2, 1) := dTL_act_2_ok 37 (319, .iconst 2, 1) rfl
theorem dL_act_320 : decode cL_act 320 = .ok (.if_icmp .ne 7, 3) := dTL_act_2_ok 38 (320, .if_icmp .ne 7, 3) rfl
theorem dL_act_323 : decode cL_act 323 = .ok (.iconst 1, 1) := dTL_act_2_ok 39 (323, .iconst 1, 1) rfl
theorem dL_act_324 : decode cL_act 324 = .ok (.goto 4, 3) := dTL_act_2_ok 40 (324, .goto 4, 3) rfl
theorem dL_act_327 : decode cL_act 327 = .ok (.iconst 0, 1) := dTL_act_2_ok 41 (327, .iconst 0, 1) rfl
theorem dL_act_328 : decode cL_act 328 = .ok (.invokevirtual 64, 3) := dTL_act_2_ok 42 (328, .invokevirtual 64, 3) rfl
theorem dL_act_331 : decode cL_act 331 = .ok (.aload_n 1, 1) := dTL_act_2_ok 43 (331, .aload_n 1, 1) rfl
theorem dL_act_332 : decode cL_act 332 = .ok (.iconst 2, 1) := dTL_act_2_ok 44 (332, .iconst 2, 1) rfl
theorem dL_act_333 : decode cL_act 333 = .ok (.invokevirtual 50, 3) := dTL_act_2_ok 45 (333, .invokevirtual 50, 3) rfl
theorem dL_act_336 : decode cL_act 336 = .ok (.aload_n 1, 1) := dTL_act_2_ok 46 (336, .aload_n 1, 1) rfl
theorem dL_act_337 : decode cL_act 337 = .ok (.iconst 3, 1) := dTL_act_2_ok 47 (337, .iconst 3, 1) rfl
theorem dL_act_338 : decode cL_act 338 = .ok (.invokevirtual 50, 3) := dTL_act_2_ok 48 (338, .invokevirtual 50, 3) rfl
theorem dL_act_341 : decode cL_act 341 = .ok (.iadd, 1) := dTL_act_2_ok 49 (341, .iadd, 1) rfl
theorem dL_act_342 : decode cL_act 342 = .ok (.if_icmp .ne 7, 3) := dTL_act_2_ok 50 (342, .if_icmp .ne 7, 3) rfl
theorem dL_act_345 : decode cL_act 345 = .ok (.iconst 1, 1) := dTL_act_2_ok 51 (345, .iconst 1, 1) rfl
theorem dL_act_346 : decode cL_act 346 = .ok (.goto 4, 3) := dTL_act_2_ok 52 (346, .goto 4, 3) rfl
theorem dL_act_349 : decode cL_act 349 = .ok (.iconst 0, 1) := dTL_act_2_ok 53 (349, .iconst 0, 1) rfl
theorem dL_act_350 : decode cL_act 350 = .ok (.ireturn, 1) := dTL_act_2_ok 54 (350, .ireturn, 1) rfl
theorem dL_act_351 : decode cL_act 351 = .ok (.iload 6, 2) := dTL_act_2_ok 55 (351, .iload 6, 2) rfl
theorem dL_act_353 : decode cL_act 353 = .ok (.ifCond .ne 13, 3) := dTL_act_2_ok 56 (353, .ifCond .ne 13, 3) rfl
theorem dL_act_356 : decode cL_act 356 = .ok (.aload_n 1, 1) := dTL_act_2_ok 57 (356, .aload_n 1, 1) rfl
theorem dL_act_357 : decode cL_act 357 = .ok (.iconst 4, 1) := dTL_act_2_ok 58 (357, .iconst 4, 1) rfl
theorem dL_act_358 : decode cL_act 358 = .ok (.invokevirtual 50, 3) := dTL_act_2_ok 59 (358, .invokevirtual 50, 3) rfl
noncomputable def dTL_act_3 : List (Nat × Instr × Nat) := [(361, .bipush 6, 2), (363, .if_icmp .ne 5, 3), (366, .iconst 1, 1), (367, .ireturn, 1), (368, .aload_n 1, 1), (369, .getfield 21, 3), (372, .iload_n 3, 1), (373, .aaload, 1), (374, .iload 4, 2), (376, .iconst 4, 1), (377, .iastore, 1), (378, .aload_n 0, 1), (379, .iload_n 3, 1), (380, .iload 4, 2), (382, .invokevirtual 68, 3), (385, .aload_n 1, 1), (386, .iconst 4, 1), (387, .invokevirtual 50, 3), (390, .if_icmp .ne 7, 3), (393, .iconst 1, 1), (394, .goto 4, 3), (397, .iconst 0, 1), (398, .ireturn, 1), (399, .iload 6, 2), (401, .ifCond .eq 13, 3), (404, .iload_n 2, 1), (405, .iconst 5, 1), (406, .ishr, 1), (407, .iconst 3, 1), (408, .invokestatic 9, 3), (411, .ifCond .le 5, 3), (414, .iconst 1, 1), (415, .ireturn, 1), (416, .aload_n 1, 1), (417, .getfield 21, 3), (420, .iload_n 3, 1), (421, .aaload, 1), (422, .iload 4, 2), (424, .iconst 0, 1), (425, .iastore, 1), (426, .aload_n 1, 1), (427, .getfield 53, 3), (430, .iload_n 3, 1), (431, .aaload, 1), (432, .iload 4, 2), (434, .iconst 0, 1), (435, .iastore, 1), (436, .aload_n 1, 1), (437, .getfield 56, 3), (440, .iload_n 3, 1), (441, .aaload, 1), (442, .iload 4, 2), (444, .iconst 0, 1), (445, .bastore, 1), (446, .aload_n 0, 1), (447, .iload_n 3, 1), (448, .iload 4, 2), (450, .invokevirtual 71, 3), (453, .iload 6, 2), (455, .if_icmp .ne 7, 3)]
theorem dTL_act_3_ok : ∀ (k : Nat) (q : Nat × Instr × Nat), dTL_act_3[k]? = some q → decode cL_act q.1 = .ok q.2 := dT_of (by decide +kernel)
theorem dL_act_361 : decode cL_act 361 = .ok (.bipush 6, 2) := dTL_act_3_ok 0 (361, .bipush 6, 2) rfl
theorem dL_act_363 : decode cL_act 363 = .ok (.if_icmp .ne 5, 3) := dTL_act_3_ok 1 (363, .if_icmp .ne 5, 3) rfl
theorem dL_act_366 : decode cL_act 366 = .ok (.iconst 1, 1) := dTL_act_3_ok 2 (366, .iconst 1, 1) rfl
theorem dL_act_367 : decode cL_act 367 = .ok (.ireturn, 1) := dTL_act_3_ok 3 (367, .ireturn, 1) rfl
theorem dL_act_368 : decode cL_act 368 = .ok (.aload_n 1, 1) := dTL_act_3_ok 4 (368, .aload_n 1, 1) rfl
theorem dL_act_369 : decode cL_act 369 = .ok (.getfield 21, 3) := dTL_act_3_ok 5 (369, .getfield 21, 3) rfl
theorem dL_act_372 : decode cL_act 372 = .ok (.iload_n 3, 1) := dTL_act_3_ok 6 (372, .iload_n 3, 1) rfl
theorem dL_act_373 : decode cL_act 373 = .ok (.aaload, 1) := dTL_act_3_ok 7 (373, .aaload, 1) rfl
theorem dL_act_374 : decode cL_act 374 = .ok (.iload 4, 2) := dTL_act_3_ok 8 (374, .iload 4, 2) rfl
theorem dL_act_376 : decode cL_act 376 = .ok (.iconst 4, 1) := dTL_act_3_ok 9 (376, .iconst 4, 1) rfl
theorem dL_act_377 : decode cL_act 377 = .ok (.iastore, 1) := dTL_act_3_ok 10 (377, .iastore, 1) rfl
theorem dL_act_378 : decode cL_act 378 = .ok (.aload_n 0, 1) := dTL_act_3_ok 11 (378, .aload_n 0, 1) rfl
theorem dL_act_379 : decode cL_act 379 = .ok (.iload_n 3, 1) := dTL_act_3_ok 12 (379, .iload_n 3, 1) rfl
theorem dL_act_380 : decode cL_act 380 = .ok (.iload 4, 2) := dTL_act_3_ok 13 (380, .iload 4, 2) rfl
theorem dL_act_382 : decode cL_act 382 = .ok (.invokevirtual 68, 3) := dTL_act_3_ok 14 (382, .invokevirtual 68, 3) rfl
theorem dL_act_385 : decode cL_act 385 = .ok (.aload_n 1, 1) := dTL_act_3_ok 15 (385, .aload_n 1, 1) rfl
theorem dL_act_386 : decode cL_act 386 = .ok (.iconst 4, 1) := dTL_act_3_ok 16 (386, .iconst 4, 1) rfl
theorem dL_act_387 : decode cL_act 387 = .ok (.invokevirtual 50, 3) := dTL_act_3_ok 17 (387, .invokevirtual 50, 3) rfl
theorem dL_act_390 : decode cL_act 390 = .ok (.if_icmp .ne 7, 3) := dTL_act_3_ok 18 (390, .if_icmp .ne 7, 3) rfl
theorem dL_act_393 : decode cL_act 393 = .ok (.iconst 1, 1) := dTL_act_3_ok 19 (393, .iconst 1, 1) rfl
theorem dL_act_394 : decode cL_act 394 = .ok (.goto 4, 3) := dTL_act_3_ok 20 (394, .goto 4, 3) rfl
theorem dL_act_397 : decode cL_act 397 = .ok (.iconst 0, 1) := dTL_act_3_ok 21 (397, .iconst 0, 1) rfl
theorem dL_act_398 : decode cL_act 398 = .ok (.ireturn, 1) := dTL_act_3_ok 22 (398, .ireturn, 1) rfl
theorem dL_act_399 : decode cL_act 399 = .ok (.iload 6, 2) := dTL_act_3_ok 23 (399, .iload 6, 2) rfl
theorem dL_act_401 : decode cL_act 401 = .ok (.ifCond .eq 13, 3) := dTL_act_3_ok 24 (401, .ifCond .eq 13, 3) rfl
theorem dL_act_404 : decode cL_act 404 = .ok (.iload_n 2, 1) := dTL_act_3_ok 25 (404, .iload_n 2, 1) rfl
theorem dL_act_405 : decode cL_act 405 = .ok (.iconst 5, 1) := dTL_act_3_ok 26 (405, .iconst 5, 1) rfl
theorem dL_act_406 : decode cL_act 406 = .ok (.ishr, 1) := dTL_act_3_ok 27 (406, .ishr, 1) rfl
theorem dL_act_407 : decode cL_act 407 = .ok (.iconst 3, 1) := dTL_act_3_ok 28 (407, .iconst 3, 1) rfl
theorem dL_act_408 : decode cL_act 408 = .ok (.invokestatic 9, 3) := dTL_act_3_ok 29 (408, .invokestatic 9, 3) rfl
theorem dL_act_411 : decode cL_act 411 = .ok (.ifCond .le 5, 3) := dTL_act_3_ok 30 (411, .ifCond .le 5, 3) rfl
theorem dL_act_414 : decode cL_act 414 = .ok (.iconst 1, 1) := dTL_act_3_ok 31 (414, .iconst 1, 1) rfl
theorem dL_act_415 : decode cL_act 415 = .ok (.ireturn, 1) := dTL_act_3_ok 32 (415, .ireturn, 1) rfl
theorem dL_act_416 : decode cL_act 416 = .ok (.aload_n 1, 1) := dTL_act_3_ok 33 (416, .aload_n 1, 1) rfl
theorem dL_act_417 : decode cL_act 417 = .ok (.getfield 21, 3) := dTL_act_3_ok 34 (417, .getfield 21, 3) rfl
theorem dL_act_420 : decode cL_act 420 = .ok (.iload_n 3, 1) := dTL_act_3_ok 35 (420, .iload_n 3, 1) rfl
theorem dL_act_421 : decode cL_act 421 = .ok (.aaload, 1) := dTL_act_3_ok 36 (421, .aaload, 1) rfl
theorem dL_act_422 : decode cL_act 422 = .ok (.iload 4, 2) := dTL_act_3_ok 37 (422, .iload 4, 2) rfl
theorem dL_act_424 : decode cL_act 424 = .ok (.iconst 0, 1) := dTL_act_3_ok 38 (424, .iconst 0, 1) rfl
theorem dL_act_425 : decode cL_act 425 = .ok (.iastore, 1) := dTL_act_3_ok 39 (425, .iastore, 1) rfl
theorem dL_act_426 : decode cL_act 426 = .ok (.aload_n 1, 1) := dTL_act_3_ok 40 (426, .aload_n 1, 1) rfl
theorem dL_act_427 : decode cL_act 427 = .ok (.getfield 53, 3) := dTL_act_3_ok 41 (427, .getfield 53, 3) rfl
theorem dL_act_430 : decode cL_act 430 = .ok (.iload_n 3, 1) := dTL_act_3_ok 42 (430, .iload_n 3, 1) rfl
theorem dL_act_431 : decode cL_act 431 = .ok (.aaload, 1) := dTL_act_3_ok 43 (431, .aaload, 1) rfl
theorem dL_act_432 : decode cL_act 432 = .ok (.iload 4, 2) := dTL_act_3_ok 44 (432, .iload 4, 2) rfl
theorem dL_act_434 : decode cL_act 434 = .ok (.iconst 0, 1) := dTL_act_3_ok 45 (434, .iconst 0, 1) rfl
theorem dL_act_435 : decode cL_act 435 = .ok (.iastore, 1) := dTL_act_3_ok 46 (435, .iastore, 1) rfl
theorem dL_act_436 : decode cL_act 436 = .ok (.aload_n 1, 1) := dTL_act_3_ok 47 (436, .aload_n 1, 1) rfl
theorem dL_act_437 : decode cL_act 437 = .ok (.getfield 56, 3) := dTL_act_3_ok 48 (437, .getfield 56, 3) rfl
theorem dL_act_440 : decode cL_act 440 = .ok (.iload_n 3, 1) := dTL_act_3_ok 49 (440, .iload_n 3, 1) rfl
theorem dL_act_441 : decode cL_act 441 = .ok (.aaload, 1) := dTL_act_3_ok 50 (441, .aaload, 1) rfl
theorem dL_act_442 : decode cL_act 442 = .ok (.iload 4, 2) := dTL_act_3_ok 51 (442, .iload 4, 2) rfl
theorem dL_act_444 : decode cL_act 444 = .ok (.iconst 0, 1) := dTL_act_3_ok 52 (444, .iconst 0, 1) rfl
theorem dL_act_445 : decode cL_act 445 = .ok (.bastore, 1) := dTL_act_3_ok 53 (445, .bastore, 1) rfl
theorem dL_act_446 : decode cL_act 446 = .ok (.aload_n 0, 1) := dTL_act_3_ok 54 (446, .aload_n 0, 1) rfl
theorem dL_act_447 : decode cL_act 447 = .ok (.iload_n 3, 1) := dTL_act_3_ok 55 (447, .iload_n 3, 1) rfl
theorem dL_act_448 : decode cL_act 448 = .ok (.iload 4, 2) := dTL_act_3_ok 56 (448, .iload 4, 2) rfl
theorem dL_act_450 : decode cL_act 450 = .ok (.invokevirtual 71, 3) := dTL_act_3_ok 57 (450, .invokevirtual 71, 3) rfl
theorem dL_act_453 : decode cL_act 453 = .ok (.iload 6, 2) := dTL_act_3_ok 58 (453, .iload 6, 2) rfl
theorem dL_act_455 : decode cL_act 455 = .ok (.if_icmp .ne 7, 3) := dTL_act_3_ok 59 (455, .if_icmp .ne 7, 3) rfl
noncomputable def dTL_act_4 : List (Nat × Instr × Nat) := [(458, .iconst 1, 1), (459, .goto 4, 3), (462, .iconst 0, 1), (463, .ireturn, 1), (464, .iload 6, 2), (466, .iconst 1, 1), (467, .if_icmp .ne 15, 3), (470, .aload_n 1, 1), (471, .getfield 53, 3), (474, .iload_n 3, 1), (475, .aaload, 1), (476, .iload 4, 2), (478, .iaload, 1), (479, .ifCond .ne 5, 3), (482, .iconst 1, 1), (483, .ireturn, 1), (484, .aload_n 1, 1), (485, .getfield 56, 3), (488, .iload_n 3, 1), (489, .aaload, 1), (490, .iload 4, 2), (492, .aload_n 1, 1), (493, .getfield 56, 3), (496, .iload_n 3, 1), (497, .aaload, 1), (498, .iload 4, 2), (500, .baload, 1), (501, .ifCond .ne 7, 3), (504, .iconst 1, 1), (505, .goto 4, 3), (508, .iconst 0, 1), (509, .bastore, 1), (510, .aload_n 0, 1), (511, .iload_n 3, 1), (512, .iload 4, 2), (514, .invokevirtual 74, 3), (517, .aload_n 1, 1), (518, .getfield 56, 3), (521, .iload_n 3, 1), (522, .aaload, 1), (523, .iload 4, 2), (525, .baload, 1), (526, .if_icmp .ne 7, 3), (529, .iconst 1, 1), (530, .goto 4, 3), (533, .iconst 0, 1), (534, .ireturn, 1), (535, .iload 5, 2), (537, .bipush 6, 2), (539, .if_icmp .ne 5, 3), (542, .iconst 1, 1), (543, .ireturn, 1), (544, .iload 5, 2), (546, .iconst 1, 1), (547, .iadd, 1), (548, .anewarray 77, 3), (551, .astore 8, 2), (553, .iconst 0, 1), (554, .istore 9, 2), (556, .iload 9, 2)]
theorem dTL_act_4_ok : ∀ (k : Nat) (q : Nat × Instr × Nat), dTL_act_4[k]? = some q → decode cL_act q.1 = .ok q.2 := dT_of (by decide +kernel)
theorem dL_act_458 : decode cL_act 458 = .ok (.iconst 1, 1) := dTL_act_4_ok 0 (458, .iconst 1, 1) rfl
theorem dL_act_459 : decode cL_act 459 = .ok (.goto 4, 3) := dTL_act_4_ok 1 (459, .goto 4, 3) rfl
theorem dL_act_462 : decode cL_act 462 = .ok (.iconst 0, 1) := dTL_act_4_ok 2 (462, .iconst 0, 1) rfl
theorem dL_act_463 : decode cL_act 463 = .ok (.ireturn, 1) := dTL_act_4_ok 3 (463, .ireturn, 1) rfl
theorem dL_act_464 : decode cL_act 464 = .ok (.iload 6, 2) := dTL_act_4_ok 4 (464, .iload 6, 2) rfl
theorem dL_act_466 : decode cL_act 466 = .ok (.iconst 1, 1) := dTL_act_4_ok 5 (466, .iconst 1, 1) rfl
theorem dL_act_467 : decode cL_act 467 = .ok (.if_icmp .ne 15, 3) := dTL_act_4_ok 6 (467, .if_icmp .ne 15, 3) rfl
theorem dL_act_470 : decode cL_act 470 = .ok (.aload_n 1, 1) := dTL_act_4_ok 7 (470, .aload_n 1, 1) rfl
theorem dL_act_471 : decode cL_act 471 = .ok (.getfield 53, 3) := dTL_act_4_ok 8 (471, .getfield 53, 3) rfl
theorem dL_act_474 : decode cL_act 474 = .ok (.iload_n 3, 1) := dTL_act_4_ok 9 (474, .iload_n 3, 1) rfl
theorem dL_act_475 : decode cL_act 475 = .ok (.aaload, 1) := dTL_act_4_ok 10 (475, .aaload, 1) rfl
theorem dL_act_476 : decode cL_act 476 = .ok (.iload 4, 2) := dTL_act_4_ok 11 (476, .iload 4, 2) rfl
theorem dL_act_478 : decode cL_act 478 = .ok (.iaload, 1) := dTL_act_4_ok 12 (478, .iaload, 1) rfl
theorem dL_act_479 : decode cL_act 479 = .ok (.ifCond .ne 5, 3) := dTL_act_4_ok 13 (479, .ifCond .ne 5, 3) rfl
theorem dL_act_482 : decode cL_act 482 = .ok (.iconst 1, 1) := dTL_act_4_ok 14 (482, .iconst 1, 1) rfl
theorem dL_act_483 : decode cL_act 483 = .ok (.ireturn, 1) := dTL_act_4_ok 15 (483, .ireturn, 1) rfl
theorem dL_act_484 : decode cL_act 484 = .ok (.aload_n 1, 1) := dTL_act_4_ok 16 (484, .aload_n 1, 1) rfl
theorem dL_act_485 : decode cL_act 485 = .ok (.getfield 56, 3) := dTL_act_4_ok 17 (485, .getfield 56, 3) rfl
theorem dL_act_488 : decode cL_act 488 = .ok (.iload_n 3, 1) := dTL_act_4_ok 18 (488, .iload_n 3, 1) rfl
theorem dL_act_489 : decode cL_act 489 = .ok (.aaload, 1) := dTL_act_4_ok 19 (489, .aaload, 1) rfl
theorem dL_act_490 : decode cL_act 490 = .ok (.iload 4, 2) := dTL_act_4_ok 20 (490, .iload 4, 2) rfl
theorem dL_act_492 : decode cL_act 492 = .ok (.aload_n 1, 1) := dTL_act_4_ok 21 (492, .aload_n 1, 1) rfl
theorem dL_act_493 : decode cL_act 493 = .ok (.getfield 56, 3) := dTL_act_4_ok 22 (493, .getfield 56, 3) rfl
theorem dL_act_496 : decode cL_act 496 = .ok (.iload_n 3, 1) := dTL_act_4_ok 23 (496, .iload_n 3, 1) rfl
theorem dL_act_497 : decode cL_act 497 = .ok (.aaload, 1) := dTL_act_4_ok 24 (497, .aaload, 1) rfl
theorem dL_act_498 : decode cL_act 498 = .ok (.iload 4, 2) := dTL_act_4_ok 25 (498, .iload 4, 2) rfl
theorem dL_act_500 : decode cL_act 500 = .ok (.baload, 1) := dTL_act_4_ok 26 (500, .baload, 1) rfl
theorem dL_act_501 : decode cL_act 501 = .ok (.ifCond .ne 7, 3) := dTL_act_4_ok 27 (501, .ifCond .ne 7, 3) rfl
theorem dL_act_504 : decode cL_act 504 = .ok (.iconst 1, 1) := dTL_act_4_ok 28 (504, .iconst 1, 1) rfl
theorem dL_act_505 : decode cL_act 505 = .ok (.goto 4, 3) := dTL_act_4_ok 29 (505, .goto 4, 3) rfl
theorem dL_act_508 : decode cL_act 508 = .ok (.iconst 0, 1) := dTL_act_4_ok 30 (508, .iconst 0, 1) rfl
theorem dL_act_509 : decode cL_act 509 = .ok (.bastore, 1) := dTL_act_4_ok 31 (509, .bastore, 1) rfl
theorem dL_act_510 : decode cL_act 510 = .ok (.aload_n 0, 1) := dTL_act_4_ok 32 (510, .aload_n 0, 1) rfl
theorem dL_act_511 : decode cL_act 511 = .ok (.iload_n 3, 1) := dTL_act_4_ok 33 (511, .iload_n 3, 1) rfl
theorem dL_act_512 : decode cL_act 512 = .ok (.iload 4, 2) := dTL_act_4_ok 34 (512, .iload 4, 2) rfl
theorem dL_act_514 : decode cL_act 514 = .ok (.invokevirtual 74, 3) := dTL_act_4_ok 35 (514, .invokevirtual 74, 3) rfl
theorem dL_act_517 : decode cL_act 517 = .ok (.aload_n 1, 1) := dTL_act_4_ok 36 (517, .aload_n 1, 1) rfl
theorem dL_act_518 : decode cL_act 518 = .ok (.getfield 56, 3) := dTL_act_4_ok 37 (518, .getfield 56, 3) rfl
theorem dL_act_521 : decode cL_act 521 = .ok (.iload_n 3, 1) := dTL_act_4_ok 38 (521, .iload_n 3, 1) rfl
theorem dL_act_522 : decode cL_act 522 = .ok (.aaload, 1) := dTL_act_4_ok 39 (522, .aaload, 1) rfl
theorem dL_act_523 : decode cL_act 523 = .ok (.iload 4, 2) := dTL_act_4_ok 40 (523, .iload 4, 2) rfl
theorem dL_act_525 : decode cL_act 525 = .ok (.baload, 1) := dTL_act_4_ok 41 (525, .baload, 1) rfl
theorem dL_act_526 : decode cL_act 526 = .ok (.if_icmp .ne 7, 3) := dTL_act_4_ok 42 (526, .if_icmp .ne 7, 3) rfl
theorem dL_act_529 : decode cL_act 529 = .ok (.iconst 1, 1) := dTL_act_4_ok 43 (529, .iconst 1, 1) rfl
theorem dL_act_530 : decode cL_act 530 = .ok (.goto 4, 3) := dTL_act_4_ok 44 (530, .goto 4, 3) rfl
theorem dL_act_533 : decode cL_act 533 = .ok (.iconst 0, 1) := dTL_act_4_ok 45 (533, .iconst 0, 1) rfl
theorem dL_act_534 : decode cL_act 534 = .ok (.ireturn, 1) := dTL_act_4_ok 46 (534, .ireturn, 1) rfl
theorem dL_act_535 : decode cL_act 535 = .ok (.iload 5, 2) := dTL_act_4_ok 47 (535, .iload 5, 2) rfl
theorem dL_act_537 : decode cL_act 537 = .ok (.bipush 6, 2) := dTL_act_4_ok 48 (537, .bipush 6, 2) rfl
theorem dL_act_539 : decode cL_act 539 = .ok (.if_icmp .ne 5, 3) := dTL_act_4_ok 49 (539, .if_icmp .ne 5, 3) rfl
theorem dL_act_542 : decode cL_act 542 = .ok (.iconst 1, 1) := dTL_act_4_ok 50 (542, .iconst 1, 1) rfl
theorem dL_act_543 : decode cL_act 543 = .ok (.ireturn, 1) := dTL_act_4_ok 51 (543, .ireturn, 1) rfl
theorem dL_act_544 : decode cL_act 544 = .ok (.iload 5, 2) := dTL_act_4_ok 52 (544, .iload 5, 2) rfl
theorem dL_act_546 : decode cL_act 546 = .ok (.iconst 1, 1) := dTL_act_4_ok 53 (546, .iconst 1, 1) rfl
theorem dL_act_547 : decode cL_act 547 = .ok (.iadd, 1) := dTL_act_4_ok 54 (547, .iadd, 1) rfl
theorem dL_act_548 : decode cL_act 548 = .ok (.anewarray 77, 3) := dTL_act_4_ok 55 (548, .anewarray 77, 3) rfl
theorem dL_act_551 : decode cL_act 551 = .ok (.astore 8, 2) := dTL_act_4_ok 56 (551, .astore 8, 2) rfl
theorem dL_act_553 : decode cL_act 553 = .ok (.iconst 0, 1) := dTL_act_4_ok 57 (553, .iconst 0, 1) rfl
theorem dL_act_554 : decode cL_act 554 = .ok (.istore 9, 2) := dTL_act_4_ok 58 (554, .istore 9, 2) rfl
theorem dL_act_556 : decode cL_act 556 = .ok (.iload 9, 2) := dTL_act_4_ok 59 (556, .iload 9, 2) rfl
noncomputable def dTL_act_5 : List (Nat × Instr × Nat) := [(558, .iload 5, 2), (560, .if_icmp .ge 21, 3), (563, .aload 8, 2), (565, .iload 9, 2), (567, .aload_n 1, 1), (568, .getfield 15, 3), (571, .iload 9, 2), (573, .aaload, 1), (574, .aastore, 1), (575, .iinc 9 1, 3), (578, .goto (-22), 3), (581, .aload 8, 2), (583, .iload 5, 2), (585, .new 77, 3), (588, .dup, 1), (589, .invokespecial 79, 3), (592, .aastore, 1), (593, .aload 8, 2), (595, .iload 5, 2), (597, .aaload, 1), (598, .iload_n 3, 1), (599, .putfield 80, 3), (602, .aload 8, 2), (604, .iload 5, 2), (606, .aaload, 1), (607, .iload 4, 2), (609, .putfield 84, 3), (612, .aload 8, 2), (614, .iload 5, 2), (616, .aaload, 1), (617, .iload_n 3, 1), (618, .putfield 87, 3), (621, .aload 8, 2), (623, .iload 5, 2), (625, .aaload, 1), (626, .iload 4, 2), (628, .putfield 90, 3), (631, .aload 8, 2), (633, .iload 5, 2), (635, .aaload, 1), (636, .iconst 1, 1), (637, .iload_n 2, 1), (638, .iconst 4, 1), (639, .ishr, 1), (640, .iconst 3, 1), (641, .invokestatic 9, 3), (644, .iadd, 1), (645, .putfield 93, 3), (648, .aload_n 1, 1), (649, .aload 8, 2), (651, .putfield 15, 3), (654, .aload_n 0, 1), (655, .iload_n 3, 1), (656, .iload 4, 2), (658, .aload 8, 2), (660, .iload 5, 2), (662, .aaload, 1), (663, .getfield 93, 3), (666, .invokevirtual 96, 3), (669, .iload 5, 2)]
theorem dTL_act_5_ok : ∀ (k : Nat) (q : Nat × Instr × Nat), dTL_act_5[k]? = some q → decode cL_act q.1 = .ok q.2 := dT_of (by decide +kernel)
theorem dL_act_558 : decode cL_act 558 = .ok (.iload 5, 2) := dTL_act_5_ok 0 (558, .iload 5, 2) rfl
theorem dL_act_560 : decode cL_act 560 = .ok (.if_icmp .ge 21, 3) := dTL_act_5_ok 1 (560, .if_icmp .ge 21, 3) rfl
theorem dL_act_563 : decode cL_act 563 = .ok (.aload 8, 2) := dTL_act_5_ok 2 (563, .aload 8, 2) rfl
theorem dL_act_565 : decode cL_act 565 = .ok (.iload 9, 2) := dTL_act_5_ok 3 (565, .iload 9, 2) rfl
theorem dL_act_567 : decode cL_act 567 = .ok (.aload_n 1, 1) := dTL_act_5_ok 4 (567, .aload_n 1, 1) rfl
theorem dL_act_568 : decode cL_act 568 = .ok (.getfield 15, 3) := dTL_act_5_ok 5 (568, .getfield 15, 3) rfl
theorem dL_act_571 : decode cL_act 571 = .ok (.iload 9, 2) := dTL_act_5_ok 6 (571, .iload 9, 2) rfl
theorem dL_act_573 : decode cL_act 573 = .ok (.aaload, 1) := dTL_act_5_ok 7 (573, .aaload, 1) rfl
theorem dL_act_574 : decode cL_act 574 = .ok (.aastore, 1) := dTL_act_5_ok 8 (574, .aastore, 1) rfl
theorem dL_act_575 : decode cL_act 575 = .ok (.iinc 9 1, 3) := dTL_act_5_ok 9 (575, .iinc 9 1, 3) rfl
theorem dL_act_578 : decode cL_act 578 = .ok (.goto (-22), 3) := dTL_act_5_ok 10 (578, .goto (-22), 3) rfl
theorem dL_act_581 : decode cL_act 581 = .ok (.aload 8, 2) := dTL_act_5_ok 11 (581, .aload 8, 2) rfl
theorem dL_act_583 : decode cL_act 583 = .ok (.iload 5, 2) := dTL_act_5_ok 12 (583, .iload 5, 2) rfl
theorem dL_act_585 : decode cL_act 585 = .ok (.new 77, 3) := dTL_act_5_ok 13 (585, .new 77, 3) rfl
theorem dL_act_588 : decode cL_act 588 = .ok (.dup, 1) := dTL_act_5_ok 14 (588, .dup, 1) rfl
theorem dL_act_589 : decode cL_act 589 = .ok (.invokespecial 79, 3) := dTL_act_5_ok 15 (589, .invokespecial 79, 3) rfl
theorem dL_act_592 : decode cL_act 592 = .ok (.aastore, 1) := dTL_act_5_ok 16 (592, .aastore, 1) rfl
theorem dL_act_593 : decode cL_act 593 = .ok (.aload 8, 2) := dTL_act_5_ok 17 (593, .aload 8, 2) rfl
theorem dL_act_595 : decode cL_act 595 = .ok (.iload 5, 2) := dTL_act_5_ok 18 (595, .iload 5, 2) rfl
theorem dL_act_597 : decode cL_act 597 = .ok (.aaload, 1) := dTL_act_5_ok 19 (597, .aaload, 1) rfl
theorem dL_act_598 : decode cL_act 598 = .ok (.iload_n 3, 1) := dTL_act_5_ok 20 (598, .iload_n 3, 1) rfl
theorem dL_act_599 : decode cL_act 599 = .ok (.putfield 80, 3) := dTL_act_5_ok 21 (599, .putfield 80, 3) rfl
theorem dL_act_602 : decode cL_act 602 = .ok (.aload 8, 2) := dTL_act_5_ok 22 (602, .aload 8, 2) rfl
theorem dL_act_604 : decode cL_act 604 = .ok (.iload 5, 2) := dTL_act_5_ok 23 (604, .iload 5, 2) rfl
theorem dL_act_606 : decode cL_act 606 = .ok (.aaload, 1) := dTL_act_5_ok 24 (606, .aaload, 1) rfl
theorem dL_act_607 : decode cL_act 607 = .ok (.iload 4, 2) := dTL_act_5_ok 25 (607, .iload 4, 2) rfl
theorem dL_act_609 : decode cL_act 609 = .ok (.putfield 84, 3) := dTL_act_5_ok 26 (609, .putfield 84, 3) rfl
theorem dL_act_612 : decode cL_act 612 = .ok (.aload 8, 2) := dTL_act_5_ok 27 (612, .aload 8, 2) rfl
theorem dL_act_614 : decode cL_act 614 = .ok (.iload 5, 2) := dTL_act_5_ok 28 (614, .iload 5, 2) rfl
theorem dL_act_616 : decode cL_act 616 = .ok (.aaload, 1) := dTL_act_5_ok 29 (616, .aaload, 1) rfl
theorem dL_act_617 : decode cL_act 617 = .ok (.iload_n 3, 1) := dTL_act_5_ok 30 (617, .iload_n 3, 1) rfl
theorem dL_act_618 : decode cL_act 618 = .ok (.putfield 87, 3) := dTL_act_5_ok 31 (618, .putfield 87, 3) rfl
theorem dL_act_621 : decode cL_act 621 = .ok (.aload 8, 2) := dTL_act_5_ok 32 (621, .aload 8, 2) rfl
theorem dL_act_623 : decode cL_act 623 = .ok (.iload 5, 2) := dTL_act_5_ok 33 (623, .iload 5, 2) rfl
theorem dL_act_625 : decode cL_act 625 = .ok (.aaload, 1) := dTL_act_5_ok 34 (625, .aaload, 1) rfl
theorem dL_act_626 : decode cL_act 626 = .ok (.iload 4, 2) := dTL_act_5_ok 35 (626, .iload 4, 2) rfl
theorem dL_act_628 : decode cL_act 628 = .ok (.putfield 90, 3) := dTL_act_5_ok 36 (628, .putfield 90, 3) rfl
theorem dL_act_631 : decode cL_act 631 = .ok (.aload 8, 2) := dTL_act_5_ok 37 (631, .aload 8, 2) rfl
theorem dL_act_633 : decode cL_act 633 = .ok (.iload 5, 2) := dTL_act_5_ok 38 (633, .iload 5, 2) rfl
theorem dL_act_635 : decode cL_act 635 = .ok (.aaload, 1) := dTL_act_5_ok 39 (635, .aaload, 1) rfl
theorem dL_act_636 : decode cL_act 636 = .ok (.iconst 1, 1) := dTL_act_5_ok 40 (636, .iconst 1, 1) rfl
theorem dL_act_637 : decode cL_act 637 = .ok (.iload_n 2, 1) := dTL_act_5_ok 41 (637, .iload_n 2, 1) rfl
theorem dL_act_638 : decode cL_act 638 = .ok (.iconst 4, 1) := dTL_act_5_ok 42 (638, .iconst 4, 1) rfl
theorem dL_act_639 : decode cL_act 639 = .ok (.ishr, 1) := dTL_act_5_ok 43 (639, .ishr, 1) rfl
theorem dL_act_640 : decode cL_act 640 = .ok (.iconst 3, 1) := dTL_act_5_ok 44 (640, .iconst 3, 1) rfl
theorem dL_act_641 : decode cL_act 641 = .ok (.invokestatic 9, 3) := dTL_act_5_ok 45 (641, .invokestatic 9, 3) rfl
theorem dL_act_644 : decode cL_act 644 = .ok (.iadd, 1) := dTL_act_5_ok 46 (644, .iadd, 1) rfl
theorem dL_act_645 : decode cL_act 645 = .ok (.putfield 93, 3) := dTL_act_5_ok 47 (645, .putfield 93, 3) rfl
theorem dL_act_648 : decode cL_act 648 = .ok (.aload_n 1, 1) := dTL_act_5_ok 48 (648, .aload_n 1, 1) rfl
theorem dL_act_649 : decode cL_act 649 = .ok (.aload 8, 2) := dTL_act_5_ok 49 (649, .aload 8, 2) rfl
theorem dL_act_651 : decode cL_act 651 = .ok (.putfield 15, 3) := dTL_act_5_ok 50 (651, .putfield 15, 3) rfl
theorem dL_act_654 : decode cL_act 654 = .ok (.aload_n 0, 1) := dTL_act_5_ok 51 (654, .aload_n 0, 1) rfl
theorem dL_act_655 : decode cL_act 655 = .ok (.iload_n 3, 1) := dTL_act_5_ok 52 (655, .iload_n 3, 1) rfl
theorem dL_act_656 : decode cL_act 656 = .ok (.iload 4, 2) := dTL_act_5_ok 53 (656, .iload 4, 2) rfl
theorem dL_act_658 : decode cL_act 658 = .ok (.aload 8, 2) := dTL_act_5_ok 54 (658, .aload 8, 2) rfl
theorem dL_act_660 : decode cL_act 660 = .ok (.iload 5, 2) := dTL_act_5_ok 55 (660, .iload 5, 2) rfl
theorem dL_act_662 : decode cL_act 662 = .ok (.aaload, 1) := dTL_act_5_ok 56 (662, .aaload, 1) rfl
theorem dL_act_663 : decode cL_act 663 = .ok (.getfield 93, 3) := dTL_act_5_ok 57 (663, .getfield 93, 3) rfl
theorem dL_act_666 : decode cL_act 666 = .ok (.invokevirtual 96, 3) := dTL_act_5_ok 58 (666, .invokevirtual 96, 3) rfl
theorem dL_act_669 : decode cL_act 669 = .ok (.iload 5, 2) := dTL_act_5_ok 59 (669, .iload 5, 2) rfl
noncomputable def dTL_act_6 : List (Nat × Instr × Nat) := [(671, .if_icmp .ne 7, 3), (674, .iconst 1, 1), (675, .goto 4, 3), (678, .iconst 0, 1), (679, .ireturn, 1), (680, .iload 5, 2), (682, .ifCond .ne 5, 3), (685, .iconst 1, 1), (686, .ireturn, 1), (687, .aload_n 1, 1), (688, .getfield 15, 3), (691, .iload_n 2, 1), (692, .iload 5, 2), (694, .invokestatic 9, 3), (697, .aaload, 1), (698, .astore 9, 2), (700, .aload 9, 2), (702, .getfield 99, 3), (705, .ifCond .eq 5, 3), (708, .iconst 1, 1), (709, .ireturn, 1), (710, .aload 9, 2), (712, .iconst 1, 1), (713, .putfield 99, 3), (716, .iconst 0, 1), (717, .istore 10, 2), (719, .aload_n 1, 1), (720, .getfield 15, 3), (723, .astore 11, 2), (725, .aload 11, 2), (727, .arraylength, 1), (728, .istore 12, 2), (730, .iconst 0, 1), (731, .istore 13, 2), (733, .iload 13, 2), (735, .iload 12, 2), (737, .if_icmp .ge 34, 3), (740, .aload 11, 2), (742, .iload 13, 2), (744, .aaload, 1), (745, .astore 14, 2), (747, .iload 10, 2), (749, .aload 14, 2), (751, .getfield 99, 3), (754, .ifCond .eq 7, 3), (757, .iconst 1, 1), (758, .goto 4, 3), (761, .iconst 0, 1), (762, .iadd, 1), (763, .istore 10, 2), (765, .iinc 13 1, 3), (768, .goto (-35), 3), (771, .aload_n 0, 1), (772, .iload_n 2, 1), (773, .iload 5, 2), (775, .invokestatic 9, 3), (778, .invokevirtual 103, 3), (781, .iload 10, 2), (783, .if_icmp .ne 7, 3), (786, .iconst 1, 1)]
theorem dTL_act_6_ok : ∀ (k : Nat) (q : Nat × Instr × Nat), dTL_act_6[k]? = some q → decode cL_act q.1 = .ok q.2 := dT_of (by decide +kernel)
theorem dL_act_671 : decode cL_act 671 = .ok (.if_icmp .ne 7, 3) := dTL_act_6_ok 0 (671, .if_icmp .ne 7, 3) rfl
theorem dL_act_674 : decode cL_act 674 = .ok (.iconst 1, 1) := dTL_act_6_ok 1 (674, .iconst 1, 1) rfl
theorem dL_act_675 : decode cL_act 675 = .ok (.goto 4, 3) := dTL_act_6_ok 2 (675, .goto 4, 3) rfl
theorem dL_act_678 : decode cL_act 678 = .ok (.iconst 0, 1) := dTL_act_6_ok 3 (678, .iconst 0, 1) rfl
theorem dL_act_679 : decode cL_act 679 = .ok (.ireturn, 1) := dTL_act_6_ok 4 (679, .ireturn, 1) rfl
theorem dL_act_680 : decode cL_act 680 = .ok (.iload 5, 2) := dTL_act_6_ok 5 (680, .iload 5, 2) rfl
theorem dL_act_682 : decode cL_act 682 = .ok (.ifCond .ne 5, 3) := dTL_act_6_ok 6 (682, .ifCond .ne 5, 3) rfl
theorem dL_act_685 : decode cL_act 685 = .ok (.iconst 1, 1) := dTL_act_6_ok 7 (685, .iconst 1, 1) rfl
theorem dL_act_686 : decode cL_act 686 = .ok (.ireturn, 1) := dTL_act_6_ok 8 (686, .ireturn, 1) rfl
theorem dL_act_687 : decode cL_act 687 = .ok (.aload_n 1, 1) := dTL_act_6_ok 9 (687, .aload_n 1, 1) rfl
theorem dL_act_688 : decode cL_act 688 = .ok (.getfield 15, 3) := dTL_act_6_ok 10 (688, .getfield 15, 3) rfl
theorem dL_act_691 : decode cL_act 691 = .ok (.iload_n 2, 1) := dTL_act_6_ok 11 (691, .iload_n 2, 1) rfl
theorem dL_act_692 : decode cL_act 692 = .ok (.iload 5, 2) := dTL_act_6_ok 12 (692, .iload 5, 2) rfl
theorem dL_act_694 : decode cL_act 694 = .ok (.invokestatic 9, 3) := dTL_act_6_ok 13 (694, .invokestatic 9, 3) rfl
theorem dL_act_697 : decode cL_act 697 = .ok (.aaload, 1) := dTL_act_6_ok 14 (697, .aaload, 1) rfl
theorem dL_act_698 : decode cL_act 698 = .ok (.astore 9, 2) := dTL_act_6_ok 15 (698, .astore 9, 2) rfl
theorem dL_act_700 : decode cL_act 700 = .ok (.aload 9, 2) := dTL_act_6_ok 16 (700, .aload 9, 2) rfl
theorem dL_act_702 : decode cL_act 702 = .ok (.getfield 99, 3) := dTL_act_6_ok 17 (702, .getfield 99, 3) rfl
theorem dL_act_705 : decode cL_act 705 = .ok (.ifCond .eq 5, 3) := dTL_act_6_ok 18 (705, .ifCond .eq 5, 3) rfl
theorem dL_act_708 : decode cL_act 708 = .ok (.iconst 1, 1) := dTL_act_6_ok 19 (708, .iconst 1, 1) rfl
theorem dL_act_709 : decode cL_act 709 = .ok (.ireturn, 1) := dTL_act_6_ok 20 (709, .ireturn, 1) rfl
theorem dL_act_710 : decode cL_act 710 = .ok (.aload 9, 2) := dTL_act_6_ok 21 (710, .aload 9, 2) rfl
theorem dL_act_712 : decode cL_act 712 = .ok (.iconst 1, 1) := dTL_act_6_ok 22 (712, .iconst 1, 1) rfl
theorem dL_act_713 : decode cL_act 713 = .ok (.putfield 99, 3) := dTL_act_6_ok 23 (713, .putfield 99, 3) rfl
theorem dL_act_716 : decode cL_act 716 = .ok (.iconst 0, 1) := dTL_act_6_ok 24 (716, .iconst 0, 1) rfl
theorem dL_act_717 : decode cL_act 717 = .ok (.istore 10, 2) := dTL_act_6_ok 25 (717, .istore 10, 2) rfl
theorem dL_act_719 : decode cL_act 719 = .ok (.aload_n 1, 1) := dTL_act_6_ok 26 (719, .aload_n 1, 1) rfl
theorem dL_act_720 : decode cL_act 720 = .ok (.getfield 15, 3) := dTL_act_6_ok 27 (720, .getfield 15, 3) rfl
theorem dL_act_723 : decode cL_act 723 = .ok (.astore 11, 2) := dTL_act_6_ok 28 (723, .astore 11, 2) rfl
theorem dL_act_725 : decode cL_act 725 = .ok (.aload 11, 2) := dTL_act_6_ok 29 (725, .aload 11, 2) rfl
theorem dL_act_727 : decode cL_act 727 = .ok (.arraylength, 1) := dTL_act_6_ok 30 (727, .arraylength, 1) rfl
theorem dL_act_728 : decode cL_act 728 = .ok (.istore 12, 2) := dTL_act_6_ok 31 (728, .istore 12, 2) rfl
theorem dL_act_730 : decode cL_act 730 = .ok (.iconst 0, 1) := dTL_act_6_ok 32 (730, .iconst 0, 1) rfl
theorem dL_act_731 : decode cL_act 731 = .ok (.istore 13, 2) := dTL_act_6_ok 33 (731, .istore 13, 2) rfl
theorem dL_act_733 : decode cL_act 733 = .ok (.iload 13, 2) := dTL_act_6_ok 34 (733, .iload 13, 2) rfl
theorem dL_act_735 : decode cL_act 735 = .ok (.iload 12, 2) := dTL_act_6_ok 35 (735, .iload 12, 2) rfl
theorem dL_act_737 : decode cL_act 737 = .ok (.if_icmp .ge 34, 3) := dTL_act_6_ok 36 (737, .if_icmp .ge 34, 3) rfl
theorem dL_act_740 : decode cL_act 740 = .ok (.aload 11, 2) := dTL_act_6_ok 37 (740, .aload 11, 2) rfl
theorem dL_act_742 : decode cL_act 742 = .ok (.iload 13, 2) := dTL_act_6_ok 38 (742, .iload 13, 2) rfl
theorem dL_act_744 : decode cL_act 744 = .ok (.aaload, 1) := dTL_act_6_ok 39 (744, .aaload, 1) rfl
theorem dL_act_745 : decode cL_act 745 = .ok (.astore 14, 2) := dTL_act_6_ok 40 (745, .astore 14, 2) rfl
theorem dL_act_747 : decode cL_act 747 = .ok (.iload 10, 2) := dTL_act_6_ok 41 (747, .iload 10, 2) rfl
theorem dL_act_749 : decode cL_act 749 = .ok (.aload 14, 2) := dTL_act_6_ok 42 (749, .aload 14, 2) rfl
theorem dL_act_751 : decode cL_act 751 = .ok (.getfield 99, 3) := dTL_act_6_ok 43 (751, .getfield 99, 3) rfl
theorem dL_act_754 : decode cL_act 754 = .ok (.ifCond .eq 7, 3) := dTL_act_6_ok 44 (754, .ifCond .eq 7, 3) rfl
theorem dL_act_757 : decode cL_act 757 = .ok (.iconst 1, 1) := dTL_act_6_ok 45 (757, .iconst 1, 1) rfl
theorem dL_act_758 : decode cL_act 758 = .ok (.goto 4, 3) := dTL_act_6_ok 46 (758, .goto 4, 3) rfl
theorem dL_act_761 : decode cL_act 761 = .ok (.iconst 0, 1) := dTL_act_6_ok 47 (761, .iconst 0, 1) rfl
theorem dL_act_762 : decode cL_act 762 = .ok (.iadd, 1) := dTL_act_6_ok 48 (762, .iadd, 1) rfl
theorem dL_act_763 : decode cL_act 763 = .ok (.istore 10, 2) := dTL_act_6_ok 49 (763, .istore 10, 2) rfl
theorem dL_act_765 : decode cL_act 765 = .ok (.iinc 13 1, 3) := dTL_act_6_ok 50 (765, .iinc 13 1, 3) rfl
theorem dL_act_768 : decode cL_act 768 = .ok (.goto (-35), 3) := dTL_act_6_ok 51 (768, .goto (-35), 3) rfl
theorem dL_act_771 : decode cL_act 771 = .ok (.aload_n 0, 1) := dTL_act_6_ok 52 (771, .aload_n 0, 1) rfl
theorem dL_act_772 : decode cL_act 772 = .ok (.iload_n 2, 1) := dTL_act_6_ok 53 (772, .iload_n 2, 1) rfl
theorem dL_act_773 : decode cL_act 773 = .ok (.iload 5, 2) := dTL_act_6_ok 54 (773, .iload 5, 2) rfl
theorem dL_act_775 : decode cL_act 775 = .ok (.invokestatic 9, 3) := dTL_act_6_ok 55 (775, .invokestatic 9, 3) rfl
theorem dL_act_778 : decode cL_act 778 = .ok (.invokevirtual 103, 3) := dTL_act_6_ok 56 (778, .invokevirtual 103, 3) rfl
theorem dL_act_781 : decode cL_act 781 = .ok (.iload 10, 2) := dTL_act_6_ok 57 (781, .iload 10, 2) rfl
theorem dL_act_783 : decode cL_act 783 = .ok (.if_icmp .ne 7, 3) := dTL_act_6_ok 58 (783, .if_icmp .ne 7, 3) rfl
theorem dL_act_786 : decode cL_act 786 = .ok (.iconst 1, 1) := dTL_act_6_ok 59 (786, .iconst 1, 1) rfl
noncomputable def dTL_act_7 : List (Nat × Instr × Nat) := [(787, .goto 4, 3), (790, .iconst 0, 1), (791, .ireturn, 1), (792, .iload 5, 2), (794, .ifCond .ne 5, 3), (797, .iconst 1, 1), (798, .ireturn, 1), (799, .aload_n 1, 1), (800, .getfield 15, 3), (803, .iload_n 2, 1), (804, .iconst 1, 1), (805, .ishr, 1), (806, .iload 5, 2), (808, .invokestatic 9, 3), (811, .aaload, 1), (812, .astore 11, 2), (814, .iconst 0, 1), (815, .istore 12, 2), (817, .iload 12, 2), (819, .bipush 63, 2), (821, .if_icmp .ge 74, 3), (824, .iload_n 2, 1), (825, .bipush 6, 2), (827, .ishr, 1), (828, .iconst 3, 1), (829, .invokestatic 9, 3), (832, .ifCond .le 63, 3), (835, .bipush 9, 2), (837, .iload 4, 2), (839, .imul, 1), (840, .iload_n 3, 1), (841, .iadd, 1), (842, .iload 12, 2), (844, .iadd, 1), (845, .bipush 63, 2), (847, .irem, 1), (848, .istore 13, 2), (850, .aload_n 1, 1), (851, .getfield 21, 3), (854, .iload 13, 2), (856, .bipush 9, 2), (858, .irem, 1), (859, .aaload, 1), (860, .iload 13, 2), (862, .bipush 9, 2), (864, .idiv, 1), (865, .iaload, 1), (866, .iconst 4, 1), (867, .if_icmp .eq 6, 3), (870, .goto 19, 3), (873, .iload 13, 2), (875, .bipush 9, 2), (877, .irem, 1), (878, .istore_n 3, 1), (879, .iload 13, 2), (881, .bipush 9, 2), (883, .idiv, 1), (884, .istore 4, 2), (886, .goto 9, 3), (889, .iinc 12 1, 3)]
theorem dTL_act_7_ok : ∀ (k : Nat) (q : Nat × Instr × Nat), dTL_act_7[k]? = some q → decode cL_act q.1 = .ok q.2 := dT_of (by decide +kernel)
theorem dL_act_787 : decode cL_act 787 = .ok (.goto 4, 3) := dTL_act_7_ok 0 (787, .goto 4, 3) rfl
theorem dL_act_790 : decode cL_act 790 = .ok (.iconst 0, 1) := dTL_act_7_ok 1 (790, .iconst 0, 1) rfl
theorem dL_act_791 : decode cL_act 791 = .ok (.ireturn, 1) := dTL_act_7_ok 2 (791, .ireturn, 1) rfl
theorem dL_act_792 : decode cL_act 792 = .ok (.iload 5, 2) := dTL_act_7_ok 3 (792, .iload 5, 2) rfl
theorem dL_act_794 : decode cL_act 794 = .ok (.ifCond .ne 5, 3) := dTL_act_7_ok 4 (794, .ifCond .ne 5, 3) rfl
theorem dL_act_797 : decode cL_act 797 = .ok (.iconst 1, 1) := dTL_act_7_ok 5 (797, .iconst 1, 1) rfl
theorem dL_act_798 : decode cL_act 798 = .ok (.ireturn, 1) := dTL_act_7_ok 6 (798, .ireturn, 1) rfl
theorem dL_act_799 : decode cL_act 799 = .ok (.aload_n 1, 1) := dTL_act_7_ok 7 (799, .aload_n 1, 1) rfl
theorem dL_act_800 : decode cL_act 800 = .ok (.getfield 15, 3) := dTL_act_7_ok 8 (800, .getfield 15, 3) rfl
theorem dL_act_803 : decode cL_act 803 = .ok (.iload_n 2, 1) := dTL_act_7_ok 9 (803, .iload_n 2, 1) rfl
theorem dL_act_804 : decode cL_act 804 = .ok (.iconst 1, 1) := dTL_act_7_ok 10 (804, .iconst 1, 1) rfl
theorem dL_act_805 : decode cL_act 805 = .ok (.ishr, 1) := dTL_act_7_ok 11 (805, .ishr, 1) rfl
theorem dL_act_806 : decode cL_act 806 = .ok (.iload 5, 2) := dTL_act_7_ok 12 (806, .iload 5, 2) rfl
theorem dL_act_808 : decode cL_act 808 = .ok (.invokestatic 9, 3) := dTL_act_7_ok 13 (808, .invokestatic 9, 3) rfl
theorem dL_act_811 : decode cL_act 811 = .ok (.aaload, 1) := dTL_act_7_ok 14 (811, .aaload, 1) rfl
theorem dL_act_812 : decode cL_act 812 = .ok (.astore 11, 2) := dTL_act_7_ok 15 (812, .astore 11, 2) rfl
theorem dL_act_814 : decode cL_act 814 = .ok (.iconst 0, 1) := dTL_act_7_ok 16 (814, .iconst 0, 1) rfl
theorem dL_act_815 : decode cL_act 815 = .ok (.istore 12, 2) := dTL_act_7_ok 17 (815, .istore 12, 2) rfl
theorem dL_act_817 : decode cL_act 817 = .ok (.iload 12, 2) := dTL_act_7_ok 18 (817, .iload 12, 2) rfl
theorem dL_act_819 : decode cL_act 819 = .ok (.bipush 63, 2) := dTL_act_7_ok 19 (819, .bipush 63, 2) rfl
theorem dL_act_821 : decode cL_act 821 = .ok (.if_icmp .ge 74, 3) := dTL_act_7_ok 20 (821, .if_icmp .ge 74, 3) rfl
theorem dL_act_824 : decode cL_act 824 = .ok (.iload_n 2, 1) := dTL_act_7_ok 21 (824, .iload_n 2, 1) rfl
theorem dL_act_825 : decode cL_act 825 = .ok (.bipush 6, 2) := dTL_act_7_ok 22 (825, .bipush 6, 2) rfl
theorem dL_act_827 : decode cL_act 827 = .ok (.ishr, 1) := dTL_act_7_ok 23 (827, .ishr, 1) rfl
theorem dL_act_828 : decode cL_act 828 = .ok (.iconst 3, 1) := dTL_act_7_ok 24 (828, .iconst 3, 1) rfl
theorem dL_act_829 : decode cL_act 829 = .ok (.invokestatic 9, 3) := dTL_act_7_ok 25 (829, .invokestatic 9, 3) rfl
theorem dL_act_832 : decode cL_act 832 = .ok (.ifCond .le 63, 3) := dTL_act_7_ok 26 (832, .ifCond .le 63, 3) rfl
theorem dL_act_835 : decode cL_act 835 = .ok (.bipush 9, 2) := dTL_act_7_ok 27 (835, .bipush 9, 2) rfl
theorem dL_act_837 : decode cL_act 837 = .ok (.iload 4, 2) := dTL_act_7_ok 28 (837, .iload 4, 2) rfl
theorem dL_act_839 : decode cL_act 839 = .ok (.imul, 1) := dTL_act_7_ok 29 (839, .imul, 1) rfl
theorem dL_act_840 : decode cL_act 840 = .ok (.iload_n 3, 1) := dTL_act_7_ok 30 (840, .iload_n 3, 1) rfl
theorem dL_act_841 : decode cL_act 841 = .ok (.iadd, 1) := dTL_act_7_ok 31 (841, .iadd, 1) rfl
theorem dL_act_842 : decode cL_act 842 = .ok (.iload 12, 2) := dTL_act_7_ok 32 (842, .iload 12, 2) rfl
theorem dL_act_844 : decode cL_act 844 = .ok (.iadd, 1) := dTL_act_7_ok 33 (844, .iadd, 1) rfl
theorem dL_act_845 : decode cL_act 845 = .ok (.bipush 63, 2) := dTL_act_7_ok 34 (845, .bipush 63, 2) rfl
theorem dL_act_847 : decode cL_act 847 = .ok (.irem, 1) := dTL_act_7_ok 35 (847, .irem, 1) rfl
theorem dL_act_848 : decode cL_act 848 = .ok (.istore 13, 2) := dTL_act_7_ok 36 (848, .istore 13, 2) rfl
theorem dL_act_850 : decode cL_act 850 = .ok (.aload_n 1, 1) := dTL_act_7_ok 37 (850, .aload_n 1, 1) rfl
theorem dL_act_851 : decode cL_act 851 = .ok (.getfield 21, 3) := dTL_act_7_ok 38 (851, .getfield 21, 3) rfl
theorem dL_act_854 : decode cL_act 854 = .ok (.iload 13, 2) := dTL_act_7_ok 39 (854, .iload 13, 2) rfl
theorem dL_act_856 : decode cL_act 856 = .ok (.bipush 9, 2) := dTL_act_7_ok 40 (856, .bipush 9, 2) rfl
theorem dL_act_858 : decode cL_act 858 = .ok (.irem, 1) := dTL_act_7_ok 41 (858, .irem, 1) rfl
theorem dL_act_859 : decode cL_act 859 = .ok (.aaload, 1) := dTL_act_7_ok 42 (859, .aaload, 1) rfl
theorem dL_act_860 : decode cL_act 860 = .ok (.iload 13, 2) := dTL_act_7_ok 43 (860, .iload 13, 2) rfl
theorem dL_act_862 : decode cL_act 862 = .ok (.bipush 9, 2) := dTL_act_7_ok 44 (862, .bipush 9, 2) rfl
theorem dL_act_864 : decode cL_act 864 = .ok (.idiv, 1) := dTL_act_7_ok 45 (864, .idiv, 1) rfl
theorem dL_act_865 : decode cL_act 865 = .ok (.iaload, 1) := dTL_act_7_ok 46 (865, .iaload, 1) rfl
theorem dL_act_866 : decode cL_act 866 = .ok (.iconst 4, 1) := dTL_act_7_ok 47 (866, .iconst 4, 1) rfl
theorem dL_act_867 : decode cL_act 867 = .ok (.if_icmp .eq 6, 3) := dTL_act_7_ok 48 (867, .if_icmp .eq 6, 3) rfl
theorem dL_act_870 : decode cL_act 870 = .ok (.goto 19, 3) := dTL_act_7_ok 49 (870, .goto 19, 3) rfl
theorem dL_act_873 : decode cL_act 873 = .ok (.iload 13, 2) := dTL_act_7_ok 50 (873, .iload 13, 2) rfl
theorem dL_act_875 : decode cL_act 875 = .ok (.bipush 9, 2) := dTL_act_7_ok 51 (875, .bipush 9, 2) rfl
theorem dL_act_877 : decode cL_act 877 = .ok (.irem, 1) := dTL_act_7_ok 52 (877, .irem, 1) rfl
theorem dL_act_878 : decode cL_act 878 = .ok (.istore_n 3, 1) := dTL_act_7_ok 53 (878, .istore_n 3, 1) rfl
theorem dL_act_879 : decode cL_act 879 = .ok (.iload 13, 2) := dTL_act_7_ok 54 (879, .iload 13, 2) rfl
theorem dL_act_881 : decode cL_act 881 = .ok (.bipush 9, 2) := dTL_act_7_ok 55 (881, .bipush 9, 2) rfl
theorem dL_act_883 : decode cL_act 883 = .ok (.idiv, 1) := dTL_act_7_ok 56 (883, .idiv, 1) rfl
theorem dL_act_884 : decode cL_act 884 = .ok (.istore 4, 2) := dTL_act_7_ok 57 (884, .istore 4, 2) rfl
theorem dL_act_886 : decode cL_act 886 = .ok (.goto 9, 3) := dTL_act_7_ok 58 (886, .goto 9, 3) rfl
theorem dL_act_889 : decode cL_act 889 = .ok (.iinc 12 1, 3) := dTL_act_7_ok 59 (889, .iinc 12 1, 3) rfl
noncomputable def dTL_act_8 : List (Nat × Instr × Nat) := [(892, .goto (-75), 3), (895, .aload 11, 2), (897, .iload_n 3, 1), (898, .putfield 87, 3), (901, .aload 11, 2), (903, .iload 4, 2), (905, .putfield 90, 3), (908, .aload_n 1, 1), (909, .aload_n 1, 1), (910, .invokevirtual 106, 3), (913, .aload 11, 2), (915, .getfield 80, 3), (918, .aload 11, 2), (920, .getfield 84, 3), (923, .aload 11, 2), (925, .getfield 99, 3), (928, .iload_n 3, 1), (929, .iload 4, 2), (931, .invokevirtual 110, 3), (934, .istore 12, 2), (936, .aload_n 0, 1), (937, .iload_n 2, 1), (938, .iconst 1, 1), (939, .ishr, 1), (940, .iload 5, 2), (942, .invokestatic 9, 3), (945, .iload_n 3, 1), (946, .iload 4, 2), (948, .invokevirtual 114, 3), (951, .iload 12, 2), (953, .sipush 1000, 3), (956, .if_icmp .ne 7, 3), (959, .iconst (-1), 1), (960, .goto 5, 3), (963, .iload 12, 2), (965, .if_icmp .ne 7, 3), (968, .iconst 1, 1), (969, .goto 4, 3), (972, .iconst 0, 1), (973, .ireturn, 1)]
theorem dTL_act_8_ok : ∀ (k : Nat) (q : Nat × Instr × Nat), dTL_act_8[k]? = some q → decode cL_act q.1 = .ok q.2 := dT_of (by decide +kernel)
theorem dL_act_892 : decode cL_act 892 = .ok (.goto (-75), 3) := dTL_act_8_ok 0 (892, .goto (-75), 3) rfl
theorem dL_act_895 : decode cL_act 895 = .ok (.aload 11, 2) := dTL_act_8_ok 1 (895, .aload 11, 2) rfl
theorem dL_act_897 : decode cL_act 897 = .ok (.iload_n 3, 1) := dTL_act_8_ok 2 (897, .iload_n 3, 1) rfl
theorem dL_act_898 : decode cL_act 898 = .ok (.putfield 87, 3) := dTL_act_8_ok 3 (898, .putfield 87, 3) rfl
theorem dL_act_901 : decode cL_act 901 = .ok (.aload 11, 2) := dTL_act_8_ok 4 (901, .aload 11, 2) rfl
theorem dL_act_903 : decode cL_act 903 = .ok (.iload 4, 2) := dTL_act_8_ok 5 (903, .iload 4, 2) rfl
theorem dL_act_905 : decode cL_act 905 = .ok (.putfield 90, 3) := dTL_act_8_ok 6 (905, .putfield 90, 3) rfl
theorem dL_act_908 : decode cL_act 908 = .ok (.aload_n 1, 1) := dTL_act_8_ok 7 (908, .aload_n 1, 1) rfl
theorem dL_act_909 : decode cL_act 909 = .ok (.aload_n 1, 1) := dTL_act_8_ok 8 (909, .aload_n 1, 1) rfl
theorem dL_act_910 : decode cL_act 910 = .ok (.invokevirtual 106, 3) := dTL_act_8_ok 9 (910, .invokevirtual 106, 3) rfl
theorem dL_act_913 : decode cL_act 913 = .ok (.aload 11, 2) := dTL_act_8_ok 10 (913, .aload 11, 2) rfl
theorem dL_act_915 : decode cL_act 915 = .ok (.getfield 80, 3) := dTL_act_8_ok 11 (915, .getfield 80, 3) rfl
theorem dL_act_918 : decode cL_act 918 = .ok (.aload 11, 2) := dTL_act_8_ok 12 (918, .aload 11, 2) rfl
theorem dL_act_920 : decode cL_act 920 = .ok (.getfield 84, 3) := dTL_act_8_ok 13 (920, .getfield 84, 3) rfl
theorem dL_act_923 : decode cL_act 923 = .ok (.aload 11, 2) := dTL_act_8_ok 14 (923, .aload 11, 2) rfl
theorem dL_act_925 : decode cL_act 925 = .ok (.getfield 99, 3) := dTL_act_8_ok 15 (925, .getfield 99, 3) rfl
theorem dL_act_928 : decode cL_act 928 = .ok (.iload_n 3, 1) := dTL_act_8_ok 16 (928, .iload_n 3, 1) rfl
theorem dL_act_929 : decode cL_act 929 = .ok (.iload 4, 2) := dTL_act_8_ok 17 (929, .iload 4, 2) rfl
theorem dL_act_931 : decode cL_act 931 = .ok (.invokevirtual 110, 3) := dTL_act_8_ok 18 (931, .invokevirtual 110, 3) rfl
theorem dL_act_934 : decode cL_act 934 = .ok (.istore 12, 2) := dTL_act_8_ok 19 (934, .istore 12, 2) rfl
theorem dL_act_936 : decode cL_act 936 = .ok (.aload_n 0, 1) := dTL_act_8_ok 20 (936, .aload_n 0, 1) rfl
theorem dL_act_937 : decode cL_act 937 = .ok (.iload_n 2, 1) := dTL_act_8_ok 21 (937, .iload_n 2, 1) rfl
theorem dL_act_938 : decode cL_act 938 = .ok (.iconst 1, 1) := dTL_act_8_ok 22 (938, .iconst 1, 1) rfl
theorem dL_act_939 : decode cL_act 939 = .ok (.ishr, 1) := dTL_act_8_ok 23 (939, .ishr, 1) rfl
theorem dL_act_940 : decode cL_act 940 = .ok (.iload 5, 2) := dTL_act_8_ok 24 (940, .iload 5, 2) rfl
theorem dL_act_942 : decode cL_act 942 = .ok (.invokestatic 9, 3) := dTL_act_8_ok 25 (942, .invokestatic 9, 3) rfl
theorem dL_act_945 : decode cL_act 945 = .ok (.iload_n 3, 1) := dTL_act_8_ok 26 (945, .iload_n 3, 1) rfl
theorem dL_act_946 : decode cL_act 946 = .ok (.iload 4, 2) := dTL_act_8_ok 27 (946, .iload 4, 2) rfl
theorem dL_act_948 : decode cL_act 948 = .ok (.invokevirtual 114, 3) := dTL_act_8_ok 28 (948, .invokevirtual 114, 3) rfl
theorem dL_act_951 : decode cL_act 951 = .ok (.iload 12, 2) := dTL_act_8_ok 29 (951, .iload 12, 2) rfl
theorem dL_act_953 : decode cL_act 953 = .ok (.sipush 1000, 3) := dTL_act_8_ok 30 (953, .sipush 1000, 3) rfl
theorem dL_act_956 : decode cL_act 956 = .ok (.if_icmp .ne 7, 3) := dTL_act_8_ok 31 (956, .if_icmp .ne 7, 3) rfl
theorem dL_act_959 : decode cL_act 959 = .ok (.iconst (-1), 1) := dTL_act_8_ok 32 (959, .iconst (-1), 1) rfl
theorem dL_act_960 : decode cL_act 960 = .ok (.goto 5, 3) := dTL_act_8_ok 33 (960, .goto 5, 3) rfl
theorem dL_act_963 : decode cL_act 963 = .ok (.iload 12, 2) := dTL_act_8_ok 34 (963, .iload 12, 2) rfl
theorem dL_act_965 : decode cL_act 965 = .ok (.if_icmp .ne 7, 3) := dTL_act_8_ok 35 (965, .if_icmp .ne 7, 3) rfl
theorem dL_act_968 : decode cL_act 968 = .ok (.iconst 1, 1) := dTL_act_8_ok 36 (968, .iconst 1, 1) rfl
theorem dL_act_969 : decode cL_act 969 = .ok (.goto 4, 3) := dTL_act_8_ok 37 (969, .goto 4, 3) rfl
theorem dL_act_972 : decode cL_act 972 = .ok (.iconst 0, 1) := dTL_act_8_ok 38 (972, .iconst 0, 1) rfl
theorem dL_act_973 : decode cL_act 973 = .ok (.ireturn, 1) := dTL_act_8_ok 39 (973, .ireturn, 1) rfl
noncomputable def dTL_build_0 : List (Nat × Instr × Nat) := [(0, .new 16, 3), (3, .dup, 1), (4, .invokespecial 117, 3), (7, .astore_n 2, 1), (8, .iconst 0, 1), (9, .istore_n 3, 1), (10, .iload_n 3, 1), (11, .bipush 60, 2), (13, .if_icmp .ge 71, 3), (16, .aload_n 0, 1), (17, .aload_n 2, 1), (18, .aload_n 1, 1), (19, .iload_n 3, 1), (20, .bipush 15, 2), (22, .irem, 1), (23, .invokestatic 118, 3), (26, .iload_n 3, 1), (27, .bipush 15, 2), (29, .idiv, 1), (30, .iconst 3, 1), (31, .imul, 1), (32, .ishr, 1), (33, .sipush 139, 3), (36, .iload_n 3, 1), (37, .imul, 1), (38, .iadd, 1), (39, .iload_n 3, 1), (40, .bipush 15, 2), (42, .irem, 1), (43, .bipush 12, 2), (45, .if_icmp .ge 23, 3), (48, .iload_n 3, 1), (49, .bipush 14, 2), (51, .if_icmp .le 17, 3), (54, .iload_n 3, 1), (55, .bipush 30, 2), (57, .if_icmp .ge 11, 3), (60, .sipush 512, 3), (63, .iload_n 3, 1), (64, .imul, 1), (65, .goto 4, 3), (68, .iconst 0, 1), (69, .iadd, 1), (70, .invokestatic 122, 3), (73, .ifCond .ne 5, 3), (76, .aconst_null, 1), (77, .areturn, 1), (78, .iinc 3 1, 3), (81, .goto (-71), 3), (84, .aload_n 2, 1), (85, .areturn, 1)]
theorem dTL_build_0_ok : ∀ (k : Nat) (q : Nat × Instr × Nat), dTL_build_0[k]? = some q → decode cL_build q.1 = .ok q.2 := dT_of (by decide +kernel)
theorem dL_build_0 : decode cL_build 0 = .ok (.new 16, 3) := dTL_build_0_ok 0 (0, .new 16, 3) rfl
theorem dL_build_3 : decode cL_build 3 = .ok (.dup, 1) := dTL_build_0_ok 1 (3, .dup, 1) rfl
theorem dL_build_4 : decode cL_build 4 = .ok (.invokespecial 117, 3) := dTL_build_0_ok 2 (4, .invokespecial 117, 3) rfl
theorem dL_build_7 : decode cL_build 7 = .ok (.astore_n 2, 1) := dTL_build_0_ok 3 (7, .astore_n 2, 1) rfl
theorem dL_build_8 : decode cL_build 8 = .ok (.iconst 0, 1) := dTL_build_0_ok 4 (8, .iconst 0, 1) rfl
theorem dL_build_9 : decode cL_build 9 = .ok (.istore_n 3, 1) := dTL_build_0_ok 5 (9, .istore_n 3, 1) rfl
theorem dL_build_10 : decode cL_build 10 = .ok (.iload_n 3, 1) := dTL_build_0_ok 6 (10, .iload_n 3, 1) rfl
theorem dL_build_11 : decode cL_build 11 = .ok (.bipush 60, 2) := dTL_build_0_ok 7 (11, .bipush 60, 2) rfl
theorem dL_build_13 : decode cL_build 13 = .ok (.if_icmp .ge 71, 3) := dTL_build_0_ok 8 (13, .if_icmp .ge 71, 3) rfl
theorem dL_build_16 : decode cL_build 16 = .ok (.aload_n 0, 1) := dTL_build_0_ok 9 (16, .aload_n 0, 1) rfl
theorem dL_build_17 : decode cL_build 17 = .ok (.aload_n 2, 1) := dTL_build_0_ok 10 (17, .aload_n 2, 1) rfl
theorem dL_build_18 : decode cL_build 18 = .ok (.aload_n 1, 1) := dTL_build_0_ok 11 (18, .aload_n 1, 1) rfl
theorem dL_build_19 : decode cL_build 19 = .ok (.iload_n 3, 1) := dTL_build_0_ok 12 (19, .iload_n 3, 1) rfl
theorem dL_build_20 : decode cL_build 20 = .ok (.bipush 15, 2) := dTL_build_0_ok 13 (20, .bipush 15, 2) rfl
theorem dL_build_22 : decode cL_build 22 = .ok (.irem, 1) := dTL_build_0_ok 14 (22, .irem, 1) rfl
theorem dL_build_23 : decode cL_build 23 = .ok (.invokestatic 118, 3) := dTL_build_0_ok 15 (23, .invokestatic 118, 3) rfl
theorem dL_build_26 : decode cL_build 26 = .ok (.iload_n 3, 1) := dTL_build_0_ok 16 (26, .iload_n 3, 1) rfl
theorem dL_build_27 : decode cL_build 27 = .ok (.bipush 15, 2) := dTL_build_0_ok 17 (27, .bipush 15, 2) rfl
theorem dL_build_29 : decode cL_build 29 = .ok (.idiv, 1) := dTL_build_0_ok 18 (29, .idiv, 1) rfl
theorem dL_build_30 : decode cL_build 30 = .ok (.iconst 3, 1) := dTL_build_0_ok 19 (30, .iconst 3, 1) rfl
theorem dL_build_31 : decode cL_build 31 = .ok (.imul, 1) := dTL_build_0_ok 20 (31, .imul, 1) rfl
theorem dL_build_32 : decode cL_build 32 = .ok (.ishr, 1) := dTL_build_0_ok 21 (32, .ishr, 1) rfl
theorem dL_build_33 : decode cL_build 33 = .ok (.sipush 139, 3) := dTL_build_0_ok 22 (33, .sipush 139, 3) rfl
theorem dL_build_36 : decode cL_build 36 = .ok (.iload_n 3, 1) := dTL_build_0_ok 23 (36, .iload_n 3, 1) rfl
theorem dL_build_37 : decode cL_build 37 = .ok (.imul, 1) := dTL_build_0_ok 24 (37, .imul, 1) rfl
theorem dL_build_38 : decode cL_build 38 = .ok (.iadd, 1) := dTL_build_0_ok 25 (38, .iadd, 1) rfl
theorem dL_build_39 : decode cL_build 39 = .ok (.iload_n 3, 1) := dTL_build_0_ok 26 (39, .iload_n 3, 1) rfl
theorem dL_build_40 : decode cL_build 40 = .ok (.bipush 15, 2) := dTL_build_0_ok 27 (40, .bipush 15, 2) rfl
theorem dL_build_42 : decode cL_build 42 = .ok (.irem, 1) := dTL_build_0_ok 28 (42, .irem, 1) rfl
theorem dL_build_43 : decode cL_build 43 = .ok (.bipush 12, 2) := dTL_build_0_ok 29 (43, .bipush 12, 2) rfl
theorem dL_build_45 : decode cL_build 45 = .ok (.if_icmp .ge 23, 3) := dTL_build_0_ok 30 (45, .if_icmp .ge 23, 3) rfl
theorem dL_build_48 : decode cL_build 48 = .ok (.iload_n 3, 1) := dTL_build_0_ok 31 (48, .iload_n 3, 1) rfl
theorem dL_build_49 : decode cL_build 49 = .ok (.bipush 14, 2) := dTL_build_0_ok 32 (49, .bipush 14, 2) rfl
theorem dL_build_51 : decode cL_build 51 = .ok (.if_icmp .le 17, 3) := dTL_build_0_ok 33 (51, .if_icmp .le 17, 3) rfl
theorem dL_build_54 : decode cL_build 54 = .ok (.iload_n 3, 1) := dTL_build_0_ok 34 (54, .iload_n 3, 1) rfl
theorem dL_build_55 : decode cL_build 55 = .ok (.bipush 30, 2) := dTL_build_0_ok 35 (55, .bipush 30, 2) rfl
theorem dL_build_57 : decode cL_build 57 = .ok (.if_icmp .ge 11, 3) := dTL_build_0_ok 36 (57, .if_icmp .ge 11, 3) rfl
theorem dL_build_60 : decode cL_build 60 = .ok (.sipush 512, 3) := dTL_build_0_ok 37 (60, .sipush 512, 3) rfl
theorem dL_build_63 : decode cL_build 63 = .ok (.iload_n 3, 1) := dTL_build_0_ok 38 (63, .iload_n 3, 1) rfl
theorem dL_build_64 : decode cL_build 64 = .ok (.imul, 1) := dTL_build_0_ok 39 (64, .imul, 1) rfl
theorem dL_build_65 : decode cL_build 65 = .ok (.goto 4, 3) := dTL_build_0_ok 40 (65, .goto 4, 3) rfl
theorem dL_build_68 : decode cL_build 68 = .ok (.iconst 0, 1) := dTL_build_0_ok 41 (68, .iconst 0, 1) rfl
theorem dL_build_69 : decode cL_build 69 = .ok (.iadd, 1) := dTL_build_0_ok 42 (69, .iadd, 1) rfl
theorem dL_build_70 : decode cL_build 70 = .ok (.invokestatic 122, 3) := dTL_build_0_ok 43 (70, .invokestatic 122, 3) rfl
theorem dL_build_73 : decode cL_build 73 = .ok (.ifCond .ne 5, 3) := dTL_build_0_ok 44 (73, .ifCond .ne 5, 3) rfl
theorem dL_build_76 : decode cL_build 76 = .ok (.aconst_null, 1) := dTL_build_0_ok 45 (76, .aconst_null, 1) rfl
theorem dL_build_77 : decode cL_build 77 = .ok (.areturn, 1) := dTL_build_0_ok 46 (77, .areturn, 1) rfl
theorem dL_build_78 : decode cL_build 78 = .ok (.iinc 3 1, 3) := dTL_build_0_ok 47 (78, .iinc 3 1, 3) rfl
theorem dL_build_81 : decode cL_build 81 = .ok (.goto (-71), 3) := dTL_build_0_ok 48 (81, .goto (-71), 3) rfl
theorem dL_build_84 : decode cL_build 84 = .ok (.aload_n 2, 1) := dTL_build_0_ok 49 (84, .aload_n 2, 1) rfl
theorem dL_build_85 : decode cL_build 85 = .ok (.areturn, 1) := dTL_build_0_ok 50 (85, .areturn, 1) rfl
noncomputable def dTL_law_0 : List (Nat × Instr × Nat) := [(0, .new 41, 3), (3, .dup, 1), (4, .invokespecial 126, 3), (7, .astore_n 1, 1), (8, .aload_n 1, 1), (9, .aload_n 0, 1), (10, .invokestatic 127, 3), (13, .astore_n 2, 1), (14, .aload_n 2, 1), (15, .ifnonnull 5, 3), (18, .iconst 0, 1), (19, .ireturn, 1), (20, .iconst 0, 1), (21, .istore_n 3, 1), (22, .iload_n 3, 1), (23, .bipush 16, 2), (25, .if_icmp .ge 1135, 3), (28, .aload_n 0, 1), (29, .iload_n 3, 1), (30, .invokestatic 118, 3), (33, .sipush 139, 3), (36, .iload_n 3, 1), (37, .imul, 1), (38, .iadd, 1), (39, .istore 4, 2), (41, .iconst 0, 1), (42, .istore 5, 2), (44, .iload 5, 2), (46, .iconst 2, 1), (47, .if_icmp .ge 32, 3), (50, .aload_n 1, 1), (51, .aload_n 2, 1), (52, .iload 4, 2), (54, .iconst 2, 1), (55, .iload 5, 2), (57, .imul, 1), (58, .ishr, 1), (59, .bipush 73, 2), (61, .iload 5, 2), (63, .imul, 1), (64, .iadd, 1), (65, .invokestatic 122, 3), (68, .ifCond .ne 5, 3), (71, .iconst 0, 1), (72, .ireturn, 1), (73, .iinc 5 1, 3), (76, .goto (-32), 3), (79, .aload_n 1, 1), (80, .iconst 1, 1), (81, .invokevirtual 131, 3), (84, .istore 5, 2), (86, .iload 5, 2), (88, .bipush 8, 2), (90, .multianewarray 134 2, 4), (94, .astore 6, 2), (96, .iload 5, 2), (98, .newarray .int, 2), (100, .astore 7, 2), (102, .iconst 0, 1), (103, .istore 8, 2)]
theorem dTL_law_0_ok : ∀ (k : Nat) (q : Nat × Instr × Nat), dTL_law_0[k]? = some q → decode cL_law q.1 = .ok q.2 := dT_of (by decide +kernel)
theorem dL_law_0 : decode cL_law 0 = .ok (.new 41, 3) := dTL_law_0_ok 0 (0, .new 41, 3) rfl
theorem dL_law_3 : decode cL_law 3 = .ok (.dup, 1) := dTL_law_0_ok 1 (3, .dup, 1) rfl
theorem dL_law_4 : decode cL_law 4 = .ok (.invokespecial 126, 3) := dTL_law_0_ok 2 (4, .invokespecial 126, 3) rfl
theorem dL_law_7 : decode cL_law 7 = .ok (.astore_n 1, 1) := dTL_law_0_ok 3 (7, .astore_n 1, 1) rfl
theorem dL_law_8 : decode cL_law 8 = .ok (.aload_n 1, 1) := dTL_law_0_ok 4 (8, .aload_n 1, 1) rfl
theorem dL_law_9 : decode cL_law 9 = .ok (.aload_n 0, 1) := dTL_law_0_ok 5 (9, .aload_n 0, 1) rfl
theorem dL_law_10 : decode cL_law 10 = .ok (.invokestatic 127, 3) := dTL_law_0_ok 6 (10, .invokestatic 127, 3) rfl
theorem dL_law_13 : decode cL_law 13 = .ok (.astore_n 2, 1) := dTL_law_0_ok 7 (13, .astore_n 2, 1) rfl
theorem dL_law_14 : decode cL_law 14 = .ok (.aload_n 2, 1) := dTL_law_0_ok 8 (14, .aload_n 2, 1) rfl
theorem dL_law_15 : decode cL_law 15 = .ok (.ifnonnull 5, 3) := dTL_law_0_ok 9 (15, .ifnonnull 5, 3) rfl
theorem dL_law_18 : decode cL_law 18 = .ok (.iconst 0, 1) := dTL_law_0_ok 10 (18, .iconst 0, 1) rfl
theorem dL_law_19 : decode cL_law 19 = .ok (.ireturn, 1) := dTL_law_0_ok 11 (19, .ireturn, 1) rfl
theorem dL_law_20 : decode cL_law 20 = .ok (.iconst 0, 1) := dTL_law_0_ok 12 (20, .iconst 0, 1) rfl
theorem dL_law_21 : decode cL_law 21 = .ok (.istore_n 3, 1) := dTL_law_0_ok 13 (21, .istore_n 3, 1) rfl
theorem dL_law_22 : decode cL_law 22 = .ok (.iload_n 3, 1) := dTL_law_0_ok 14 (22, .iload_n 3, 1) rfl
theorem dL_law_23 : decode cL_law 23 = .ok (.bipush 16, 2) := dTL_law_0_ok 15 (23, .bipush 16, 2) rfl
theorem dL_law_25 : decode cL_law 25 = .ok (.if_icmp .ge 1135, 3) := dTL_law_0_ok 16 (25, .if_icmp .ge 1135, 3) rfl
theorem dL_law_28 : decode cL_law 28 = .ok (.aload_n 0, 1) := dTL_law_0_ok 17 (28, .aload_n 0, 1) rfl
theorem dL_law_29 : decode cL_law 29 = .ok (.iload_n 3, 1) := dTL_law_0_ok 18 (29, .iload_n 3, 1) rfl
theorem dL_law_30 : decode cL_law 30 = .ok (.invokestatic 118, 3) := dTL_law_0_ok 19 (30, .invokestatic 118, 3) rfl
theorem dL_law_33 : decode cL_law 33 = .ok (.sipush 139, 3) := dTL_law_0_ok 20 (33, .sipush 139, 3) rfl
theorem dL_law_36 : decode cL_law 36 = .ok (.iload_n 3, 1) := dTL_law_0_ok 21 (36, .iload_n 3, 1) rfl
theorem dL_law_37 : decode cL_law 37 = .ok (.imul, 1) := dTL_law_0_ok 22 (37, .imul, 1) rfl
theorem dL_law_38 : decode cL_law 38 = .ok (.iadd, 1) := dTL_law_0_ok 23 (38, .iadd, 1) rfl
theorem dL_law_39 : decode cL_law 39 = .ok (.istore 4, 2) := dTL_law_0_ok 24 (39, .istore 4, 2) rfl
theorem dL_law_41 : decode cL_law 41 = .ok (.iconst 0, 1) := dTL_law_0_ok 25 (41, .iconst 0, 1) rfl
theorem dL_law_42 : decode cL_law 42 = .ok (.istore 5, 2) := dTL_law_0_ok 26 (42, .istore 5, 2) rfl
theorem dL_law_44 : decode cL_law 44 = .ok (.iload 5, 2) := dTL_law_0_ok 27 (44, .iload 5, 2) rfl
theorem dL_law_46 : decode cL_law 46 = .ok (.iconst 2, 1) := dTL_law_0_ok 28 (46, .iconst 2, 1) rfl
theorem dL_law_47 : decode cL_law 47 = .ok (.if_icmp .ge 32, 3) := dTL_law_0_ok 29 (47, .if_icmp .ge 32, 3) rfl
theorem dL_law_50 : decode cL_law 50 = .ok (.aload_n 1, 1) := dTL_law_0_ok 30 (50, .aload_n 1, 1) rfl
theorem dL_law_51 : decode cL_law 51 = .ok (.aload_n 2, 1) := dTL_law_0_ok 31 (51, .aload_n 2, 1) rfl
theorem dL_law_52 : decode cL_law 52 = .ok (.iload 4, 2) := dTL_law_0_ok 32 (52, .iload 4, 2) rfl
theorem dL_law_54 : decode cL_law 54 = .ok (.iconst 2, 1) := dTL_law_0_ok 33 (54, .iconst 2, 1) rfl
theorem dL_law_55 : decode cL_law 55 = .ok (.iload 5, 2) := dTL_law_0_ok 34 (55, .iload 5, 2) rfl
theorem dL_law_57 : decode cL_law 57 = .ok (.imul, 1) := dTL_law_0_ok 35 (57, .imul, 1) rfl
theorem dL_law_58 : decode cL_law 58 = .ok (.ishr, 1) := dTL_law_0_ok 36 (58, .ishr, 1) rfl
theorem dL_law_59 : decode cL_law 59 = .ok (.bipush 73, 2) := dTL_law_0_ok 37 (59, .bipush 73, 2) rfl
theorem dL_law_61 : decode cL_law 61 = .ok (.iload 5, 2) := dTL_law_0_ok 38 (61, .iload 5, 2) rfl
theorem dL_law_63 : decode cL_law 63 = .ok (.imul, 1) := dTL_law_0_ok 39 (63, .imul, 1) rfl
theorem dL_law_64 : decode cL_law 64 = .ok (.iadd, 1) := dTL_law_0_ok 40 (64, .iadd, 1) rfl
theorem dL_law_65 : decode cL_law 65 = .ok (.invokestatic 122, 3) := dTL_law_0_ok 41 (65, .invokestatic 122, 3) rfl
theorem dL_law_68 : decode cL_law 68 = .ok (.ifCond .ne 5, 3) := dTL_law_0_ok 42 (68, .ifCond .ne 5, 3) rfl
theorem dL_law_71 : decode cL_law 71 = .ok (.iconst 0, 1) := dTL_law_0_ok 43 (71, .iconst 0, 1) rfl
theorem dL_law_72 : decode cL_law 72 = .ok (.ireturn, 1) := dTL_law_0_ok 44 (72, .ireturn, 1) rfl
theorem dL_law_73 : decode cL_law 73 = .ok (.iinc 5 1, 3) := dTL_law_0_ok 45 (73, .iinc 5 1, 3) rfl
theorem dL_law_76 : decode cL_law 76 = .ok (.goto (-32), 3) := dTL_law_0_ok 46 (76, .goto (-32), 3) rfl
theorem dL_law_79 : decode cL_law 79 = .ok (.aload_n 1, 1) := dTL_law_0_ok 47 (79, .aload_n 1, 1) rfl
theorem dL_law_80 : decode cL_law 80 = .ok (.iconst 1, 1) := dTL_law_0_ok 48 (80, .iconst 1, 1) rfl
theorem dL_law_81 : decode cL_law 81 = .ok (.invokevirtual 131, 3) := dTL_law_0_ok 49 (81, .invokevirtual 131, 3) rfl
theorem dL_law_84 : decode cL_law 84 = .ok (.istore 5, 2) := dTL_law_0_ok 50 (84, .istore 5, 2) rfl
theorem dL_law_86 : decode cL_law 86 = .ok (.iload 5, 2) := dTL_law_0_ok 51 (86, .iload 5, 2) rfl
theorem dL_law_88 : decode cL_law 88 = .ok (.bipush 8, 2) := dTL_law_0_ok 52 (88, .bipush 8, 2) rfl
theorem dL_law_90 : decode cL_law 90 = .ok (.multianewarray 134 2, 4) := dTL_law_0_ok 53 (90, .multianewarray 134 2, 4) rfl
theorem dL_law_94 : decode cL_law 94 = .ok (.astore 6, 2) := dTL_law_0_ok 54 (94, .astore 6, 2) rfl
theorem dL_law_96 : decode cL_law 96 = .ok (.iload 5, 2) := dTL_law_0_ok 55 (96, .iload 5, 2) rfl
theorem dL_law_98 : decode cL_law 98 = .ok (.newarray .int, 2) := dTL_law_0_ok 56 (98, .newarray .int, 2) rfl
theorem dL_law_100 : decode cL_law 100 = .ok (.astore 7, 2) := dTL_law_0_ok 57 (100, .astore 7, 2) rfl
theorem dL_law_102 : decode cL_law 102 = .ok (.iconst 0, 1) := dTL_law_0_ok 58 (102, .iconst 0, 1) rfl
theorem dL_law_103 : decode cL_law 103 = .ok (.istore 8, 2) := dTL_law_0_ok 59 (103, .istore 8, 2) rfl
noncomputable def dTL_law_1 : List (Nat × Instr × Nat) := [(105, .iload 8, 2), (107, .iload 5, 2), (109, .if_icmp .ge 195, 3), (112, .iconst 0, 1), (113, .istore 9, 2), (115, .iload 9, 2), (117, .bipush 8, 2), (119, .if_icmp .ge 25, 3), (122, .aload 6, 2), (124, .iload 8, 2), (126, .aaload, 1), (127, .iload 9, 2), (129, .aload_n 1, 1), (130, .iload 8, 2), (132, .iload 9, 2), (134, .invokevirtual 135, 3), (137, .iastore, 1), (138, .iinc 9 1, 3), (141, .goto (-26), 3), (144, .aload 7, 2), (146, .iload 8, 2), (148, .aload_n 1, 1), (149, .iload 8, 2), (151, .aload 6, 2), (153, .iload 8, 2), (155, .aaload, 1), (156, .iconst 3, 1), (157, .iaload, 1), (158, .aload 6, 2), (160, .iload 8, 2), (162, .aaload, 1), (163, .iconst 4, 1), (164, .iaload, 1), (165, .invokevirtual 138, 3), (168, .iastore, 1), (169, .aload_n 1, 1), (170, .iload 8, 2), (172, .invokevirtual 140, 3), (175, .istore 9, 2), (177, .iload 9, 2), (179, .ifCond .lt 7, 3), (182, .iconst 1, 1), (183, .goto 4, 3), (186, .iconst 0, 1), (187, .aload 7, 2), (189, .iload 8, 2), (191, .iaload, 1), (192, .ifCond .le 7, 3), (195, .iconst 1, 1), (196, .goto 4, 3), (199, .iconst 0, 1), (200, .if_icmp .ne 96, 3), (203, .aload 7, 2), (205, .iload 8, 2), (207, .iaload, 1), (208, .ifCond .ne 7, 3), (211, .iconst 1, 1), (212, .goto 4, 3), (215, .iconst 0, 1), (216, .aload 6, 2)]
theorem dTL_law_1_ok : ∀ (k : Nat) (q : Nat × Instr × Nat), dTL_law_1[k]? = some q → decode cL_law q.1 = .ok q.2 := dT_of (by decide +kernel)
theorem dL_law_105 : decode cL_law 105 = .ok (.iload 8, 2) := dTL_law_1_ok 0 (105, .iload 8, 2) rfl
theorem dL_law_107 : decode cL_law 107 = .ok (.iload 5, 2) := dTL_law_1_ok 1 (107, .iload 5, 2) rfl
theorem dL_law_109 : decode cL_law 109 = .ok (.if_icmp .ge 195, 3) := dTL_law_1_ok 2 (109, .if_icmp .ge 195, 3) rfl
theorem dL_law_112 : decode cL_law 112 = .ok (.iconst 0, 1) := dTL_law_1_ok 3 (112, .iconst 0, 1) rfl
theorem dL_law_113 : decode cL_law 113 = .ok (.istore 9, 2) := dTL_law_1_ok 4 (113, .istore 9, 2) rfl
theorem dL_law_115 : decode cL_law 115 = .ok (.iload 9, 2) := dTL_law_1_ok 5 (115, .iload 9, 2) rfl
theorem dL_law_117 : decode cL_law 117 = .ok (.bipush 8, 2) := dTL_law_1_ok 6 (117, .bipush 8, 2) rfl
theorem dL_law_119 : decode cL_law 119 = .ok (.if_icmp .ge 25, 3) := dTL_law_1_ok 7 (119, .if_icmp .ge 25, 3) rfl
theorem dL_law_122 : decode cL_law 122 = .ok (.aload 6, 2) := dTL_law_1_ok 8 (122, .aload 6, 2) rfl
theorem dL_law_124 : decode cL_law 124 = .ok (.iload 8, 2) := dTL_law_1_ok 9 (124, .iload 8, 2) rfl
theorem dL_law_126 : decode cL_law 126 = .ok (.aaload, 1) := dTL_law_1_ok 10 (126, .aaload, 1) rfl
theorem dL_law_127 : decode cL_law 127 = .ok (.iload 9, 2) := dTL_law_1_ok 11 (127, .iload 9, 2) rfl
theorem dL_law_129 : decode cL_law 129 = .ok (.aload_n 1, 1) := dTL_law_1_ok 12 (129, .aload_n 1, 1) rfl
theorem dL_law_130 : decode cL_law 130 = .ok (.iload 8, 2) := dTL_law_1_ok 13 (130, .iload 8, 2) rfl
theorem dL_law_132 : decode cL_law 132 = .ok (.iload 9, 2) := dTL_law_1_ok 14 (132, .iload 9, 2) rfl
theorem dL_law_134 : decode cL_law 134 = .ok (.invokevirtual 135, 3) := dTL_law_1_ok 15 (134, .invokevirtual 135, 3) rfl
theorem dL_law_137 : decode cL_law 137 = .ok (.iastore, 1) := dTL_law_1_ok 16 (137, .iastore, 1) rfl
theorem dL_law_138 : decode cL_law 138 = .ok (.iinc 9 1, 3) := dTL_law_1_ok 17 (138, .iinc 9 1, 3) rfl
theorem dL_law_141 : decode cL_law 141 = .ok (.goto (-26), 3) := dTL_law_1_ok 18 (141, .goto (-26), 3) rfl
theorem dL_law_144 : decode cL_law 144 = .ok (.aload 7, 2) := dTL_law_1_ok 19 (144, .aload 7, 2) rfl
theorem dL_law_146 : decode cL_law 146 = .ok (.iload 8, 2) := dTL_law_1_ok 20 (146, .iload 8, 2) rfl
theorem dL_law_148 : decode cL_law 148 = .ok (.aload_n 1, 1) := dTL_law_1_ok 21 (148, .aload_n 1, 1) rfl
theorem dL_law_149 : decode cL_law 149 = .ok (.iload 8, 2) := dTL_law_1_ok 22 (149, .iload 8, 2) rfl
theorem dL_law_151 : decode cL_law 151 = .ok (.aload 6, 2) := dTL_law_1_ok 23 (151, .aload 6, 2) rfl
theorem dL_law_153 : decode cL_law 153 = .ok (.iload 8, 2) := dTL_law_1_ok 24 (153, .iload 8, 2) rfl
theorem dL_law_155 : decode cL_law 155 = .ok (.aaload, 1) := dTL_law_1_ok 25 (155, .aaload, 1) rfl
theorem dL_law_156 : decode cL_law 156 = .ok (.iconst 3, 1) := dTL_law_1_ok 26 (156, .iconst 3, 1) rfl
theorem dL_law_157 : decode cL_law 157 = .ok (.iaload, 1) := dTL_law_1_ok 27 (157, .iaload, 1) rfl
theorem dL_law_158 : decode cL_law 158 = .ok (.aload 6, 2) := dTL_law_1_ok 28 (158, .aload 6, 2) rfl
theorem dL_law_160 : decode cL_law 160 = .ok (.iload 8, 2) := dTL_law_1_ok 29 (160, .iload 8, 2) rfl
theorem dL_law_162 : decode cL_law 162 = .ok (.aaload, 1) := dTL_law_1_ok 30 (162, .aaload, 1) rfl
theorem dL_law_163 : decode cL_law 163 = .ok (.iconst 4, 1) := dTL_law_1_ok 31 (163, .iconst 4, 1) rfl
theorem dL_law_164 : decode cL_law 164 = .ok (.iaload, 1) := dTL_law_1_ok 32 (164, .iaload, 1) rfl
theorem dL_law_165 : decode cL_law 165 = .ok (.invokevirtual 138, 3) := dTL_law_1_ok 33 (165, .invokevirtual 138, 3) rfl
theorem dL_law_168 : decode cL_law 168 = .ok (.iastore, 1) := dTL_law_1_ok 34 (168, .iastore, 1) rfl
theorem dL_law_169 : decode cL_law 169 = .ok (.aload_n 1, 1) := dTL_law_1_ok 35 (169, .aload_n 1, 1) rfl
theorem dL_law_170 : decode cL_law 170 = .ok (.iload 8, 2) := dTL_law_1_ok 36 (170, .iload 8, 2) rfl
theorem dL_law_172 : decode cL_law 172 = .ok (.invokevirtual 140, 3) := dTL_law_1_ok 37 (172, .invokevirtual 140, 3) rfl
theorem dL_law_175 : decode cL_law 175 = .ok (.istore 9, 2) := dTL_law_1_ok 38 (175, .istore 9, 2) rfl
theorem dL_law_177 : decode cL_law 177 = .ok (.iload 9, 2) := dTL_law_1_ok 39 (177, .iload 9, 2) rfl
theorem dL_law_179 : decode cL_law 179 = .ok (.ifCond .lt 7, 3) := dTL_law_1_ok 40 (179, .ifCond .lt 7, 3) rfl
theorem dL_law_182 : decode cL_law 182 = .ok (.iconst 1, 1) := dTL_law_1_ok 41 (182, .iconst 1, 1) rfl
theorem dL_law_183 : decode cL_law 183 = .ok (.goto 4, 3) := dTL_law_1_ok 42 (183, .goto 4, 3) rfl
theorem dL_law_186 : decode cL_law 186 = .ok (.iconst 0, 1) := dTL_law_1_ok 43 (186, .iconst 0, 1) rfl
theorem dL_law_187 : decode cL_law 187 = .ok (.aload 7, 2) := dTL_law_1_ok 44 (187, .aload 7, 2) rfl
theorem dL_law_189 : decode cL_law 189 = .ok (.iload 8, 2) := dTL_law_1_ok 45 (189, .iload 8, 2) rfl
theorem dL_law_191 : decode cL_law 191 = .ok (.iaload, 1) := dTL_law_1_ok 46 (191, .iaload, 1) rfl
theorem dL_law_192 : decode cL_law 192 = .ok (.ifCond .le 7, 3) := dTL_law_1_ok 47 (192, .ifCond .le 7, 3) rfl
theorem dL_law_195 : decode cL_law 195 = .ok (.iconst 1, 1) := dTL_law_1_ok 48 (195, .iconst 1, 1) rfl
theorem dL_law_196 : decode cL_law 196 = .ok (.goto 4, 3) := dTL_law_1_ok 49 (196, .goto 4, 3) rfl
theorem dL_law_199 : decode cL_law 199 = .ok (.iconst 0, 1) := dTL_law_1_ok 50 (199, .iconst 0, 1) rfl
theorem dL_law_200 : decode cL_law 200 = .ok (.if_icmp .ne 96, 3) := dTL_law_1_ok 51 (200, .if_icmp .ne 96, 3) rfl
theorem dL_law_203 : decode cL_law 203 = .ok (.aload 7, 2) := dTL_law_1_ok 52 (203, .aload 7, 2) rfl
theorem dL_law_205 : decode cL_law 205 = .ok (.iload 8, 2) := dTL_law_1_ok 53 (205, .iload 8, 2) rfl
theorem dL_law_207 : decode cL_law 207 = .ok (.iaload, 1) := dTL_law_1_ok 54 (207, .iaload, 1) rfl
theorem dL_law_208 : decode cL_law 208 = .ok (.ifCond .ne 7, 3) := dTL_law_1_ok 55 (208, .ifCond .ne 7, 3) rfl
theorem dL_law_211 : decode cL_law 211 = .ok (.iconst 1, 1) := dTL_law_1_ok 56 (211, .iconst 1, 1) rfl
theorem dL_law_212 : decode cL_law 212 = .ok (.goto 4, 3) := dTL_law_1_ok 57 (212, .goto 4, 3) rfl
theorem dL_law_215 : decode cL_law 215 = .ok (.iconst 0, 1) := dTL_law_1_ok 58 (215, .iconst 0, 1) rfl
theorem dL_law_216 : decode cL_law 216 = .ok (.aload 6, 2) := dTL_law_1_ok 59 (216, .aload 6, 2) rfl
noncomputable def dTL_law_2 : List (Nat × Instr × Nat) := [(218, .iload 8, 2), (220, .aaload, 1), (221, .iconst 0, 1), (222, .iaload, 1), (223, .aload 6, 2), (225, .iload 8, 2), (227, .aaload, 1), (228, .iconst 3, 1), (229, .iaload, 1), (230, .if_icmp .ne 24, 3), (233, .aload 6, 2), (235, .iload 8, 2), (237, .aaload, 1), (238, .iconst 1, 1), (239, .iaload, 1), (240, .aload 6, 2), (242, .iload 8, 2), (244, .aaload, 1), (245, .iconst 4, 1), (246, .iaload, 1), (247, .if_icmp .ne 7, 3), (250, .iconst 1, 1), (251, .goto 4, 3), (254, .iconst 0, 1), (255, .if_icmp .ne 41, 3), (258, .iload 9, 2), (260, .ifCond .lt 38, 3), (263, .aload 6, 2), (265, .iload 8, 2), (267, .aaload, 1), (268, .iconst 5, 1), (269, .iaload, 1), (270, .ifCond .ne 28, 3), (273, .aload_n 1, 1), (274, .aload 6, 2), (276, .iload 8, 2), (278, .aaload, 1), (279, .iconst 0, 1), (280, .iaload, 1), (281, .aload 6, 2), (283, .iload 8, 2), (285, .aaload, 1), (286, .iconst 1, 1), (287, .iaload, 1), (288, .iload 9, 2), (290, .invokevirtual 143, 3), (293, .ifCond .eq 5, 3), (296, .iconst 0, 1), (297, .ireturn, 1), (298, .iinc 8 1, 3), (301, .goto (-196), 3), (304, .bipush 63, 2), (306, .iconst 3, 1), (307, .multianewarray 134 2, 4), (311, .astore 8, 2), (313, .iconst 0, 1), (314, .istore 9, 2), (316, .iload 9, 2), (318, .bipush 63, 2), (320, .if_icmp .ge 48, 3)]
theorem dTL_law_2_ok : ∀ (k : Nat) (q : Nat × Instr × Nat), dTL_law_2[k]? = some q → decode cL_law q.1 = .ok q.2 := dT_of (by decide +kernel)
theorem dL_law_218 : decode cL_law 218 = .ok (.iload 8, 2) := dTL_law_2_ok 0 (218, .iload 8, 2) rfl
theorem dL_law_220 : decode cL_law 220 = .ok (.aaload, 1) := dTL_law_2_ok 1 (220, .aaload, 1) rfl
theorem dL_law_221 : decode cL_law 221 = .ok (.iconst 0, 1) := dTL_law_2_ok 2 (221, .iconst 0, 1) rfl
theorem dL_law_222 : decode cL_law 222 = .ok (.iaload, 1) := dTL_law_2_ok 3 (222, .iaload, 1) rfl
theorem dL_law_223 : decode cL_law 223 = .ok (.aload 6, 2) := dTL_law_2_ok 4 (223, .aload 6, 2) rfl
theorem dL_law_225 : decode cL_law 225 = .ok (.iload 8, 2) := dTL_law_2_ok 5 (225, .iload 8, 2) rfl
theorem dL_law_227 : decode cL_law 227 = .ok (.aaload, 1) := dTL_law_2_ok 6 (227, .aaload, 1) rfl
theorem dL_law_228 : decode cL_law 228 = .ok (.iconst 3, 1) := dTL_law_2_ok 7 (228, .iconst 3, 1) rfl
theorem dL_law_229 : decode cL_law 229 = .ok (.iaload, 1) := dTL_law_2_ok 8 (229, .iaload, 1) rfl
theorem dL_law_230 : decode cL_law 230 = .ok (.if_icmp .ne 24, 3) := dTL_law_2_ok 9 (230, .if_icmp .ne 24, 3) rfl
theorem dL_law_233 : decode cL_law 233 = .ok (.aload 6, 2) := dTL_law_2_ok 10 (233, .aload 6, 2) rfl
theorem dL_law_235 : decode cL_law 235 = .ok (.iload 8, 2) := dTL_law_2_ok 11 (235, .iload 8, 2) rfl
theorem dL_law_237 : decode cL_law 237 = .ok (.aaload, 1) := dTL_law_2_ok 12 (237, .aaload, 1) rfl
theorem dL_law_238 : decode cL_law 238 = .ok (.iconst 1, 1) := dTL_law_2_ok 13 (238, .iconst 1, 1) rfl
theorem dL_law_239 : decode cL_law 239 = .ok (.iaload, 1) := dTL_law_2_ok 14 (239, .iaload, 1) rfl
theorem dL_law_240 : decode cL_law 240 = .ok (.aload 6, 2) := dTL_law_2_ok 15 (240, .aload 6, 2) rfl
theorem dL_law_242 : decode cL_law 242 = .ok (.iload 8, 2) := dTL_law_2_ok 16 (242, .iload 8, 2) rfl
theorem dL_law_244 : decode cL_law 244 = .ok (.aaload, 1) := dTL_law_2_ok 17 (244, .aaload, 1) rfl
theorem dL_law_245 : decode cL_law 245 = .ok (.iconst 4, 1) := dTL_law_2_ok 18 (245, .iconst 4, 1) rfl
theorem dL_law_246 : decode cL_law 246 = .ok (.iaload, 1) := dTL_law_2_ok 19 (246, .iaload, 1) rfl
theorem dL_law_247 : decode cL_law 247 = .ok (.if_icmp .ne 7, 3) := dTL_law_2_ok 20 (247, .if_icmp .ne 7, 3) rfl
theorem dL_law_250 : decode cL_law 250 = .ok (.iconst 1, 1) := dTL_law_2_ok 21 (250, .iconst 1, 1) rfl
theorem dL_law_251 : decode cL_law 251 = .ok (.goto 4, 3) := dTL_law_2_ok 22 (251, .goto 4, 3) rfl
theorem dL_law_254 : decode cL_law 254 = .ok (.iconst 0, 1) := dTL_law_2_ok 23 (254, .iconst 0, 1) rfl
theorem dL_law_255 : decode cL_law 255 = .ok (.if_icmp .ne 41, 3) := dTL_law_2_ok 24 (255, .if_icmp .ne 41, 3) rfl
theorem dL_law_258 : decode cL_law 258 = .ok (.iload 9, 2) := dTL_law_2_ok 25 (258, .iload 9, 2) rfl
theorem dL_law_260 : decode cL_law 260 = .ok (.ifCond .lt 38, 3) := dTL_law_2_ok 26 (260, .ifCond .lt 38, 3) rfl
theorem dL_law_263 : decode cL_law 263 = .ok (.aload 6, 2) := dTL_law_2_ok 27 (263, .aload 6, 2) rfl
theorem dL_law_265 : decode cL_law 265 = .ok (.iload 8, 2) := dTL_law_2_ok 28 (265, .iload 8, 2) rfl
theorem dL_law_267 : decode cL_law 267 = .ok (.aaload, 1) := dTL_law_2_ok 29 (267, .aaload, 1) rfl
theorem dL_law_268 : decode cL_law 268 = .ok (.iconst 5, 1) := dTL_law_2_ok 30 (268, .iconst 5, 1) rfl
theorem dL_law_269 : decode cL_law 269 = .ok (.iaload, 1) := dTL_law_2_ok 31 (269, .iaload, 1) rfl
theorem dL_law_270 : decode cL_law 270 = .ok (.ifCond .ne 28, 3) := dTL_law_2_ok 32 (270, .ifCond .ne 28, 3) rfl
theorem dL_law_273 : decode cL_law 273 = .ok (.aload_n 1, 1) := dTL_law_2_ok 33 (273, .aload_n 1, 1) rfl
theorem dL_law_274 : decode cL_law 274 = .ok (.aload 6, 2) := dTL_law_2_ok 34 (274, .aload 6, 2) rfl
theorem dL_law_276 : decode cL_law 276 = .ok (.iload 8, 2) := dTL_law_2_ok 35 (276, .iload 8, 2) rfl
theorem dL_law_278 : decode cL_law 278 = .ok (.aaload, 1) := dTL_law_2_ok 36 (278, .aaload, 1) rfl
theorem dL_law_279 : decode cL_law 279 = .ok (.iconst 0, 1) := dTL_law_2_ok 37 (279, .iconst 0, 1) rfl
theorem dL_law_280 : decode cL_law 280 = .ok (.iaload, 1) := dTL_law_2_ok 38 (280, .iaload, 1) rfl
theorem dL_law_281 : decode cL_law 281 = .ok (.aload 6, 2) := dTL_law_2_ok 39 (281, .aload 6, 2) rfl
theorem dL_law_283 : decode cL_law 283 = .ok (.iload 8, 2) := dTL_law_2_ok 40 (283, .iload 8, 2) rfl
theorem dL_law_285 : decode cL_law 285 = .ok (.aaload, 1) := dTL_law_2_ok 41 (285, .aaload, 1) rfl
theorem dL_law_286 : decode cL_law 286 = .ok (.iconst 1, 1) := dTL_law_2_ok 42 (286, .iconst 1, 1) rfl
theorem dL_law_287 : decode cL_law 287 = .ok (.iaload, 1) := dTL_law_2_ok 43 (287, .iaload, 1) rfl
theorem dL_law_288 : decode cL_law 288 = .ok (.iload 9, 2) := dTL_law_2_ok 44 (288, .iload 9, 2) rfl
theorem dL_law_290 : decode cL_law 290 = .ok (.invokevirtual 143, 3) := dTL_law_2_ok 45 (290, .invokevirtual 143, 3) rfl
theorem dL_law_293 : decode cL_law 293 = .ok (.ifCond .eq 5, 3) := dTL_law_2_ok 46 (293, .ifCond .eq 5, 3) rfl
theorem dL_law_296 : decode cL_law 296 = .ok (.iconst 0, 1) := dTL_law_2_ok 47 (296, .iconst 0, 1) rfl
theorem dL_law_297 : decode cL_law 297 = .ok (.ireturn, 1) := dTL_law_2_ok 48 (297, .ireturn, 1) rfl
theorem dL_law_298 : decode cL_law 298 = .ok (.iinc 8 1, 3) := dTL_law_2_ok 49 (298, .iinc 8 1, 3) rfl
theorem dL_law_301 : decode cL_law 301 = .ok (.goto (-196), 3) := dTL_law_2_ok 50 (301, .goto (-196), 3) rfl
theorem dL_law_304 : decode cL_law 304 = .ok (.bipush 63, 2) := dTL_law_2_ok 51 (304, .bipush 63, 2) rfl
theorem dL_law_306 : decode cL_law 306 = .ok (.iconst 3, 1) := dTL_law_2_ok 52 (306, .iconst 3, 1) rfl
theorem dL_law_307 : decode cL_law 307 = .ok (.multianewarray 134 2, 4) := dTL_law_2_ok 53 (307, .multianewarray 134 2, 4) rfl
theorem dL_law_311 : decode cL_law 311 = .ok (.astore 8, 2) := dTL_law_2_ok 54 (311, .astore 8, 2) rfl
theorem dL_law_313 : decode cL_law 313 = .ok (.iconst 0, 1) := dTL_law_2_ok 55 (313, .iconst 0, 1) rfl
theorem dL_law_314 : decode cL_law 314 = .ok (.istore 9, 2) := dTL_law_2_ok 56 (314, .istore 9, 2) rfl
theorem dL_law_316 : decode cL_law 316 = .ok (.iload 9, 2) := dTL_law_2_ok 57 (316, .iload 9, 2) rfl
theorem dL_law_318 : decode cL_law 318 = .ok (.bipush 63, 2) := dTL_law_2_ok 58 (318, .bipush 63, 2) rfl
theorem dL_law_320 : decode cL_law 320 = .ok (.if_icmp .ge 48, 3) := dTL_law_2_ok 59 (320, .if_icmp .ge 48, 3) rfl
noncomputable def dTL_law_3 : List (Nat × Instr × Nat) := [(323, .iconst 0, 1), (324, .istore 10, 2), (326, .iload 10, 2), (328, .iconst 3, 1), (329, .if_icmp .ge 33, 3), (332, .aload 8, 2), (334, .iload 9, 2), (336, .aaload, 1), (337, .iload 10, 2), (339, .aload_n 1, 1), (340, .iload 9, 2), (342, .bipush 9, 2), (344, .irem, 1), (345, .iload 9, 2), (347, .bipush 9, 2), (349, .idiv, 1), (350, .iload 10, 2), (352, .invokevirtual 146, 3), (355, .iastore, 1), (356, .iinc 10 1, 3), (359, .goto (-33), 3), (362, .iinc 9 1, 3), (365, .goto (-49), 3), (368, .aload_n 1, 1), (369, .bipush 6, 2), (371, .invokevirtual 131, 3), (374, .istore 9, 2), (376, .aload_n 1, 1), (377, .iconst 1, 1), (378, .iconst 1, 1), (379, .invokevirtual 148, 3), (382, .istore 10, 2), (384, .aload_n 1, 1), (385, .iconst 1, 1), (386, .iconst 2, 1), (387, .invokevirtual 148, 3), (390, .istore 11, 2), (392, .aload_n 1, 1), (393, .iconst 1, 1), (394, .iconst 3, 1), (395, .invokevirtual 148, 3), (398, .istore 12, 2), (400, .aload_n 1, 1), (401, .iconst 1, 1), (402, .iconst 0, 1), (403, .invokevirtual 148, 3), (406, .istore 13, 2), (408, .aload_n 1, 1), (409, .bipush 8, 2), (411, .invokevirtual 131, 3), (414, .istore 14, 2), (416, .aload_n 1, 1), (417, .iconst 0, 1), (418, .invokevirtual 131, 3), (421, .istore 15, 2), (423, .aload_n 1, 1), (424, .iconst 1, 1), (425, .invokevirtual 151, 3), (428, .iload 13, 2), (430, .if_icmp .ne 61, 3)]
theorem dTL_law_3_ok : ∀ (k : Nat) (q : Nat × Instr × Nat), dTL_law_3[k]? = some q → decode cL_law q.1 = .ok q.2 := dT_of (by decide +kernel)
theorem dL_law_323 : decode cL_law 323 = .ok (.iconst 0, 1) := dTL_law_3_ok 0 (323, .iconst 0, 1) rfl
theorem dL_law_324 : decode cL_law 324 = .ok (.istore 10, 2) := dTL_law_3_ok 1 (324, .istore 10, 2) rfl
theorem dL_law_326 : decode cL_law 326 = .ok (.iload 10, 2) := dTL_law_3_ok 2 (326, .iload 10, 2) rfl
theorem dL_law_328 : decode cL_law 328 = .ok (.iconst 3, 1) := dTL_law_3_ok 3 (328, .iconst 3, 1) rfl
theorem dL_law_329 : decode cL_law 329 = .ok (.if_icmp .ge 33, 3) := dTL_law_3_ok 4 (329, .if_icmp .ge 33, 3) rfl
theorem dL_law_332 : decode cL_law 332 = .ok (.aload 8, 2) := dTL_law_3_ok 5 (332, .aload 8, 2) rfl
theorem dL_law_334 : decode cL_law 334 = .ok (.iload 9, 2) := dTL_law_3_ok 6 (334, .iload 9, 2) rfl
theorem dL_law_336 : decode cL_law 336 = .ok (.aaload, 1) := dTL_law_3_ok 7 (336, .aaload, 1) rfl
theorem dL_law_337 : decode cL_law 337 = .ok (.iload 10, 2) := dTL_law_3_ok 8 (337, .iload 10, 2) rfl
theorem dL_law_339 : decode cL_law 339 = .ok (.aload_n 1, 1) := dTL_law_3_ok 9 (339, .aload_n 1, 1) rfl
theorem dL_law_340 : decode cL_law 340 = .ok (.iload 9, 2) := dTL_law_3_ok 10 (340, .iload 9, 2) rfl
theorem dL_law_342 : decode cL_law 342 = .ok (.bipush 9, 2) := dTL_law_3_ok 11 (342, .bipush 9, 2) rfl
theorem dL_law_344 : decode cL_law 344 = .ok (.irem, 1) := dTL_law_3_ok 12 (344, .irem, 1) rfl
theorem dL_law_345 : decode cL_law 345 = .ok (.iload 9, 2) := dTL_law_3_ok 13 (345, .iload 9, 2) rfl
theorem dL_law_347 : decode cL_law 347 = .ok (.bipush 9, 2) := dTL_law_3_ok 14 (347, .bipush 9, 2) rfl
theorem dL_law_349 : decode cL_law 349 = .ok (.idiv, 1) := dTL_law_3_ok 15 (349, .idiv, 1) rfl
theorem dL_law_350 : decode cL_law 350 = .ok (.iload 10, 2) := dTL_law_3_ok 16 (350, .iload 10, 2) rfl
theorem dL_law_352 : decode cL_law 352 = .ok (.invokevirtual 146, 3) := dTL_law_3_ok 17 (352, .invokevirtual 146, 3) rfl
theorem dL_law_355 : decode cL_law 355 = .ok (.iastore, 1) := dTL_law_3_ok 18 (355, .iastore, 1) rfl
theorem dL_law_356 : decode cL_law 356 = .ok (.iinc 10 1, 3) := dTL_law_3_ok 19 (356, .iinc 10 1, 3) rfl
theorem dL_law_359 : decode cL_law 359 = .ok (.goto (-33), 3) := dTL_law_3_ok 20 (359, .goto (-33), 3) rfl
theorem dL_law_362 : decode cL_law 362 = .ok (.iinc 9 1, 3) := dTL_law_3_ok 21 (362, .iinc 9 1, 3) rfl
theorem dL_law_365 : decode cL_law 365 = .ok (.goto (-49), 3) := dTL_law_3_ok 22 (365, .goto (-49), 3) rfl
theorem dL_law_368 : decode cL_law 368 = .ok (.aload_n 1, 1) := dTL_law_3_ok 23 (368, .aload_n 1, 1) rfl
theorem dL_law_369 : decode cL_law 369 = .ok (.bipush 6, 2) := dTL_law_3_ok 24 (369, .bipush 6, 2) rfl
theorem dL_law_371 : decode cL_law 371 = .ok (.invokevirtual 131, 3) := dTL_law_3_ok 25 (371, .invokevirtual 131, 3) rfl
theorem dL_law_374 : decode cL_law 374 = .ok (.istore 9, 2) := dTL_law_3_ok 26 (374, .istore 9, 2) rfl
theorem dL_law_376 : decode cL_law 376 = .ok (.aload_n 1, 1) := dTL_law_3_ok 27 (376, .aload_n 1, 1) rfl
theorem dL_law_377 : decode cL_law 377 = .ok (.iconst 1, 1) := dTL_law_3_ok 28 (377, .iconst 1, 1) rfl
theorem dL_law_378 : decode cL_law 378 = .ok (.iconst 1, 1) := dTL_law_3_ok 29 (378, .iconst 1, 1) rfl
theorem dL_law_379 : decode cL_law 379 = .ok (.invokevirtual 148, 3) := dTL_law_3_ok 30 (379, .invokevirtual 148, 3) rfl
theorem dL_law_382 : decode cL_law 382 = .ok (.istore 10, 2) := dTL_law_3_ok 31 (382, .istore 10, 2) rfl
theorem dL_law_384 : decode cL_law 384 = .ok (.aload_n 1, 1) := dTL_law_3_ok 32 (384, .aload_n 1, 1) rfl
theorem dL_law_385 : decode cL_law 385 = .ok (.iconst 1, 1) := dTL_law_3_ok 33 (385, .iconst 1, 1) rfl
theorem dL_law_386 : decode cL_law 386 = .ok (.iconst 2, 1) := dTL_law_3_ok 34 (386, .iconst 2, 1) rfl
theorem dL_law_387 : decode cL_law 387 = .ok (.invokevirtual 148, 3) := dTL_law_3_ok 35 (387, .invokevirtual 148, 3) rfl
theorem dL_law_390 : decode cL_law 390 = .ok (.istore 11, 2) := dTL_law_3_ok 36 (390, .istore 11, 2) rfl
theorem dL_law_392 : decode cL_law 392 = .ok (.aload_n 1, 1) := dTL_law_3_ok 37 (392, .aload_n 1, 1) rfl
theorem dL_law_393 : decode cL_law 393 = .ok (.iconst 1, 1) := dTL_law_3_ok 38 (393, .iconst 1, 1) rfl
theorem dL_law_394 : decode cL_law 394 = .ok (.iconst 3, 1) := dTL_law_3_ok 39 (394, .iconst 3, 1) rfl
theorem dL_law_395 : decode cL_law 395 = .ok (.invokevirtual 148, 3) := dTL_law_3_ok 40 (395, .invokevirtual 148, 3) rfl
theorem dL_law_398 : decode cL_law 398 = .ok (.istore 12, 2) := dTL_law_3_ok 41 (398, .istore 12, 2) rfl
theorem dL_law_400 : decode cL_law 400 = .ok (.aload_n 1, 1) := dTL_law_3_ok 42 (400, .aload_n 1, 1) rfl
theorem dL_law_401 : decode cL_law 401 = .ok (.iconst 1, 1) := dTL_law_3_ok 43 (401, .iconst 1, 1) rfl
theorem dL_law_402 : decode cL_law 402 = .ok (.iconst 0, 1) := dTL_law_3_ok 44 (402, .iconst 0, 1) rfl
theorem dL_law_403 : decode cL_law 403 = .ok (.invokevirtual 148, 3) := dTL_law_3_ok 45 (403, .invokevirtual 148, 3) rfl
theorem dL_law_406 : decode cL_law 406 = .ok (.istore 13, 2) := dTL_law_3_ok 46 (406, .istore 13, 2) rfl
theorem dL_law_408 : decode cL_law 408 = .ok (.aload_n 1, 1) := dTL_law_3_ok 47 (408, .aload_n 1, 1) rfl
theorem dL_law_409 : decode cL_law 409 = .ok (.bipush 8, 2) := dTL_law_3_ok 48 (409, .bipush 8, 2) rfl
theorem dL_law_411 : decode cL_law 411 = .ok (.invokevirtual 131, 3) := dTL_law_3_ok 49 (411, .invokevirtual 131, 3) rfl
theorem dL_law_414 : decode cL_law 414 = .ok (.istore 14, 2) := dTL_law_3_ok 50 (414, .istore 14, 2) rfl
theorem dL_law_416 : decode cL_law 416 = .ok (.aload_n 1, 1) := dTL_law_3_ok 51 (416, .aload_n 1, 1) rfl
theorem dL_law_417 : decode cL_law 417 = .ok (.iconst 0, 1) := dTL_law_3_ok 52 (417, .iconst 0, 1) rfl
theorem dL_law_418 : decode cL_law 418 = .ok (.invokevirtual 131, 3) := dTL_law_3_ok 53 (418, .invokevirtual 131, 3) rfl
theorem dL_law_421 : decode cL_law 421 = .ok (.istore 15, 2) := dTL_law_3_ok 54 (421, .istore 15, 2) rfl
theorem dL_law_423 : decode cL_law 423 = .ok (.aload_n 1, 1) := dTL_law_3_ok 55 (423, .aload_n 1, 1) rfl
theorem dL_law_424 : decode cL_law 424 = .ok (.iconst 1, 1) := dTL_law_3_ok 56 (424, .iconst 1, 1) rfl
theorem dL_law_425 : decode cL_law 425 = .ok (.invokevirtual 151, 3) := dTL_law_3_ok 57 (425, .invokevirtual 151, 3) rfl
theorem dL_law_428 : decode cL_law 428 = .ok (.iload 13, 2) := dTL_law_3_ok 58 (428, .iload 13, 2) rfl
theorem dL_law_430 : decode cL_law 430 = .ok (.if_icmp .ne 61, 3) := dTL_law_3_ok 59 (430, .if_icmp .ne 61, 3) rfl
noncomputable def dTL_law_4 : List (Nat × Instr × Nat) := [(433, .aload_n 1, 1), (434, .bipush 8, 2), (436, .invokevirtual 131, 3), (439, .iload 14, 2), (441, .iload 13, 2), (443, .iadd, 1), (444, .if_icmp .ne 47, 3), (447, .aload_n 1, 1), (448, .iconst 3, 1), (449, .invokevirtual 131, 3), (452, .iload 10, 2), (454, .if_icmp .ne 37, 3), (457, .aload_n 1, 1), (458, .bipush 7, 2), (460, .invokevirtual 131, 3), (463, .iload 11, 2), (465, .if_icmp .ne 26, 3), (468, .aload_n 1, 1), (469, .bipush 6, 2), (471, .invokevirtual 131, 3), (474, .iload 9, 2), (476, .if_icmp .ne 15, 3), (479, .aload_n 1, 1), (480, .iconst 0, 1), (481, .invokevirtual 131, 3), (484, .iload 15, 2), (486, .iconst 1, 1), (487, .iadd, 1), (488, .if_icmp .eq 5, 3), (491, .iconst 0, 1), (492, .ireturn, 1), (493, .aload_n 2, 1), (494, .invokevirtual 154, 3), (497, .pop, 1), (498, .bipush 63, 2), (500, .newarray .int, 2), (502, .astore 16, 2), (504, .iconst 0, 1), (505, .istore 17, 2), (507, .iconst 0, 1), (508, .istore 18, 2), (510, .iload 18, 2), (512, .iload 5, 2), (514, .if_icmp .ge 302, 3), (517, .aload_n 1, 1), (518, .iload 18, 2), (520, .iconst 0, 1), (521, .invokevirtual 135, 3), (524, .istore 19, 2), (526, .aload_n 1, 1), (527, .iload 18, 2), (529, .iconst 1, 1), (530, .invokevirtual 135, 3), (533, .istore 20, 2), (535, .aload_n 1, 1), (536, .iload 19, 2), (538, .iload 20, 2), (540, .iconst 3, 1), (541, .invokevirtual 146, 3), (544, .iconst 1, 1)]
theorem dTL_law_4_ok : ∀ (k : Nat) (q : Nat × Instr × Nat), dTL_law_4[k]? = some q → decode cL_law q.1 = .ok q.2 := dT_of (by decide +kernel)
theorem dL_law_433 : decode cL_law 433 = .ok (.aload_n 1, 1) := dTL_law_4_ok 0 (433, .aload_n 1, 1) rfl
theorem dL_law_434 : decode cL_law 434 = .ok (.bipush 8, 2) := dTL_law_4_ok 1 (434, .bipush 8, 2) rfl
theorem dL_law_436 : decode cL_law 436 = .ok (.invokevirtual 131, 3) := dTL_law_4_ok 2 (436, .invokevirtual 131, 3) rfl
theorem dL_law_439 : decode cL_law 439 = .ok (.iload 14, 2) := dTL_law_4_ok 3 (439, .iload 14, 2) rfl
theorem dL_law_441 : decode cL_law 441 = .ok (.iload 13, 2) := dTL_law_4_ok 4 (441, .iload 13, 2) rfl
theorem dL_law_443 : decode cL_law 443 = .ok (.iadd, 1) := dTL_law_4_ok 5 (443, .iadd, 1) rfl
theorem dL_law_444 : decode cL_law 444 = .ok (.if_icmp .ne 47, 3) := dTL_law_4_ok 6 (444, .if_icmp .ne 47, 3) rfl
theorem dL_law_447 : decode cL_law 447 = .ok (.aload_n 1, 1) := dTL_law_4_ok 7 (447, .aload_n 1, 1) rfl
theorem dL_law_448 : decode cL_law 448 = .ok (.iconst 3, 1) := dTL_law_4_ok 8 (448, .iconst 3, 1) rfl
theorem dL_law_449 : decode cL_law 449 = .ok (.invokevirtual 131, 3) := dTL_law_4_ok 9 (449, .invokevirtual 131, 3) rfl
theorem dL_law_452 : decode cL_law 452 = .ok (.iload 10, 2) := dTL_law_4_ok 10 (452, .iload 10, 2) rfl
theorem dL_law_454 : decode cL_law 454 = .ok (.if_icmp .ne 37, 3) := dTL_law_4_ok 11 (454, .if_icmp .ne 37, 3) rfl
theorem dL_law_457 : decode cL_law 457 = .ok (.aload_n 1, 1) := dTL_law_4_ok 12 (457, .aload_n 1, 1) rfl
theorem dL_law_458 : decode cL_law 458 = .ok (.bipush 7, 2) := dTL_law_4_ok 13 (458, .bipush 7, 2) rfl
theorem dL_law_460 : decode cL_law 460 = .ok (.invokevirtual 131, 3) := dTL_law_4_ok 14 (460, .invokevirtual 131, 3) rfl
theorem dL_law_463 : decode cL_law 463 = .ok (.iload 11, 2) := dTL_law_4_ok 15 (463, .iload 11, 2) rfl
theorem dL_law_465 : decode cL_law 465 = .ok (.if_icmp .ne 26, 3) := dTL_law_4_ok 16 (465, .if_icmp .ne 26, 3) rfl
theorem dL_law_468 : decode cL_law 468 = .ok (.aload_n 1, 1) := dTL_law_4_ok 17 (468, .aload_n 1, 1) rfl
theorem dL_law_469 : decode cL_law 469 = .ok (.bipush 6, 2) := dTL_law_4_ok 18 (469, .bipush 6, 2) rfl
theorem dL_law_471 : decode cL_law 471 = .ok (.invokevirtual 131, 3) := dTL_law_4_ok 19 (471, .invokevirtual 131, 3) rfl
theorem dL_law_474 : decode cL_law 474 = .ok (.iload 9, 2) := dTL_law_4_ok 20 (474, .iload 9, 2) rfl
theorem dL_law_476 : decode cL_law 476 = .ok (.if_icmp .ne 15, 3) := dTL_law_4_ok 21 (476, .if_icmp .ne 15, 3) rfl
theorem dL_law_479 : decode cL_law 479 = .ok (.aload_n 1, 1) := dTL_law_4_ok 22 (479, .aload_n 1, 1) rfl
theorem dL_law_480 : decode cL_law 480 = .ok (.iconst 0, 1) := dTL_law_4_ok 23 (480, .iconst 0, 1) rfl
theorem dL_law_481 : decode cL_law 481 = .ok (.invokevirtual 131, 3) := dTL_law_4_ok 24 (481, .invokevirtual 131, 3) rfl
theorem dL_law_484 : decode cL_law 484 = .ok (.iload 15, 2) := dTL_law_4_ok 25 (484, .iload 15, 2) rfl
theorem dL_law_486 : decode cL_law 486 = .ok (.iconst 1, 1) := dTL_law_4_ok 26 (486, .iconst 1, 1) rfl
theorem dL_law_487 : decode cL_law 487 = .ok (.iadd, 1) := dTL_law_4_ok 27 (487, .iadd, 1) rfl
theorem dL_law_488 : decode cL_law 488 = .ok (.if_icmp .eq 5, 3) := dTL_law_4_ok 28 (488, .if_icmp .eq 5, 3) rfl
theorem dL_law_491 : decode cL_law 491 = .ok (.iconst 0, 1) := dTL_law_4_ok 29 (491, .iconst 0, 1) rfl
theorem dL_law_492 : decode cL_law 492 = .ok (.ireturn, 1) := dTL_law_4_ok 30 (492, .ireturn, 1) rfl
theorem dL_law_493 : decode cL_law 493 = .ok (.aload_n 2, 1) := dTL_law_4_ok 31 (493, .aload_n 2, 1) rfl
theorem dL_law_494 : decode cL_law 494 = .ok (.invokevirtual 154, 3) := dTL_law_4_ok 32 (494, .invokevirtual 154, 3) rfl
theorem dL_law_497 : decode cL_law 497 = .ok (.pop, 1) := dTL_law_4_ok 33 (497, .pop, 1) rfl
theorem dL_law_498 : decode cL_law 498 = .ok (.bipush 63, 2) := dTL_law_4_ok 34 (498, .bipush 63, 2) rfl
theorem dL_law_500 : decode cL_law 500 = .ok (.newarray .int, 2) := dTL_law_4_ok 35 (500, .newarray .int, 2) rfl
theorem dL_law_502 : decode cL_law 502 = .ok (.astore 16, 2) := dTL_law_4_ok 36 (502, .astore 16, 2) rfl
theorem dL_law_504 : decode cL_law 504 = .ok (.iconst 0, 1) := dTL_law_4_ok 37 (504, .iconst 0, 1) rfl
theorem dL_law_505 : decode cL_law 505 = .ok (.istore 17, 2) := dTL_law_4_ok 38 (505, .istore 17, 2) rfl
theorem dL_law_507 : decode cL_law 507 = .ok (.iconst 0, 1) := dTL_law_4_ok 39 (507, .iconst 0, 1) rfl
theorem dL_law_508 : decode cL_law 508 = .ok (.istore 18, 2) := dTL_law_4_ok 40 (508, .istore 18, 2) rfl
theorem dL_law_510 : decode cL_law 510 = .ok (.iload 18, 2) := dTL_law_4_ok 41 (510, .iload 18, 2) rfl
theorem dL_law_512 : decode cL_law 512 = .ok (.iload 5, 2) := dTL_law_4_ok 42 (512, .iload 5, 2) rfl
theorem dL_law_514 : decode cL_law 514 = .ok (.if_icmp .ge 302, 3) := dTL_law_4_ok 43 (514, .if_icmp .ge 302, 3) rfl
theorem dL_law_517 : decode cL_law 517 = .ok (.aload_n 1, 1) := dTL_law_4_ok 44 (517, .aload_n 1, 1) rfl
theorem dL_law_518 : decode cL_law 518 = .ok (.iload 18, 2) := dTL_law_4_ok 45 (518, .iload 18, 2) rfl
theorem dL_law_520 : decode cL_law 520 = .ok (.iconst 0, 1) := dTL_law_4_ok 46 (520, .iconst 0, 1) rfl
theorem dL_law_521 : decode cL_law 521 = .ok (.invokevirtual 135, 3) := dTL_law_4_ok 47 (521, .invokevirtual 135, 3) rfl
theorem dL_law_524 : decode cL_law 524 = .ok (.istore 19, 2) := dTL_law_4_ok 48 (524, .istore 19, 2) rfl
theorem dL_law_526 : decode cL_law 526 = .ok (.aload_n 1, 1) := dTL_law_4_ok 49 (526, .aload_n 1, 1) rfl
theorem dL_law_527 : decode cL_law 527 = .ok (.iload 18, 2) := dTL_law_4_ok 50 (527, .iload 18, 2) rfl
theorem dL_law_529 : decode cL_law 529 = .ok (.iconst 1, 1) := dTL_law_4_ok 51 (529, .iconst 1, 1) rfl
theorem dL_law_530 : decode cL_law 530 = .ok (.invokevirtual 135, 3) := dTL_law_4_ok 52 (530, .invokevirtual 135, 3) rfl
theorem dL_law_533 : decode cL_law 533 = .ok (.istore 20, 2) := dTL_law_4_ok 53 (533, .istore 20, 2) rfl
theorem dL_law_535 : decode cL_law 535 = .ok (.aload_n 1, 1) := dTL_law_4_ok 54 (535, .aload_n 1, 1) rfl
theorem dL_law_536 : decode cL_law 536 = .ok (.iload 19, 2) := dTL_law_4_ok 55 (536, .iload 19, 2) rfl
theorem dL_law_538 : decode cL_law 538 = .ok (.iload 20, 2) := dTL_law_4_ok 56 (538, .iload 20, 2) rfl
theorem dL_law_540 : decode cL_law 540 = .ok (.iconst 3, 1) := dTL_law_4_ok 57 (540, .iconst 3, 1) rfl
theorem dL_law_541 : decode cL_law 541 = .ok (.invokevirtual 146, 3) := dTL_law_4_ok 58 (541, .invokevirtual 146, 3) rfl
theorem dL_law_544 : decode cL_law 544 = .ok (.iconst 1, 1) := dTL_law_4_ok 59 (544, .iconst 1, 1) rfl
noncomputable def dTL_law_5 : List (Nat × Instr × Nat) := [(545, .if_icmp .ne 7, 3), (548, .iconst 1, 1), (549, .goto 4, 3), (552, .iconst 0, 1), (553, .istore 21, 2), (555, .aload_n 1, 1), (556, .iload 19, 2), (558, .iload 20, 2), (560, .iconst 0, 1), (561, .invokevirtual 146, 3), (564, .iconst 4, 1), (565, .if_icmp .ne 7, 3), (568, .iconst 1, 1), (569, .goto 4, 3), (572, .iconst 0, 1), (573, .istore 22, 2), (575, .aload 16, 2), (577, .bipush 9, 2), (579, .iload 20, 2), (581, .imul, 1), (582, .iload 19, 2), (584, .iadd, 1), (585, .dup2, 1), (586, .iaload, 1), (587, .iload 21, 2), (589, .ifCond .ne 8, 3), (592, .iload 22, 2), (594, .ifCond .ne 7, 3), (597, .iconst 0, 1), (598, .goto 4, 3), (601, .iconst 1, 1), (602, .iadd, 1), (603, .iastore, 1), (604, .iload 17, 2), (606, .iload 19, 2), (608, .aload 6, 2), (610, .iload 18, 2), (612, .aaload, 1), (613, .iconst 3, 1), (614, .iaload, 1), (615, .if_icmp .ne 19, 3), (618, .iload 20, 2), (620, .aload 6, 2), (622, .iload 18, 2), (624, .aaload, 1), (625, .iconst 4, 1), (626, .iaload, 1), (627, .if_icmp .ne 7, 3), (630, .iconst 1, 1), (631, .goto 4, 3), (634, .iconst 0, 1), (635, .iadd, 1), (636, .istore 17, 2), (638, .iload 19, 2), (640, .aload 6, 2), (642, .iload 18, 2), (644, .aaload, 1), (645, .iconst 0, 1), (646, .iaload, 1), (647, .isub, 1)]
theorem dTL_law_5_ok : ∀ (k : Nat) (q : Nat × Instr × Nat), dTL_law_5[k]? = some q → decode cL_law q.1 = .ok q.2 := dT_of (by decide +kernel)
theorem dL_law_545 : decode cL_law 545 = .ok (.if_icmp .ne 7, 3) := dTL_law_5_ok 0 (545, .if_icmp .ne 7, 3) rfl
theorem dL_law_548 : decode cL_law 548 = .ok (.iconst 1, 1) := dTL_law_5_ok 1 (548, .iconst 1, 1) rfl
theorem dL_law_549 : decode cL_law 549 = .ok (.goto 4, 3) := dTL_law_5_ok 2 (549, .goto 4, 3) rfl
theorem dL_law_552 : decode cL_law 552 = .ok (.iconst 0, 1) := dTL_law_5_ok 3 (552, .iconst 0, 1) rfl
theorem dL_law_553 : decode cL_law 553 = .ok (.istore 21, 2) := dTL_law_5_ok 4 (553, .istore 21, 2) rfl
theorem dL_law_555 : decode cL_law 555 = .ok (.aload_n 1, 1) := dTL_law_5_ok 5 (555, .aload_n 1, 1) rfl
theorem dL_law_556 : decode cL_law 556 = .ok (.iload 19, 2) := dTL_law_5_ok 6 (556, .iload 19, 2) rfl
theorem dL_law_558 : decode cL_law 558 = .ok (.iload 20, 2) := dTL_law_5_ok 7 (558, .iload 20, 2) rfl
theorem dL_law_560 : decode cL_law 560 = .ok (.iconst 0, 1) := dTL_law_5_ok 8 (560, .iconst 0, 1) rfl
theorem dL_law_561 : decode cL_law 561 = .ok (.invokevirtual 146, 3) := dTL_law_5_ok 9 (561, .invokevirtual 146, 3) rfl
theorem dL_law_564 : decode cL_law 564 = .ok (.iconst 4, 1) := dTL_law_5_ok 10 (564, .iconst 4, 1) rfl
theorem dL_law_565 : decode cL_law 565 = .ok (.if_icmp .ne 7, 3) := dTL_law_5_ok 11 (565, .if_icmp .ne 7, 3) rfl
theorem dL_law_568 : decode cL_law 568 = .ok (.iconst 1, 1) := dTL_law_5_ok 12 (568, .iconst 1, 1) rfl
theorem dL_law_569 : decode cL_law 569 = .ok (.goto 4, 3) := dTL_law_5_ok 13 (569, .goto 4, 3) rfl
theorem dL_law_572 : decode cL_law 572 = .ok (.iconst 0, 1) := dTL_law_5_ok 14 (572, .iconst 0, 1) rfl
theorem dL_law_573 : decode cL_law 573 = .ok (.istore 22, 2) := dTL_law_5_ok 15 (573, .istore 22, 2) rfl
theorem dL_law_575 : decode cL_law 575 = .ok (.aload 16, 2) := dTL_law_5_ok 16 (575, .aload 16, 2) rfl
theorem dL_law_577 : decode cL_law 577 = .ok (.bipush 9, 2) := dTL_law_5_ok 17 (577, .bipush 9, 2) rfl
theorem dL_law_579 : decode cL_law 579 = .ok (.iload 20, 2) := dTL_law_5_ok 18 (579, .iload 20, 2) rfl
theorem dL_law_581 : decode cL_law 581 = .ok (.imul, 1) := dTL_law_5_ok 19 (581, .imul, 1) rfl
theorem dL_law_582 : decode cL_law 582 = .ok (.iload 19, 2) := dTL_law_5_ok 20 (582, .iload 19, 2) rfl
theorem dL_law_584 : decode cL_law 584 = .ok (.iadd, 1) := dTL_law_5_ok 21 (584, .iadd, 1) rfl
theorem dL_law_585 : decode cL_law 585 = .ok (.dup2, 1) := dTL_law_5_ok 22 (585, .dup2, 1) rfl
theorem dL_law_586 : decode cL_law 586 = .ok (.iaload, 1) := dTL_law_5_ok 23 (586, .iaload, 1) rfl
theorem dL_law_587 : decode cL_law 587 = .ok (.iload 21, 2) := dTL_law_5_ok 24 (587, .iload 21, 2) rfl
theorem dL_law_589 : decode cL_law 589 = .ok (.ifCond .ne 8, 3) := dTL_law_5_ok 25 (589, .ifCond .ne 8, 3) rfl
theorem dL_law_592 : decode cL_law 592 = .ok (.iload 22, 2) := dTL_law_5_ok 26 (592, .iload 22, 2) rfl
theorem dL_law_594 : decode cL_law 594 = .ok (.ifCond .ne 7, 3) := dTL_law_5_ok 27 (594, .ifCond .ne 7, 3) rfl
theorem dL_law_597 : decode cL_law 597 = .ok (.iconst 0, 1) := dTL_law_5_ok 28 (597, .iconst 0, 1) rfl
theorem dL_law_598 : decode cL_law 598 = .ok (.goto 4, 3) := dTL_law_5_ok 29 (598, .goto 4, 3) rfl
theorem dL_law_601 : decode cL_law 601 = .ok (.iconst 1, 1) := dTL_law_5_ok 30 (601, .iconst 1, 1) rfl
theorem dL_law_602 : decode cL_law 602 = .ok (.iadd, 1) := dTL_law_5_ok 31 (602, .iadd, 1) rfl
theorem dL_law_603 : decode cL_law 603 = .ok (.iastore, 1) := dTL_law_5_ok 32 (603, .iastore, 1) rfl
theorem dL_law_604 : decode cL_law 604 = .ok (.iload 17, 2) := dTL_law_5_ok 33 (604, .iload 17, 2) rfl
theorem dL_law_606 : decode cL_law 606 = .ok (.iload 19, 2) := dTL_law_5_ok 34 (606, .iload 19, 2) rfl
theorem dL_law_608 : decode cL_law 608 = .ok (.aload 6, 2) := dTL_law_5_ok 35 (608, .aload 6, 2) rfl
theorem dL_law_610 : decode cL_law 610 = .ok (.iload 18, 2) := dTL_law_5_ok 36 (610, .iload 18, 2) rfl
theorem dL_law_612 : decode cL_law 612 = .ok (.aaload, 1) := dTL_law_5_ok 37 (612, .aaload, 1) rfl
theorem dL_law_613 : decode cL_law 613 = .ok (.iconst 3, 1) := dTL_law_5_ok 38 (613, .iconst 3, 1) rfl
theorem dL_law_614 : decode cL_law 614 = .ok (.iaload, 1) := dTL_law_5_ok 39 (614, .iaload, 1) rfl
theorem dL_law_615 : decode cL_law 615 = .ok (.if_icmp .ne 19, 3) := dTL_law_5_ok 40 (615, .if_icmp .ne 19, 3) rfl
theorem dL_law_618 : decode cL_law 618 = .ok (.iload 20, 2) := dTL_law_5_ok 41 (618, .iload 20, 2) rfl
theorem dL_law_620 : decode cL_law 620 = .ok (.aload 6, 2) := dTL_law_5_ok 42 (620, .aload 6, 2) rfl
theorem dL_law_622 : decode cL_law 622 = .ok (.iload 18, 2) := dTL_law_5_ok 43 (622, .iload 18, 2) rfl
theorem dL_law_624 : decode cL_law 624 = .ok (.aaload, 1) := dTL_law_5_ok 44 (624, .aaload, 1) rfl
theorem dL_law_625 : decode cL_law 625 = .ok (.iconst 4, 1) := dTL_law_5_ok 45 (625, .iconst 4, 1) rfl
theorem dL_law_626 : decode cL_law 626 = .ok (.iaload, 1) := dTL_law_5_ok 46 (626, .iaload, 1) rfl
theorem dL_law_627 : decode cL_law 627 = .ok (.if_icmp .ne 7, 3) := dTL_law_5_ok 47 (627, .if_icmp .ne 7, 3) rfl
theorem dL_law_630 : decode cL_law 630 = .ok (.iconst 1, 1) := dTL_law_5_ok 48 (630, .iconst 1, 1) rfl
theorem dL_law_631 : decode cL_law 631 = .ok (.goto 4, 3) := dTL_law_5_ok 49 (631, .goto 4, 3) rfl
theorem dL_law_634 : decode cL_law 634 = .ok (.iconst 0, 1) := dTL_law_5_ok 50 (634, .iconst 0, 1) rfl
theorem dL_law_635 : decode cL_law 635 = .ok (.iadd, 1) := dTL_law_5_ok 51 (635, .iadd, 1) rfl
theorem dL_law_636 : decode cL_law 636 = .ok (.istore 17, 2) := dTL_law_5_ok 52 (636, .istore 17, 2) rfl
theorem dL_law_638 : decode cL_law 638 = .ok (.iload 19, 2) := dTL_law_5_ok 53 (638, .iload 19, 2) rfl
theorem dL_law_640 : decode cL_law 640 = .ok (.aload 6, 2) := dTL_law_5_ok 54 (640, .aload 6, 2) rfl
theorem dL_law_642 : decode cL_law 642 = .ok (.iload 18, 2) := dTL_law_5_ok 55 (642, .iload 18, 2) rfl
theorem dL_law_644 : decode cL_law 644 = .ok (.aaload, 1) := dTL_law_5_ok 56 (644, .aaload, 1) rfl
theorem dL_law_645 : decode cL_law 645 = .ok (.iconst 0, 1) := dTL_law_5_ok 57 (645, .iconst 0, 1) rfl
theorem dL_law_646 : decode cL_law 646 = .ok (.iaload, 1) := dTL_law_5_ok 58 (646, .iaload, 1) rfl
theorem dL_law_647 : decode cL_law 647 = .ok (.isub, 1) := dTL_law_5_ok 59 (647, .isub, 1) rfl
noncomputable def dTL_law_6 : List (Nat × Instr × Nat) := [(648, .invokestatic 157, 3), (651, .iload 20, 2), (653, .aload 6, 2), (655, .iload 18, 2), (657, .aaload, 1), (658, .iconst 1, 1), (659, .iaload, 1), (660, .isub, 1), (661, .invokestatic 157, 3), (664, .iadd, 1), (665, .aload 6, 2), (667, .iload 18, 2), (669, .aaload, 1), (670, .iconst 2, 1), (671, .iaload, 1), (672, .if_icmp .gt 102, 3), (675, .aload_n 1, 1), (676, .iload 18, 2), (678, .iconst 2, 1), (679, .invokevirtual 135, 3), (682, .aload 6, 2), (684, .iload 18, 2), (686, .aaload, 1), (687, .iconst 2, 1), (688, .iaload, 1), (689, .if_icmp .ne 85, 3), (692, .aload_n 1, 1), (693, .iload 18, 2), (695, .iconst 5, 1), (696, .invokevirtual 135, 3), (699, .aload 6, 2), (701, .iload 18, 2), (703, .aaload, 1), (704, .iconst 5, 1), (705, .iaload, 1), (706, .if_icmp .gt 68, 3), (709, .aload_n 1, 1), (710, .iload 18, 2), (712, .bipush 6, 2), (714, .invokevirtual 135, 3), (717, .aload 6, 2), (719, .iload 18, 2), (721, .aaload, 1), (722, .bipush 6, 2), (724, .iaload, 1), (725, .iload 21, 2), (727, .ifCond .ne 12, 3), (730, .iload 22, 2), (732, .ifCond .eq 7, 3), (735, .iconst 1, 1), (736, .goto 4, 3), (739, .iconst 0, 1), (740, .iadd, 1), (741, .if_icmp .ne 33, 3), (744, .aload_n 1, 1), (745, .iload 18, 2), (747, .bipush 7, 2), (749, .invokevirtual 135, 3), (752, .aload 6, 2), (754, .iload 18, 2)]
theorem dTL_law_6_ok : ∀ (k : Nat) (q : Nat × Instr × Nat), dTL_law_6[k]? = some q → decode cL_law q.1 = .ok q.2 := dT_of (by decide +kernel)
theorem dL_law_648 : decode cL_law 648 = .ok (.invokestatic 157, 3) := dTL_law_6_ok 0 (648, .invokestatic 157, 3) rfl
theorem dL_law_651 : decode cL_law 651 = .ok (.iload 20, 2) := dTL_law_6_ok 1 (651, .iload 20, 2) rfl
theorem dL_law_653 : decode cL_law 653 = .ok (.aload 6, 2) := dTL_law_6_ok 2 (653, .aload 6, 2) rfl
theorem dL_law_655 : decode cL_law 655 = .ok (.iload 18, 2) := dTL_law_6_ok 3 (655, .iload 18, 2) rfl
theorem dL_law_657 : decode cL_law 657 = .ok (.aaload, 1) := dTL_law_6_ok 4 (657, .aaload, 1) rfl
theorem dL_law_658 : decode cL_law 658 = .ok (.iconst 1, 1) := dTL_law_6_ok 5 (658, .iconst 1, 1) rfl
theorem dL_law_659 : decode cL_law 659 = .ok (.iaload, 1) := dTL_law_6_ok 6 (659, .iaload, 1) rfl
theorem dL_law_660 : decode cL_law 660 = .ok (.isub, 1) := dTL_law_6_ok 7 (660, .isub, 1) rfl
theorem dL_law_661 : decode cL_law 661 = .ok (.invokestatic 157, 3) := dTL_law_6_ok 8 (661, .invokestatic 157, 3) rfl
theorem dL_law_664 : decode cL_law 664 = .ok (.iadd, 1) := dTL_law_6_ok 9 (664, .iadd, 1) rfl
theorem dL_law_665 : decode cL_law 665 = .ok (.aload 6, 2) := dTL_law_6_ok 10 (665, .aload 6, 2) rfl
theorem dL_law_667 : decode cL_law 667 = .ok (.iload 18, 2) := dTL_law_6_ok 11 (667, .iload 18, 2) rfl
theorem dL_law_669 : decode cL_law 669 = .ok (.aaload, 1) := dTL_law_6_ok 12 (669, .aaload, 1) rfl
theorem dL_law_670 : decode cL_law 670 = .ok (.iconst 2, 1) := dTL_law_6_ok 13 (670, .iconst 2, 1) rfl
theorem dL_law_671 : decode cL_law 671 = .ok (.iaload, 1) := dTL_law_6_ok 14 (671, .iaload, 1) rfl
theorem dL_law_672 : decode cL_law 672 = .ok (.if_icmp .gt 102, 3) := dTL_law_6_ok 15 (672, .if_icmp .gt 102, 3) rfl
theorem dL_law_675 : decode cL_law 675 = .ok (.aload_n 1, 1) := dTL_law_6_ok 16 (675, .aload_n 1, 1) rfl
theorem dL_law_676 : decode cL_law 676 = .ok (.iload 18, 2) := dTL_law_6_ok 17 (676, .iload 18, 2) rfl
theorem dL_law_678 : decode cL_law 678 = .ok (.iconst 2, 1) := dTL_law_6_ok 18 (678, .iconst 2, 1) rfl
theorem dL_law_679 : decode cL_law 679 = .ok (.invokevirtual 135, 3) := dTL_law_6_ok 19 (679, .invokevirtual 135, 3) rfl
theorem dL_law_682 : decode cL_law 682 = .ok (.aload 6, 2) := dTL_law_6_ok 20 (682, .aload 6, 2) rfl
theorem dL_law_684 : decode cL_law 684 = .ok (.iload 18, 2) := dTL_law_6_ok 21 (684, .iload 18, 2) rfl
theorem dL_law_686 : decode cL_law 686 = .ok (.aaload, 1) := dTL_law_6_ok 22 (686, .aaload, 1) rfl
theorem dL_law_687 : decode cL_law 687 = .ok (.iconst 2, 1) := dTL_law_6_ok 23 (687, .iconst 2, 1) rfl
theorem dL_law_688 : decode cL_law 688 = .ok (.iaload, 1) := dTL_law_6_ok 24 (688, .iaload, 1) rfl
theorem dL_law_689 : decode cL_law 689 = .ok (.if_icmp .ne 85, 3) := dTL_law_6_ok 25 (689, .if_icmp .ne 85, 3) rfl
theorem dL_law_692 : decode cL_law 692 = .ok (.aload_n 1, 1) := dTL_law_6_ok 26 (692, .aload_n 1, 1) rfl
theorem dL_law_693 : decode cL_law 693 = .ok (.iload 18, 2) := dTL_law_6_ok 27 (693, .iload 18, 2) rfl
theorem dL_law_695 : decode cL_law 695 = .ok (.iconst 5, 1) := dTL_law_6_ok 28 (695, .iconst 5, 1) rfl
theorem dL_law_696 : decode cL_law 696 = .ok (.invokevirtual 135, 3) := dTL_law_6_ok 29 (696, .invokevirtual 135, 3) rfl
theorem dL_law_699 : decode cL_law 699 = .ok (.aload 6, 2) := dTL_law_6_ok 30 (699, .aload 6, 2) rfl
theorem dL_law_701 : decode cL_law 701 = .ok (.iload 18, 2) := dTL_law_6_ok 31 (701, .iload 18, 2) rfl
theorem dL_law_703 : decode cL_law 703 = .ok (.aaload, 1) := dTL_law_6_ok 32 (703, .aaload, 1) rfl
theorem dL_law_704 : decode cL_law 704 = .ok (.iconst 5, 1) := dTL_law_6_ok 33 (704, .iconst 5, 1) rfl
theorem dL_law_705 : decode cL_law 705 = .ok (.iaload, 1) := dTL_law_6_ok 34 (705, .iaload, 1) rfl
theorem dL_law_706 : decode cL_law 706 = .ok (.if_icmp .gt 68, 3) := dTL_law_6_ok 35 (706, .if_icmp .gt 68, 3) rfl
theorem dL_law_709 : decode cL_law 709 = .ok (.aload_n 1, 1) := dTL_law_6_ok 36 (709, .aload_n 1, 1) rfl
theorem dL_law_710 : decode cL_law 710 = .ok (.iload 18, 2) := dTL_law_6_ok 37 (710, .iload 18, 2) rfl
theorem dL_law_712 : decode cL_law 712 = .ok (.bipush 6, 2) := dTL_law_6_ok 38 (712, .bipush 6, 2) rfl
theorem dL_law_714 : decode cL_law 714 = .ok (.invokevirtual 135, 3) := dTL_law_6_ok 39 (714, .invokevirtual 135, 3) rfl
theorem dL_law_717 : decode cL_law 717 = .ok (.aload 6, 2) := dTL_law_6_ok 40 (717, .aload 6, 2) rfl
theorem dL_law_719 : decode cL_law 719 = .ok (.iload 18, 2) := dTL_law_6_ok 41 (719, .iload 18, 2) rfl
theorem dL_law_721 : decode cL_law 721 = .ok (.aaload, 1) := dTL_law_6_ok 42 (721, .aaload, 1) rfl
theorem dL_law_722 : decode cL_law 722 = .ok (.bipush 6, 2) := dTL_law_6_ok 43 (722, .bipush 6, 2) rfl
theorem dL_law_724 : decode cL_law 724 = .ok (.iaload, 1) := dTL_law_6_ok 44 (724, .iaload, 1) rfl
theorem dL_law_725 : decode cL_law 725 = .ok (.iload 21, 2) := dTL_law_6_ok 45 (725, .iload 21, 2) rfl
theorem dL_law_727 : decode cL_law 727 = .ok (.ifCond .ne 12, 3) := dTL_law_6_ok 46 (727, .ifCond .ne 12, 3) rfl
theorem dL_law_730 : decode cL_law 730 = .ok (.iload 22, 2) := dTL_law_6_ok 47 (730, .iload 22, 2) rfl
theorem dL_law_732 : decode cL_law 732 = .ok (.ifCond .eq 7, 3) := dTL_law_6_ok 48 (732, .ifCond .eq 7, 3) rfl
theorem dL_law_735 : decode cL_law 735 = .ok (.iconst 1, 1) := dTL_law_6_ok 49 (735, .iconst 1, 1) rfl
theorem dL_law_736 : decode cL_law 736 = .ok (.goto 4, 3) := dTL_law_6_ok 50 (736, .goto 4, 3) rfl
theorem dL_law_739 : decode cL_law 739 = .ok (.iconst 0, 1) := dTL_law_6_ok 51 (739, .iconst 0, 1) rfl
theorem dL_law_740 : decode cL_law 740 = .ok (.iadd, 1) := dTL_law_6_ok 52 (740, .iadd, 1) rfl
theorem dL_law_741 : decode cL_law 741 = .ok (.if_icmp .ne 33, 3) := dTL_law_6_ok 53 (741, .if_icmp .ne 33, 3) rfl
theorem dL_law_744 : decode cL_law 744 = .ok (.aload_n 1, 1) := dTL_law_6_ok 54 (744, .aload_n 1, 1) rfl
theorem dL_law_745 : decode cL_law 745 = .ok (.iload 18, 2) := dTL_law_6_ok 55 (745, .iload 18, 2) rfl
theorem dL_law_747 : decode cL_law 747 = .ok (.bipush 7, 2) := dTL_law_6_ok 56 (747, .bipush 7, 2) rfl
theorem dL_law_749 : decode cL_law 749 = .ok (.invokevirtual 135, 3) := dTL_law_6_ok 57 (749, .invokevirtual 135, 3) rfl
theorem dL_law_752 : decode cL_law 752 = .ok (.aload 6, 2) := dTL_law_6_ok 58 (752, .aload 6, 2) rfl
theorem dL_law_754 : decode cL_law 754 = .ok (.iload 18, 2) := dTL_law_6_ok 59 (754, .iload 18, 2) rfl
noncomputable def dTL_law_7 : List (Nat × Instr × Nat) := [(756, .aaload, 1), (757, .bipush 7, 2), (759, .iaload, 1), (760, .iload 21, 2), (762, .ifCond .eq 7, 3), (765, .iconst 1, 1), (766, .goto 4, 3), (769, .iconst 0, 1), (770, .iadd, 1), (771, .if_icmp .eq 5, 3), (774, .iconst 0, 1), (775, .ireturn, 1), (776, .aload 7, 2), (778, .iload 18, 2), (780, .iaload, 1), (781, .ifCond .ne 29, 3), (784, .iload 19, 2), (786, .aload 6, 2), (788, .iload 18, 2), (790, .aaload, 1), (791, .iconst 0, 1), (792, .iaload, 1), (793, .if_icmp .ne 15, 3), (796, .iload 20, 2), (798, .aload 6, 2), (800, .iload 18, 2), (802, .aaload, 1), (803, .iconst 1, 1), (804, .iaload, 1), (805, .if_icmp .eq 5, 3), (808, .iconst 0, 1), (809, .ireturn, 1), (810, .iinc 18 1, 3), (813, .goto (-303), 3), (816, .iconst 0, 1), (817, .istore 18, 2), (819, .iconst 0, 1), (820, .istore 19, 2), (822, .iconst 0, 1), (823, .istore 20, 2), (825, .iload 20, 2), (827, .bipush 63, 2), (829, .if_icmp .ge 285, 3), (832, .aload_n 1, 1), (833, .iload 20, 2), (835, .bipush 9, 2), (837, .irem, 1), (838, .iload 20, 2), (840, .bipush 9, 2), (842, .idiv, 1), (843, .iconst 0, 1), (844, .invokevirtual 146, 3), (847, .istore 21, 2), (849, .aload_n 1, 1), (850, .iload 20, 2), (852, .bipush 9, 2), (854, .irem, 1), (855, .iload 20, 2), (857, .bipush 9, 2), (859, .idiv, 1)]
theorem dTL_law_7_ok : ∀ (k : Nat) (q : Nat × Instr × Nat), dTL_law_7[k]? = some q → decode cL_law q.1 = .ok q.2 := dT_of (by decide +kernel)
theorem dL_law_756 : decode cL_law 756 = .ok (.aaload, 1) := dTL_law_7_ok 0 (756, .aaload, 1) rfl
theorem dL_law_757 : decode cL_law 757 = .ok (.bipush 7, 2) := dTL_law_7_ok 1 (757, .bipush 7, 2) rfl
theorem dL_law_759 : decode cL_law 759 = .ok (.iaload, 1) := dTL_law_7_ok 2 (759, .iaload, 1) rfl
theorem dL_law_760 : decode cL_law 760 = .ok (.iload 21, 2) := dTL_law_7_ok 3 (760, .iload 21, 2) rfl
theorem dL_law_762 : decode cL_law 762 = .ok (.ifCond .eq 7, 3) := dTL_law_7_ok 4 (762, .ifCond .eq 7, 3) rfl
theorem dL_law_765 : decode cL_law 765 = .ok (.iconst 1, 1) := dTL_law_7_ok 5 (765, .iconst 1, 1) rfl
theorem dL_law_766 : decode cL_law 766 = .ok (.goto 4, 3) := dTL_law_7_ok 6 (766, .goto 4, 3) rfl
theorem dL_law_769 : decode cL_law 769 = .ok (.iconst 0, 1) := dTL_law_7_ok 7 (769, .iconst 0, 1) rfl
theorem dL_law_770 : decode cL_law 770 = .ok (.iadd, 1) := dTL_law_7_ok 8 (770, .iadd, 1) rfl
theorem dL_law_771 : decode cL_law 771 = .ok (.if_icmp .eq 5, 3) := dTL_law_7_ok 9 (771, .if_icmp .eq 5, 3) rfl
theorem dL_law_774 : decode cL_law 774 = .ok (.iconst 0, 1) := dTL_law_7_ok 10 (774, .iconst 0, 1) rfl
theorem dL_law_775 : decode cL_law 775 = .ok (.ireturn, 1) := dTL_law_7_ok 11 (775, .ireturn, 1) rfl
theorem dL_law_776 : decode cL_law 776 = .ok (.aload 7, 2) := dTL_law_7_ok 12 (776, .aload 7, 2) rfl
theorem dL_law_778 : decode cL_law 778 = .ok (.iload 18, 2) := dTL_law_7_ok 13 (778, .iload 18, 2) rfl
theorem dL_law_780 : decode cL_law 780 = .ok (.iaload, 1) := dTL_law_7_ok 14 (780, .iaload, 1) rfl
theorem dL_law_781 : decode cL_law 781 = .ok (.ifCond .ne 29, 3) := dTL_law_7_ok 15 (781, .ifCond .ne 29, 3) rfl
theorem dL_law_784 : decode cL_law 784 = .ok (.iload 19, 2) := dTL_law_7_ok 16 (784, .iload 19, 2) rfl
theorem dL_law_786 : decode cL_law 786 = .ok (.aload 6, 2) := dTL_law_7_ok 17 (786, .aload 6, 2) rfl
theorem dL_law_788 : decode cL_law 788 = .ok (.iload 18, 2) := dTL_law_7_ok 18 (788, .iload 18, 2) rfl
theorem dL_law_790 : decode cL_law 790 = .ok (.aaload, 1) := dTL_law_7_ok 19 (790, .aaload, 1) rfl
theorem dL_law_791 : decode cL_law 791 = .ok (.iconst 0, 1) := dTL_law_7_ok 20 (791, .iconst 0, 1) rfl
theorem dL_law_792 : decode cL_law 792 = .ok (.iaload, 1) := dTL_law_7_ok 21 (792, .iaload, 1) rfl
theorem dL_law_793 : decode cL_law 793 = .ok (.if_icmp .ne 15, 3) := dTL_law_7_ok 22 (793, .if_icmp .ne 15, 3) rfl
theorem dL_law_796 : decode cL_law 796 = .ok (.iload 20, 2) := dTL_law_7_ok 23 (796, .iload 20, 2) rfl
theorem dL_law_798 : decode cL_law 798 = .ok (.aload 6, 2) := dTL_law_7_ok 24 (798, .aload 6, 2) rfl
theorem dL_law_800 : decode cL_law 800 = .ok (.iload 18, 2) := dTL_law_7_ok 25 (800, .iload 18, 2) rfl
theorem dL_law_802 : decode cL_law 802 = .ok (.aaload, 1) := dTL_law_7_ok 26 (802, .aaload, 1) rfl
theorem dL_law_803 : decode cL_law 803 = .ok (.iconst 1, 1) := dTL_law_7_ok 27 (803, .iconst 1, 1) rfl
theorem dL_law_804 : decode cL_law 804 = .ok (.iaload, 1) := dTL_law_7_ok 28 (804, .iaload, 1) rfl
theorem dL_law_805 : decode cL_law 805 = .ok (.if_icmp .eq 5, 3) := dTL_law_7_ok 29 (805, .if_icmp .eq 5, 3) rfl
theorem dL_law_808 : decode cL_law 808 = .ok (.iconst 0, 1) := dTL_law_7_ok 30 (808, .iconst 0, 1) rfl
theorem dL_law_809 : decode cL_law 809 = .ok (.ireturn, 1) := dTL_law_7_ok 31 (809, .ireturn, 1) rfl
theorem dL_law_810 : decode cL_law 810 = .ok (.iinc 18 1, 3) := dTL_law_7_ok 32 (810, .iinc 18 1, 3) rfl
theorem dL_law_813 : decode cL_law 813 = .ok (.goto (-303), 3) := dTL_law_7_ok 33 (813, .goto (-303), 3) rfl
theorem dL_law_816 : decode cL_law 816 = .ok (.iconst 0, 1) := dTL_law_7_ok 34 (816, .iconst 0, 1) rfl
theorem dL_law_817 : decode cL_law 817 = .ok (.istore 18, 2) := dTL_law_7_ok 35 (817, .istore 18, 2) rfl
theorem dL_law_819 : decode cL_law 819 = .ok (.iconst 0, 1) := dTL_law_7_ok 36 (819, .iconst 0, 1) rfl
theorem dL_law_820 : decode cL_law 820 = .ok (.istore 19, 2) := dTL_law_7_ok 37 (820, .istore 19, 2) rfl
theorem dL_law_822 : decode cL_law 822 = .ok (.iconst 0, 1) := dTL_law_7_ok 38 (822, .iconst 0, 1) rfl
theorem dL_law_823 : decode cL_law 823 = .ok (.istore 20, 2) := dTL_law_7_ok 39 (823, .istore 20, 2) rfl
theorem dL_law_825 : decode cL_law 825 = .ok (.iload 20, 2) := dTL_law_7_ok 40 (825, .iload 20, 2) rfl
theorem dL_law_827 : decode cL_law 827 = .ok (.bipush 63, 2) := dTL_law_7_ok 41 (827, .bipush 63, 2) rfl
theorem dL_law_829 : decode cL_law 829 = .ok (.if_icmp .ge 285, 3) := dTL_law_7_ok 42 (829, .if_icmp .ge 285, 3) rfl
theorem dL_law_832 : decode cL_law 832 = .ok (.aload_n 1, 1) := dTL_law_7_ok 43 (832, .aload_n 1, 1) rfl
theorem dL_law_833 : decode cL_law 833 = .ok (.iload 20, 2) := dTL_law_7_ok 44 (833, .iload 20, 2) rfl
theorem dL_law_835 : decode cL_law 835 = .ok (.bipush 9, 2) := dTL_law_7_ok 45 (835, .bipush 9, 2) rfl
theorem dL_law_837 : decode cL_law 837 = .ok (.irem, 1) := dTL_law_7_ok 46 (837, .irem, 1) rfl
theorem dL_law_838 : decode cL_law 838 = .ok (.iload 20, 2) := dTL_law_7_ok 47 (838, .iload 20, 2) rfl
theorem dL_law_840 : decode cL_law 840 = .ok (.bipush 9, 2) := dTL_law_7_ok 48 (840, .bipush 9, 2) rfl
theorem dL_law_842 : decode cL_law 842 = .ok (.idiv, 1) := dTL_law_7_ok 49 (842, .idiv, 1) rfl
theorem dL_law_843 : decode cL_law 843 = .ok (.iconst 0, 1) := dTL_law_7_ok 50 (843, .iconst 0, 1) rfl
theorem dL_law_844 : decode cL_law 844 = .ok (.invokevirtual 146, 3) := dTL_law_7_ok 51 (844, .invokevirtual 146, 3) rfl
theorem dL_law_847 : decode cL_law 847 = .ok (.istore 21, 2) := dTL_law_7_ok 52 (847, .istore 21, 2) rfl
theorem dL_law_849 : decode cL_law 849 = .ok (.aload_n 1, 1) := dTL_law_7_ok 53 (849, .aload_n 1, 1) rfl
theorem dL_law_850 : decode cL_law 850 = .ok (.iload 20, 2) := dTL_law_7_ok 54 (850, .iload 20, 2) rfl
theorem dL_law_852 : decode cL_law 852 = .ok (.bipush 9, 2) := dTL_law_7_ok 55 (852, .bipush 9, 2) rfl
theorem dL_law_854 : decode cL_law 854 = .ok (.irem, 1) := dTL_law_7_ok 56 (854, .irem, 1) rfl
theorem dL_law_855 : decode cL_law 855 = .ok (.iload 20, 2) := dTL_law_7_ok 57 (855, .iload 20, 2) rfl
theorem dL_law_857 : decode cL_law 857 = .ok (.bipush 9, 2) := dTL_law_7_ok 58 (857, .bipush 9, 2) rfl
theorem dL_law_859 : decode cL_law 859 = .ok (.idiv, 1) := dTL_law_7_ok 59 (859, .idiv, 1) rfl
noncomputable def dTL_law_8 : List (Nat × Instr × Nat) := [(860, .iconst 1, 1), (861, .invokevirtual 146, 3), (864, .istore 22, 2), (866, .aload_n 1, 1), (867, .iload 20, 2), (869, .bipush 9, 2), (871, .irem, 1), (872, .iload 20, 2), (874, .bipush 9, 2), (876, .idiv, 1), (877, .iconst 2, 1), (878, .invokevirtual 146, 3), (881, .iconst 1, 1), (882, .if_icmp .ne 7, 3), (885, .iconst 1, 1), (886, .goto 4, 3), (889, .iconst 0, 1), (890, .istore 23, 2), (892, .iload 18, 2), (894, .aload_n 1, 1), (895, .iload 20, 2), (897, .bipush 9, 2), (899, .irem, 1), (900, .iload 20, 2), (902, .bipush 9, 2), (904, .idiv, 1), (905, .iconst 3, 1), (906, .invokevirtual 146, 3), (909, .iadd, 1), (910, .istore 18, 2), (912, .iload 19, 2), (914, .iload 23, 2), (916, .ifCond .eq 7, 3), (919, .iconst 1, 1), (920, .goto 4, 3), (923, .iconst 0, 1), (924, .iadd, 1), (925, .istore 19, 2), (927, .iload 21, 2), (929, .aload 8, 2), (931, .iload 20, 2), (933, .aaload, 1), (934, .iconst 0, 1), (935, .iaload, 1), (936, .if_icmp .ne 41, 3), (939, .iload 23, 2), (941, .ifCond .eq 38, 3), (944, .aload 8, 2), (946, .iload 20, 2), (948, .aaload, 1), (949, .iconst 2, 1), (950, .iaload, 1), (951, .ifCond .eq 26, 3), (954, .iload 22, 2), (956, .ifCond .eq 21, 3), (959, .aload_n 1, 1), (960, .iload 20, 2), (962, .bipush 9, 2), (964, .irem, 1), (965, .iload 20, 2)]
theorem dTL_law_8_ok : ∀ (k : Nat) (q : Nat × Instr × Nat), dTL_law_8[k]? = some q → decode cL_law q.1 = .ok q.2 := dT_of (by decide +kernel)
theorem dL_law_860 : decode cL_law 860 = .ok (.iconst 1, 1) := dTL_law_8_ok 0 (860, .iconst 1, 1) rfl
theorem dL_law_861 : decode cL_law 861 = .ok (.invokevirtual 146, 3) := dTL_law_8_ok 1 (861, .invokevirtual 146, 3) rfl
theorem dL_law_864 : decode cL_law 864 = .ok (.istore 22, 2) := dTL_law_8_ok 2 (864, .istore 22, 2) rfl
theorem dL_law_866 : decode cL_law 866 = .ok (.aload_n 1, 1) := dTL_law_8_ok 3 (866, .aload_n 1, 1) rfl
theorem dL_law_867 : decode cL_law 867 = .ok (.iload 20, 2) := dTL_law_8_ok 4 (867, .iload 20, 2) rfl
theorem dL_law_869 : decode cL_law 869 = .ok (.bipush 9, 2) := dTL_law_8_ok 5 (869, .bipush 9, 2) rfl
theorem dL_law_871 : decode cL_law 871 = .ok (.irem, 1) := dTL_law_8_ok 6 (871, .irem, 1) rfl
theorem dL_law_872 : decode cL_law 872 = .ok (.iload 20, 2) := dTL_law_8_ok 7 (872, .iload 20, 2) rfl
theorem dL_law_874 : decode cL_law 874 = .ok (.bipush 9, 2) := dTL_law_8_ok 8 (874, .bipush 9, 2) rfl
theorem dL_law_876 : decode cL_law 876 = .ok (.idiv, 1) := dTL_law_8_ok 9 (876, .idiv, 1) rfl
theorem dL_law_877 : decode cL_law 877 = .ok (.iconst 2, 1) := dTL_law_8_ok 10 (877, .iconst 2, 1) rfl
theorem dL_law_878 : decode cL_law 878 = .ok (.invokevirtual 146, 3) := dTL_law_8_ok 11 (878, .invokevirtual 146, 3) rfl
theorem dL_law_881 : decode cL_law 881 = .ok (.iconst 1, 1) := dTL_law_8_ok 12 (881, .iconst 1, 1) rfl
theorem dL_law_882 : decode cL_law 882 = .ok (.if_icmp .ne 7, 3) := dTL_law_8_ok 13 (882, .if_icmp .ne 7, 3) rfl
theorem dL_law_885 : decode cL_law 885 = .ok (.iconst 1, 1) := dTL_law_8_ok 14 (885, .iconst 1, 1) rfl
theorem dL_law_886 : decode cL_law 886 = .ok (.goto 4, 3) := dTL_law_8_ok 15 (886, .goto 4, 3) rfl
theorem dL_law_889 : decode cL_law 889 = .ok (.iconst 0, 1) := dTL_law_8_ok 16 (889, .iconst 0, 1) rfl
theorem dL_law_890 : decode cL_law 890 = .ok (.istore 23, 2) := dTL_law_8_ok 17 (890, .istore 23, 2) rfl
theorem dL_law_892 : decode cL_law 892 = .ok (.iload 18, 2) := dTL_law_8_ok 18 (892, .iload 18, 2) rfl
theorem dL_law_894 : decode cL_law 894 = .ok (.aload_n 1, 1) := dTL_law_8_ok 19 (894, .aload_n 1, 1) rfl
theorem dL_law_895 : decode cL_law 895 = .ok (.iload 20, 2) := dTL_law_8_ok 20 (895, .iload 20, 2) rfl
theorem dL_law_897 : decode cL_law 897 = .ok (.bipush 9, 2) := dTL_law_8_ok 21 (897, .bipush 9, 2) rfl
theorem dL_law_899 : decode cL_law 899 = .ok (.irem, 1) := dTL_law_8_ok 22 (899, .irem, 1) rfl
theorem dL_law_900 : decode cL_law 900 = .ok (.iload 20, 2) := dTL_law_8_ok 23 (900, .iload 20, 2) rfl
theorem dL_law_902 : decode cL_law 902 = .ok (.bipush 9, 2) := dTL_law_8_ok 24 (902, .bipush 9, 2) rfl
theorem dL_law_904 : decode cL_law 904 = .ok (.idiv, 1) := dTL_law_8_ok 25 (904, .idiv, 1) rfl
theorem dL_law_905 : decode cL_law 905 = .ok (.iconst 3, 1) := dTL_law_8_ok 26 (905, .iconst 3, 1) rfl
theorem dL_law_906 : decode cL_law 906 = .ok (.invokevirtual 146, 3) := dTL_law_8_ok 27 (906, .invokevirtual 146, 3) rfl
theorem dL_law_909 : decode cL_law 909 = .ok (.iadd, 1) := dTL_law_8_ok 28 (909, .iadd, 1) rfl
theorem dL_law_910 : decode cL_law 910 = .ok (.istore 18, 2) := dTL_law_8_ok 29 (910, .istore 18, 2) rfl
theorem dL_law_912 : decode cL_law 912 = .ok (.iload 19, 2) := dTL_law_8_ok 30 (912, .iload 19, 2) rfl
theorem dL_law_914 : decode cL_law 914 = .ok (.iload 23, 2) := dTL_law_8_ok 31 (914, .iload 23, 2) rfl
theorem dL_law_916 : decode cL_law 916 = .ok (.ifCond .eq 7, 3) := dTL_law_8_ok 32 (916, .ifCond .eq 7, 3) rfl
theorem dL_law_919 : decode cL_law 919 = .ok (.iconst 1, 1) := dTL_law_8_ok 33 (919, .iconst 1, 1) rfl
theorem dL_law_920 : decode cL_law 920 = .ok (.goto 4, 3) := dTL_law_8_ok 34 (920, .goto 4, 3) rfl
theorem dL_law_923 : decode cL_law 923 = .ok (.iconst 0, 1) := dTL_law_8_ok 35 (923, .iconst 0, 1) rfl
theorem dL_law_924 : decode cL_law 924 = .ok (.iadd, 1) := dTL_law_8_ok 36 (924, .iadd, 1) rfl
theorem dL_law_925 : decode cL_law 925 = .ok (.istore 19, 2) := dTL_law_8_ok 37 (925, .istore 19, 2) rfl
theorem dL_law_927 : decode cL_law 927 = .ok (.iload 21, 2) := dTL_law_8_ok 38 (927, .iload 21, 2) rfl
theorem dL_law_929 : decode cL_law 929 = .ok (.aload 8, 2) := dTL_law_8_ok 39 (929, .aload 8, 2) rfl
theorem dL_law_931 : decode cL_law 931 = .ok (.iload 20, 2) := dTL_law_8_ok 40 (931, .iload 20, 2) rfl
theorem dL_law_933 : decode cL_law 933 = .ok (.aaload, 1) := dTL_law_8_ok 41 (933, .aaload, 1) rfl
theorem dL_law_934 : decode cL_law 934 = .ok (.iconst 0, 1) := dTL_law_8_ok 42 (934, .iconst 0, 1) rfl
theorem dL_law_935 : decode cL_law 935 = .ok (.iaload, 1) := dTL_law_8_ok 43 (935, .iaload, 1) rfl
theorem dL_law_936 : decode cL_law 936 = .ok (.if_icmp .ne 41, 3) := dTL_law_8_ok 44 (936, .if_icmp .ne 41, 3) rfl
theorem dL_law_939 : decode cL_law 939 = .ok (.iload 23, 2) := dTL_law_8_ok 45 (939, .iload 23, 2) rfl
theorem dL_law_941 : decode cL_law 941 = .ok (.ifCond .eq 38, 3) := dTL_law_8_ok 46 (941, .ifCond .eq 38, 3) rfl
theorem dL_law_944 : decode cL_law 944 = .ok (.aload 8, 2) := dTL_law_8_ok 47 (944, .aload 8, 2) rfl
theorem dL_law_946 : decode cL_law 946 = .ok (.iload 20, 2) := dTL_law_8_ok 48 (946, .iload 20, 2) rfl
theorem dL_law_948 : decode cL_law 948 = .ok (.aaload, 1) := dTL_law_8_ok 49 (948, .aaload, 1) rfl
theorem dL_law_949 : decode cL_law 949 = .ok (.iconst 2, 1) := dTL_law_8_ok 50 (949, .iconst 2, 1) rfl
theorem dL_law_950 : decode cL_law 950 = .ok (.iaload, 1) := dTL_law_8_ok 51 (950, .iaload, 1) rfl
theorem dL_law_951 : decode cL_law 951 = .ok (.ifCond .eq 26, 3) := dTL_law_8_ok 52 (951, .ifCond .eq 26, 3) rfl
theorem dL_law_954 : decode cL_law 954 = .ok (.iload 22, 2) := dTL_law_8_ok 53 (954, .iload 22, 2) rfl
theorem dL_law_956 : decode cL_law 956 = .ok (.ifCond .eq 21, 3) := dTL_law_8_ok 54 (956, .ifCond .eq 21, 3) rfl
theorem dL_law_959 : decode cL_law 959 = .ok (.aload_n 1, 1) := dTL_law_8_ok 55 (959, .aload_n 1, 1) rfl
theorem dL_law_960 : decode cL_law 960 = .ok (.iload 20, 2) := dTL_law_8_ok 56 (960, .iload 20, 2) rfl
theorem dL_law_962 : decode cL_law 962 = .ok (.bipush 9, 2) := dTL_law_8_ok 57 (962, .bipush 9, 2) rfl
theorem dL_law_964 : decode cL_law 964 = .ok (.irem, 1) := dTL_law_8_ok 58 (964, .irem, 1) rfl
theorem dL_law_965 : decode cL_law 965 = .ok (.iload 20, 2) := dTL_law_8_ok 59 (965, .iload 20, 2) rfl
noncomputable def dTL_law_9 : List (Nat × Instr × Nat) := [(967, .bipush 9, 2), (969, .idiv, 1), (970, .iconst 3, 1), (971, .invokevirtual 146, 3), (974, .ifCond .ne 5, 3), (977, .iconst 0, 1), (978, .ireturn, 1), (979, .iload 21, 2), (981, .iconst 1, 1), (982, .if_icmp .ne 23, 3), (985, .iload 22, 2), (987, .aload 8, 2), (989, .iload 20, 2), (991, .aaload, 1), (992, .iconst 1, 1), (993, .iaload, 1), (994, .aload 8, 2), (996, .iload 20, 2), (998, .aaload, 1), (999, .iconst 2, 1), (1000, .iaload, 1), (1001, .isub, 1), (1002, .if_icmp .ne 20, 3), (1005, .iload 21, 2), (1007, .iconst 1, 1), (1008, .if_icmp .eq 16, 3), (1011, .iload 21, 2), (1013, .iconst 4, 1), (1014, .if_icmp .eq 10, 3), (1017, .iload 22, 2), (1019, .ifCond .eq 5, 3), (1022, .iconst 0, 1), (1023, .ireturn, 1), (1024, .aload 8, 2), (1026, .iload 20, 2), (1028, .aaload, 1), (1029, .iconst 1, 1), (1030, .iaload, 1), (1031, .istore 24, 2), (1033, .iconst 0, 1), (1034, .istore 25, 2), (1036, .iload 25, 2), (1038, .aload 16, 2), (1040, .iload 20, 2), (1042, .iaload, 1), (1043, .if_icmp .ge 50, 3), (1046, .iload 24, 2), (1048, .bipush 99, 2), (1050, .if_icmp .ne 7, 3), (1053, .iconst 0, 1), (1054, .goto 7, 3), (1057, .iload 24, 2), (1059, .iconst 1, 1), (1060, .iadd, 1), (1061, .istore 24, 2), (1063, .iload 24, 2), (1065, .bipush 13, 2), (1067, .irem, 1), (1068, .ifCond .ne 19, 3), (1071, .iload 24, 2)]
theorem dTL_law_9_ok : ∀ (k : Nat) (q : Nat × Instr × Nat), dTL_law_9[k]? = some q → decode cL_law q.1 = .ok q.2 := dT_of (by decide +kernel)
theorem dL_law_967 : decode cL_law 967 = .ok (.bipush 9, 2) := dTL_law_9_ok 0 (967, .bipush 9, 2) rfl
theorem dL_law_969 : decode cL_law 969 = .ok (.idiv, 1) := dTL_law_9_ok 1 (969, .idiv, 1) rfl
theorem dL_law_970 : decode cL_law 970 = .ok (.iconst 3, 1) := dTL_law_9_ok 2 (970, .iconst 3, 1) rfl
theorem dL_law_971 : decode cL_law 971 = .ok (.invokevirtual 146, 3) := dTL_law_9_ok 3 (971, .invokevirtual 146, 3) rfl
theorem dL_law_974 : decode cL_law 974 = .ok (.ifCond .ne 5, 3) := dTL_law_9_ok 4 (974, .ifCond .ne 5, 3) rfl
theorem dL_law_977 : decode cL_law 977 = .ok (.iconst 0, 1) := dTL_law_9_ok 5 (977, .iconst 0, 1) rfl
theorem dL_law_978 : decode cL_law 978 = .ok (.ireturn, 1) := dTL_law_9_ok 6 (978, .ireturn, 1) rfl
theorem dL_law_979 : decode cL_law 979 = .ok (.iload 21, 2) := dTL_law_9_ok 7 (979, .iload 21, 2) rfl
theorem dL_law_981 : decode cL_law 981 = .ok (.iconst 1, 1) := dTL_law_9_ok 8 (981, .iconst 1, 1) rfl
theorem dL_law_982 : decode cL_law 982 = .ok (.if_icmp .ne 23, 3) := dTL_law_9_ok 9 (982, .if_icmp .ne 23, 3) rfl
theorem dL_law_985 : decode cL_law 985 = .ok (.iload 22, 2) := dTL_law_9_ok 10 (985, .iload 22, 2) rfl
theorem dL_law_987 : decode cL_law 987 = .ok (.aload 8, 2) := dTL_law_9_ok 11 (987, .aload 8, 2) rfl
theorem dL_law_989 : decode cL_law 989 = .ok (.iload 20, 2) := dTL_law_9_ok 12 (989, .iload 20, 2) rfl
theorem dL_law_991 : decode cL_law 991 = .ok (.aaload, 1) := dTL_law_9_ok 13 (991, .aaload, 1) rfl
theorem dL_law_992 : decode cL_law 992 = .ok (.iconst 1, 1) := dTL_law_9_ok 14 (992, .iconst 1, 1) rfl
theorem dL_law_993 : decode cL_law 993 = .ok (.iaload, 1) := dTL_law_9_ok 15 (993, .iaload, 1) rfl
theorem dL_law_994 : decode cL_law 994 = .ok (.aload 8, 2) := dTL_law_9_ok 16 (994, .aload 8, 2) rfl
theorem dL_law_996 : decode cL_law 996 = .ok (.iload 20, 2) := dTL_law_9_ok 17 (996, .iload 20, 2) rfl
theorem dL_law_998 : decode cL_law 998 = .ok (.aaload, 1) := dTL_law_9_ok 18 (998, .aaload, 1) rfl
theorem dL_law_999 : decode cL_law 999 = .ok (.iconst 2, 1) := dTL_law_9_ok 19 (999, .iconst 2, 1) rfl
theorem dL_law_1000 : decode cL_law 1000 = .ok (.iaload, 1) := dTL_law_9_ok 20 (1000, .iaload, 1) rfl
theorem dL_law_1001 : decode cL_law 1001 = .ok (.isub, 1) := dTL_law_9_ok 21 (1001, .isub, 1) rfl
theorem dL_law_1002 : decode cL_law 1002 = .ok (.if_icmp .ne 20, 3) := dTL_law_9_ok 22 (1002, .if_icmp .ne 20, 3) rfl
theorem dL_law_1005 : decode cL_law 1005 = .ok (.iload 21, 2) := dTL_law_9_ok 23 (1005, .iload 21, 2) rfl
theorem dL_law_1007 : decode cL_law 1007 = .ok (.iconst 1, 1) := dTL_law_9_ok 24 (1007, .iconst 1, 1) rfl
theorem dL_law_1008 : decode cL_law 1008 = .ok (.if_icmp .eq 16, 3) := dTL_law_9_ok 25 (1008, .if_icmp .eq 16, 3) rfl
theorem dL_law_1011 : decode cL_law 1011 = .ok (.iload 21, 2) := dTL_law_9_ok 26 (1011, .iload 21, 2) rfl
theorem dL_law_1013 : decode cL_law 1013 = .ok (.iconst 4, 1) := dTL_law_9_ok 27 (1013, .iconst 4, 1) rfl
theorem dL_law_1014 : decode cL_law 1014 = .ok (.if_icmp .eq 10, 3) := dTL_law_9_ok 28 (1014, .if_icmp .eq 10, 3) rfl
theorem dL_law_1017 : decode cL_law 1017 = .ok (.iload 22, 2) := dTL_law_9_ok 29 (1017, .iload 22, 2) rfl
theorem dL_law_1019 : decode cL_law 1019 = .ok (.ifCond .eq 5, 3) := dTL_law_9_ok 30 (1019, .ifCond .eq 5, 3) rfl
theorem dL_law_1022 : decode cL_law 1022 = .ok (.iconst 0, 1) := dTL_law_9_ok 31 (1022, .iconst 0, 1) rfl
theorem dL_law_1023 : decode cL_law 1023 = .ok (.ireturn, 1) := dTL_law_9_ok 32 (1023, .ireturn, 1) rfl
theorem dL_law_1024 : decode cL_law 1024 = .ok (.aload 8, 2) := dTL_law_9_ok 33 (1024, .aload 8, 2) rfl
theorem dL_law_1026 : decode cL_law 1026 = .ok (.iload 20, 2) := dTL_law_9_ok 34 (1026, .iload 20, 2) rfl
theorem dL_law_1028 : decode cL_law 1028 = .ok (.aaload, 1) := dTL_law_9_ok 35 (1028, .aaload, 1) rfl
theorem dL_law_1029 : decode cL_law 1029 = .ok (.iconst 1, 1) := dTL_law_9_ok 36 (1029, .iconst 1, 1) rfl
theorem dL_law_1030 : decode cL_law 1030 = .ok (.iaload, 1) := dTL_law_9_ok 37 (1030, .iaload, 1) rfl
theorem dL_law_1031 : decode cL_law 1031 = .ok (.istore 24, 2) := dTL_law_9_ok 38 (1031, .istore 24, 2) rfl
theorem dL_law_1033 : decode cL_law 1033 = .ok (.iconst 0, 1) := dTL_law_9_ok 39 (1033, .iconst 0, 1) rfl
theorem dL_law_1034 : decode cL_law 1034 = .ok (.istore 25, 2) := dTL_law_9_ok 40 (1034, .istore 25, 2) rfl
theorem dL_law_1036 : decode cL_law 1036 = .ok (.iload 25, 2) := dTL_law_9_ok 41 (1036, .iload 25, 2) rfl
theorem dL_law_1038 : decode cL_law 1038 = .ok (.aload 16, 2) := dTL_law_9_ok 42 (1038, .aload 16, 2) rfl
theorem dL_law_1040 : decode cL_law 1040 = .ok (.iload 20, 2) := dTL_law_9_ok 43 (1040, .iload 20, 2) rfl
theorem dL_law_1042 : decode cL_law 1042 = .ok (.iaload, 1) := dTL_law_9_ok 44 (1042, .iaload, 1) rfl
theorem dL_law_1043 : decode cL_law 1043 = .ok (.if_icmp .ge 50, 3) := dTL_law_9_ok 45 (1043, .if_icmp .ge 50, 3) rfl
theorem dL_law_1046 : decode cL_law 1046 = .ok (.iload 24, 2) := dTL_law_9_ok 46 (1046, .iload 24, 2) rfl
theorem dL_law_1048 : decode cL_law 1048 = .ok (.bipush 99, 2) := dTL_law_9_ok 47 (1048, .bipush 99, 2) rfl
theorem dL_law_1050 : decode cL_law 1050 = .ok (.if_icmp .ne 7, 3) := dTL_law_9_ok 48 (1050, .if_icmp .ne 7, 3) rfl
theorem dL_law_1053 : decode cL_law 1053 = .ok (.iconst 0, 1) := dTL_law_9_ok 49 (1053, .iconst 0, 1) rfl
theorem dL_law_1054 : decode cL_law 1054 = .ok (.goto 7, 3) := dTL_law_9_ok 50 (1054, .goto 7, 3) rfl
theorem dL_law_1057 : decode cL_law 1057 = .ok (.iload 24, 2) := dTL_law_9_ok 51 (1057, .iload 24, 2) rfl
theorem dL_law_1059 : decode cL_law 1059 = .ok (.iconst 1, 1) := dTL_law_9_ok 52 (1059, .iconst 1, 1) rfl
theorem dL_law_1060 : decode cL_law 1060 = .ok (.iadd, 1) := dTL_law_9_ok 53 (1060, .iadd, 1) rfl
theorem dL_law_1061 : decode cL_law 1061 = .ok (.istore 24, 2) := dTL_law_9_ok 54 (1061, .istore 24, 2) rfl
theorem dL_law_1063 : decode cL_law 1063 = .ok (.iload 24, 2) := dTL_law_9_ok 55 (1063, .iload 24, 2) rfl
theorem dL_law_1065 : decode cL_law 1065 = .ok (.bipush 13, 2) := dTL_law_9_ok 56 (1065, .bipush 13, 2) rfl
theorem dL_law_1067 : decode cL_law 1067 = .ok (.irem, 1) := dTL_law_9_ok 57 (1067, .irem, 1) rfl
theorem dL_law_1068 : decode cL_law 1068 = .ok (.ifCond .ne 19, 3) := dTL_law_9_ok 58 (1068, .ifCond .ne 19, 3) rfl
theorem dL_law_1071 : decode cL_law 1071 = .ok (.iload 24, 2) := dTL_law_9_ok 59 (1071, .iload 24, 2) rfl
noncomputable def dTL_law_10 : List (Nat × Instr × Nat) := [(1073, .bipush 10, 2), (1075, .irem, 1), (1076, .bipush 10, 2), (1078, .imul, 1), (1079, .iload 24, 2), (1081, .bipush 10, 2), (1083, .idiv, 1), (1084, .iadd, 1), (1085, .istore 24, 2), (1087, .iinc 25 1, 3), (1090, .goto (-54), 3), (1093, .iload 21, 2), (1095, .iconst 4, 1), (1096, .if_icmp .ne 12, 3), (1099, .iload 22, 2), (1101, .iload 24, 2), (1103, .if_icmp .eq 5, 3), (1106, .iconst 0, 1), (1107, .ireturn, 1), (1108, .iinc 20 1, 3), (1111, .goto (-286), 3), (1114, .iload 18, 2), (1116, .iload 11, 2), (1118, .if_icmp .ne 34, 3), (1121, .iload 19, 2), (1123, .iload 10, 2), (1125, .if_icmp .ne 27, 3), (1128, .iload 17, 2), (1130, .iload 12, 2), (1132, .if_icmp .ne 20, 3), (1135, .iload 10, 2), (1137, .ifCond .ne 8, 3), (1140, .iload 11, 2), (1142, .ifCond .ne 10, 3), (1145, .iload 11, 2), (1147, .iload 10, 2), (1149, .if_icmp .ge 5, 3), (1152, .iconst 0, 1), (1153, .ireturn, 1), (1154, .iinc 3 1, 3), (1157, .goto (-1135), 3), (1160, .aload_n 2, 1), (1161, .aload_n 1, 1), (1162, .invokevirtual 162, 3), (1165, .ireturn, 1)]
theorem dTL_law_10_ok : ∀ (k : Nat) (q : Nat × Instr × Nat), dTL_law_10[k]? = some q → decode cL_law q.1 = .ok q.2 := dT_of (by decide +kernel)
theorem dL_law_1073 : decode cL_law 1073 = .ok (.bipush 10, 2) := dTL_law_10_ok 0 (1073, .bipush 10, 2) rfl
theorem dL_law_1075 : decode cL_law 1075 = .ok (.irem, 1) := dTL_law_10_ok 1 (1075, .irem, 1) rfl
theorem dL_law_1076 : decode cL_law 1076 = .ok (.bipush 10, 2) := dTL_law_10_ok 2 (1076, .bipush 10, 2) rfl
theorem dL_law_1078 : decode cL_law 1078 = .ok (.imul, 1) := dTL_law_10_ok 3 (1078, .imul, 1) rfl
theorem dL_law_1079 : decode cL_law 1079 = .ok (.iload 24, 2) := dTL_law_10_ok 4 (1079, .iload 24, 2) rfl
theorem dL_law_1081 : decode cL_law 1081 = .ok (.bipush 10, 2) := dTL_law_10_ok 5 (1081, .bipush 10, 2) rfl
theorem dL_law_1083 : decode cL_law 1083 = .ok (.idiv, 1) := dTL_law_10_ok 6 (1083, .idiv, 1) rfl
theorem dL_law_1084 : decode cL_law 1084 = .ok (.iadd, 1) := dTL_law_10_ok 7 (1084, .iadd, 1) rfl
theorem dL_law_1085 : decode cL_law 1085 = .ok (.istore 24, 2) := dTL_law_10_ok 8 (1085, .istore 24, 2) rfl
theorem dL_law_1087 : decode cL_law 1087 = .ok (.iinc 25 1, 3) := dTL_law_10_ok 9 (1087, .iinc 25 1, 3) rfl
theorem dL_law_1090 : decode cL_law 1090 = .ok (.goto (-54), 3) := dTL_law_10_ok 10 (1090, .goto (-54), 3) rfl
theorem dL_law_1093 : decode cL_law 1093 = .ok (.iload 21, 2) := dTL_law_10_ok 11 (1093, .iload 21, 2) rfl
theorem dL_law_1095 : decode cL_law 1095 = .ok (.iconst 4, 1) := dTL_law_10_ok 12 (1095, .iconst 4, 1) rfl
theorem dL_law_1096 : decode cL_law 1096 = .ok (.if_icmp .ne 12, 3) := dTL_law_10_ok 13 (1096, .if_icmp .ne 12, 3) rfl
theorem dL_law_1099 : decode cL_law 1099 = .ok (.iload 22, 2) := dTL_law_10_ok 14 (1099, .iload 22, 2) rfl
theorem dL_law_1101 : decode cL_law 1101 = .ok (.iload 24, 2) := dTL_law_10_ok 15 (1101, .iload 24, 2) rfl
theorem dL_law_1103 : decode cL_law 1103 = .ok (.if_icmp .eq 5, 3) := dTL_law_10_ok 16 (1103, .if_icmp .eq 5, 3) rfl
theorem dL_law_1106 : decode cL_law 1106 = .ok (.iconst 0, 1) := dTL_law_10_ok 17 (1106, .iconst 0, 1) rfl
theorem dL_law_1107 : decode cL_law 1107 = .ok (.ireturn, 1) := dTL_law_10_ok 18 (1107, .ireturn, 1) rfl
theorem dL_law_1108 : decode cL_law 1108 = .ok (.iinc 20 1, 3) := dTL_law_10_ok 19 (1108, .iinc 20 1, 3) rfl
theorem dL_law_1111 : decode cL_law 1111 = .ok (.goto (-286), 3) := dTL_law_10_ok 20 (1111, .goto (-286), 3) rfl
theorem dL_law_1114 : decode cL_law 1114 = .ok (.iload 18, 2) := dTL_law_10_ok 21 (1114, .iload 18, 2) rfl
theorem dL_law_1116 : decode cL_law 1116 = .ok (.iload 11, 2) := dTL_law_10_ok 22 (1116, .iload 11, 2) rfl
theorem dL_law_1118 : decode cL_law 1118 = .ok (.if_icmp .ne 34, 3) := dTL_law_10_ok 23 (1118, .if_icmp .ne 34, 3) rfl
theorem dL_law_1121 : decode cL_law 1121 = .ok (.iload 19, 2) := dTL_law_10_ok 24 (1121, .iload 19, 2) rfl
theorem dL_law_1123 : decode cL_law 1123 = .ok (.iload 10, 2) := dTL_law_10_ok 25 (1123, .iload 10, 2) rfl
theorem dL_law_1125 : decode cL_law 1125 = .ok (.if_icmp .ne 27, 3) := dTL_law_10_ok 26 (1125, .if_icmp .ne 27, 3) rfl
theorem dL_law_1128 : decode cL_law 1128 = .ok (.iload 17, 2) := dTL_law_10_ok 27 (1128, .iload 17, 2) rfl
theorem dL_law_1130 : decode cL_law 1130 = .ok (.iload 12, 2) := dTL_law_10_ok 28 (1130, .iload 12, 2) rfl
theorem dL_law_1132 : decode cL_law 1132 = .ok (.if_icmp .ne 20, 3) := dTL_law_10_ok 29 (1132, .if_icmp .ne 20, 3) rfl
theorem dL_law_1135 : decode cL_law 1135 = .ok (.iload 10, 2) := dTL_law_10_ok 30 (1135, .iload 10, 2) rfl
theorem dL_law_1137 : decode cL_law 1137 = .ok (.ifCond .ne 8, 3) := dTL_law_10_ok 31 (1137, .ifCond .ne 8, 3) rfl
theorem dL_law_1140 : decode cL_law 1140 = .ok (.iload 11, 2) := dTL_law_10_ok 32 (1140, .iload 11, 2) rfl
theorem dL_law_1142 : decode cL_law 1142 = .ok (.ifCond .ne 10, 3) := dTL_law_10_ok 33 (1142, .ifCond .ne 10, 3) rfl
theorem dL_law_1145 : decode cL_law 1145 = .ok (.iload 11, 2) := dTL_law_10_ok 34 (1145, .iload 11, 2) rfl
theorem dL_law_1147 : decode cL_law 1147 = .ok (.iload 10, 2) := dTL_law_10_ok 35 (1147, .iload 10, 2) rfl
theorem dL_law_1149 : decode cL_law 1149 = .ok (.if_icmp .ge 5, 3) := dTL_law_10_ok 36 (1149, .if_icmp .ge 5, 3) rfl
theorem dL_law_1152 : decode cL_law 1152 = .ok (.iconst 0, 1) := dTL_law_10_ok 37 (1152, .iconst 0, 1) rfl
theorem dL_law_1153 : decode cL_law 1153 = .ok (.ireturn, 1) := dTL_law_10_ok 38 (1153, .ireturn, 1) rfl
theorem dL_law_1154 : decode cL_law 1154 = .ok (.iinc 3 1, 3) := dTL_law_10_ok 39 (1154, .iinc 3 1, 3) rfl
theorem dL_law_1157 : decode cL_law 1157 = .ok (.goto (-1135), 3) := dTL_law_10_ok 40 (1157, .goto (-1135), 3) rfl
theorem dL_law_1160 : decode cL_law 1160 = .ok (.aload_n 2, 1) := dTL_law_10_ok 41 (1160, .aload_n 2, 1) rfl
theorem dL_law_1161 : decode cL_law 1161 = .ok (.aload_n 1, 1) := dTL_law_10_ok 42 (1161, .aload_n 1, 1) rfl
theorem dL_law_1162 : decode cL_law 1162 = .ok (.invokevirtual 162, 3) := dTL_law_10_ok 43 (1162, .invokevirtual 162, 3) rfl
theorem dL_law_1165 : decode cL_law 1165 = .ok (.ireturn, 1) := dTL_law_10_ok 44 (1165, .ireturn, 1) rfl
