noncomputable def dTL_wall_0 : List (Nat × Instr × Nat) := [(0, .aload 4, 2), (2, .iconst 0, 1), (3, .aload_n 0, 1), (4, .iload_n 1, 1), (5, .iload_n 2, 1), (6, .iload_n 3, 1), (7, .invokevirtual 7, 3), (10, .ifCond .eq 7, 3), (13, .lconst 1, 1), (14, .goto 4, 3), (17, .lconst 0, 1), (18, .lastore, 1), (19, .goto 15, 3), (22, .astore 5, 2), (24, .iconst 1, 1), (25, .ireturn, 1), (26, .astore 5, 2), (28, .iconst 2, 1), (29, .ireturn, 1), (30, .astore 5, 2), (32, .iconst 3, 1), (33, .ireturn, 1), (34, .iconst 0, 1), (35, .ireturn, 1)]
theorem dTL_wall_0_ok : ∀ (k : Nat) (q : Nat × Instr × Nat), dTL_wall_0[k]? = some q → decode cL_wall q.1 = .ok q.2 := dT_of (by decide +kernel)
theorem dL_wall_0 : decode cL_wall 0 = .ok (.aload 4, 2) := dTL_wall_0_ok 0 (0, .aload 4, 2) rfl
theorem dL_wall_2 : decode cL_wall 2 = .ok (.iconst 0, 1) := dTL_wall_0_ok 1 (2, .iconst 0, 1) rfl
theorem dL_wall_3 : decode cL_wall 3 = .ok (.aload_n 0, 1) := dTL_wall_0_ok 2 (3, .aload_n 0, 1) rfl
theorem dL_wall_4 : decode cL_wall 4 = .ok (.iload_n 1, 1) := dTL_wall_0_ok 3 (4, .iload_n 1, 1) rfl
theorem dL_wall_5 : decode cL_wall 5 = .ok (.iload_n 2, 1) := dTL_wall_0_ok 4 (5, .iload_n 2, 1) rfl
theorem dL_wall_6 : decode cL_wall 6 = .ok (.iload_n 3, 1) := dTL_wall_0_ok 5 (6, .iload_n 3, 1) rfl
theorem dL_wall_7 : decode cL_wall 7 = .ok (.invokevirtual 7, 3) := dTL_wall_0_ok 6 (7, .invokevirtual 7, 3) rfl
theorem dL_wall_10 : decode cL_wall 10 = .ok (.ifCond .eq 7, 3) := dTL_wall_0_ok 7 (10, .ifCond .eq 7, 3) rfl
theorem dL_wall_13 : decode cL_wall 13 = .ok (.lconst 1, 1) := dTL_wall_0_ok 8 (13, .lconst 1, 1) rfl
theorem dL_wall_14 : decode cL_wall 14 = .ok (.goto 4, 3) := dTL_wall_0_ok 9 (14, .goto 4, 3) rfl
theorem dL_wall_17 : decode cL_wall 17 = .ok (.lconst 0, 1) := dTL_wall_0_ok 10 (17, .lconst 0, 1) rfl
theorem dL_wall_18 : decode cL_wall 18 = .ok (.lastore, 1) := dTL_wall_0_ok 11 (18, .lastore, 1) rfl
theorem dL_wall_19 : decode cL_wall 19 = .ok (.goto 15, 3) := dTL_wall_0_ok 12 (19, .goto 15, 3) rfl
theorem dL_wall_22 : decode cL_wall 22 = .ok (.astore 5, 2) := dTL_wall_0_ok 13 (22, .astore 5, 2) rfl
theorem dL_wall_24 : decode cL_wall 24 = .ok (.iconst 1, 1) := dTL_wall_0_ok 14 (24, .iconst 1, 1) rfl
theorem dL_wall_25 : decode cL_wall 25 = .ok (.ireturn, 1) := dTL_wall_0_ok 15 (25, .ireturn, 1) rfl
theorem dL_wall_26 : decode cL_wall 26 = .ok (.astore 5, 2) := dTL_wall_0_ok 16 (26, .astore 5, 2) rfl
theorem dL_wall_28 : decode cL_wall 28 = .ok (.iconst 2, 1) := dTL_wall_0_ok 17 (28, .iconst 2, 1) rfl
theorem dL_wall_29 : decode cL_wall 29 = .ok (.ireturn, 1) := dTL_wall_0_ok 18 (29, .ireturn, 1) rfl
theorem dL_wall_30 : decode cL_wall 30 = .ok (.astore 5, 2) := dTL_wall_0_ok 19 (30, .astore 5, 2) rfl
theorem dL_wall_32 : decode cL_wall 32 = .ok (.iconst 3, 1) := dTL_wall_0_ok 20 (32, .iconst 3, 1) rfl
theorem dL_wall_33 : decode cL_wall 33 = .ok (.ireturn, 1) := dTL_wall_0_ok 21 (33, .ireturn, 1) rfl
theorem dL_wall_34 : decode cL_wall 34 = .ok (.iconst 0, 1) := dTL_wall_0_ok 22 (34, .iconst 0, 1) rfl
theorem dL_wall_35 : decode cL_wall 35 = .ok (.ireturn, 1) := dTL_wall_0_ok 23 (35, .ireturn, 1) rfl
noncomputable def dTL_candle_0 : List (Nat × Instr × Nat) := [(0, .aload 4, 2), (2, .iconst 0, 1), (3, .aload_n 0, 1), (4, .iload_n 1, 1), (5, .iload_n 2, 1), (6, .iload_n 3, 1), (7, .invokevirtual 19, 3), (10, .i2l, 1), (11, .lastore, 1), (12, .goto 15, 3), (15, .astore 5, 2), (17, .iconst 1, 1), (18, .ireturn, 1), (19, .astore 5, 2), (21, .iconst 2, 1), (22, .ireturn, 1), (23, .astore 5, 2), (25, .iconst 3, 1), (26, .ireturn, 1), (27, .iconst 0, 1), (28, .ireturn, 1)]
theorem dTL_candle_0_ok : ∀ (k : Nat) (q : Nat × Instr × Nat), dTL_candle_0[k]? = some q → decode cL_candle q.1 = .ok q.2 := dT_of (by decide +kernel)
theorem dL_candle_0 : decode cL_candle 0 = .ok (.aload 4, 2) := dTL_candle_0_ok 0 (0, .aload 4, 2) rfl
theorem dL_candle_2 : decode cL_candle 2 = .ok (.iconst 0, 1) := dTL_candle_0_ok 1 (2, .iconst 0, 1) rfl
theorem dL_candle_3 : decode cL_candle 3 = .ok (.aload_n 0, 1) := dTL_candle_0_ok 2 (3, .aload_n 0, 1) rfl
theorem dL_candle_4 : decode cL_candle 4 = .ok (.iload_n 1, 1) := dTL_candle_0_ok 3 (4, .iload_n 1, 1) rfl
theorem dL_candle_5 : decode cL_candle 5 = .ok (.iload_n 2, 1) := dTL_candle_0_ok 4 (5, .iload_n 2, 1) rfl
theorem dL_candle_6 : decode cL_candle 6 = .ok (.iload_n 3, 1) := dTL_candle_0_ok 5 (6, .iload_n 3, 1) rfl
theorem dL_candle_7 : decode cL_candle 7 = .ok (.invokevirtual 19, 3) := dTL_candle_0_ok 6 (7, .invokevirtual 19, 3) rfl
theorem dL_candle_10 : decode cL_candle 10 = .ok (.i2l, 1) := dTL_candle_0_ok 7 (10, .i2l, 1) rfl
theorem dL_candle_11 : decode cL_candle 11 = .ok (.lastore, 1) := dTL_candle_0_ok 8 (11, .lastore, 1) rfl
theorem dL_candle_12 : decode cL_candle 12 = .ok (.goto 15, 3) := dTL_candle_0_ok 9 (12, .goto 15, 3) rfl
theorem dL_candle_15 : decode cL_candle 15 = .ok (.astore 5, 2) := dTL_candle_0_ok 10 (15, .astore 5, 2) rfl
theorem dL_candle_17 : decode cL_candle 17 = .ok (.iconst 1, 1) := dTL_candle_0_ok 11 (17, .iconst 1, 1) rfl
theorem dL_candle_18 : decode cL_candle 18 = .ok (.ireturn, 1) := dTL_candle_0_ok 12 (18, .ireturn, 1) rfl
theorem dL_candle_19 : decode cL_candle 19 = .ok (.astore 5, 2) := dTL_candle_0_ok 13 (19, .astore 5, 2) rfl
theorem dL_candle_21 : decode cL_candle 21 = .ok (.iconst 2, 1) := dTL_candle_0_ok 14 (21, .iconst 2, 1) rfl
theorem dL_candle_22 : decode cL_candle 22 = .ok (.ireturn, 1) := dTL_candle_0_ok 15 (22, .ireturn, 1) rfl
theorem dL_candle_23 : decode cL_candle 23 = .ok (.astore 5, 2) := dTL_candle_0_ok 16 (23, .astore 5, 2) rfl
theorem dL_candle_25 : decode cL_candle 25 = .ok (.iconst 3, 1) := dTL_candle_0_ok 17 (25, .iconst 3, 1) rfl
theorem dL_candle_26 : decode cL_candle 26 = .ok (.ireturn, 1) := dTL_candle_0_ok 18 (26, .ireturn, 1) rfl
theorem dL_candle_27 : decode cL_candle 27 = .ok (.iconst 0, 1) := dTL_candle_0_ok 19 (27, .iconst 0, 1) rfl
theorem dL_candle_28 : decode cL_candle 28 = .ok (.ireturn, 1) := dTL_candle_0_ok 20 (28, .ireturn, 1) rfl
noncomputable def dTL_mirror_0 : List (Nat × Instr × Nat) := [(0, .aload 4, 2), (2, .iconst 0, 1), (3, .aload_n 0, 1), (4, .iload_n 1, 1), (5, .iload_n 2, 1), (6, .iload_n 3, 1), (7, .invokevirtual 23, 3), (10, .i2l, 1), (11, .lastore, 1), (12, .goto 11, 3), (15, .astore 5, 2), (17, .iconst 1, 1), (18, .ireturn, 1), (19, .astore 5, 2), (21, .iconst 2, 1), (22, .ireturn, 1), (23, .iconst 0, 1), (24, .ireturn, 1)]
theorem dTL_mirror_0_ok : ∀ (k : Nat) (q : Nat × Instr × Nat), dTL_mirror_0[k]? = some q → decode cL_mirror q.1 = .ok q.2 := dT_of (by decide +kernel)
theorem dL_mirror_0 : decode cL_mirror 0 = .ok (.aload 4, 2) := dTL_mirror_0_ok 0 (0, .aload 4, 2) rfl
theorem dL_mirror_2 : decode cL_mirror 2 = .ok (.iconst 0, 1) := dTL_mirror_0_ok 1 (2, .iconst 0, 1) rfl
theorem dL_mirror_3 : decode cL_mirror 3 = .ok (.aload_n 0, 1) := dTL_mirror_0_ok 2 (3, .aload_n 0, 1) rfl
theorem dL_mirror_4 : decode cL_mirror 4 = .ok (.iload_n 1, 1) := dTL_mirror_0_ok 3 (4, .iload_n 1, 1) rfl
theorem dL_mirror_5 : decode cL_mirror 5 = .ok (.iload_n 2, 1) := dTL_mirror_0_ok 4 (5, .iload_n 2, 1) rfl
theorem dL_mirror_6 : decode cL_mirror 6 = .ok (.iload_n 3, 1) := dTL_mirror_0_ok 5 (6, .iload_n 3, 1) rfl
theorem dL_mirror_7 : decode cL_mirror 7 = .ok (.invokevirtual 23, 3) := dTL_mirror_0_ok 6 (7, .invokevirtual 23, 3) rfl
theorem dL_mirror_10 : decode cL_mirror 10 = .ok (.i2l, 1) := dTL_mirror_0_ok 7 (10, .i2l, 1) rfl
theorem dL_mirror_11 : decode cL_mirror 11 = .ok (.lastore, 1) := dTL_mirror_0_ok 8 (11, .lastore, 1) rfl
theorem dL_mirror_12 : decode cL_mirror 12 = .ok (.goto 11, 3) := dTL_mirror_0_ok 9 (12, .goto 11, 3) rfl
theorem dL_mirror_15 : decode cL_mirror 15 = .ok (.astore 5, 2) := dTL_mirror_0_ok 10 (15, .astore 5, 2) rfl
theorem dL_mirror_17 : decode cL_mirror 17 = .ok (.iconst 1, 1) := dTL_mirror_0_ok 11 (17, .iconst 1, 1) rfl
theorem dL_mirror_18 : decode cL_mirror 18 = .ok (.ireturn, 1) := dTL_mirror_0_ok 12 (18, .ireturn, 1) rfl
theorem dL_mirror_19 : decode cL_mirror 19 = .ok (.astore 5, 2) := dTL_mirror_0_ok 13 (19, .astore 5, 2) rfl
theorem dL_mirror_21 : decode cL_mirror 21 = .ok (.iconst 2, 1) := dTL_mirror_0_ok 14 (21, .iconst 2, 1) rfl
theorem dL_mirror_22 : decode cL_mirror 22 = .ok (.ireturn, 1) := dTL_mirror_0_ok 15 (22, .ireturn, 1) rfl
theorem dL_mirror_23 : decode cL_mirror 23 = .ok (.iconst 0, 1) := dTL_mirror_0_ok 16 (23, .iconst 0, 1) rfl
theorem dL_mirror_24 : decode cL_mirror 24 = .ok (.ireturn, 1) := dTL_mirror_0_ok 17 (24, .ireturn, 1) rfl
noncomputable def dTL_tally_0 : List (Nat × Instr × Nat) := [(0, .aload_n 3, 1), (1, .iconst 0, 1), (2, .aload_n 0, 1), (3, .iload_n 1, 1), (4, .iload_n 2, 1), (5, .invokevirtual 27, 3), (8, .i2l, 1), (9, .lastore, 1), (10, .goto 11, 3), (13, .astore 4, 2), (15, .iconst 1, 1), (16, .ireturn, 1), (17, .astore 4, 2), (19, .iconst 2, 1), (20, .ireturn, 1), (21, .iconst 0, 1), (22, .ireturn, 1)]
theorem dTL_tally_0_ok : ∀ (k : Nat) (q : Nat × Instr × Nat), dTL_tally_0[k]? = some q → decode cL_tally q.1 = .ok q.2 := dT_of (by decide +kernel)
theorem dL_tally_0 : decode cL_tally 0 = .ok (.aload_n 3, 1) := dTL_tally_0_ok 0 (0, .aload_n 3, 1) rfl
theorem dL_tally_1 : decode cL_tally 1 = .ok (.iconst 0, 1) := dTL_tally_0_ok 1 (1, .iconst 0, 1) rfl
theorem dL_tally_2 : decode cL_tally 2 = .ok (.aload_n 0, 1) := dTL_tally_0_ok 2 (2, .aload_n 0, 1) rfl
theorem dL_tally_3 : decode cL_tally 3 = .ok (.iload_n 1, 1) := dTL_tally_0_ok 3 (3, .iload_n 1, 1) rfl
theorem dL_tally_4 : decode cL_tally 4 = .ok (.iload_n 2, 1) := dTL_tally_0_ok 4 (4, .iload_n 2, 1) rfl
theorem dL_tally_5 : decode cL_tally 5 = .ok (.invokevirtual 27, 3) := dTL_tally_0_ok 5 (5, .invokevirtual 27, 3) rfl
theorem dL_tally_8 : decode cL_tally 8 = .ok (.i2l, 1) := dTL_tally_0_ok 6 (8, .i2l, 1) rfl
theorem dL_tally_9 : decode cL_tally 9 = .ok (.lastore, 1) := dTL_tally_0_ok 7 (9, .lastore, 1) rfl
theorem dL_tally_10 : decode cL_tally 10 = .ok (.goto 11, 3) := dTL_tally_0_ok 8 (10, .goto 11, 3) rfl
theorem dL_tally_13 : decode cL_tally 13 = .ok (.astore 4, 2) := dTL_tally_0_ok 9 (13, .astore 4, 2) rfl
theorem dL_tally_15 : decode cL_tally 15 = .ok (.iconst 1, 1) := dTL_tally_0_ok 10 (15, .iconst 1, 1) rfl
theorem dL_tally_16 : decode cL_tally 16 = .ok (.ireturn, 1) := dTL_tally_0_ok 11 (16, .ireturn, 1) rfl
theorem dL_tally_17 : decode cL_tally 17 = .ok (.astore 4, 2) := dTL_tally_0_ok 12 (17, .astore 4, 2) rfl
theorem dL_tally_19 : decode cL_tally 19 = .ok (.iconst 2, 1) := dTL_tally_0_ok 13 (19, .iconst 2, 1) rfl
theorem dL_tally_20 : decode cL_tally 20 = .ok (.ireturn, 1) := dTL_tally_0_ok 14 (20, .ireturn, 1) rfl
theorem dL_tally_21 : decode cL_tally 21 = .ok (.iconst 0, 1) := dTL_tally_0_ok 15 (21, .iconst 0, 1) rfl
theorem dL_tally_22 : decode cL_tally 22 = .ok (.ireturn, 1) := dTL_tally_0_ok 16 (22, .ireturn, 1) rfl
noncomputable def dTL_remove_0 : List (Nat × Instr × Nat) := [(0, .aload_n 3, 1), (1, .iconst 0, 1), (2, .aload_n 0, 1), (3, .iload_n 1, 1), (4, .iload_n 2, 1), (5, .invokevirtual 31, 3), (8, .i2l, 1), (9, .lastore, 1), (10, .goto 11, 3), (13, .astore 4, 2), (15, .iconst 1, 1), (16, .ireturn, 1), (17, .astore 4, 2), (19, .iconst 2, 1), (20, .ireturn, 1), (21, .iconst 0, 1), (22, .ireturn, 1)]
theorem dTL_remove_0_ok : ∀ (k : Nat) (q : Nat × Instr × Nat), dTL_remove_0[k]? = some q → decode cL_remove q.1 = .ok q.2 := dT_of (by decide +kernel)
theorem dL_remove_0 : decode cL_remove 0 = .ok (.aload_n 3, 1) := dTL_remove_0_ok 0 (0, .aload_n 3, 1) rfl
theorem dL_remove_1 : decode cL_remove 1 = .ok (.iconst 0, 1) := dTL_remove_0_ok 1 (1, .iconst 0, 1) rfl
theorem dL_remove_2 : decode cL_remove 2 = .ok (.aload_n 0, 1) := dTL_remove_0_ok 2 (2, .aload_n 0, 1) rfl
theorem dL_remove_3 : decode cL_remove 3 = .ok (.iload_n 1, 1) := dTL_remove_0_ok 3 (3, .iload_n 1, 1) rfl
theorem dL_remove_4 : decode cL_remove 4 = .ok (.iload_n 2, 1) := dTL_remove_0_ok 4 (4, .iload_n 2, 1) rfl
theorem dL_remove_5 : decode cL_remove 5 = .ok (.invokevirtual 31, 3) := dTL_remove_0_ok 5 (5, .invokevirtual 31, 3) rfl
theorem dL_remove_8 : decode cL_remove 8 = .ok (.i2l, 1) := dTL_remove_0_ok 6 (8, .i2l, 1) rfl
theorem dL_remove_9 : decode cL_remove 9 = .ok (.lastore, 1) := dTL_remove_0_ok 7 (9, .lastore, 1) rfl
theorem dL_remove_10 : decode cL_remove 10 = .ok (.goto 11, 3) := dTL_remove_0_ok 8 (10, .goto 11, 3) rfl
theorem dL_remove_13 : decode cL_remove 13 = .ok (.astore 4, 2) := dTL_remove_0_ok 9 (13, .astore 4, 2) rfl
theorem dL_remove_15 : decode cL_remove 15 = .ok (.iconst 1, 1) := dTL_remove_0_ok 10 (15, .iconst 1, 1) rfl
theorem dL_remove_16 : decode cL_remove 16 = .ok (.ireturn, 1) := dTL_remove_0_ok 11 (16, .ireturn, 1) rfl
theorem dL_remove_17 : decode cL_remove 17 = .ok (.astore 4, 2) := dTL_remove_0_ok 12 (17, .astore 4, 2) rfl
theorem dL_remove_19 : decode cL_remove 19 = .ok (.iconst 2, 1) := dTL_remove_0_ok 13 (19, .iconst 2, 1) rfl
theorem dL_remove_20 : decode cL_remove 20 = .ok (.ireturn, 1) := dTL_remove_0_ok 14 (20, .ireturn, 1) rfl
theorem dL_remove_21 : decode cL_remove 21 = .ok (.iconst 0, 1) := dTL_remove_0_ok 15 (21, .iconst 0, 1) rfl
theorem dL_remove_22 : decode cL_remove 22 = .ok (.ireturn, 1) := dTL_remove_0_ok 16 (22, .ireturn, 1) rfl
noncomputable def dTL_light_0 : List (Nat × Instr × Nat) := [(0, .aload_n 3, 1), (1, .iconst 0, 1), (2, .aload_n 0, 1), (3, .iload_n 1, 1), (4, .iload_n 2, 1), (5, .invokevirtual 34, 3), (8, .ifCond .eq 7, 3), (11, .lconst 1, 1), (12, .goto 4, 3), (15, .lconst 0, 1), (16, .lastore, 1), (17, .goto 11, 3), (20, .astore 4, 2), (22, .iconst 1, 1), (23, .ireturn, 1), (24, .astore 4, 2), (26, .iconst 2, 1), (27, .ireturn, 1), (28, .iconst 0, 1), (29, .ireturn, 1)]
theorem dTL_light_0_ok : ∀ (k : Nat) (q : Nat × Instr × Nat), dTL_light_0[k]? = some q → decode cL_light q.1 = .ok q.2 := dT_of (by decide +kernel)
theorem dL_light_0 : decode cL_light 0 = .ok (.aload_n 3, 1) := dTL_light_0_ok 0 (0, .aload_n 3, 1) rfl
theorem dL_light_1 : decode cL_light 1 = .ok (.iconst 0, 1) := dTL_light_0_ok 1 (1, .iconst 0, 1) rfl
theorem dL_light_2 : decode cL_light 2 = .ok (.aload_n 0, 1) := dTL_light_0_ok 2 (2, .aload_n 0, 1) rfl
theorem dL_light_3 : decode cL_light 3 = .ok (.iload_n 1, 1) := dTL_light_0_ok 3 (3, .iload_n 1, 1) rfl
theorem dL_light_4 : decode cL_light 4 = .ok (.iload_n 2, 1) := dTL_light_0_ok 4 (4, .iload_n 2, 1) rfl
theorem dL_light_5 : decode cL_light 5 = .ok (.invokevirtual 34, 3) := dTL_light_0_ok 5 (5, .invokevirtual 34, 3) rfl
theorem dL_light_8 : decode cL_light 8 = .ok (.ifCond .eq 7, 3) := dTL_light_0_ok 6 (8, .ifCond .eq 7, 3) rfl
theorem dL_light_11 : decode cL_light 11 = .ok (.lconst 1, 1) := dTL_light_0_ok 7 (11, .lconst 1, 1) rfl
theorem dL_light_12 : decode cL_light 12 = .ok (.goto 4, 3) := dTL_light_0_ok 8 (12, .goto 4, 3) rfl
theorem dL_light_15 : decode cL_light 15 = .ok (.lconst 0, 1) := dTL_light_0_ok 9 (15, .lconst 0, 1) rfl
theorem dL_light_16 : decode cL_light 16 = .ok (.lastore, 1) := dTL_light_0_ok 10 (16, .lastore, 1) rfl
theorem dL_light_17 : decode cL_light 17 = .ok (.goto 11, 3) := dTL_light_0_ok 11 (17, .goto 11, 3) rfl
theorem dL_light_20 : decode cL_light 20 = .ok (.astore 4, 2) := dTL_light_0_ok 12 (20, .astore 4, 2) rfl
theorem dL_light_22 : decode cL_light 22 = .ok (.iconst 1, 1) := dTL_light_0_ok 13 (22, .iconst 1, 1) rfl
theorem dL_light_23 : decode cL_light 23 = .ok (.ireturn, 1) := dTL_light_0_ok 14 (23, .ireturn, 1) rfl
theorem dL_light_24 : decode cL_light 24 = .ok (.astore 4, 2) := dTL_light_0_ok 15 (24, .astore 4, 2) rfl
theorem dL_light_26 : decode cL_light 26 = .ok (.iconst 2, 1) := dTL_light_0_ok 16 (26, .iconst 2, 1) rfl
theorem dL_light_27 : decode cL_light 27 = .ok (.ireturn, 1) := dTL_light_0_ok 17 (27, .ireturn, 1) rfl
theorem dL_light_28 : decode cL_light 28 = .ok (.iconst 0, 1) := dTL_light_0_ok 18 (28, .iconst 0, 1) rfl
theorem dL_light_29 : decode cL_light 29 = .ok (.ireturn, 1) := dTL_light_0_ok 19 (29, .ireturn, 1) rfl
noncomputable def dTL_come_0 : List (Nat × Instr × Nat) := [(0, .aload 4, 2), (2, .iconst 0, 1), (3, .aload_n 0, 1), (4, .iload_n 1, 1), (5, .iload_n 2, 1), (6, .iload_n 3, 1), (7, .invokevirtual 38, 3), (10, .i2l, 1), (11, .lastore, 1), (12, .goto 15, 3), (15, .astore 5, 2), (17, .iconst 1, 1), (18, .ireturn, 1), (19, .astore 5, 2), (21, .iconst 2, 1), (22, .ireturn, 1), (23, .astore 5, 2), (25, .iconst 3, 1), (26, .ireturn, 1), (27, .iconst 0, 1), (28, .ireturn, 1)]
theorem dTL_come_0_ok : ∀ (k : Nat) (q : Nat × Instr × Nat), dTL_come_0[k]? = some q → decode cL_come q.1 = .ok q.2 := dT_of (by decide +kernel)
theorem dL_come_0 : decode cL_come 0 = .ok (.aload 4, 2) := dTL_come_0_ok 0 (0, .aload 4, 2) rfl
theorem dL_come_2 : decode cL_come 2 = .ok (.iconst 0, 1) := dTL_come_0_ok 1 (2, .iconst 0, 1) rfl
theorem dL_come_3 : decode cL_come 3 = .ok (.aload_n 0, 1) := dTL_come_0_ok 2 (3, .aload_n 0, 1) rfl
theorem dL_come_4 : decode cL_come 4 = .ok (.iload_n 1, 1) := dTL_come_0_ok 3 (4, .iload_n 1, 1) rfl
theorem dL_come_5 : decode cL_come 5 = .ok (.iload_n 2, 1) := dTL_come_0_ok 4 (5, .iload_n 2, 1) rfl
theorem dL_come_6 : decode cL_come 6 = .ok (.iload_n 3, 1) := dTL_come_0_ok 5 (6, .iload_n 3, 1) rfl
theorem dL_come_7 : decode cL_come 7 = .ok (.invokevirtual 38, 3) := dTL_come_0_ok 6 (7, .invokevirtual 38, 3) rfl
theorem dL_come_10 : decode cL_come 10 = .ok (.i2l, 1) := dTL_come_0_ok 7 (10, .i2l, 1) rfl
theorem dL_come_11 : decode cL_come 11 = .ok (.lastore, 1) := dTL_come_0_ok 8 (11, .lastore, 1) rfl
theorem dL_come_12 : decode cL_come 12 = .ok (.goto 15, 3) := dTL_come_0_ok 9 (12, .goto 15, 3) rfl
theorem dL_come_15 : decode cL_come 15 = .ok (.astore 5, 2) := dTL_come_0_ok 10 (15, .astore 5, 2) rfl
theorem dL_come_17 : decode cL_come 17 = .ok (.iconst 1, 1) := dTL_come_0_ok 11 (17, .iconst 1, 1) rfl
theorem dL_come_18 : decode cL_come 18 = .ok (.ireturn, 1) := dTL_come_0_ok 12 (18, .ireturn, 1) rfl
theorem dL_come_19 : decode cL_come 19 = .ok (.astore 5, 2) := dTL_come_0_ok 13 (19, .astore 5, 2) rfl
theorem dL_come_21 : decode cL_come 21 = .ok (.iconst 2, 1) := dTL_come_0_ok 14 (21, .iconst 2, 1) rfl
theorem dL_come_22 : decode cL_come 22 = .ok (.ireturn, 1) := dTL_come_0_ok 15 (22, .ireturn, 1) rfl
theorem dL_come_23 : decode cL_come 23 = .ok (.astore 5, 2) := dTL_come_0_ok 16 (23, .astore 5, 2) rfl
theorem dL_come_25 : decode cL_come 25 = .ok (.iconst 3, 1) := dTL_come_0_ok 17 (25, .iconst 3, 1) rfl
theorem dL_come_26 : decode cL_come 26 = .ok (.ireturn, 1) := dTL_come_0_ok 18 (26, .ireturn, 1) rfl
theorem dL_come_27 : decode cL_come 27 = .ok (.iconst 0, 1) := dTL_come_0_ok 19 (27, .iconst 0, 1) rfl
theorem dL_come_28 : decode cL_come 28 = .ok (.ireturn, 1) := dTL_come_0_ok 20 (28, .ireturn, 1) rfl
noncomputable def dTL_send_0 : List (Nat × Instr × Nat) := [(0, .aload 4, 2), (2, .iconst 0, 1), (3, .aload_n 0, 1), (4, .iload_n 1, 1), (5, .iload_n 2, 1), (6, .iload_n 3, 1), (7, .invokevirtual 41, 3), (10, .i2l, 1), (11, .lastore, 1), (12, .goto 7, 3), (15, .astore 5, 2), (17, .iconst 1, 1), (18, .ireturn, 1), (19, .iconst 0, 1), (20, .ireturn, 1)]
theorem dTL_send_0_ok : ∀ (k : Nat) (q : Nat × Instr × Nat), dTL_send_0[k]? = some q → decode cL_send q.1 = .ok q.2 := dT_of (by decide +kernel)
theorem dL_send_0 : decode cL_send 0 = .ok (.aload 4, 2) := dTL_send_0_ok 0 (0, .aload 4, 2) rfl
theorem dL_send_2 : decode cL_send 2 = .ok (.iconst 0, 1) := dTL_send_0_ok 1 (2, .iconst 0, 1) rfl
theorem dL_send_3 : decode cL_send 3 = .ok (.aload_n 0, 1) := dTL_send_0_ok 2 (3, .aload_n 0, 1) rfl
theorem dL_send_4 : decode cL_send 4 = .ok (.iload_n 1, 1) := dTL_send_0_ok 3 (4, .iload_n 1, 1) rfl
theorem dL_send_5 : decode cL_send 5 = .ok (.iload_n 2, 1) := dTL_send_0_ok 4 (5, .iload_n 2, 1) rfl
theorem dL_send_6 : decode cL_send 6 = .ok (.iload_n 3, 1) := dTL_send_0_ok 5 (6, .iload_n 3, 1) rfl
theorem dL_send_7 : decode cL_send 7 = .ok (.invokevirtual 41, 3) := dTL_send_0_ok 6 (7, .invokevirtual 41, 3) rfl
theorem dL_send_10 : decode cL_send 10 = .ok (.i2l, 1) := dTL_send_0_ok 7 (10, .i2l, 1) rfl
theorem dL_send_11 : decode cL_send 11 = .ok (.lastore, 1) := dTL_send_0_ok 8 (11, .lastore, 1) rfl
theorem dL_send_12 : decode cL_send 12 = .ok (.goto 7, 3) := dTL_send_0_ok 9 (12, .goto 7, 3) rfl
theorem dL_send_15 : decode cL_send 15 = .ok (.astore 5, 2) := dTL_send_0_ok 10 (15, .astore 5, 2) rfl
theorem dL_send_17 : decode cL_send 17 = .ok (.iconst 1, 1) := dTL_send_0_ok 11 (17, .iconst 1, 1) rfl
theorem dL_send_18 : decode cL_send 18 = .ok (.ireturn, 1) := dTL_send_0_ok 12 (18, .ireturn, 1) rfl
theorem dL_send_19 : decode cL_send 19 = .ok (.iconst 0, 1) := dTL_send_0_ok 13 (19, .iconst 0, 1) rfl
theorem dL_send_20 : decode cL_send 20 = .ok (.ireturn, 1) := dTL_send_0_ok 14 (20, .ireturn, 1) rfl
noncomputable def dTL_rite_0 : List (Nat × Instr × Nat) := [(0, .aload_n 2, 1), (1, .iconst 0, 1), (2, .aload_n 0, 1), (3, .iload_n 1, 1), (4, .invokevirtual 44, 3), (7, .i2l, 1), (8, .lastore, 1), (9, .goto 9, 3), (12, .astore_n 3, 1), (13, .iconst 1, 1), (14, .ireturn, 1), (15, .astore_n 3, 1), (16, .iconst 2, 1), (17, .ireturn, 1), (18, .iconst 0, 1), (19, .ireturn, 1)]
theorem dTL_rite_0_ok : ∀ (k : Nat) (q : Nat × Instr × Nat), dTL_rite_0[k]? = some q → decode cL_rite q.1 = .ok q.2 := dT_of (by decide +kernel)
theorem dL_rite_0 : decode cL_rite 0 = .ok (.aload_n 2, 1) := dTL_rite_0_ok 0 (0, .aload_n 2, 1) rfl
theorem dL_rite_1 : decode cL_rite 1 = .ok (.iconst 0, 1) := dTL_rite_0_ok 1 (1, .iconst 0, 1) rfl
theorem dL_rite_2 : decode cL_rite 2 = .ok (.aload_n 0, 1) := dTL_rite_0_ok 2 (2, .aload_n 0, 1) rfl
theorem dL_rite_3 : decode cL_rite 3 = .ok (.iload_n 1, 1) := dTL_rite_0_ok 3 (3, .iload_n 1, 1) rfl
theorem dL_rite_4 : decode cL_rite 4 = .ok (.invokevirtual 44, 3) := dTL_rite_0_ok 4 (4, .invokevirtual 44, 3) rfl
theorem dL_rite_7 : decode cL_rite 7 = .ok (.i2l, 1) := dTL_rite_0_ok 5 (7, .i2l, 1) rfl
theorem dL_rite_8 : decode cL_rite 8 = .ok (.lastore, 1) := dTL_rite_0_ok 6 (8, .lastore, 1) rfl
theorem dL_rite_9 : decode cL_rite 9 = .ok (.goto 9, 3) := dTL_rite_0_ok 7 (9, .goto 9, 3) rfl
theorem dL_rite_12 : decode cL_rite 12 = .ok (.astore_n 3, 1) := dTL_rite_0_ok 8 (12, .astore_n 3, 1) rfl
theorem dL_rite_13 : decode cL_rite 13 = .ok (.iconst 1, 1) := dTL_rite_0_ok 9 (13, .iconst 1, 1) rfl
theorem dL_rite_14 : decode cL_rite 14 = .ok (.ireturn, 1) := dTL_rite_0_ok 10 (14, .ireturn, 1) rfl
theorem dL_rite_15 : decode cL_rite 15 = .ok (.astore_n 3, 1) := dTL_rite_0_ok 11 (15, .astore_n 3, 1) rfl
theorem dL_rite_16 : decode cL_rite 16 = .ok (.iconst 2, 1) := dTL_rite_0_ok 12 (16, .iconst 2, 1) rfl
theorem dL_rite_17 : decode cL_rite 17 = .ok (.ireturn, 1) := dTL_rite_0_ok 13 (17, .ireturn, 1) rfl
theorem dL_rite_18 : decode cL_rite 18 = .ok (.iconst 0, 1) := dTL_rite_0_ok 14 (18, .iconst 0, 1) rfl
theorem dL_rite_19 : decode cL_rite 19 = .ok (.ireturn, 1) := dTL_rite_0_ok 15 (19, .ireturn, 1) rfl
noncomputable def dTL_cell_0 : List (Nat × Instr × Nat) := [(0, .aload 4, 2), (2, .iconst 0, 1), (3, .aload_n 0, 1), (4, .iload_n 1, 1), (5, .iload_n 2, 1), (6, .iload_n 3, 1), (7, .invokevirtual 48, 3), (10, .i2l, 1), (11, .lastore, 1), (12, .goto 7, 3), (15, .astore 5, 2), (17, .iconst 1, 1), (18, .ireturn, 1), (19, .iconst 0, 1), (20, .ireturn, 1)]
theorem dTL_cell_0_ok : ∀ (k : Nat) (q : Nat × Instr × Nat), dTL_cell_0[k]? = some q → decode cL_cell q.1 = .ok q.2 := dT_of (by decide +kernel)
theorem dL_cell_0 : decode cL_cell 0 = .ok (.aload 4, 2) := dTL_cell_0_ok 0 (0, .aload 4, 2) rfl
theorem dL_cell_2 : decode cL_cell 2 = .ok (.iconst 0, 1) := dTL_cell_0_ok 1 (2, .iconst 0, 1) rfl
theorem dL_cell_3 : decode cL_cell 3 = .ok (.aload_n 0, 1) := dTL_cell_0_ok 2 (3, .aload_n 0, 1) rfl
theorem dL_cell_4 : decode cL_cell 4 = .ok (.iload_n 1, 1) := dTL_cell_0_ok 3 (4, .iload_n 1, 1) rfl
theorem dL_cell_5 : decode cL_cell 5 = .ok (.iload_n 2, 1) := dTL_cell_0_ok 4 (5, .iload_n 2, 1) rfl
theorem dL_cell_6 : decode cL_cell 6 = .ok (.iload_n 3, 1) := dTL_cell_0_ok 5 (6, .iload_n 3, 1) rfl
theorem dL_cell_7 : decode cL_cell 7 = .ok (.invokevirtual 48, 3) := dTL_cell_0_ok 6 (7, .invokevirtual 48, 3) rfl
theorem dL_cell_10 : decode cL_cell 10 = .ok (.i2l, 1) := dTL_cell_0_ok 7 (10, .i2l, 1) rfl
theorem dL_cell_11 : decode cL_cell 11 = .ok (.lastore, 1) := dTL_cell_0_ok 8 (11, .lastore, 1) rfl
theorem dL_cell_12 : decode cL_cell 12 = .ok (.goto 7, 3) := dTL_cell_0_ok 9 (12, .goto 7, 3) rfl
theorem dL_cell_15 : decode cL_cell 15 = .ok (.astore 5, 2) := dTL_cell_0_ok 10 (15, .astore 5, 2) rfl
theorem dL_cell_17 : decode cL_cell 17 = .ok (.iconst 1, 1) := dTL_cell_0_ok 11 (17, .iconst 1, 1) rfl
theorem dL_cell_18 : decode cL_cell 18 = .ok (.ireturn, 1) := dTL_cell_0_ok 12 (18, .ireturn, 1) rfl
theorem dL_cell_19 : decode cL_cell 19 = .ok (.iconst 0, 1) := dTL_cell_0_ok 13 (19, .iconst 0, 1) rfl
theorem dL_cell_20 : decode cL_cell 20 = .ok (.ireturn, 1) := dTL_cell_0_ok 14 (20, .ireturn, 1) rfl
noncomputable def dTL_walled_0 : List (Nat × Instr × Nat) := [(0, .aload 4, 2), (2, .iconst 0, 1), (3, .aload_n 0, 1), (4, .iload_n 1, 1), (5, .iload_n 2, 1), (6, .iload_n 3, 1), (7, .invokevirtual 51, 3), (10, .ifCond .eq 7, 3), (13, .lconst 1, 1), (14, .goto 4, 3), (17, .lconst 0, 1), (18, .lastore, 1), (19, .goto 11, 3), (22, .astore 5, 2), (24, .iconst 1, 1), (25, .ireturn, 1), (26, .astore 5, 2), (28, .iconst 2, 1), (29, .ireturn, 1), (30, .iconst 0, 1), (31, .ireturn, 1)]
theorem dTL_walled_0_ok : ∀ (k : Nat) (q : Nat × Instr × Nat), dTL_walled_0[k]? = some q → decode cL_walled q.1 = .ok q.2 := dT_of (by decide +kernel)
theorem dL_walled_0 : decode cL_walled 0 = .ok (.aload 4, 2) := dTL_walled_0_ok 0 (0, .aload 4, 2) rfl
theorem dL_walled_2 : decode cL_walled 2 = .ok (.iconst 0, 1) := dTL_walled_0_ok 1 (2, .iconst 0, 1) rfl
theorem dL_walled_3 : decode cL_walled 3 = .ok (.aload_n 0, 1) := dTL_walled_0_ok 2 (3, .aload_n 0, 1) rfl
theorem dL_walled_4 : decode cL_walled 4 = .ok (.iload_n 1, 1) := dTL_walled_0_ok 3 (4, .iload_n 1, 1) rfl
theorem dL_walled_5 : decode cL_walled 5 = .ok (.iload_n 2, 1) := dTL_walled_0_ok 4 (5, .iload_n 2, 1) rfl
theorem dL_walled_6 : decode cL_walled 6 = .ok (.iload_n 3, 1) := dTL_walled_0_ok 5 (6, .iload_n 3, 1) rfl
theorem dL_walled_7 : decode cL_walled 7 = .ok (.invokevirtual 51, 3) := dTL_walled_0_ok 6 (7, .invokevirtual 51, 3) rfl
theorem dL_walled_10 : decode cL_walled 10 = .ok (.ifCond .eq 7, 3) := dTL_walled_0_ok 7 (10, .ifCond .eq 7, 3) rfl
theorem dL_walled_13 : decode cL_walled 13 = .ok (.lconst 1, 1) := dTL_walled_0_ok 8 (13, .lconst 1, 1) rfl
theorem dL_walled_14 : decode cL_walled 14 = .ok (.goto 4, 3) := dTL_walled_0_ok 9 (14, .goto 4, 3) rfl
theorem dL_walled_17 : decode cL_walled 17 = .ok (.lconst 0, 1) := dTL_walled_0_ok 10 (17, .lconst 0, 1) rfl
theorem dL_walled_18 : decode cL_walled 18 = .ok (.lastore, 1) := dTL_walled_0_ok 11 (18, .lastore, 1) rfl
theorem dL_walled_19 : decode cL_walled 19 = .ok (.goto 11, 3) := dTL_walled_0_ok 12 (19, .goto 11, 3) rfl
theorem dL_walled_22 : decode cL_walled 22 = .ok (.astore 5, 2) := dTL_walled_0_ok 13 (22, .astore 5, 2) rfl
theorem dL_walled_24 : decode cL_walled 24 = .ok (.iconst 1, 1) := dTL_walled_0_ok 14 (24, .iconst 1, 1) rfl
theorem dL_walled_25 : decode cL_walled 25 = .ok (.ireturn, 1) := dTL_walled_0_ok 15 (25, .ireturn, 1) rfl
theorem dL_walled_26 : decode cL_walled 26 = .ok (.astore 5, 2) := dTL_walled_0_ok 16 (26, .astore 5, 2) rfl
theorem dL_walled_28 : decode cL_walled 28 = .ok (.iconst 2, 1) := dTL_walled_0_ok 17 (28, .iconst 2, 1) rfl
theorem dL_walled_29 : decode cL_walled 29 = .ok (.ireturn, 1) := dTL_walled_0_ok 18 (29, .ireturn, 1) rfl
theorem dL_walled_30 : decode cL_walled 30 = .ok (.iconst 0, 1) := dTL_walled_0_ok 19 (30, .iconst 0, 1) rfl
theorem dL_walled_31 : decode cL_walled 31 = .ok (.ireturn, 1) := dTL_walled_0_ok 20 (31, .ireturn, 1) rfl
noncomputable def dTL_ghost_0 : List (Nat × Instr × Nat) := [(0, .aload_n 3, 1), (1, .iconst 0, 1), (2, .aload_n 0, 1), (3, .iload_n 1, 1), (4, .iload_n 2, 1), (5, .invokevirtual 54, 3), (8, .i2l, 1), (9, .lastore, 1), (10, .goto 7, 3), (13, .astore 4, 2), (15, .iconst 1, 1), (16, .ireturn, 1), (17, .iconst 0, 1), (18, .ireturn, 1)]
theorem dTL_ghost_0_ok : ∀ (k : Nat) (q : Nat × Instr × Nat), dTL_ghost_0[k]? = some q → decode cL_ghost q.1 = .ok q.2 := dT_of (by decide +kernel)
theorem dL_ghost_0 : decode cL_ghost 0 = .ok (.aload_n 3, 1) := dTL_ghost_0_ok 0 (0, .aload_n 3, 1) rfl
theorem dL_ghost_1 : decode cL_ghost 1 = .ok (.iconst 0, 1) := dTL_ghost_0_ok 1 (1, .iconst 0, 1) rfl
theorem dL_ghost_2 : decode cL_ghost 2 = .ok (.aload_n 0, 1) := dTL_ghost_0_ok 2 (2, .aload_n 0, 1) rfl
theorem dL_ghost_3 : decode cL_ghost 3 = .ok (.iload_n 1, 1) := dTL_ghost_0_ok 3 (3, .iload_n 1, 1) rfl
theorem dL_ghost_4 : decode cL_ghost 4 = .ok (.iload_n 2, 1) := dTL_ghost_0_ok 4 (4, .iload_n 2, 1) rfl
theorem dL_ghost_5 : decode cL_ghost 5 = .ok (.invokevirtual 54, 3) := dTL_ghost_0_ok 5 (5, .invokevirtual 54, 3) rfl
theorem dL_ghost_8 : decode cL_ghost 8 = .ok (.i2l, 1) := dTL_ghost_0_ok 6 (8, .i2l, 1) rfl
theorem dL_ghost_9 : decode cL_ghost 9 = .ok (.lastore, 1) := dTL_ghost_0_ok 7 (9, .lastore, 1) rfl
theorem dL_ghost_10 : decode cL_ghost 10 = .ok (.goto 7, 3) := dTL_ghost_0_ok 8 (10, .goto 7, 3) rfl
theorem dL_ghost_13 : decode cL_ghost 13 = .ok (.astore 4, 2) := dTL_ghost_0_ok 9 (13, .astore 4, 2) rfl
theorem dL_ghost_15 : decode cL_ghost 15 = .ok (.iconst 1, 1) := dTL_ghost_0_ok 10 (15, .iconst 1, 1) rfl
theorem dL_ghost_16 : decode cL_ghost 16 = .ok (.ireturn, 1) := dTL_ghost_0_ok 11 (16, .ireturn, 1) rfl
theorem dL_ghost_17 : decode cL_ghost 17 = .ok (.iconst 0, 1) := dTL_ghost_0_ok 12 (17, .iconst 0, 1) rfl
theorem dL_ghost_18 : decode cL_ghost 18 = .ok (.ireturn, 1) := dTL_ghost_0_ok 13 (18, .ireturn, 1) rfl
noncomputable def dTL_count_0 : List (Nat × Instr × Nat) := [(0, .aload_n 2, 1), (1, .iconst 0, 1), (2, .aload_n 0, 1), (3, .iload_n 1, 1), (4, .invokevirtual 57, 3), (7, .i2l, 1), (8, .lastore, 1), (9, .goto 6, 3), (12, .astore_n 3, 1), (13, .iconst 1, 1), (14, .ireturn, 1), (15, .iconst 0, 1), (16, .ireturn, 1)]
theorem dTL_count_0_ok : ∀ (k : Nat) (q : Nat × Instr × Nat), dTL_count_0[k]? = some q → decode cL_count q.1 = .ok q.2 := dT_of (by decide +kernel)
theorem dL_count_0 : decode cL_count 0 = .ok (.aload_n 2, 1) := dTL_count_0_ok 0 (0, .aload_n 2, 1) rfl
theorem dL_count_1 : decode cL_count 1 = .ok (.iconst 0, 1) := dTL_count_0_ok 1 (1, .iconst 0, 1) rfl
theorem dL_count_2 : decode cL_count 2 = .ok (.aload_n 0, 1) := dTL_count_0_ok 2 (2, .aload_n 0, 1) rfl
theorem dL_count_3 : decode cL_count 3 = .ok (.iload_n 1, 1) := dTL_count_0_ok 3 (3, .iload_n 1, 1) rfl
theorem dL_count_4 : decode cL_count 4 = .ok (.invokevirtual 57, 3) := dTL_count_0_ok 4 (4, .invokevirtual 57, 3) rfl
theorem dL_count_7 : decode cL_count 7 = .ok (.i2l, 1) := dTL_count_0_ok 5 (7, .i2l, 1) rfl
theorem dL_count_8 : decode cL_count 8 = .ok (.lastore, 1) := dTL_count_0_ok 6 (8, .lastore, 1) rfl
theorem dL_count_9 : decode cL_count 9 = .ok (.goto 6, 3) := dTL_count_0_ok 7 (9, .goto 6, 3) rfl
theorem dL_count_12 : decode cL_count 12 = .ok (.astore_n 3, 1) := dTL_count_0_ok 8 (12, .astore_n 3, 1) rfl
theorem dL_count_13 : decode cL_count 13 = .ok (.iconst 1, 1) := dTL_count_0_ok 9 (13, .iconst 1, 1) rfl
theorem dL_count_14 : decode cL_count 14 = .ok (.ireturn, 1) := dTL_count_0_ok 10 (14, .ireturn, 1) rfl
theorem dL_count_15 : decode cL_count 15 = .ok (.iconst 0, 1) := dTL_count_0_ok 11 (15, .iconst 0, 1) rfl
theorem dL_count_16 : decode cL_count 16 = .ok (.ireturn, 1) := dTL_count_0_ok 12 (16, .ireturn, 1) rfl
noncomputable def dTL_shines_0 : List (Nat × Instr × Nat) := [(0, .aload_n 3, 1), (1, .iconst 0, 1), (2, .aload_n 0, 1), (3, .iload_n 1, 1), (4, .iload_n 2, 1), (5, .invokevirtual 60, 3), (8, .i2l, 1), (9, .lastore, 1), (10, .goto 7, 3), (13, .astore 4, 2), (15, .iconst 1, 1), (16, .ireturn, 1), (17, .iconst 0, 1), (18, .ireturn, 1)]
theorem dTL_shines_0_ok : ∀ (k : Nat) (q : Nat × Instr × Nat), dTL_shines_0[k]? = some q → decode cL_shines q.1 = .ok q.2 := dT_of (by decide +kernel)
theorem dL_shines_0 : decode cL_shines 0 = .ok (.aload_n 3, 1) := dTL_shines_0_ok 0 (0, .aload_n 3, 1) rfl
theorem dL_shines_1 : decode cL_shines 1 = .ok (.iconst 0, 1) := dTL_shines_0_ok 1 (1, .iconst 0, 1) rfl
theorem dL_shines_2 : decode cL_shines 2 = .ok (.aload_n 0, 1) := dTL_shines_0_ok 2 (2, .aload_n 0, 1) rfl
theorem dL_shines_3 : decode cL_shines 3 = .ok (.iload_n 1, 1) := dTL_shines_0_ok 3 (3, .iload_n 1, 1) rfl
theorem dL_shines_4 : decode cL_shines 4 = .ok (.iload_n 2, 1) := dTL_shines_0_ok 4 (4, .iload_n 2, 1) rfl
theorem dL_shines_5 : decode cL_shines 5 = .ok (.invokevirtual 60, 3) := dTL_shines_0_ok 5 (5, .invokevirtual 60, 3) rfl
theorem dL_shines_8 : decode cL_shines 8 = .ok (.i2l, 1) := dTL_shines_0_ok 6 (8, .i2l, 1) rfl
theorem dL_shines_9 : decode cL_shines 9 = .ok (.lastore, 1) := dTL_shines_0_ok 7 (9, .lastore, 1) rfl
theorem dL_shines_10 : decode cL_shines 10 = .ok (.goto 7, 3) := dTL_shines_0_ok 8 (10, .goto 7, 3) rfl
theorem dL_shines_13 : decode cL_shines 13 = .ok (.astore 4, 2) := dTL_shines_0_ok 9 (13, .astore 4, 2) rfl
theorem dL_shines_15 : decode cL_shines 15 = .ok (.iconst 1, 1) := dTL_shines_0_ok 10 (15, .iconst 1, 1) rfl
theorem dL_shines_16 : decode cL_shines 16 = .ok (.ireturn, 1) := dTL_shines_0_ok 11 (16, .ireturn, 1) rfl
theorem dL_shines_17 : decode cL_shines 17 = .ok (.iconst 0, 1) := dTL_shines_0_ok 12 (17, .iconst 0, 1) rfl
theorem dL_shines_18 : decode cL_shines 18 = .ok (.ireturn, 1) := dTL_shines_0_ok 13 (18, .ireturn, 1) rfl
noncomputable def dTL_way_0 : List (Nat × Instr × Nat) := [(0, .aload 4, 2), (2, .iconst 0, 1), (3, .aload_n 0, 1), (4, .iload_n 1, 1), (5, .iload_n 2, 1), (6, .iload_n 3, 1), (7, .invokevirtual 63, 3), (10, .i2l, 1), (11, .lastore, 1), (12, .goto 7, 3), (15, .astore 5, 2), (17, .iconst 1, 1), (18, .ireturn, 1), (19, .iconst 0, 1), (20, .ireturn, 1)]
theorem dTL_way_0_ok : ∀ (k : Nat) (q : Nat × Instr × Nat), dTL_way_0[k]? = some q → decode cL_way q.1 = .ok q.2 := dT_of (by decide +kernel)
theorem dL_way_0 : decode cL_way 0 = .ok (.aload 4, 2) := dTL_way_0_ok 0 (0, .aload 4, 2) rfl
theorem dL_way_2 : decode cL_way 2 = .ok (.iconst 0, 1) := dTL_way_0_ok 1 (2, .iconst 0, 1) rfl
theorem dL_way_3 : decode cL_way 3 = .ok (.aload_n 0, 1) := dTL_way_0_ok 2 (3, .aload_n 0, 1) rfl
theorem dL_way_4 : decode cL_way 4 = .ok (.iload_n 1, 1) := dTL_way_0_ok 3 (4, .iload_n 1, 1) rfl
theorem dL_way_5 : decode cL_way 5 = .ok (.iload_n 2, 1) := dTL_way_0_ok 4 (5, .iload_n 2, 1) rfl
theorem dL_way_6 : decode cL_way 6 = .ok (.iload_n 3, 1) := dTL_way_0_ok 5 (6, .iload_n 3, 1) rfl
theorem dL_way_7 : decode cL_way 7 = .ok (.invokevirtual 63, 3) := dTL_way_0_ok 6 (7, .invokevirtual 63, 3) rfl
theorem dL_way_10 : decode cL_way 10 = .ok (.i2l, 1) := dTL_way_0_ok 7 (10, .i2l, 1) rfl
theorem dL_way_11 : decode cL_way 11 = .ok (.lastore, 1) := dTL_way_0_ok 8 (11, .lastore, 1) rfl
theorem dL_way_12 : decode cL_way 12 = .ok (.goto 7, 3) := dTL_way_0_ok 9 (12, .goto 7, 3) rfl
theorem dL_way_15 : decode cL_way 15 = .ok (.astore 5, 2) := dTL_way_0_ok 10 (15, .astore 5, 2) rfl
theorem dL_way_17 : decode cL_way 17 = .ok (.iconst 1, 1) := dTL_way_0_ok 11 (17, .iconst 1, 1) rfl
theorem dL_way_18 : decode cL_way 18 = .ok (.ireturn, 1) := dTL_way_0_ok 12 (18, .ireturn, 1) rfl
theorem dL_way_19 : decode cL_way 19 = .ok (.iconst 0, 1) := dTL_way_0_ok 13 (19, .iconst 0, 1) rfl
theorem dL_way_20 : decode cL_way 20 = .ok (.ireturn, 1) := dTL_way_0_ok 14 (20, .ireturn, 1) rfl
noncomputable def dTL_next_0 : List (Nat × Instr × Nat) := [(0, .aload_n 2, 1), (1, .iconst 0, 1), (2, .aload_n 0, 1), (3, .iload_n 1, 1), (4, .invokevirtual 66, 3), (7, .i2l, 1), (8, .lastore, 1), (9, .goto 6, 3), (12, .astore_n 3, 1), (13, .iconst 1, 1), (14, .ireturn, 1), (15, .iconst 0, 1), (16, .ireturn, 1)]
theorem dTL_next_0_ok : ∀ (k : Nat) (q : Nat × Instr × Nat), dTL_next_0[k]? = some q → decode cL_next q.1 = .ok q.2 := dT_of (by decide +kernel)
theorem dL_next_0 : decode cL_next 0 = .ok (.aload_n 2, 1) := dTL_next_0_ok 0 (0, .aload_n 2, 1) rfl
theorem dL_next_1 : decode cL_next 1 = .ok (.iconst 0, 1) := dTL_next_0_ok 1 (1, .iconst 0, 1) rfl
theorem dL_next_2 : decode cL_next 2 = .ok (.aload_n 0, 1) := dTL_next_0_ok 2 (2, .aload_n 0, 1) rfl
theorem dL_next_3 : decode cL_next 3 = .ok (.iload_n 1, 1) := dTL_next_0_ok 3 (3, .iload_n 1, 1) rfl
theorem dL_next_4 : decode cL_next 4 = .ok (.invokevirtual 66, 3) := dTL_next_0_ok 4 (4, .invokevirtual 66, 3) rfl
theorem dL_next_7 : decode cL_next 7 = .ok (.i2l, 1) := dTL_next_0_ok 5 (7, .i2l, 1) rfl
theorem dL_next_8 : decode cL_next 8 = .ok (.lastore, 1) := dTL_next_0_ok 6 (8, .lastore, 1) rfl
theorem dL_next_9 : decode cL_next 9 = .ok (.goto 6, 3) := dTL_next_0_ok 7 (9, .goto 6, 3) rfl
theorem dL_next_12 : decode cL_next 12 = .ok (.astore_n 3, 1) := dTL_next_0_ok 8 (12, .astore_n 3, 1) rfl
theorem dL_next_13 : decode cL_next 13 = .ok (.iconst 1, 1) := dTL_next_0_ok 9 (13, .iconst 1, 1) rfl
theorem dL_next_14 : decode cL_next 14 = .ok (.ireturn, 1) := dTL_next_0_ok 10 (14, .ireturn, 1) rfl
theorem dL_next_15 : decode cL_next 15 = .ok (.iconst 0, 1) := dTL_next_0_ok 11 (15, .iconst 0, 1) rfl
theorem dL_next_16 : decode cL_next 16 = .ok (.ireturn, 1) := dTL_next_0_ok 12 (16, .ireturn, 1) rfl
noncomputable def dTL_pass_0 : List (Nat × Instr × Nat) := [(0, .aload_n 2, 1), (1, .iconst 0, 1), (2, .aload_n 0, 1), (3, .iload_n 1, 1), (4, .invokevirtual 69, 3), (7, .i2l, 1), (8, .lastore, 1), (9, .goto 6, 3), (12, .astore_n 3, 1), (13, .iconst 1, 1), (14, .ireturn, 1), (15, .iconst 0, 1), (16, .ireturn, 1)]
theorem dTL_pass_0_ok : ∀ (k : Nat) (q : Nat × Instr × Nat), dTL_pass_0[k]? = some q → decode cL_pass q.1 = .ok q.2 := dT_of (by decide +kernel)
theorem dL_pass_0 : decode cL_pass 0 = .ok (.aload_n 2, 1) := dTL_pass_0_ok 0 (0, .aload_n 2, 1) rfl
theorem dL_pass_1 : decode cL_pass 1 = .ok (.iconst 0, 1) := dTL_pass_0_ok 1 (1, .iconst 0, 1) rfl
theorem dL_pass_2 : decode cL_pass 2 = .ok (.aload_n 0, 1) := dTL_pass_0_ok 2 (2, .aload_n 0, 1) rfl
theorem dL_pass_3 : decode cL_pass 3 = .ok (.iload_n 1, 1) := dTL_pass_0_ok 3 (3, .iload_n 1, 1) rfl
theorem dL_pass_4 : decode cL_pass 4 = .ok (.invokevirtual 69, 3) := dTL_pass_0_ok 4 (4, .invokevirtual 69, 3) rfl
theorem dL_pass_7 : decode cL_pass 7 = .ok (.i2l, 1) := dTL_pass_0_ok 5 (7, .i2l, 1) rfl
theorem dL_pass_8 : decode cL_pass 8 = .ok (.lastore, 1) := dTL_pass_0_ok 6 (8, .lastore, 1) rfl
theorem dL_pass_9 : decode cL_pass 9 = .ok (.goto 6, 3) := dTL_pass_0_ok 7 (9, .goto 6, 3) rfl
theorem dL_pass_12 : decode cL_pass 12 = .ok (.astore_n 3, 1) := dTL_pass_0_ok 8 (12, .astore_n 3, 1) rfl
theorem dL_pass_13 : decode cL_pass 13 = .ok (.iconst 1, 1) := dTL_pass_0_ok 9 (13, .iconst 1, 1) rfl
theorem dL_pass_14 : decode cL_pass 14 = .ok (.ireturn, 1) := dTL_pass_0_ok 10 (14, .ireturn, 1) rfl
theorem dL_pass_15 : decode cL_pass 15 = .ok (.iconst 0, 1) := dTL_pass_0_ok 11 (15, .iconst 0, 1) rfl
theorem dL_pass_16 : decode cL_pass 16 = .ok (.ireturn, 1) := dTL_pass_0_ok 12 (16, .ireturn, 1) rfl
noncomputable def dTL_foresee_0 : List (Nat × Instr × Nat) := [(0, .aload_n 3, 1), (1, .iconst 0, 1), (2, .aload_n 0, 1), (3, .iload_n 1, 1), (4, .iload_n 2, 1), (5, .invokevirtual 72, 3), (8, .i2l, 1), (9, .lastore, 1), (10, .goto 11, 3), (13, .astore 4, 2), (15, .iconst 1, 1), (16, .ireturn, 1), (17, .astore 4, 2), (19, .iconst 2, 1), (20, .ireturn, 1), (21, .iconst 0, 1), (22, .ireturn, 1)]
theorem dTL_foresee_0_ok : ∀ (k : Nat) (q : Nat × Instr × Nat), dTL_foresee_0[k]? = some q → decode cL_foresee q.1 = .ok q.2 := dT_of (by decide +kernel)
theorem dL_foresee_0 : decode cL_foresee 0 = .ok (.aload_n 3, 1) := dTL_foresee_0_ok 0 (0, .aload_n 3, 1) rfl
theorem dL_foresee_1 : decode cL_foresee 1 = .ok (.iconst 0, 1) := dTL_foresee_0_ok 1 (1, .iconst 0, 1) rfl
theorem dL_foresee_2 : decode cL_foresee 2 = .ok (.aload_n 0, 1) := dTL_foresee_0_ok 2 (2, .aload_n 0, 1) rfl
theorem dL_foresee_3 : decode cL_foresee 3 = .ok (.iload_n 1, 1) := dTL_foresee_0_ok 3 (3, .iload_n 1, 1) rfl
theorem dL_foresee_4 : decode cL_foresee 4 = .ok (.iload_n 2, 1) := dTL_foresee_0_ok 4 (4, .iload_n 2, 1) rfl
theorem dL_foresee_5 : decode cL_foresee 5 = .ok (.invokevirtual 72, 3) := dTL_foresee_0_ok 5 (5, .invokevirtual 72, 3) rfl
theorem dL_foresee_8 : decode cL_foresee 8 = .ok (.i2l, 1) := dTL_foresee_0_ok 6 (8, .i2l, 1) rfl
theorem dL_foresee_9 : decode cL_foresee 9 = .ok (.lastore, 1) := dTL_foresee_0_ok 7 (9, .lastore, 1) rfl
theorem dL_foresee_10 : decode cL_foresee 10 = .ok (.goto 11, 3) := dTL_foresee_0_ok 8 (10, .goto 11, 3) rfl
theorem dL_foresee_13 : decode cL_foresee 13 = .ok (.astore 4, 2) := dTL_foresee_0_ok 9 (13, .astore 4, 2) rfl
theorem dL_foresee_15 : decode cL_foresee 15 = .ok (.iconst 1, 1) := dTL_foresee_0_ok 10 (15, .iconst 1, 1) rfl
theorem dL_foresee_16 : decode cL_foresee 16 = .ok (.ireturn, 1) := dTL_foresee_0_ok 11 (16, .ireturn, 1) rfl
theorem dL_foresee_17 : decode cL_foresee 17 = .ok (.astore 4, 2) := dTL_foresee_0_ok 12 (17, .astore 4, 2) rfl
theorem dL_foresee_19 : decode cL_foresee 19 = .ok (.iconst 2, 1) := dTL_foresee_0_ok 13 (19, .iconst 2, 1) rfl
theorem dL_foresee_20 : decode cL_foresee 20 = .ok (.ireturn, 1) := dTL_foresee_0_ok 14 (20, .ireturn, 1) rfl
theorem dL_foresee_21 : decode cL_foresee 21 = .ok (.iconst 0, 1) := dTL_foresee_0_ok 15 (21, .iconst 0, 1) rfl
theorem dL_foresee_22 : decode cL_foresee 22 = .ok (.ireturn, 1) := dTL_foresee_0_ok 16 (22, .ireturn, 1) rfl
noncomputable def dTL_reaches_0 : List (Nat × Instr × Nat) := [(0, .aload 4, 2), (2, .iconst 0, 1), (3, .aload_n 0, 1), (4, .iload_n 1, 1), (5, .iload_n 2, 1), (6, .iload_n 3, 1), (7, .invokevirtual 75, 3), (10, .i2l, 1), (11, .lastore, 1), (12, .goto 11, 3), (15, .astore 5, 2), (17, .iconst 1, 1), (18, .ireturn, 1), (19, .astore 5, 2), (21, .iconst 2, 1), (22, .ireturn, 1), (23, .iconst 0, 1), (24, .ireturn, 1)]
theorem dTL_reaches_0_ok : ∀ (k : Nat) (q : Nat × Instr × Nat), dTL_reaches_0[k]? = some q → decode cL_reaches q.1 = .ok q.2 := dT_of (by decide +kernel)
theorem dL_reaches_0 : decode cL_reaches 0 = .ok (.aload 4, 2) := dTL_reaches_0_ok 0 (0, .aload 4, 2) rfl
theorem dL_reaches_2 : decode cL_reaches 2 = .ok (.iconst 0, 1) := dTL_reaches_0_ok 1 (2, .iconst 0, 1) rfl
theorem dL_reaches_3 : decode cL_reaches 3 = .ok (.aload_n 0, 1) := dTL_reaches_0_ok 2 (3, .aload_n 0, 1) rfl
theorem dL_reaches_4 : decode cL_reaches 4 = .ok (.iload_n 1, 1) := dTL_reaches_0_ok 3 (4, .iload_n 1, 1) rfl
theorem dL_reaches_5 : decode cL_reaches 5 = .ok (.iload_n 2, 1) := dTL_reaches_0_ok 4 (5, .iload_n 2, 1) rfl
theorem dL_reaches_6 : decode cL_reaches 6 = .ok (.iload_n 3, 1) := dTL_reaches_0_ok 5 (6, .iload_n 3, 1) rfl
theorem dL_reaches_7 : decode cL_reaches 7 = .ok (.invokevirtual 75, 3) := dTL_reaches_0_ok 6 (7, .invokevirtual 75, 3) rfl
theorem dL_reaches_10 : decode cL_reaches 10 = .ok (.i2l, 1) := dTL_reaches_0_ok 7 (10, .i2l, 1) rfl
theorem dL_reaches_11 : decode cL_reaches 11 = .ok (.lastore, 1) := dTL_reaches_0_ok 8 (11, .lastore, 1) rfl
theorem dL_reaches_12 : decode cL_reaches 12 = .ok (.goto 11, 3) := dTL_reaches_0_ok 9 (12, .goto 11, 3) rfl
theorem dL_reaches_15 : decode cL_reaches 15 = .ok (.astore 5, 2) := dTL_reaches_0_ok 10 (15, .astore 5, 2) rfl
theorem dL_reaches_17 : decode cL_reaches 17 = .ok (.iconst 1, 1) := dTL_reaches_0_ok 11 (17, .iconst 1, 1) rfl
theorem dL_reaches_18 : decode cL_reaches 18 = .ok (.ireturn, 1) := dTL_reaches_0_ok 12 (18, .ireturn, 1) rfl
theorem dL_reaches_19 : decode cL_reaches 19 = .ok (.astore 5, 2) := dTL_reaches_0_ok 13 (19, .astore 5, 2) rfl
theorem dL_reaches_21 : decode cL_reaches 21 = .ok (.iconst 2, 1) := dTL_reaches_0_ok 14 (21, .iconst 2, 1) rfl
theorem dL_reaches_22 : decode cL_reaches 22 = .ok (.ireturn, 1) := dTL_reaches_0_ok 15 (22, .ireturn, 1) rfl
theorem dL_reaches_23 : decode cL_reaches 23 = .ok (.iconst 0, 1) := dTL_reaches_0_ok 16 (23, .iconst 0, 1) rfl
theorem dL_reaches_24 : decode cL_reaches 24 = .ok (.ireturn, 1) := dTL_reaches_0_ok 17 (24, .ireturn, 1) rfl
noncomputable def dTL_advise_0 : List (Nat × Instr × Nat) := [(0, .aload_n 2, 1), (1, .iconst 0, 1), (2, .aload_n 0, 1), (3, .iload_n 1, 1), (4, .invokevirtual 78, 3), (7, .i2l, 1), (8, .lastore, 1), (9, .goto 6, 3), (12, .astore_n 3, 1), (13, .iconst 1, 1), (14, .ireturn, 1), (15, .iconst 0, 1), (16, .ireturn, 1)]
theorem dTL_advise_0_ok : ∀ (k : Nat) (q : Nat × Instr × Nat), dTL_advise_0[k]? = some q → decode cL_advise q.1 = .ok q.2 := dT_of (by decide +kernel)
theorem dL_advise_0 : decode cL_advise 0 = .ok (.aload_n 2, 1) := dTL_advise_0_ok 0 (0, .aload_n 2, 1) rfl
theorem dL_advise_1 : decode cL_advise 1 = .ok (.iconst 0, 1) := dTL_advise_0_ok 1 (1, .iconst 0, 1) rfl
theorem dL_advise_2 : decode cL_advise 2 = .ok (.aload_n 0, 1) := dTL_advise_0_ok 2 (2, .aload_n 0, 1) rfl
theorem dL_advise_3 : decode cL_advise 3 = .ok (.iload_n 1, 1) := dTL_advise_0_ok 3 (3, .iload_n 1, 1) rfl
theorem dL_advise_4 : decode cL_advise 4 = .ok (.invokevirtual 78, 3) := dTL_advise_0_ok 4 (4, .invokevirtual 78, 3) rfl
theorem dL_advise_7 : decode cL_advise 7 = .ok (.i2l, 1) := dTL_advise_0_ok 5 (7, .i2l, 1) rfl
theorem dL_advise_8 : decode cL_advise 8 = .ok (.lastore, 1) := dTL_advise_0_ok 6 (8, .lastore, 1) rfl
theorem dL_advise_9 : decode cL_advise 9 = .ok (.goto 6, 3) := dTL_advise_0_ok 7 (9, .goto 6, 3) rfl
theorem dL_advise_12 : decode cL_advise 12 = .ok (.astore_n 3, 1) := dTL_advise_0_ok 8 (12, .astore_n 3, 1) rfl
theorem dL_advise_13 : decode cL_advise 13 = .ok (.iconst 1, 1) := dTL_advise_0_ok 9 (13, .iconst 1, 1) rfl
theorem dL_advise_14 : decode cL_advise 14 = .ok (.ireturn, 1) := dTL_advise_0_ok 10 (14, .ireturn, 1) rfl
theorem dL_advise_15 : decode cL_advise 15 = .ok (.iconst 0, 1) := dTL_advise_0_ok 11 (15, .iconst 0, 1) rfl
theorem dL_advise_16 : decode cL_advise 16 = .ok (.ireturn, 1) := dTL_advise_0_ok 12 (16, .ireturn, 1) rfl
noncomputable def dTL_law_0 : List (Nat × Instr × Nat) := [(0, .new 8, 3), (3, .dup, 1), (4, .invokespecial 81, 3), (7, .astore_n 1, 1), (8, .new 82, 3), (11, .dup, 1), (12, .invokespecial 84, 3), (15, .astore_n 2, 1), (16, .iconst 1, 1), (17, .newarray .long, 2), (19, .astore_n 3, 1), (20, .iconst 0, 1), (21, .istore 4, 2), (23, .iload 4, 2), (25, .aload_n 0, 1), (26, .arraylength, 1), (27, .iconst 4, 1), (28, .isub, 1), (29, .if_icmp .gt 1617, 3), (32, .aload_n 0, 1), (33, .iload 4, 2), (35, .iaload, 1), (36, .bipush 31, 2), (38, .iand, 1), (39, .tableswitch 1601 0 21 #[101, 188, 268, 364, 432, 500, 575, 655, 735, 791, 871, 958, 1026, 1082, 1150, 1230, 1286, 1342, 1410, 1490, 1546, 1587], 101), (140, .aload_n 1, 1), (141, .aload_n 0, 1), (142, .iload 4, 2), (144, .iconst 1, 1), (145, .iadd, 1), (146, .iaload, 1), (147, .aload_n 0, 1), (148, .iload 4, 2), (150, .iconst 2, 1), (151, .iadd, 1), (152, .iaload, 1), (153, .aload_n 0, 1), (154, .iload 4, 2), (156, .iconst 3, 1), (157, .iadd, 1), (158, .iaload, 1), (159, .aload_n 3, 1), (160, .invokestatic 85, 3), (163, .istore 5, 2), (165, .aload_n 2, 1), (166, .aload_n 0, 1), (167, .iload 4, 2), (169, .iconst 1, 1), (170, .iadd, 1), (171, .iaload, 1), (172, .aload_n 0, 1), (173, .iload 4, 2), (175, .iconst 2, 1), (176, .iadd, 1), (177, .iaload, 1), (178, .aload_n 0, 1), (179, .iload 4, 2), (181, .iconst 3, 1), (182, .iadd, 1), (183, .iaload, 1)]
theorem dTL_law_0_ok : ∀ (k : Nat) (q : Nat × Instr × Nat), dTL_law_0[k]? = some q → decode cL_law q.1 = .ok q.2 := dT_of (by decide +kernel)
theorem dL_law_0 : decode cL_law 0 = .ok (.new 8, 3) := dTL_law_0_ok 0 (0, .new 8, 3) rfl
theorem dL_law_3 : decode cL_law 3 = .ok (.dup, 1) := dTL_law_0_ok 1 (3, .dup, 1) rfl
theorem dL_law_4 : decode cL_law 4 = .ok (.invokespecial 81, 3) := dTL_law_0_ok 2 (4, .invokespecial 81, 3) rfl
theorem dL_law_7 : decode cL_law 7 = .ok (.astore_n 1, 1) := dTL_law_0_ok 3 (7, .astore_n 1, 1) rfl
theorem dL_law_8 : decode cL_law 8 = .ok (.new 82, 3) := dTL_law_0_ok 4 (8, .new 82, 3) rfl
theorem dL_law_11 : decode cL_law 11 = .ok (.dup, 1) := dTL_law_0_ok 5 (11, .dup, 1) rfl
theorem dL_law_12 : decode cL_law 12 = .ok (.invokespecial 84, 3) := dTL_law_0_ok 6 (12, .invokespecial 84, 3) rfl
theorem dL_law_15 : decode cL_law 15 = .ok (.astore_n 2, 1) := dTL_law_0_ok 7 (15, .astore_n 2, 1) rfl
theorem dL_law_16 : decode cL_law 16 = .ok (.iconst 1, 1) := dTL_law_0_ok 8 (16, .iconst 1, 1) rfl
theorem dL_law_17 : decode cL_law 17 = .ok (.newarray .long, 2) := dTL_law_0_ok 9 (17, .newarray .long, 2) rfl
theorem dL_law_19 : decode cL_law 19 = .ok (.astore_n 3, 1) := dTL_law_0_ok 10 (19, .astore_n 3, 1) rfl
theorem dL_law_20 : decode cL_law 20 = .ok (.iconst 0, 1) := dTL_law_0_ok 11 (20, .iconst 0, 1) rfl
theorem dL_law_21 : decode cL_law 21 = .ok (.istore 4, 2) := dTL_law_0_ok 12 (21, .istore 4, 2) rfl
theorem dL_law_23 : decode cL_law 23 = .ok (.iload 4, 2) := dTL_law_0_ok 13 (23, .iload 4, 2) rfl
theorem dL_law_25 : decode cL_law 25 = .ok (.aload_n 0, 1) := dTL_law_0_ok 14 (25, .aload_n 0, 1) rfl
theorem dL_law_26 : decode cL_law 26 = .ok (.arraylength, 1) := dTL_law_0_ok 15 (26, .arraylength, 1) rfl
theorem dL_law_27 : decode cL_law 27 = .ok (.iconst 4, 1) := dTL_law_0_ok 16 (27, .iconst 4, 1) rfl
theorem dL_law_28 : decode cL_law 28 = .ok (.isub, 1) := dTL_law_0_ok 17 (28, .isub, 1) rfl
theorem dL_law_29 : decode cL_law 29 = .ok (.if_icmp .gt 1617, 3) := dTL_law_0_ok 18 (29, .if_icmp .gt 1617, 3) rfl
theorem dL_law_32 : decode cL_law 32 = .ok (.aload_n 0, 1) := dTL_law_0_ok 19 (32, .aload_n 0, 1) rfl
theorem dL_law_33 : decode cL_law 33 = .ok (.iload 4, 2) := dTL_law_0_ok 20 (33, .iload 4, 2) rfl
theorem dL_law_35 : decode cL_law 35 = .ok (.iaload, 1) := dTL_law_0_ok 21 (35, .iaload, 1) rfl
theorem dL_law_36 : decode cL_law 36 = .ok (.bipush 31, 2) := dTL_law_0_ok 22 (36, .bipush 31, 2) rfl
theorem dL_law_38 : decode cL_law 38 = .ok (.iand, 1) := dTL_law_0_ok 23 (38, .iand, 1) rfl
theorem dL_law_39 : decode cL_law 39 = .ok (.tableswitch 1601 0 21 #[101, 188, 268, 364, 432, 500, 575, 655, 735, 791, 871, 958, 1026, 1082, 1150, 1230, 1286, 1342, 1410, 1490, 1546, 1587], 101) := dTL_law_0_ok 24 (39, .tableswitch 1601 0 21 #[101, 188, 268, 364, 432, 500, 575, 655, 735, 791, 871, 958, 1026, 1082, 1150, 1230, 1286, 1342, 1410, 1490, 1546, 1587], 101) rfl
theorem dL_law_140 : decode cL_law 140 = .ok (.aload_n 1, 1) := dTL_law_0_ok 25 (140, .aload_n 1, 1) rfl
theorem dL_law_141 : decode cL_law 141 = .ok (.aload_n 0, 1) := dTL_law_0_ok 26 (141, .aload_n 0, 1) rfl
theorem dL_law_142 : decode cL_law 142 = .ok (.iload 4, 2) := dTL_law_0_ok 27 (142, .iload 4, 2) rfl
theorem dL_law_144 : decode cL_law 144 = .ok (.iconst 1, 1) := dTL_law_0_ok 28 (144, .iconst 1, 1) rfl
theorem dL_law_145 : decode cL_law 145 = .ok (.iadd, 1) := dTL_law_0_ok 29 (145, .iadd, 1) rfl
theorem dL_law_146 : decode cL_law 146 = .ok (.iaload, 1) := dTL_law_0_ok 30 (146, .iaload, 1) rfl
theorem dL_law_147 : decode cL_law 147 = .ok (.aload_n 0, 1) := dTL_law_0_ok 31 (147, .aload_n 0, 1) rfl
theorem dL_law_148 : decode cL_law 148 = .ok (.iload 4, 2) := dTL_law_0_ok 32 (148, .iload 4, 2) rfl
theorem dL_law_150 : decode cL_law 150 = .ok (.iconst 2, 1) := dTL_law_0_ok 33 (150, .iconst 2, 1) rfl
theorem dL_law_151 : decode cL_law 151 = .ok (.iadd, 1) := dTL_law_0_ok 34 (151, .iadd, 1) rfl
theorem dL_law_152 : decode cL_law 152 = .ok (.iaload, 1) := dTL_law_0_ok 35 (152, .iaload, 1) rfl
theorem dL_law_153 : decode cL_law 153 = .ok (.aload_n 0, 1) := dTL_law_0_ok 36 (153, .aload_n 0, 1) rfl
theorem dL_law_154 : decode cL_law 154 = .ok (.iload 4, 2) := dTL_law_0_ok 37 (154, .iload 4, 2) rfl
theorem dL_law_156 : decode cL_law 156 = .ok (.iconst 3, 1) := dTL_law_0_ok 38 (156, .iconst 3, 1) rfl
theorem dL_law_157 : decode cL_law 157 = .ok (.iadd, 1) := dTL_law_0_ok 39 (157, .iadd, 1) rfl
theorem dL_law_158 : decode cL_law 158 = .ok (.iaload, 1) := dTL_law_0_ok 40 (158, .iaload, 1) rfl
theorem dL_law_159 : decode cL_law 159 = .ok (.aload_n 3, 1) := dTL_law_0_ok 41 (159, .aload_n 3, 1) rfl
theorem dL_law_160 : decode cL_law 160 = .ok (.invokestatic 85, 3) := dTL_law_0_ok 42 (160, .invokestatic 85, 3) rfl
theorem dL_law_163 : decode cL_law 163 = .ok (.istore 5, 2) := dTL_law_0_ok 43 (163, .istore 5, 2) rfl
theorem dL_law_165 : decode cL_law 165 = .ok (.aload_n 2, 1) := dTL_law_0_ok 44 (165, .aload_n 2, 1) rfl
theorem dL_law_166 : decode cL_law 166 = .ok (.aload_n 0, 1) := dTL_law_0_ok 45 (166, .aload_n 0, 1) rfl
theorem dL_law_167 : decode cL_law 167 = .ok (.iload 4, 2) := dTL_law_0_ok 46 (167, .iload 4, 2) rfl
theorem dL_law_169 : decode cL_law 169 = .ok (.iconst 1, 1) := dTL_law_0_ok 47 (169, .iconst 1, 1) rfl
theorem dL_law_170 : decode cL_law 170 = .ok (.iadd, 1) := dTL_law_0_ok 48 (170, .iadd, 1) rfl
theorem dL_law_171 : decode cL_law 171 = .ok (.iaload, 1) := dTL_law_0_ok 49 (171, .iaload, 1) rfl
theorem dL_law_172 : decode cL_law 172 = .ok (.aload_n 0, 1) := dTL_law_0_ok 50 (172, .aload_n 0, 1) rfl
theorem dL_law_173 : decode cL_law 173 = .ok (.iload 4, 2) := dTL_law_0_ok 51 (173, .iload 4, 2) rfl
theorem dL_law_175 : decode cL_law 175 = .ok (.iconst 2, 1) := dTL_law_0_ok 52 (175, .iconst 2, 1) rfl
theorem dL_law_176 : decode cL_law 176 = .ok (.iadd, 1) := dTL_law_0_ok 53 (176, .iadd, 1) rfl
theorem dL_law_177 : decode cL_law 177 = .ok (.iaload, 1) := dTL_law_0_ok 54 (177, .iaload, 1) rfl
theorem dL_law_178 : decode cL_law 178 = .ok (.aload_n 0, 1) := dTL_law_0_ok 55 (178, .aload_n 0, 1) rfl
theorem dL_law_179 : decode cL_law 179 = .ok (.iload 4, 2) := dTL_law_0_ok 56 (179, .iload 4, 2) rfl
theorem dL_law_181 : decode cL_law 181 = .ok (.iconst 3, 1) := dTL_law_0_ok 57 (181, .iconst 3, 1) rfl
theorem dL_law_182 : decode cL_law 182 = .ok (.iadd, 1) := dTL_law_0_ok 58 (182, .iadd, 1) rfl
theorem dL_law_183 : decode cL_law 183 = .ok (.iaload, 1) := dTL_law_0_ok 59 (183, .iaload, 1) rfl
noncomputable def dTL_law_1 : List (Nat × Instr × Nat) := [(184, .invokevirtual 90, 3), (187, .istore 6, 2), (189, .aload_n 2, 1), (190, .invokevirtual 91, 3), (193, .iload 5, 2), (195, .if_icmp .eq 5, 3), (198, .iconst 0, 1), (199, .ireturn, 1), (200, .iload 5, 2), (202, .ifCond .ne 22, 3), (205, .aload_n 3, 1), (206, .iconst 0, 1), (207, .laload, 1), (208, .iload 6, 2), (210, .ifCond .eq 7, 3), (213, .lconst 1, 1), (214, .goto 4, 3), (217, .lconst 0, 1), (218, .lcmp, 1), (219, .ifCond .eq 5, 3), (222, .iconst 0, 1), (223, .ireturn, 1), (224, .goto 1416, 3), (227, .aload_n 1, 1), (228, .aload_n 0, 1), (229, .iload 4, 2), (231, .iconst 1, 1), (232, .iadd, 1), (233, .iaload, 1), (234, .aload_n 0, 1), (235, .iload 4, 2), (237, .iconst 2, 1), (238, .iadd, 1), (239, .iaload, 1), (240, .aload_n 0, 1), (241, .iload 4, 2), (243, .iconst 3, 1), (244, .iadd, 1), (245, .iaload, 1), (246, .aload_n 3, 1), (247, .invokestatic 95, 3), (250, .istore 5, 2), (252, .aload_n 2, 1), (253, .aload_n 0, 1), (254, .iload 4, 2), (256, .iconst 1, 1), (257, .iadd, 1), (258, .iaload, 1), (259, .aload_n 0, 1), (260, .iload 4, 2), (262, .iconst 2, 1), (263, .iadd, 1), (264, .iaload, 1), (265, .aload_n 0, 1), (266, .iload 4, 2), (268, .iconst 3, 1), (269, .iadd, 1), (270, .iaload, 1), (271, .invokevirtual 97, 3), (274, .istore 6, 2)]
theorem dTL_law_1_ok : ∀ (k : Nat) (q : Nat × Instr × Nat), dTL_law_1[k]? = some q → decode cL_law q.1 = .ok q.2 := dT_of (by decide +kernel)
theorem dL_law_184 : decode cL_law 184 = .ok (.invokevirtual 90, 3) := dTL_law_1_ok 0 (184, .invokevirtual 90, 3) rfl
theorem dL_law_187 : decode cL_law 187 = .ok (.istore 6, 2) := dTL_law_1_ok 1 (187, .istore 6, 2) rfl
theorem dL_law_189 : decode cL_law 189 = .ok (.aload_n 2, 1) := dTL_law_1_ok 2 (189, .aload_n 2, 1) rfl
theorem dL_law_190 : decode cL_law 190 = .ok (.invokevirtual 91, 3) := dTL_law_1_ok 3 (190, .invokevirtual 91, 3) rfl
theorem dL_law_193 : decode cL_law 193 = .ok (.iload 5, 2) := dTL_law_1_ok 4 (193, .iload 5, 2) rfl
theorem dL_law_195 : decode cL_law 195 = .ok (.if_icmp .eq 5, 3) := dTL_law_1_ok 5 (195, .if_icmp .eq 5, 3) rfl
theorem dL_law_198 : decode cL_law 198 = .ok (.iconst 0, 1) := dTL_law_1_ok 6 (198, .iconst 0, 1) rfl
theorem dL_law_199 : decode cL_law 199 = .ok (.ireturn, 1) := dTL_law_1_ok 7 (199, .ireturn, 1) rfl
theorem dL_law_200 : decode cL_law 200 = .ok (.iload 5, 2) := dTL_law_1_ok 8 (200, .iload 5, 2) rfl
theorem dL_law_202 : decode cL_law 202 = .ok (.ifCond .ne 22, 3) := dTL_law_1_ok 9 (202, .ifCond .ne 22, 3) rfl
theorem dL_law_205 : decode cL_law 205 = .ok (.aload_n 3, 1) := dTL_law_1_ok 10 (205, .aload_n 3, 1) rfl
theorem dL_law_206 : decode cL_law 206 = .ok (.iconst 0, 1) := dTL_law_1_ok 11 (206, .iconst 0, 1) rfl
theorem dL_law_207 : decode cL_law 207 = .ok (.laload, 1) := dTL_law_1_ok 12 (207, .laload, 1) rfl
theorem dL_law_208 : decode cL_law 208 = .ok (.iload 6, 2) := dTL_law_1_ok 13 (208, .iload 6, 2) rfl
theorem dL_law_210 : decode cL_law 210 = .ok (.ifCond .eq 7, 3) := dTL_law_1_ok 14 (210, .ifCond .eq 7, 3) rfl
theorem dL_law_213 : decode cL_law 213 = .ok (.lconst 1, 1) := dTL_law_1_ok 15 (213, .lconst 1, 1) rfl
theorem dL_law_214 : decode cL_law 214 = .ok (.goto 4, 3) := dTL_law_1_ok 16 (214, .goto 4, 3) rfl
theorem dL_law_217 : decode cL_law 217 = .ok (.lconst 0, 1) := dTL_law_1_ok 17 (217, .lconst 0, 1) rfl
theorem dL_law_218 : decode cL_law 218 = .ok (.lcmp, 1) := dTL_law_1_ok 18 (218, .lcmp, 1) rfl
theorem dL_law_219 : decode cL_law 219 = .ok (.ifCond .eq 5, 3) := dTL_law_1_ok 19 (219, .ifCond .eq 5, 3) rfl
theorem dL_law_222 : decode cL_law 222 = .ok (.iconst 0, 1) := dTL_law_1_ok 20 (222, .iconst 0, 1) rfl
theorem dL_law_223 : decode cL_law 223 = .ok (.ireturn, 1) := dTL_law_1_ok 21 (223, .ireturn, 1) rfl
theorem dL_law_224 : decode cL_law 224 = .ok (.goto 1416, 3) := dTL_law_1_ok 22 (224, .goto 1416, 3) rfl
theorem dL_law_227 : decode cL_law 227 = .ok (.aload_n 1, 1) := dTL_law_1_ok 23 (227, .aload_n 1, 1) rfl
theorem dL_law_228 : decode cL_law 228 = .ok (.aload_n 0, 1) := dTL_law_1_ok 24 (228, .aload_n 0, 1) rfl
theorem dL_law_229 : decode cL_law 229 = .ok (.iload 4, 2) := dTL_law_1_ok 25 (229, .iload 4, 2) rfl
theorem dL_law_231 : decode cL_law 231 = .ok (.iconst 1, 1) := dTL_law_1_ok 26 (231, .iconst 1, 1) rfl
theorem dL_law_232 : decode cL_law 232 = .ok (.iadd, 1) := dTL_law_1_ok 27 (232, .iadd, 1) rfl
theorem dL_law_233 : decode cL_law 233 = .ok (.iaload, 1) := dTL_law_1_ok 28 (233, .iaload, 1) rfl
theorem dL_law_234 : decode cL_law 234 = .ok (.aload_n 0, 1) := dTL_law_1_ok 29 (234, .aload_n 0, 1) rfl
theorem dL_law_235 : decode cL_law 235 = .ok (.iload 4, 2) := dTL_law_1_ok 30 (235, .iload 4, 2) rfl
theorem dL_law_237 : decode cL_law 237 = .ok (.iconst 2, 1) := dTL_law_1_ok 31 (237, .iconst 2, 1) rfl
theorem dL_law_238 : decode cL_law 238 = .ok (.iadd, 1) := dTL_law_1_ok 32 (238, .iadd, 1) rfl
theorem dL_law_239 : decode cL_law 239 = .ok (.iaload, 1) := dTL_law_1_ok 33 (239, .iaload, 1) rfl
theorem dL_law_240 : decode cL_law 240 = .ok (.aload_n 0, 1) := dTL_law_1_ok 34 (240, .aload_n 0, 1) rfl
theorem dL_law_241 : decode cL_law 241 = .ok (.iload 4, 2) := dTL_law_1_ok 35 (241, .iload 4, 2) rfl
theorem dL_law_243 : decode cL_law 243 = .ok (.iconst 3, 1) := dTL_law_1_ok 36 (243, .iconst 3, 1) rfl
theorem dL_law_244 : decode cL_law 244 = .ok (.iadd, 1) := dTL_law_1_ok 37 (244, .iadd, 1) rfl
theorem dL_law_245 : decode cL_law 245 = .ok (.iaload, 1) := dTL_law_1_ok 38 (245, .iaload, 1) rfl
theorem dL_law_246 : decode cL_law 246 = .ok (.aload_n 3, 1) := dTL_law_1_ok 39 (246, .aload_n 3, 1) rfl
theorem dL_law_247 : decode cL_law 247 = .ok (.invokestatic 95, 3) := dTL_law_1_ok 40 (247, .invokestatic 95, 3) rfl
theorem dL_law_250 : decode cL_law 250 = .ok (.istore 5, 2) := dTL_law_1_ok 41 (250, .istore 5, 2) rfl
theorem dL_law_252 : decode cL_law 252 = .ok (.aload_n 2, 1) := dTL_law_1_ok 42 (252, .aload_n 2, 1) rfl
theorem dL_law_253 : decode cL_law 253 = .ok (.aload_n 0, 1) := dTL_law_1_ok 43 (253, .aload_n 0, 1) rfl
theorem dL_law_254 : decode cL_law 254 = .ok (.iload 4, 2) := dTL_law_1_ok 44 (254, .iload 4, 2) rfl
theorem dL_law_256 : decode cL_law 256 = .ok (.iconst 1, 1) := dTL_law_1_ok 45 (256, .iconst 1, 1) rfl
theorem dL_law_257 : decode cL_law 257 = .ok (.iadd, 1) := dTL_law_1_ok 46 (257, .iadd, 1) rfl
theorem dL_law_258 : decode cL_law 258 = .ok (.iaload, 1) := dTL_law_1_ok 47 (258, .iaload, 1) rfl
theorem dL_law_259 : decode cL_law 259 = .ok (.aload_n 0, 1) := dTL_law_1_ok 48 (259, .aload_n 0, 1) rfl
theorem dL_law_260 : decode cL_law 260 = .ok (.iload 4, 2) := dTL_law_1_ok 49 (260, .iload 4, 2) rfl
theorem dL_law_262 : decode cL_law 262 = .ok (.iconst 2, 1) := dTL_law_1_ok 50 (262, .iconst 2, 1) rfl
theorem dL_law_263 : decode cL_law 263 = .ok (.iadd, 1) := dTL_law_1_ok 51 (263, .iadd, 1) rfl
theorem dL_law_264 : decode cL_law 264 = .ok (.iaload, 1) := dTL_law_1_ok 52 (264, .iaload, 1) rfl
theorem dL_law_265 : decode cL_law 265 = .ok (.aload_n 0, 1) := dTL_law_1_ok 53 (265, .aload_n 0, 1) rfl
theorem dL_law_266 : decode cL_law 266 = .ok (.iload 4, 2) := dTL_law_1_ok 54 (266, .iload 4, 2) rfl
theorem dL_law_268 : decode cL_law 268 = .ok (.iconst 3, 1) := dTL_law_1_ok 55 (268, .iconst 3, 1) rfl
theorem dL_law_269 : decode cL_law 269 = .ok (.iadd, 1) := dTL_law_1_ok 56 (269, .iadd, 1) rfl
theorem dL_law_270 : decode cL_law 270 = .ok (.iaload, 1) := dTL_law_1_ok 57 (270, .iaload, 1) rfl
theorem dL_law_271 : decode cL_law 271 = .ok (.invokevirtual 97, 3) := dTL_law_1_ok 58 (271, .invokevirtual 97, 3) rfl
theorem dL_law_274 : decode cL_law 274 = .ok (.istore 6, 2) := dTL_law_1_ok 59 (274, .istore 6, 2) rfl
noncomputable def dTL_law_2 : List (Nat × Instr × Nat) := [(276, .aload_n 2, 1), (277, .invokevirtual 91, 3), (280, .iload 5, 2), (282, .if_icmp .eq 5, 3), (285, .iconst 0, 1), (286, .ireturn, 1), (287, .iload 5, 2), (289, .ifCond .ne 15, 3), (292, .aload_n 3, 1), (293, .iconst 0, 1), (294, .laload, 1), (295, .iload 6, 2), (297, .i2l, 1), (298, .lcmp, 1), (299, .ifCond .eq 5, 3), (302, .iconst 0, 1), (303, .ireturn, 1), (304, .goto 1336, 3), (307, .aload_n 1, 1), (308, .aload_n 0, 1), (309, .iload 4, 2), (311, .iconst 1, 1), (312, .iadd, 1), (313, .iaload, 1), (314, .aload_n 0, 1), (315, .iload 4, 2), (317, .iconst 2, 1), (318, .iadd, 1), (319, .iaload, 1), (320, .aload_n 0, 1), (321, .iload 4, 2), (323, .iconst 3, 1), (324, .iadd, 1), (325, .iaload, 1), (326, .ifCond .eq 7, 3), (329, .iconst 1, 1), (330, .goto 4, 3), (333, .iconst 0, 1), (334, .aload_n 3, 1), (335, .invokestatic 98, 3), (338, .istore 5, 2), (340, .aload_n 2, 1), (341, .aload_n 0, 1), (342, .iload 4, 2), (344, .iconst 1, 1), (345, .iadd, 1), (346, .iaload, 1), (347, .aload_n 0, 1), (348, .iload 4, 2), (350, .iconst 2, 1), (351, .iadd, 1), (352, .iaload, 1), (353, .aload_n 0, 1), (354, .iload 4, 2), (356, .iconst 3, 1), (357, .iadd, 1), (358, .iaload, 1), (359, .ifCond .eq 7, 3), (362, .iconst 1, 1), (363, .goto 4, 3)]
theorem dTL_law_2_ok : ∀ (k : Nat) (q : Nat × Instr × Nat), dTL_law_2[k]? = some q → decode cL_law q.1 = .ok q.2 := dT_of (by decide +kernel)
theorem dL_law_276 : decode cL_law 276 = .ok (.aload_n 2, 1) := dTL_law_2_ok 0 (276, .aload_n 2, 1) rfl
theorem dL_law_277 : decode cL_law 277 = .ok (.invokevirtual 91, 3) := dTL_law_2_ok 1 (277, .invokevirtual 91, 3) rfl
theorem dL_law_280 : decode cL_law 280 = .ok (.iload 5, 2) := dTL_law_2_ok 2 (280, .iload 5, 2) rfl
theorem dL_law_282 : decode cL_law 282 = .ok (.if_icmp .eq 5, 3) := dTL_law_2_ok 3 (282, .if_icmp .eq 5, 3) rfl
theorem dL_law_285 : decode cL_law 285 = .ok (.iconst 0, 1) := dTL_law_2_ok 4 (285, .iconst 0, 1) rfl
theorem dL_law_286 : decode cL_law 286 = .ok (.ireturn, 1) := dTL_law_2_ok 5 (286, .ireturn, 1) rfl
theorem dL_law_287 : decode cL_law 287 = .ok (.iload 5, 2) := dTL_law_2_ok 6 (287, .iload 5, 2) rfl
theorem dL_law_289 : decode cL_law 289 = .ok (.ifCond .ne 15, 3) := dTL_law_2_ok 7 (289, .ifCond .ne 15, 3) rfl
theorem dL_law_292 : decode cL_law 292 = .ok (.aload_n 3, 1) := dTL_law_2_ok 8 (292, .aload_n 3, 1) rfl
theorem dL_law_293 : decode cL_law 293 = .ok (.iconst 0, 1) := dTL_law_2_ok 9 (293, .iconst 0, 1) rfl
theorem dL_law_294 : decode cL_law 294 = .ok (.laload, 1) := dTL_law_2_ok 10 (294, .laload, 1) rfl
theorem dL_law_295 : decode cL_law 295 = .ok (.iload 6, 2) := dTL_law_2_ok 11 (295, .iload 6, 2) rfl
theorem dL_law_297 : decode cL_law 297 = .ok (.i2l, 1) := dTL_law_2_ok 12 (297, .i2l, 1) rfl
theorem dL_law_298 : decode cL_law 298 = .ok (.lcmp, 1) := dTL_law_2_ok 13 (298, .lcmp, 1) rfl
theorem dL_law_299 : decode cL_law 299 = .ok (.ifCond .eq 5, 3) := dTL_law_2_ok 14 (299, .ifCond .eq 5, 3) rfl
theorem dL_law_302 : decode cL_law 302 = .ok (.iconst 0, 1) := dTL_law_2_ok 15 (302, .iconst 0, 1) rfl
theorem dL_law_303 : decode cL_law 303 = .ok (.ireturn, 1) := dTL_law_2_ok 16 (303, .ireturn, 1) rfl
theorem dL_law_304 : decode cL_law 304 = .ok (.goto 1336, 3) := dTL_law_2_ok 17 (304, .goto 1336, 3) rfl
theorem dL_law_307 : decode cL_law 307 = .ok (.aload_n 1, 1) := dTL_law_2_ok 18 (307, .aload_n 1, 1) rfl
theorem dL_law_308 : decode cL_law 308 = .ok (.aload_n 0, 1) := dTL_law_2_ok 19 (308, .aload_n 0, 1) rfl
theorem dL_law_309 : decode cL_law 309 = .ok (.iload 4, 2) := dTL_law_2_ok 20 (309, .iload 4, 2) rfl
theorem dL_law_311 : decode cL_law 311 = .ok (.iconst 1, 1) := dTL_law_2_ok 21 (311, .iconst 1, 1) rfl
theorem dL_law_312 : decode cL_law 312 = .ok (.iadd, 1) := dTL_law_2_ok 22 (312, .iadd, 1) rfl
theorem dL_law_313 : decode cL_law 313 = .ok (.iaload, 1) := dTL_law_2_ok 23 (313, .iaload, 1) rfl
theorem dL_law_314 : decode cL_law 314 = .ok (.aload_n 0, 1) := dTL_law_2_ok 24 (314, .aload_n 0, 1) rfl
theorem dL_law_315 : decode cL_law 315 = .ok (.iload 4, 2) := dTL_law_2_ok 25 (315, .iload 4, 2) rfl
theorem dL_law_317 : decode cL_law 317 = .ok (.iconst 2, 1) := dTL_law_2_ok 26 (317, .iconst 2, 1) rfl
theorem dL_law_318 : decode cL_law 318 = .ok (.iadd, 1) := dTL_law_2_ok 27 (318, .iadd, 1) rfl
theorem dL_law_319 : decode cL_law 319 = .ok (.iaload, 1) := dTL_law_2_ok 28 (319, .iaload, 1) rfl
theorem dL_law_320 : decode cL_law 320 = .ok (.aload_n 0, 1) := dTL_law_2_ok 29 (320, .aload_n 0, 1) rfl
theorem dL_law_321 : decode cL_law 321 = .ok (.iload 4, 2) := dTL_law_2_ok 30 (321, .iload 4, 2) rfl
theorem dL_law_323 : decode cL_law 323 = .ok (.iconst 3, 1) := dTL_law_2_ok 31 (323, .iconst 3, 1) rfl
theorem dL_law_324 : decode cL_law 324 = .ok (.iadd, 1) := dTL_law_2_ok 32 (324, .iadd, 1) rfl
theorem dL_law_325 : decode cL_law 325 = .ok (.iaload, 1) := dTL_law_2_ok 33 (325, .iaload, 1) rfl
theorem dL_law_326 : decode cL_law 326 = .ok (.ifCond .eq 7, 3) := dTL_law_2_ok 34 (326, .ifCond .eq 7, 3) rfl
theorem dL_law_329 : decode cL_law 329 = .ok (.iconst 1, 1) := dTL_law_2_ok 35 (329, .iconst 1, 1) rfl
theorem dL_law_330 : decode cL_law 330 = .ok (.goto 4, 3) := dTL_law_2_ok 36 (330, .goto 4, 3) rfl
theorem dL_law_333 : decode cL_law 333 = .ok (.iconst 0, 1) := dTL_law_2_ok 37 (333, .iconst 0, 1) rfl
theorem dL_law_334 : decode cL_law 334 = .ok (.aload_n 3, 1) := dTL_law_2_ok 38 (334, .aload_n 3, 1) rfl
theorem dL_law_335 : decode cL_law 335 = .ok (.invokestatic 98, 3) := dTL_law_2_ok 39 (335, .invokestatic 98, 3) rfl
theorem dL_law_338 : decode cL_law 338 = .ok (.istore 5, 2) := dTL_law_2_ok 40 (338, .istore 5, 2) rfl
theorem dL_law_340 : decode cL_law 340 = .ok (.aload_n 2, 1) := dTL_law_2_ok 41 (340, .aload_n 2, 1) rfl
theorem dL_law_341 : decode cL_law 341 = .ok (.aload_n 0, 1) := dTL_law_2_ok 42 (341, .aload_n 0, 1) rfl
theorem dL_law_342 : decode cL_law 342 = .ok (.iload 4, 2) := dTL_law_2_ok 43 (342, .iload 4, 2) rfl
theorem dL_law_344 : decode cL_law 344 = .ok (.iconst 1, 1) := dTL_law_2_ok 44 (344, .iconst 1, 1) rfl
theorem dL_law_345 : decode cL_law 345 = .ok (.iadd, 1) := dTL_law_2_ok 45 (345, .iadd, 1) rfl
theorem dL_law_346 : decode cL_law 346 = .ok (.iaload, 1) := dTL_law_2_ok 46 (346, .iaload, 1) rfl
theorem dL_law_347 : decode cL_law 347 = .ok (.aload_n 0, 1) := dTL_law_2_ok 47 (347, .aload_n 0, 1) rfl
theorem dL_law_348 : decode cL_law 348 = .ok (.iload 4, 2) := dTL_law_2_ok 48 (348, .iload 4, 2) rfl
theorem dL_law_350 : decode cL_law 350 = .ok (.iconst 2, 1) := dTL_law_2_ok 49 (350, .iconst 2, 1) rfl
theorem dL_law_351 : decode cL_law 351 = .ok (.iadd, 1) := dTL_law_2_ok 50 (351, .iadd, 1) rfl
theorem dL_law_352 : decode cL_law 352 = .ok (.iaload, 1) := dTL_law_2_ok 51 (352, .iaload, 1) rfl
theorem dL_law_353 : decode cL_law 353 = .ok (.aload_n 0, 1) := dTL_law_2_ok 52 (353, .aload_n 0, 1) rfl
theorem dL_law_354 : decode cL_law 354 = .ok (.iload 4, 2) := dTL_law_2_ok 53 (354, .iload 4, 2) rfl
theorem dL_law_356 : decode cL_law 356 = .ok (.iconst 3, 1) := dTL_law_2_ok 54 (356, .iconst 3, 1) rfl
theorem dL_law_357 : decode cL_law 357 = .ok (.iadd, 1) := dTL_law_2_ok 55 (357, .iadd, 1) rfl
theorem dL_law_358 : decode cL_law 358 = .ok (.iaload, 1) := dTL_law_2_ok 56 (358, .iaload, 1) rfl
theorem dL_law_359 : decode cL_law 359 = .ok (.ifCond .eq 7, 3) := dTL_law_2_ok 57 (359, .ifCond .eq 7, 3) rfl
theorem dL_law_362 : decode cL_law 362 = .ok (.iconst 1, 1) := dTL_law_2_ok 58 (362, .iconst 1, 1) rfl
theorem dL_law_363 : decode cL_law 363 = .ok (.goto 4, 3) := dTL_law_2_ok 59 (363, .goto 4, 3) rfl
noncomputable def dTL_law_3 : List (Nat × Instr × Nat) := [(366, .iconst 0, 1), (367, .invokevirtual 101, 3), (370, .istore 6, 2), (372, .aload_n 2, 1), (373, .invokevirtual 91, 3), (376, .iload 5, 2), (378, .if_icmp .eq 5, 3), (381, .iconst 0, 1), (382, .ireturn, 1), (383, .iload 5, 2), (385, .ifCond .ne 15, 3), (388, .aload_n 3, 1), (389, .iconst 0, 1), (390, .laload, 1), (391, .iload 6, 2), (393, .i2l, 1), (394, .lcmp, 1), (395, .ifCond .eq 5, 3), (398, .iconst 0, 1), (399, .ireturn, 1), (400, .goto 1240, 3), (403, .aload_n 1, 1), (404, .aload_n 0, 1), (405, .iload 4, 2), (407, .iconst 1, 1), (408, .iadd, 1), (409, .iaload, 1), (410, .aload_n 0, 1), (411, .iload 4, 2), (413, .iconst 2, 1), (414, .iadd, 1), (415, .iaload, 1), (416, .aload_n 3, 1), (417, .invokestatic 102, 3), (420, .istore 5, 2), (422, .aload_n 2, 1), (423, .aload_n 0, 1), (424, .iload 4, 2), (426, .iconst 1, 1), (427, .iadd, 1), (428, .iaload, 1), (429, .aload_n 0, 1), (430, .iload 4, 2), (432, .iconst 2, 1), (433, .iadd, 1), (434, .iaload, 1), (435, .invokevirtual 105, 3), (438, .istore 6, 2), (440, .aload_n 2, 1), (441, .invokevirtual 91, 3), (444, .iload 5, 2), (446, .if_icmp .eq 5, 3), (449, .iconst 0, 1), (450, .ireturn, 1), (451, .iload 5, 2), (453, .ifCond .ne 15, 3), (456, .aload_n 3, 1), (457, .iconst 0, 1), (458, .laload, 1), (459, .iload 6, 2)]
theorem dTL_law_3_ok : ∀ (k : Nat) (q : Nat × Instr × Nat), dTL_law_3[k]? = some q → decode cL_law q.1 = .ok q.2 := dT_of (by decide +kernel)
theorem dL_law_366 : decode cL_law 366 = .ok (.iconst 0, 1) := dTL_law_3_ok 0 (366, .iconst 0, 1) rfl
theorem dL_law_367 : decode cL_law 367 = .ok (.invokevirtual 101, 3) := dTL_law_3_ok 1 (367, .invokevirtual 101, 3) rfl
theorem dL_law_370 : decode cL_law 370 = .ok (.istore 6, 2) := dTL_law_3_ok 2 (370, .istore 6, 2) rfl
theorem dL_law_372 : decode cL_law 372 = .ok (.aload_n 2, 1) := dTL_law_3_ok 3 (372, .aload_n 2, 1) rfl
theorem dL_law_373 : decode cL_law 373 = .ok (.invokevirtual 91, 3) := dTL_law_3_ok 4 (373, .invokevirtual 91, 3) rfl
theorem dL_law_376 : decode cL_law 376 = .ok (.iload 5, 2) := dTL_law_3_ok 5 (376, .iload 5, 2) rfl
theorem dL_law_378 : decode cL_law 378 = .ok (.if_icmp .eq 5, 3) := dTL_law_3_ok 6 (378, .if_icmp .eq 5, 3) rfl
theorem dL_law_381 : decode cL_law 381 = .ok (.iconst 0, 1) := dTL_law_3_ok 7 (381, .iconst 0, 1) rfl
theorem dL_law_382 : decode cL_law 382 = .ok (.ireturn, 1) := dTL_law_3_ok 8 (382, .ireturn, 1) rfl
theorem dL_law_383 : decode cL_law 383 = .ok (.iload 5, 2) := dTL_law_3_ok 9 (383, .iload 5, 2) rfl
theorem dL_law_385 : decode cL_law 385 = .ok (.ifCond .ne 15, 3) := dTL_law_3_ok 10 (385, .ifCond .ne 15, 3) rfl
theorem dL_law_388 : decode cL_law 388 = .ok (.aload_n 3, 1) := dTL_law_3_ok 11 (388, .aload_n 3, 1) rfl
theorem dL_law_389 : decode cL_law 389 = .ok (.iconst 0, 1) := dTL_law_3_ok 12 (389, .iconst 0, 1) rfl
theorem dL_law_390 : decode cL_law 390 = .ok (.laload, 1) := dTL_law_3_ok 13 (390, .laload, 1) rfl
theorem dL_law_391 : decode cL_law 391 = .ok (.iload 6, 2) := dTL_law_3_ok 14 (391, .iload 6, 2) rfl
theorem dL_law_393 : decode cL_law 393 = .ok (.i2l, 1) := dTL_law_3_ok 15 (393, .i2l, 1) rfl
theorem dL_law_394 : decode cL_law 394 = .ok (.lcmp, 1) := dTL_law_3_ok 16 (394, .lcmp, 1) rfl
theorem dL_law_395 : decode cL_law 395 = .ok (.ifCond .eq 5, 3) := dTL_law_3_ok 17 (395, .ifCond .eq 5, 3) rfl
theorem dL_law_398 : decode cL_law 398 = .ok (.iconst 0, 1) := dTL_law_3_ok 18 (398, .iconst 0, 1) rfl
theorem dL_law_399 : decode cL_law 399 = .ok (.ireturn, 1) := dTL_law_3_ok 19 (399, .ireturn, 1) rfl
theorem dL_law_400 : decode cL_law 400 = .ok (.goto 1240, 3) := dTL_law_3_ok 20 (400, .goto 1240, 3) rfl
theorem dL_law_403 : decode cL_law 403 = .ok (.aload_n 1, 1) := dTL_law_3_ok 21 (403, .aload_n 1, 1) rfl
theorem dL_law_404 : decode cL_law 404 = .ok (.aload_n 0, 1) := dTL_law_3_ok 22 (404, .aload_n 0, 1) rfl
theorem dL_law_405 : decode cL_law 405 = .ok (.iload 4, 2) := dTL_law_3_ok 23 (405, .iload 4, 2) rfl
theorem dL_law_407 : decode cL_law 407 = .ok (.iconst 1, 1) := dTL_law_3_ok 24 (407, .iconst 1, 1) rfl
theorem dL_law_408 : decode cL_law 408 = .ok (.iadd, 1) := dTL_law_3_ok 25 (408, .iadd, 1) rfl
theorem dL_law_409 : decode cL_law 409 = .ok (.iaload, 1) := dTL_law_3_ok 26 (409, .iaload, 1) rfl
theorem dL_law_410 : decode cL_law 410 = .ok (.aload_n 0, 1) := dTL_law_3_ok 27 (410, .aload_n 0, 1) rfl
theorem dL_law_411 : decode cL_law 411 = .ok (.iload 4, 2) := dTL_law_3_ok 28 (411, .iload 4, 2) rfl
theorem dL_law_413 : decode cL_law 413 = .ok (.iconst 2, 1) := dTL_law_3_ok 29 (413, .iconst 2, 1) rfl
theorem dL_law_414 : decode cL_law 414 = .ok (.iadd, 1) := dTL_law_3_ok 30 (414, .iadd, 1) rfl
theorem dL_law_415 : decode cL_law 415 = .ok (.iaload, 1) := dTL_law_3_ok 31 (415, .iaload, 1) rfl
theorem dL_law_416 : decode cL_law 416 = .ok (.aload_n 3, 1) := dTL_law_3_ok 32 (416, .aload_n 3, 1) rfl
theorem dL_law_417 : decode cL_law 417 = .ok (.invokestatic 102, 3) := dTL_law_3_ok 33 (417, .invokestatic 102, 3) rfl
theorem dL_law_420 : decode cL_law 420 = .ok (.istore 5, 2) := dTL_law_3_ok 34 (420, .istore 5, 2) rfl
theorem dL_law_422 : decode cL_law 422 = .ok (.aload_n 2, 1) := dTL_law_3_ok 35 (422, .aload_n 2, 1) rfl
theorem dL_law_423 : decode cL_law 423 = .ok (.aload_n 0, 1) := dTL_law_3_ok 36 (423, .aload_n 0, 1) rfl
theorem dL_law_424 : decode cL_law 424 = .ok (.iload 4, 2) := dTL_law_3_ok 37 (424, .iload 4, 2) rfl
theorem dL_law_426 : decode cL_law 426 = .ok (.iconst 1, 1) := dTL_law_3_ok 38 (426, .iconst 1, 1) rfl
theorem dL_law_427 : decode cL_law 427 = .ok (.iadd, 1) := dTL_law_3_ok 39 (427, .iadd, 1) rfl
theorem dL_law_428 : decode cL_law 428 = .ok (.iaload, 1) := dTL_law_3_ok 40 (428, .iaload, 1) rfl
theorem dL_law_429 : decode cL_law 429 = .ok (.aload_n 0, 1) := dTL_law_3_ok 41 (429, .aload_n 0, 1) rfl
theorem dL_law_430 : decode cL_law 430 = .ok (.iload 4, 2) := dTL_law_3_ok 42 (430, .iload 4, 2) rfl
theorem dL_law_432 : decode cL_law 432 = .ok (.iconst 2, 1) := dTL_law_3_ok 43 (432, .iconst 2, 1) rfl
theorem dL_law_433 : decode cL_law 433 = .ok (.iadd, 1) := dTL_law_3_ok 44 (433, .iadd, 1) rfl
theorem dL_law_434 : decode cL_law 434 = .ok (.iaload, 1) := dTL_law_3_ok 45 (434, .iaload, 1) rfl
theorem dL_law_435 : decode cL_law 435 = .ok (.invokevirtual 105, 3) := dTL_law_3_ok 46 (435, .invokevirtual 105, 3) rfl
theorem dL_law_438 : decode cL_law 438 = .ok (.istore 6, 2) := dTL_law_3_ok 47 (438, .istore 6, 2) rfl
theorem dL_law_440 : decode cL_law 440 = .ok (.aload_n 2, 1) := dTL_law_3_ok 48 (440, .aload_n 2, 1) rfl
theorem dL_law_441 : decode cL_law 441 = .ok (.invokevirtual 91, 3) := dTL_law_3_ok 49 (441, .invokevirtual 91, 3) rfl
theorem dL_law_444 : decode cL_law 444 = .ok (.iload 5, 2) := dTL_law_3_ok 50 (444, .iload 5, 2) rfl
theorem dL_law_446 : decode cL_law 446 = .ok (.if_icmp .eq 5, 3) := dTL_law_3_ok 51 (446, .if_icmp .eq 5, 3) rfl
theorem dL_law_449 : decode cL_law 449 = .ok (.iconst 0, 1) := dTL_law_3_ok 52 (449, .iconst 0, 1) rfl
theorem dL_law_450 : decode cL_law 450 = .ok (.ireturn, 1) := dTL_law_3_ok 53 (450, .ireturn, 1) rfl
theorem dL_law_451 : decode cL_law 451 = .ok (.iload 5, 2) := dTL_law_3_ok 54 (451, .iload 5, 2) rfl
theorem dL_law_453 : decode cL_law 453 = .ok (.ifCond .ne 15, 3) := dTL_law_3_ok 55 (453, .ifCond .ne 15, 3) rfl
theorem dL_law_456 : decode cL_law 456 = .ok (.aload_n 3, 1) := dTL_law_3_ok 56 (456, .aload_n 3, 1) rfl
theorem dL_law_457 : decode cL_law 457 = .ok (.iconst 0, 1) := dTL_law_3_ok 57 (457, .iconst 0, 1) rfl
theorem dL_law_458 : decode cL_law 458 = .ok (.laload, 1) := dTL_law_3_ok 58 (458, .laload, 1) rfl
theorem dL_law_459 : decode cL_law 459 = .ok (.iload 6, 2) := dTL_law_3_ok 59 (459, .iload 6, 2) rfl
noncomputable def dTL_law_4 : List (Nat × Instr × Nat) := [(461, .i2l, 1), (462, .lcmp, 1), (463, .ifCond .eq 5, 3), (466, .iconst 0, 1), (467, .ireturn, 1), (468, .goto 1172, 3), (471, .aload_n 1, 1), (472, .aload_n 0, 1), (473, .iload 4, 2), (475, .iconst 1, 1), (476, .iadd, 1), (477, .iaload, 1), (478, .aload_n 0, 1), (479, .iload 4, 2), (481, .iconst 2, 1), (482, .iadd, 1), (483, .iaload, 1), (484, .aload_n 3, 1), (485, .invokestatic 106, 3), (488, .istore 5, 2), (490, .aload_n 2, 1), (491, .aload_n 0, 1), (492, .iload 4, 2), (494, .iconst 1, 1), (495, .iadd, 1), (496, .iaload, 1), (497, .aload_n 0, 1), (498, .iload 4, 2), (500, .iconst 2, 1), (501, .iadd, 1), (502, .iaload, 1), (503, .invokevirtual 108, 3), (506, .istore 6, 2), (508, .aload_n 2, 1), (509, .invokevirtual 91, 3), (512, .iload 5, 2), (514, .if_icmp .eq 5, 3), (517, .iconst 0, 1), (518, .ireturn, 1), (519, .iload 5, 2), (521, .ifCond .ne 15, 3), (524, .aload_n 3, 1), (525, .iconst 0, 1), (526, .laload, 1), (527, .iload 6, 2), (529, .i2l, 1), (530, .lcmp, 1), (531, .ifCond .eq 5, 3), (534, .iconst 0, 1), (535, .ireturn, 1), (536, .goto 1104, 3), (539, .aload_n 1, 1), (540, .aload_n 0, 1), (541, .iload 4, 2), (543, .iconst 1, 1), (544, .iadd, 1), (545, .iaload, 1), (546, .aload_n 0, 1), (547, .iload 4, 2), (549, .iconst 2, 1)]
theorem dTL_law_4_ok : ∀ (k : Nat) (q : Nat × Instr × Nat), dTL_law_4[k]? = some q → decode cL_law q.1 = .ok q.2 := dT_of (by decide +kernel)
theorem dL_law_461 : decode cL_law 461 = .ok (.i2l, 1) := dTL_law_4_ok 0 (461, .i2l, 1) rfl
theorem dL_law_462 : decode cL_law 462 = .ok (.lcmp, 1) := dTL_law_4_ok 1 (462, .lcmp, 1) rfl
theorem dL_law_463 : decode cL_law 463 = .ok (.ifCond .eq 5, 3) := dTL_law_4_ok 2 (463, .ifCond .eq 5, 3) rfl
theorem dL_law_466 : decode cL_law 466 = .ok (.iconst 0, 1) := dTL_law_4_ok 3 (466, .iconst 0, 1) rfl
theorem dL_law_467 : decode cL_law 467 = .ok (.ireturn, 1) := dTL_law_4_ok 4 (467, .ireturn, 1) rfl
theorem dL_law_468 : decode cL_law 468 = .ok (.goto 1172, 3) := dTL_law_4_ok 5 (468, .goto 1172, 3) rfl
theorem dL_law_471 : decode cL_law 471 = .ok (.aload_n 1, 1) := dTL_law_4_ok 6 (471, .aload_n 1, 1) rfl
theorem dL_law_472 : decode cL_law 472 = .ok (.aload_n 0, 1) := dTL_law_4_ok 7 (472, .aload_n 0, 1) rfl
theorem dL_law_473 : decode cL_law 473 = .ok (.iload 4, 2) := dTL_law_4_ok 8 (473, .iload 4, 2) rfl
theorem dL_law_475 : decode cL_law 475 = .ok (.iconst 1, 1) := dTL_law_4_ok 9 (475, .iconst 1, 1) rfl
theorem dL_law_476 : decode cL_law 476 = .ok (.iadd, 1) := dTL_law_4_ok 10 (476, .iadd, 1) rfl
theorem dL_law_477 : decode cL_law 477 = .ok (.iaload, 1) := dTL_law_4_ok 11 (477, .iaload, 1) rfl
theorem dL_law_478 : decode cL_law 478 = .ok (.aload_n 0, 1) := dTL_law_4_ok 12 (478, .aload_n 0, 1) rfl
theorem dL_law_479 : decode cL_law 479 = .ok (.iload 4, 2) := dTL_law_4_ok 13 (479, .iload 4, 2) rfl
theorem dL_law_481 : decode cL_law 481 = .ok (.iconst 2, 1) := dTL_law_4_ok 14 (481, .iconst 2, 1) rfl
theorem dL_law_482 : decode cL_law 482 = .ok (.iadd, 1) := dTL_law_4_ok 15 (482, .iadd, 1) rfl
theorem dL_law_483 : decode cL_law 483 = .ok (.iaload, 1) := dTL_law_4_ok 16 (483, .iaload, 1) rfl
theorem dL_law_484 : decode cL_law 484 = .ok (.aload_n 3, 1) := dTL_law_4_ok 17 (484, .aload_n 3, 1) rfl
theorem dL_law_485 : decode cL_law 485 = .ok (.invokestatic 106, 3) := dTL_law_4_ok 18 (485, .invokestatic 106, 3) rfl
theorem dL_law_488 : decode cL_law 488 = .ok (.istore 5, 2) := dTL_law_4_ok 19 (488, .istore 5, 2) rfl
theorem dL_law_490 : decode cL_law 490 = .ok (.aload_n 2, 1) := dTL_law_4_ok 20 (490, .aload_n 2, 1) rfl
theorem dL_law_491 : decode cL_law 491 = .ok (.aload_n 0, 1) := dTL_law_4_ok 21 (491, .aload_n 0, 1) rfl
theorem dL_law_492 : decode cL_law 492 = .ok (.iload 4, 2) := dTL_law_4_ok 22 (492, .iload 4, 2) rfl
theorem dL_law_494 : decode cL_law 494 = .ok (.iconst 1, 1) := dTL_law_4_ok 23 (494, .iconst 1, 1) rfl
theorem dL_law_495 : decode cL_law 495 = .ok (.iadd, 1) := dTL_law_4_ok 24 (495, .iadd, 1) rfl
theorem dL_law_496 : decode cL_law 496 = .ok (.iaload, 1) := dTL_law_4_ok 25 (496, .iaload, 1) rfl
theorem dL_law_497 : decode cL_law 497 = .ok (.aload_n 0, 1) := dTL_law_4_ok 26 (497, .aload_n 0, 1) rfl
theorem dL_law_498 : decode cL_law 498 = .ok (.iload 4, 2) := dTL_law_4_ok 27 (498, .iload 4, 2) rfl
theorem dL_law_500 : decode cL_law 500 = .ok (.iconst 2, 1) := dTL_law_4_ok 28 (500, .iconst 2, 1) rfl
theorem dL_law_501 : decode cL_law 501 = .ok (.iadd, 1) := dTL_law_4_ok 29 (501, .iadd, 1) rfl
theorem dL_law_502 : decode cL_law 502 = .ok (.iaload, 1) := dTL_law_4_ok 30 (502, .iaload, 1) rfl
theorem dL_law_503 : decode cL_law 503 = .ok (.invokevirtual 108, 3) := dTL_law_4_ok 31 (503, .invokevirtual 108, 3) rfl
theorem dL_law_506 : decode cL_law 506 = .ok (.istore 6, 2) := dTL_law_4_ok 32 (506, .istore 6, 2) rfl
theorem dL_law_508 : decode cL_law 508 = .ok (.aload_n 2, 1) := dTL_law_4_ok 33 (508, .aload_n 2, 1) rfl
theorem dL_law_509 : decode cL_law 509 = .ok (.invokevirtual 91, 3) := dTL_law_4_ok 34 (509, .invokevirtual 91, 3) rfl
theorem dL_law_512 : decode cL_law 512 = .ok (.iload 5, 2) := dTL_law_4_ok 35 (512, .iload 5, 2) rfl
theorem dL_law_514 : decode cL_law 514 = .ok (.if_icmp .eq 5, 3) := dTL_law_4_ok 36 (514, .if_icmp .eq 5, 3) rfl
theorem dL_law_517 : decode cL_law 517 = .ok (.iconst 0, 1) := dTL_law_4_ok 37 (517, .iconst 0, 1) rfl
theorem dL_law_518 : decode cL_law 518 = .ok (.ireturn, 1) := dTL_law_4_ok 38 (518, .ireturn, 1) rfl
theorem dL_law_519 : decode cL_law 519 = .ok (.iload 5, 2) := dTL_law_4_ok 39 (519, .iload 5, 2) rfl
theorem dL_law_521 : decode cL_law 521 = .ok (.ifCond .ne 15, 3) := dTL_law_4_ok 40 (521, .ifCond .ne 15, 3) rfl
theorem dL_law_524 : decode cL_law 524 = .ok (.aload_n 3, 1) := dTL_law_4_ok 41 (524, .aload_n 3, 1) rfl
theorem dL_law_525 : decode cL_law 525 = .ok (.iconst 0, 1) := dTL_law_4_ok 42 (525, .iconst 0, 1) rfl
theorem dL_law_526 : decode cL_law 526 = .ok (.laload, 1) := dTL_law_4_ok 43 (526, .laload, 1) rfl
theorem dL_law_527 : decode cL_law 527 = .ok (.iload 6, 2) := dTL_law_4_ok 44 (527, .iload 6, 2) rfl
theorem dL_law_529 : decode cL_law 529 = .ok (.i2l, 1) := dTL_law_4_ok 45 (529, .i2l, 1) rfl
theorem dL_law_530 : decode cL_law 530 = .ok (.lcmp, 1) := dTL_law_4_ok 46 (530, .lcmp, 1) rfl
theorem dL_law_531 : decode cL_law 531 = .ok (.ifCond .eq 5, 3) := dTL_law_4_ok 47 (531, .ifCond .eq 5, 3) rfl
theorem dL_law_534 : decode cL_law 534 = .ok (.iconst 0, 1) := dTL_law_4_ok 48 (534, .iconst 0, 1) rfl
theorem dL_law_535 : decode cL_law 535 = .ok (.ireturn, 1) := dTL_law_4_ok 49 (535, .ireturn, 1) rfl
theorem dL_law_536 : decode cL_law 536 = .ok (.goto 1104, 3) := dTL_law_4_ok 50 (536, .goto 1104, 3) rfl
theorem dL_law_539 : decode cL_law 539 = .ok (.aload_n 1, 1) := dTL_law_4_ok 51 (539, .aload_n 1, 1) rfl
theorem dL_law_540 : decode cL_law 540 = .ok (.aload_n 0, 1) := dTL_law_4_ok 52 (540, .aload_n 0, 1) rfl
theorem dL_law_541 : decode cL_law 541 = .ok (.iload 4, 2) := dTL_law_4_ok 53 (541, .iload 4, 2) rfl
theorem dL_law_543 : decode cL_law 543 = .ok (.iconst 1, 1) := dTL_law_4_ok 54 (543, .iconst 1, 1) rfl
theorem dL_law_544 : decode cL_law 544 = .ok (.iadd, 1) := dTL_law_4_ok 55 (544, .iadd, 1) rfl
theorem dL_law_545 : decode cL_law 545 = .ok (.iaload, 1) := dTL_law_4_ok 56 (545, .iaload, 1) rfl
theorem dL_law_546 : decode cL_law 546 = .ok (.aload_n 0, 1) := dTL_law_4_ok 57 (546, .aload_n 0, 1) rfl
theorem dL_law_547 : decode cL_law 547 = .ok (.iload 4, 2) := dTL_law_4_ok 58 (547, .iload 4, 2) rfl
theorem dL_law_549 : decode cL_law 549 = .ok (.iconst 2, 1) := dTL_law_4_ok 59 (549, .iconst 2, 1) rfl
noncomputable def dTL_law_5 : List (Nat × Instr × Nat) := [(550, .iadd, 1), (551, .iaload, 1), (552, .aload_n 3, 1), (553, .invokestatic 109, 3), (556, .istore 5, 2), (558, .aload_n 2, 1), (559, .aload_n 0, 1), (560, .iload 4, 2), (562, .iconst 1, 1), (563, .iadd, 1), (564, .iaload, 1), (565, .aload_n 0, 1), (566, .iload 4, 2), (568, .iconst 2, 1), (569, .iadd, 1), (570, .iaload, 1), (571, .invokevirtual 111, 3), (574, .istore 6, 2), (576, .aload_n 2, 1), (577, .invokevirtual 91, 3), (580, .iload 5, 2), (582, .if_icmp .eq 5, 3), (585, .iconst 0, 1), (586, .ireturn, 1), (587, .iload 5, 2), (589, .ifCond .ne 22, 3), (592, .aload_n 3, 1), (593, .iconst 0, 1), (594, .laload, 1), (595, .iload 6, 2), (597, .ifCond .eq 7, 3), (600, .lconst 1, 1), (601, .goto 4, 3), (604, .lconst 0, 1), (605, .lcmp, 1), (606, .ifCond .eq 5, 3), (609, .iconst 0, 1), (610, .ireturn, 1), (611, .goto 1029, 3), (614, .aload_n 1, 1), (615, .aload_n 0, 1), (616, .iload 4, 2), (618, .iconst 1, 1), (619, .iadd, 1), (620, .iaload, 1), (621, .aload_n 0, 1), (622, .iload 4, 2), (624, .iconst 2, 1), (625, .iadd, 1), (626, .iaload, 1), (627, .aload_n 0, 1), (628, .iload 4, 2), (630, .iconst 3, 1), (631, .iadd, 1), (632, .iaload, 1), (633, .aload_n 3, 1), (634, .invokestatic 112, 3), (637, .istore 5, 2), (639, .aload_n 2, 1), (640, .aload_n 0, 1)]
theorem dTL_law_5_ok : ∀ (k : Nat) (q : Nat × Instr × Nat), dTL_law_5[k]? = some q → decode cL_law q.1 = .ok q.2 := dT_of (by decide +kernel)
theorem dL_law_550 : decode cL_law 550 = .ok (.iadd, 1) := dTL_law_5_ok 0 (550, .iadd, 1) rfl
theorem dL_law_551 : decode cL_law 551 = .ok (.iaload, 1) := dTL_law_5_ok 1 (551, .iaload, 1) rfl
theorem dL_law_552 : decode cL_law 552 = .ok (.aload_n 3, 1) := dTL_law_5_ok 2 (552, .aload_n 3, 1) rfl
theorem dL_law_553 : decode cL_law 553 = .ok (.invokestatic 109, 3) := dTL_law_5_ok 3 (553, .invokestatic 109, 3) rfl
theorem dL_law_556 : decode cL_law 556 = .ok (.istore 5, 2) := dTL_law_5_ok 4 (556, .istore 5, 2) rfl
theorem dL_law_558 : decode cL_law 558 = .ok (.aload_n 2, 1) := dTL_law_5_ok 5 (558, .aload_n 2, 1) rfl
theorem dL_law_559 : decode cL_law 559 = .ok (.aload_n 0, 1) := dTL_law_5_ok 6 (559, .aload_n 0, 1) rfl
theorem dL_law_560 : decode cL_law 560 = .ok (.iload 4, 2) := dTL_law_5_ok 7 (560, .iload 4, 2) rfl
theorem dL_law_562 : decode cL_law 562 = .ok (.iconst 1, 1) := dTL_law_5_ok 8 (562, .iconst 1, 1) rfl
theorem dL_law_563 : decode cL_law 563 = .ok (.iadd, 1) := dTL_law_5_ok 9 (563, .iadd, 1) rfl
theorem dL_law_564 : decode cL_law 564 = .ok (.iaload, 1) := dTL_law_5_ok 10 (564, .iaload, 1) rfl
theorem dL_law_565 : decode cL_law 565 = .ok (.aload_n 0, 1) := dTL_law_5_ok 11 (565, .aload_n 0, 1) rfl
theorem dL_law_566 : decode cL_law 566 = .ok (.iload 4, 2) := dTL_law_5_ok 12 (566, .iload 4, 2) rfl
theorem dL_law_568 : decode cL_law 568 = .ok (.iconst 2, 1) := dTL_law_5_ok 13 (568, .iconst 2, 1) rfl
theorem dL_law_569 : decode cL_law 569 = .ok (.iadd, 1) := dTL_law_5_ok 14 (569, .iadd, 1) rfl
theorem dL_law_570 : decode cL_law 570 = .ok (.iaload, 1) := dTL_law_5_ok 15 (570, .iaload, 1) rfl
theorem dL_law_571 : decode cL_law 571 = .ok (.invokevirtual 111, 3) := dTL_law_5_ok 16 (571, .invokevirtual 111, 3) rfl
theorem dL_law_574 : decode cL_law 574 = .ok (.istore 6, 2) := dTL_law_5_ok 17 (574, .istore 6, 2) rfl
theorem dL_law_576 : decode cL_law 576 = .ok (.aload_n 2, 1) := dTL_law_5_ok 18 (576, .aload_n 2, 1) rfl
theorem dL_law_577 : decode cL_law 577 = .ok (.invokevirtual 91, 3) := dTL_law_5_ok 19 (577, .invokevirtual 91, 3) rfl
theorem dL_law_580 : decode cL_law 580 = .ok (.iload 5, 2) := dTL_law_5_ok 20 (580, .iload 5, 2) rfl
theorem dL_law_582 : decode cL_law 582 = .ok (.if_icmp .eq 5, 3) := dTL_law_5_ok 21 (582, .if_icmp .eq 5, 3) rfl
theorem dL_law_585 : decode cL_law 585 = .ok (.iconst 0, 1) := dTL_law_5_ok 22 (585, .iconst 0, 1) rfl
theorem dL_law_586 : decode cL_law 586 = .ok (.ireturn, 1) := dTL_law_5_ok 23 (586, .ireturn, 1) rfl
theorem dL_law_587 : decode cL_law 587 = .ok (.iload 5, 2) := dTL_law_5_ok 24 (587, .iload 5, 2) rfl
theorem dL_law_589 : decode cL_law 589 = .ok (.ifCond .ne 22, 3) := dTL_law_5_ok 25 (589, .ifCond .ne 22, 3) rfl
theorem dL_law_592 : decode cL_law 592 = .ok (.aload_n 3, 1) := dTL_law_5_ok 26 (592, .aload_n 3, 1) rfl
theorem dL_law_593 : decode cL_law 593 = .ok (.iconst 0, 1) := dTL_law_5_ok 27 (593, .iconst 0, 1) rfl
theorem dL_law_594 : decode cL_law 594 = .ok (.laload, 1) := dTL_law_5_ok 28 (594, .laload, 1) rfl
theorem dL_law_595 : decode cL_law 595 = .ok (.iload 6, 2) := dTL_law_5_ok 29 (595, .iload 6, 2) rfl
theorem dL_law_597 : decode cL_law 597 = .ok (.ifCond .eq 7, 3) := dTL_law_5_ok 30 (597, .ifCond .eq 7, 3) rfl
theorem dL_law_600 : decode cL_law 600 = .ok (.lconst 1, 1) := dTL_law_5_ok 31 (600, .lconst 1, 1) rfl
theorem dL_law_601 : decode cL_law 601 = .ok (.goto 4, 3) := dTL_law_5_ok 32 (601, .goto 4, 3) rfl
theorem dL_law_604 : decode cL_law 604 = .ok (.lconst 0, 1) := dTL_law_5_ok 33 (604, .lconst 0, 1) rfl
theorem dL_law_605 : decode cL_law 605 = .ok (.lcmp, 1) := dTL_law_5_ok 34 (605, .lcmp, 1) rfl
theorem dL_law_606 : decode cL_law 606 = .ok (.ifCond .eq 5, 3) := dTL_law_5_ok 35 (606, .ifCond .eq 5, 3) rfl
theorem dL_law_609 : decode cL_law 609 = .ok (.iconst 0, 1) := dTL_law_5_ok 36 (609, .iconst 0, 1) rfl
theorem dL_law_610 : decode cL_law 610 = .ok (.ireturn, 1) := dTL_law_5_ok 37 (610, .ireturn, 1) rfl
theorem dL_law_611 : decode cL_law 611 = .ok (.goto 1029, 3) := dTL_law_5_ok 38 (611, .goto 1029, 3) rfl
theorem dL_law_614 : decode cL_law 614 = .ok (.aload_n 1, 1) := dTL_law_5_ok 39 (614, .aload_n 1, 1) rfl
theorem dL_law_615 : decode cL_law 615 = .ok (.aload_n 0, 1) := dTL_law_5_ok 40 (615, .aload_n 0, 1) rfl
theorem dL_law_616 : decode cL_law 616 = .ok (.iload 4, 2) := dTL_law_5_ok 41 (616, .iload 4, 2) rfl
theorem dL_law_618 : decode cL_law 618 = .ok (.iconst 1, 1) := dTL_law_5_ok 42 (618, .iconst 1, 1) rfl
theorem dL_law_619 : decode cL_law 619 = .ok (.iadd, 1) := dTL_law_5_ok 43 (619, .iadd, 1) rfl
theorem dL_law_620 : decode cL_law 620 = .ok (.iaload, 1) := dTL_law_5_ok 44 (620, .iaload, 1) rfl
theorem dL_law_621 : decode cL_law 621 = .ok (.aload_n 0, 1) := dTL_law_5_ok 45 (621, .aload_n 0, 1) rfl
theorem dL_law_622 : decode cL_law 622 = .ok (.iload 4, 2) := dTL_law_5_ok 46 (622, .iload 4, 2) rfl
theorem dL_law_624 : decode cL_law 624 = .ok (.iconst 2, 1) := dTL_law_5_ok 47 (624, .iconst 2, 1) rfl
theorem dL_law_625 : decode cL_law 625 = .ok (.iadd, 1) := dTL_law_5_ok 48 (625, .iadd, 1) rfl
theorem dL_law_626 : decode cL_law 626 = .ok (.iaload, 1) := dTL_law_5_ok 49 (626, .iaload, 1) rfl
theorem dL_law_627 : decode cL_law 627 = .ok (.aload_n 0, 1) := dTL_law_5_ok 50 (627, .aload_n 0, 1) rfl
theorem dL_law_628 : decode cL_law 628 = .ok (.iload 4, 2) := dTL_law_5_ok 51 (628, .iload 4, 2) rfl
theorem dL_law_630 : decode cL_law 630 = .ok (.iconst 3, 1) := dTL_law_5_ok 52 (630, .iconst 3, 1) rfl
theorem dL_law_631 : decode cL_law 631 = .ok (.iadd, 1) := dTL_law_5_ok 53 (631, .iadd, 1) rfl
theorem dL_law_632 : decode cL_law 632 = .ok (.iaload, 1) := dTL_law_5_ok 54 (632, .iaload, 1) rfl
theorem dL_law_633 : decode cL_law 633 = .ok (.aload_n 3, 1) := dTL_law_5_ok 55 (633, .aload_n 3, 1) rfl
theorem dL_law_634 : decode cL_law 634 = .ok (.invokestatic 112, 3) := dTL_law_5_ok 56 (634, .invokestatic 112, 3) rfl
theorem dL_law_637 : decode cL_law 637 = .ok (.istore 5, 2) := dTL_law_5_ok 57 (637, .istore 5, 2) rfl
theorem dL_law_639 : decode cL_law 639 = .ok (.aload_n 2, 1) := dTL_law_5_ok 58 (639, .aload_n 2, 1) rfl
theorem dL_law_640 : decode cL_law 640 = .ok (.aload_n 0, 1) := dTL_law_5_ok 59 (640, .aload_n 0, 1) rfl
noncomputable def dTL_law_6 : List (Nat × Instr × Nat) := [(641, .iload 4, 2), (643, .iconst 1, 1), (644, .iadd, 1), (645, .iaload, 1), (646, .aload_n 0, 1), (647, .iload 4, 2), (649, .iconst 2, 1), (650, .iadd, 1), (651, .iaload, 1), (652, .aload_n 0, 1), (653, .iload 4, 2), (655, .iconst 3, 1), (656, .iadd, 1), (657, .iaload, 1), (658, .invokevirtual 114, 3), (661, .istore 6, 2), (663, .aload_n 2, 1), (664, .invokevirtual 91, 3), (667, .iload 5, 2), (669, .if_icmp .eq 5, 3), (672, .iconst 0, 1), (673, .ireturn, 1), (674, .iload 5, 2), (676, .ifCond .ne 15, 3), (679, .aload_n 3, 1), (680, .iconst 0, 1), (681, .laload, 1), (682, .iload 6, 2), (684, .i2l, 1), (685, .lcmp, 1), (686, .ifCond .eq 5, 3), (689, .iconst 0, 1), (690, .ireturn, 1), (691, .goto 949, 3), (694, .aload_n 1, 1), (695, .aload_n 0, 1), (696, .iload 4, 2), (698, .iconst 1, 1), (699, .iadd, 1), (700, .iaload, 1), (701, .aload_n 0, 1), (702, .iload 4, 2), (704, .iconst 2, 1), (705, .iadd, 1), (706, .iaload, 1), (707, .aload_n 0, 1), (708, .iload 4, 2), (710, .iconst 3, 1), (711, .iadd, 1), (712, .iaload, 1), (713, .aload_n 3, 1), (714, .invokestatic 115, 3), (717, .istore 5, 2), (719, .aload_n 2, 1), (720, .aload_n 0, 1), (721, .iload 4, 2), (723, .iconst 1, 1), (724, .iadd, 1), (725, .iaload, 1), (726, .aload_n 0, 1)]
theorem dTL_law_6_ok : ∀ (k : Nat) (q : Nat × Instr × Nat), dTL_law_6[k]? = some q → decode cL_law q.1 = .ok q.2 := dT_of (by decide +kernel)
theorem dL_law_641 : decode cL_law 641 = .ok (.iload 4, 2) := dTL_law_6_ok 0 (641, .iload 4, 2) rfl
theorem dL_law_643 : decode cL_law 643 = .ok (.iconst 1, 1) := dTL_law_6_ok 1 (643, .iconst 1, 1) rfl
theorem dL_law_644 : decode cL_law 644 = .ok (.iadd, 1) := dTL_law_6_ok 2 (644, .iadd, 1) rfl
theorem dL_law_645 : decode cL_law 645 = .ok (.iaload, 1) := dTL_law_6_ok 3 (645, .iaload, 1) rfl
theorem dL_law_646 : decode cL_law 646 = .ok (.aload_n 0, 1) := dTL_law_6_ok 4 (646, .aload_n 0, 1) rfl
theorem dL_law_647 : decode cL_law 647 = .ok (.iload 4, 2) := dTL_law_6_ok 5 (647, .iload 4, 2) rfl
theorem dL_law_649 : decode cL_law 649 = .ok (.iconst 2, 1) := dTL_law_6_ok 6 (649, .iconst 2, 1) rfl
theorem dL_law_650 : decode cL_law 650 = .ok (.iadd, 1) := dTL_law_6_ok 7 (650, .iadd, 1) rfl
theorem dL_law_651 : decode cL_law 651 = .ok (.iaload, 1) := dTL_law_6_ok 8 (651, .iaload, 1) rfl
theorem dL_law_652 : decode cL_law 652 = .ok (.aload_n 0, 1) := dTL_law_6_ok 9 (652, .aload_n 0, 1) rfl
theorem dL_law_653 : decode cL_law 653 = .ok (.iload 4, 2) := dTL_law_6_ok 10 (653, .iload 4, 2) rfl
theorem dL_law_655 : decode cL_law 655 = .ok (.iconst 3, 1) := dTL_law_6_ok 11 (655, .iconst 3, 1) rfl
theorem dL_law_656 : decode cL_law 656 = .ok (.iadd, 1) := dTL_law_6_ok 12 (656, .iadd, 1) rfl
theorem dL_law_657 : decode cL_law 657 = .ok (.iaload, 1) := dTL_law_6_ok 13 (657, .iaload, 1) rfl
theorem dL_law_658 : decode cL_law 658 = .ok (.invokevirtual 114, 3) := dTL_law_6_ok 14 (658, .invokevirtual 114, 3) rfl
theorem dL_law_661 : decode cL_law 661 = .ok (.istore 6, 2) := dTL_law_6_ok 15 (661, .istore 6, 2) rfl
theorem dL_law_663 : decode cL_law 663 = .ok (.aload_n 2, 1) := dTL_law_6_ok 16 (663, .aload_n 2, 1) rfl
theorem dL_law_664 : decode cL_law 664 = .ok (.invokevirtual 91, 3) := dTL_law_6_ok 17 (664, .invokevirtual 91, 3) rfl
theorem dL_law_667 : decode cL_law 667 = .ok (.iload 5, 2) := dTL_law_6_ok 18 (667, .iload 5, 2) rfl
theorem dL_law_669 : decode cL_law 669 = .ok (.if_icmp .eq 5, 3) := dTL_law_6_ok 19 (669, .if_icmp .eq 5, 3) rfl
theorem dL_law_672 : decode cL_law 672 = .ok (.iconst 0, 1) := dTL_law_6_ok 20 (672, .iconst 0, 1) rfl
theorem dL_law_673 : decode cL_law 673 = .ok (.ireturn, 1) := dTL_law_6_ok 21 (673, .ireturn, 1) rfl
theorem dL_law_674 : decode cL_law 674 = .ok (.iload 5, 2) := dTL_law_6_ok 22 (674, .iload 5, 2) rfl
theorem dL_law_676 : decode cL_law 676 = .ok (.ifCond .ne 15, 3) := dTL_law_6_ok 23 (676, .ifCond .ne 15, 3) rfl
theorem dL_law_679 : decode cL_law 679 = .ok (.aload_n 3, 1) := dTL_law_6_ok 24 (679, .aload_n 3, 1) rfl
theorem dL_law_680 : decode cL_law 680 = .ok (.iconst 0, 1) := dTL_law_6_ok 25 (680, .iconst 0, 1) rfl
theorem dL_law_681 : decode cL_law 681 = .ok (.laload, 1) := dTL_law_6_ok 26 (681, .laload, 1) rfl
theorem dL_law_682 : decode cL_law 682 = .ok (.iload 6, 2) := dTL_law_6_ok 27 (682, .iload 6, 2) rfl
theorem dL_law_684 : decode cL_law 684 = .ok (.i2l, 1) := dTL_law_6_ok 28 (684, .i2l, 1) rfl
theorem dL_law_685 : decode cL_law 685 = .ok (.lcmp, 1) := dTL_law_6_ok 29 (685, .lcmp, 1) rfl
theorem dL_law_686 : decode cL_law 686 = .ok (.ifCond .eq 5, 3) := dTL_law_6_ok 30 (686, .ifCond .eq 5, 3) rfl
theorem dL_law_689 : decode cL_law 689 = .ok (.iconst 0, 1) := dTL_law_6_ok 31 (689, .iconst 0, 1) rfl
theorem dL_law_690 : decode cL_law 690 = .ok (.ireturn, 1) := dTL_law_6_ok 32 (690, .ireturn, 1) rfl
theorem dL_law_691 : decode cL_law 691 = .ok (.goto 949, 3) := dTL_law_6_ok 33 (691, .goto 949, 3) rfl
theorem dL_law_694 : decode cL_law 694 = .ok (.aload_n 1, 1) := dTL_law_6_ok 34 (694, .aload_n 1, 1) rfl
theorem dL_law_695 : decode cL_law 695 = .ok (.aload_n 0, 1) := dTL_law_6_ok 35 (695, .aload_n 0, 1) rfl
theorem dL_law_696 : decode cL_law 696 = .ok (.iload 4, 2) := dTL_law_6_ok 36 (696, .iload 4, 2) rfl
theorem dL_law_698 : decode cL_law 698 = .ok (.iconst 1, 1) := dTL_law_6_ok 37 (698, .iconst 1, 1) rfl
theorem dL_law_699 : decode cL_law 699 = .ok (.iadd, 1) := dTL_law_6_ok 38 (699, .iadd, 1) rfl
theorem dL_law_700 : decode cL_law 700 = .ok (.iaload, 1) := dTL_law_6_ok 39 (700, .iaload, 1) rfl
theorem dL_law_701 : decode cL_law 701 = .ok (.aload_n 0, 1) := dTL_law_6_ok 40 (701, .aload_n 0, 1) rfl
theorem dL_law_702 : decode cL_law 702 = .ok (.iload 4, 2) := dTL_law_6_ok 41 (702, .iload 4, 2) rfl
theorem dL_law_704 : decode cL_law 704 = .ok (.iconst 2, 1) := dTL_law_6_ok 42 (704, .iconst 2, 1) rfl
theorem dL_law_705 : decode cL_law 705 = .ok (.iadd, 1) := dTL_law_6_ok 43 (705, .iadd, 1) rfl
theorem dL_law_706 : decode cL_law 706 = .ok (.iaload, 1) := dTL_law_6_ok 44 (706, .iaload, 1) rfl
theorem dL_law_707 : decode cL_law 707 = .ok (.aload_n 0, 1) := dTL_law_6_ok 45 (707, .aload_n 0, 1) rfl
theorem dL_law_708 : decode cL_law 708 = .ok (.iload 4, 2) := dTL_law_6_ok 46 (708, .iload 4, 2) rfl
theorem dL_law_710 : decode cL_law 710 = .ok (.iconst 3, 1) := dTL_law_6_ok 47 (710, .iconst 3, 1) rfl
theorem dL_law_711 : decode cL_law 711 = .ok (.iadd, 1) := dTL_law_6_ok 48 (711, .iadd, 1) rfl
theorem dL_law_712 : decode cL_law 712 = .ok (.iaload, 1) := dTL_law_6_ok 49 (712, .iaload, 1) rfl
theorem dL_law_713 : decode cL_law 713 = .ok (.aload_n 3, 1) := dTL_law_6_ok 50 (713, .aload_n 3, 1) rfl
theorem dL_law_714 : decode cL_law 714 = .ok (.invokestatic 115, 3) := dTL_law_6_ok 51 (714, .invokestatic 115, 3) rfl
theorem dL_law_717 : decode cL_law 717 = .ok (.istore 5, 2) := dTL_law_6_ok 52 (717, .istore 5, 2) rfl
theorem dL_law_719 : decode cL_law 719 = .ok (.aload_n 2, 1) := dTL_law_6_ok 53 (719, .aload_n 2, 1) rfl
theorem dL_law_720 : decode cL_law 720 = .ok (.aload_n 0, 1) := dTL_law_6_ok 54 (720, .aload_n 0, 1) rfl
theorem dL_law_721 : decode cL_law 721 = .ok (.iload 4, 2) := dTL_law_6_ok 55 (721, .iload 4, 2) rfl
theorem dL_law_723 : decode cL_law 723 = .ok (.iconst 1, 1) := dTL_law_6_ok 56 (723, .iconst 1, 1) rfl
theorem dL_law_724 : decode cL_law 724 = .ok (.iadd, 1) := dTL_law_6_ok 57 (724, .iadd, 1) rfl
theorem dL_law_725 : decode cL_law 725 = .ok (.iaload, 1) := dTL_law_6_ok 58 (725, .iaload, 1) rfl
theorem dL_law_726 : decode cL_law 726 = .ok (.aload_n 0, 1) := dTL_law_6_ok 59 (726, .aload_n 0, 1) rfl
noncomputable def dTL_law_7 : List (Nat × Instr × Nat) := [(727, .iload 4, 2), (729, .iconst 2, 1), (730, .iadd, 1), (731, .iaload, 1), (732, .aload_n 0, 1), (733, .iload 4, 2), (735, .iconst 3, 1), (736, .iadd, 1), (737, .iaload, 1), (738, .invokevirtual 117, 3), (741, .istore 6, 2), (743, .aload_n 2, 1), (744, .invokevirtual 91, 3), (747, .iload 5, 2), (749, .if_icmp .eq 5, 3), (752, .iconst 0, 1), (753, .ireturn, 1), (754, .iload 5, 2), (756, .ifCond .ne 15, 3), (759, .aload_n 3, 1), (760, .iconst 0, 1), (761, .laload, 1), (762, .iload 6, 2), (764, .i2l, 1), (765, .lcmp, 1), (766, .ifCond .eq 5, 3), (769, .iconst 0, 1), (770, .ireturn, 1), (771, .goto 869, 3), (774, .aload_n 1, 1), (775, .aload_n 0, 1), (776, .iload 4, 2), (778, .iconst 1, 1), (779, .iadd, 1), (780, .iaload, 1), (781, .aload_n 3, 1), (782, .invokestatic 118, 3), (785, .istore 5, 2), (787, .aload_n 2, 1), (788, .aload_n 0, 1), (789, .iload 4, 2), (791, .iconst 1, 1), (792, .iadd, 1), (793, .iaload, 1), (794, .invokevirtual 121, 3), (797, .istore 6, 2), (799, .aload_n 2, 1), (800, .invokevirtual 91, 3), (803, .iload 5, 2), (805, .if_icmp .eq 5, 3), (808, .iconst 0, 1), (809, .ireturn, 1), (810, .iload 5, 2), (812, .ifCond .ne 15, 3), (815, .aload_n 3, 1), (816, .iconst 0, 1), (817, .laload, 1), (818, .iload 6, 2), (820, .i2l, 1), (821, .lcmp, 1)]
theorem dTL_law_7_ok : ∀ (k : Nat) (q : Nat × Instr × Nat), dTL_law_7[k]? = some q → decode cL_law q.1 = .ok q.2 := dT_of (by decide +kernel)
theorem dL_law_727 : decode cL_law 727 = .ok (.iload 4, 2) := dTL_law_7_ok 0 (727, .iload 4, 2) rfl
theorem dL_law_729 : decode cL_law 729 = .ok (.iconst 2, 1) := dTL_law_7_ok 1 (729, .iconst 2, 1) rfl
theorem dL_law_730 : decode cL_law 730 = .ok (.iadd, 1) := dTL_law_7_ok 2 (730, .iadd, 1) rfl
theorem dL_law_731 : decode cL_law 731 = .ok (.iaload, 1) := dTL_law_7_ok 3 (731, .iaload, 1) rfl
theorem dL_law_732 : decode cL_law 732 = .ok (.aload_n 0, 1) := dTL_law_7_ok 4 (732, .aload_n 0, 1) rfl
theorem dL_law_733 : decode cL_law 733 = .ok (.iload 4, 2) := dTL_law_7_ok 5 (733, .iload 4, 2) rfl
theorem dL_law_735 : decode cL_law 735 = .ok (.iconst 3, 1) := dTL_law_7_ok 6 (735, .iconst 3, 1) rfl
theorem dL_law_736 : decode cL_law 736 = .ok (.iadd, 1) := dTL_law_7_ok 7 (736, .iadd, 1) rfl
theorem dL_law_737 : decode cL_law 737 = .ok (.iaload, 1) := dTL_law_7_ok 8 (737, .iaload, 1) rfl
theorem dL_law_738 : decode cL_law 738 = .ok (.invokevirtual 117, 3) := dTL_law_7_ok 9 (738, .invokevirtual 117, 3) rfl
theorem dL_law_741 : decode cL_law 741 = .ok (.istore 6, 2) := dTL_law_7_ok 10 (741, .istore 6, 2) rfl
theorem dL_law_743 : decode cL_law 743 = .ok (.aload_n 2, 1) := dTL_law_7_ok 11 (743, .aload_n 2, 1) rfl
theorem dL_law_744 : decode cL_law 744 = .ok (.invokevirtual 91, 3) := dTL_law_7_ok 12 (744, .invokevirtual 91, 3) rfl
theorem dL_law_747 : decode cL_law 747 = .ok (.iload 5, 2) := dTL_law_7_ok 13 (747, .iload 5, 2) rfl
theorem dL_law_749 : decode cL_law 749 = .ok (.if_icmp .eq 5, 3) := dTL_law_7_ok 14 (749, .if_icmp .eq 5, 3) rfl
theorem dL_law_752 : decode cL_law 752 = .ok (.iconst 0, 1) := dTL_law_7_ok 15 (752, .iconst 0, 1) rfl
theorem dL_law_753 : decode cL_law 753 = .ok (.ireturn, 1) := dTL_law_7_ok 16 (753, .ireturn, 1) rfl
theorem dL_law_754 : decode cL_law 754 = .ok (.iload 5, 2) := dTL_law_7_ok 17 (754, .iload 5, 2) rfl
theorem dL_law_756 : decode cL_law 756 = .ok (.ifCond .ne 15, 3) := dTL_law_7_ok 18 (756, .ifCond .ne 15, 3) rfl
theorem dL_law_759 : decode cL_law 759 = .ok (.aload_n 3, 1) := dTL_law_7_ok 19 (759, .aload_n 3, 1) rfl
theorem dL_law_760 : decode cL_law 760 = .ok (.iconst 0, 1) := dTL_law_7_ok 20 (760, .iconst 0, 1) rfl
theorem dL_law_761 : decode cL_law 761 = .ok (.laload, 1) := dTL_law_7_ok 21 (761, .laload, 1) rfl
theorem dL_law_762 : decode cL_law 762 = .ok (.iload 6, 2) := dTL_law_7_ok 22 (762, .iload 6, 2) rfl
theorem dL_law_764 : decode cL_law 764 = .ok (.i2l, 1) := dTL_law_7_ok 23 (764, .i2l, 1) rfl
theorem dL_law_765 : decode cL_law 765 = .ok (.lcmp, 1) := dTL_law_7_ok 24 (765, .lcmp, 1) rfl
theorem dL_law_766 : decode cL_law 766 = .ok (.ifCond .eq 5, 3) := dTL_law_7_ok 25 (766, .ifCond .eq 5, 3) rfl
theorem dL_law_769 : decode cL_law 769 = .ok (.iconst 0, 1) := dTL_law_7_ok 26 (769, .iconst 0, 1) rfl
theorem dL_law_770 : decode cL_law 770 = .ok (.ireturn, 1) := dTL_law_7_ok 27 (770, .ireturn, 1) rfl
theorem dL_law_771 : decode cL_law 771 = .ok (.goto 869, 3) := dTL_law_7_ok 28 (771, .goto 869, 3) rfl
theorem dL_law_774 : decode cL_law 774 = .ok (.aload_n 1, 1) := dTL_law_7_ok 29 (774, .aload_n 1, 1) rfl
theorem dL_law_775 : decode cL_law 775 = .ok (.aload_n 0, 1) := dTL_law_7_ok 30 (775, .aload_n 0, 1) rfl
theorem dL_law_776 : decode cL_law 776 = .ok (.iload 4, 2) := dTL_law_7_ok 31 (776, .iload 4, 2) rfl
theorem dL_law_778 : decode cL_law 778 = .ok (.iconst 1, 1) := dTL_law_7_ok 32 (778, .iconst 1, 1) rfl
theorem dL_law_779 : decode cL_law 779 = .ok (.iadd, 1) := dTL_law_7_ok 33 (779, .iadd, 1) rfl
theorem dL_law_780 : decode cL_law 780 = .ok (.iaload, 1) := dTL_law_7_ok 34 (780, .iaload, 1) rfl
theorem dL_law_781 : decode cL_law 781 = .ok (.aload_n 3, 1) := dTL_law_7_ok 35 (781, .aload_n 3, 1) rfl
theorem dL_law_782 : decode cL_law 782 = .ok (.invokestatic 118, 3) := dTL_law_7_ok 36 (782, .invokestatic 118, 3) rfl
theorem dL_law_785 : decode cL_law 785 = .ok (.istore 5, 2) := dTL_law_7_ok 37 (785, .istore 5, 2) rfl
theorem dL_law_787 : decode cL_law 787 = .ok (.aload_n 2, 1) := dTL_law_7_ok 38 (787, .aload_n 2, 1) rfl
theorem dL_law_788 : decode cL_law 788 = .ok (.aload_n 0, 1) := dTL_law_7_ok 39 (788, .aload_n 0, 1) rfl
theorem dL_law_789 : decode cL_law 789 = .ok (.iload 4, 2) := dTL_law_7_ok 40 (789, .iload 4, 2) rfl
theorem dL_law_791 : decode cL_law 791 = .ok (.iconst 1, 1) := dTL_law_7_ok 41 (791, .iconst 1, 1) rfl
theorem dL_law_792 : decode cL_law 792 = .ok (.iadd, 1) := dTL_law_7_ok 42 (792, .iadd, 1) rfl
theorem dL_law_793 : decode cL_law 793 = .ok (.iaload, 1) := dTL_law_7_ok 43 (793, .iaload, 1) rfl
theorem dL_law_794 : decode cL_law 794 = .ok (.invokevirtual 121, 3) := dTL_law_7_ok 44 (794, .invokevirtual 121, 3) rfl
theorem dL_law_797 : decode cL_law 797 = .ok (.istore 6, 2) := dTL_law_7_ok 45 (797, .istore 6, 2) rfl
theorem dL_law_799 : decode cL_law 799 = .ok (.aload_n 2, 1) := dTL_law_7_ok 46 (799, .aload_n 2, 1) rfl
theorem dL_law_800 : decode cL_law 800 = .ok (.invokevirtual 91, 3) := dTL_law_7_ok 47 (800, .invokevirtual 91, 3) rfl
theorem dL_law_803 : decode cL_law 803 = .ok (.iload 5, 2) := dTL_law_7_ok 48 (803, .iload 5, 2) rfl
theorem dL_law_805 : decode cL_law 805 = .ok (.if_icmp .eq 5, 3) := dTL_law_7_ok 49 (805, .if_icmp .eq 5, 3) rfl
theorem dL_law_808 : decode cL_law 808 = .ok (.iconst 0, 1) := dTL_law_7_ok 50 (808, .iconst 0, 1) rfl
theorem dL_law_809 : decode cL_law 809 = .ok (.ireturn, 1) := dTL_law_7_ok 51 (809, .ireturn, 1) rfl
theorem dL_law_810 : decode cL_law 810 = .ok (.iload 5, 2) := dTL_law_7_ok 52 (810, .iload 5, 2) rfl
theorem dL_law_812 : decode cL_law 812 = .ok (.ifCond .ne 15, 3) := dTL_law_7_ok 53 (812, .ifCond .ne 15, 3) rfl
theorem dL_law_815 : decode cL_law 815 = .ok (.aload_n 3, 1) := dTL_law_7_ok 54 (815, .aload_n 3, 1) rfl
theorem dL_law_816 : decode cL_law 816 = .ok (.iconst 0, 1) := dTL_law_7_ok 55 (816, .iconst 0, 1) rfl
theorem dL_law_817 : decode cL_law 817 = .ok (.laload, 1) := dTL_law_7_ok 56 (817, .laload, 1) rfl
theorem dL_law_818 : decode cL_law 818 = .ok (.iload 6, 2) := dTL_law_7_ok 57 (818, .iload 6, 2) rfl
theorem dL_law_820 : decode cL_law 820 = .ok (.i2l, 1) := dTL_law_7_ok 58 (820, .i2l, 1) rfl
theorem dL_law_821 : decode cL_law 821 = .ok (.lcmp, 1) := dTL_law_7_ok 59 (821, .lcmp, 1) rfl
noncomputable def dTL_law_8 : List (Nat × Instr × Nat) := [(822, .ifCond .eq 5, 3), (825, .iconst 0, 1), (826, .ireturn, 1), (827, .goto 813, 3), (830, .aload_n 1, 1), (831, .aload_n 0, 1), (832, .iload 4, 2), (834, .iconst 1, 1), (835, .iadd, 1), (836, .iaload, 1), (837, .aload_n 0, 1), (838, .iload 4, 2), (840, .iconst 2, 1), (841, .iadd, 1), (842, .iaload, 1), (843, .aload_n 0, 1), (844, .iload 4, 2), (846, .iconst 3, 1), (847, .iadd, 1), (848, .iaload, 1), (849, .aload_n 3, 1), (850, .invokestatic 122, 3), (853, .istore 5, 2), (855, .aload_n 2, 1), (856, .aload_n 0, 1), (857, .iload 4, 2), (859, .iconst 1, 1), (860, .iadd, 1), (861, .iaload, 1), (862, .aload_n 0, 1), (863, .iload 4, 2), (865, .iconst 2, 1), (866, .iadd, 1), (867, .iaload, 1), (868, .aload_n 0, 1), (869, .iload 4, 2), (871, .iconst 3, 1), (872, .iadd, 1), (873, .iaload, 1), (874, .invokevirtual 124, 3), (877, .istore 6, 2), (879, .aload_n 2, 1), (880, .invokevirtual 91, 3), (883, .iload 5, 2), (885, .if_icmp .eq 5, 3), (888, .iconst 0, 1), (889, .ireturn, 1), (890, .iload 5, 2), (892, .ifCond .ne 15, 3), (895, .aload_n 3, 1), (896, .iconst 0, 1), (897, .laload, 1), (898, .iload 6, 2), (900, .i2l, 1), (901, .lcmp, 1), (902, .ifCond .eq 5, 3), (905, .iconst 0, 1), (906, .ireturn, 1), (907, .goto 733, 3), (910, .aload_n 1, 1)]
theorem dTL_law_8_ok : ∀ (k : Nat) (q : Nat × Instr × Nat), dTL_law_8[k]? = some q → decode cL_law q.1 = .ok q.2 := dT_of (by decide +kernel)
theorem dL_law_822 : decode cL_law 822 = .ok (.ifCond .eq 5, 3) := dTL_law_8_ok 0 (822, .ifCond .eq 5, 3) rfl
theorem dL_law_825 : decode cL_law 825 = .ok (.iconst 0, 1) := dTL_law_8_ok 1 (825, .iconst 0, 1) rfl
theorem dL_law_826 : decode cL_law 826 = .ok (.ireturn, 1) := dTL_law_8_ok 2 (826, .ireturn, 1) rfl
theorem dL_law_827 : decode cL_law 827 = .ok (.goto 813, 3) := dTL_law_8_ok 3 (827, .goto 813, 3) rfl
theorem dL_law_830 : decode cL_law 830 = .ok (.aload_n 1, 1) := dTL_law_8_ok 4 (830, .aload_n 1, 1) rfl
theorem dL_law_831 : decode cL_law 831 = .ok (.aload_n 0, 1) := dTL_law_8_ok 5 (831, .aload_n 0, 1) rfl
theorem dL_law_832 : decode cL_law 832 = .ok (.iload 4, 2) := dTL_law_8_ok 6 (832, .iload 4, 2) rfl
theorem dL_law_834 : decode cL_law 834 = .ok (.iconst 1, 1) := dTL_law_8_ok 7 (834, .iconst 1, 1) rfl
theorem dL_law_835 : decode cL_law 835 = .ok (.iadd, 1) := dTL_law_8_ok 8 (835, .iadd, 1) rfl
theorem dL_law_836 : decode cL_law 836 = .ok (.iaload, 1) := dTL_law_8_ok 9 (836, .iaload, 1) rfl
theorem dL_law_837 : decode cL_law 837 = .ok (.aload_n 0, 1) := dTL_law_8_ok 10 (837, .aload_n 0, 1) rfl
theorem dL_law_838 : decode cL_law 838 = .ok (.iload 4, 2) := dTL_law_8_ok 11 (838, .iload 4, 2) rfl
theorem dL_law_840 : decode cL_law 840 = .ok (.iconst 2, 1) := dTL_law_8_ok 12 (840, .iconst 2, 1) rfl
theorem dL_law_841 : decode cL_law 841 = .ok (.iadd, 1) := dTL_law_8_ok 13 (841, .iadd, 1) rfl
theorem dL_law_842 : decode cL_law 842 = .ok (.iaload, 1) := dTL_law_8_ok 14 (842, .iaload, 1) rfl
theorem dL_law_843 : decode cL_law 843 = .ok (.aload_n 0, 1) := dTL_law_8_ok 15 (843, .aload_n 0, 1) rfl
theorem dL_law_844 : decode cL_law 844 = .ok (.iload 4, 2) := dTL_law_8_ok 16 (844, .iload 4, 2) rfl
theorem dL_law_846 : decode cL_law 846 = .ok (.iconst 3, 1) := dTL_law_8_ok 17 (846, .iconst 3, 1) rfl
theorem dL_law_847 : decode cL_law 847 = .ok (.iadd, 1) := dTL_law_8_ok 18 (847, .iadd, 1) rfl
theorem dL_law_848 : decode cL_law 848 = .ok (.iaload, 1) := dTL_law_8_ok 19 (848, .iaload, 1) rfl
theorem dL_law_849 : decode cL_law 849 = .ok (.aload_n 3, 1) := dTL_law_8_ok 20 (849, .aload_n 3, 1) rfl
theorem dL_law_850 : decode cL_law 850 = .ok (.invokestatic 122, 3) := dTL_law_8_ok 21 (850, .invokestatic 122, 3) rfl
theorem dL_law_853 : decode cL_law 853 = .ok (.istore 5, 2) := dTL_law_8_ok 22 (853, .istore 5, 2) rfl
theorem dL_law_855 : decode cL_law 855 = .ok (.aload_n 2, 1) := dTL_law_8_ok 23 (855, .aload_n 2, 1) rfl
theorem dL_law_856 : decode cL_law 856 = .ok (.aload_n 0, 1) := dTL_law_8_ok 24 (856, .aload_n 0, 1) rfl
theorem dL_law_857 : decode cL_law 857 = .ok (.iload 4, 2) := dTL_law_8_ok 25 (857, .iload 4, 2) rfl
theorem dL_law_859 : decode cL_law 859 = .ok (.iconst 1, 1) := dTL_law_8_ok 26 (859, .iconst 1, 1) rfl
theorem dL_law_860 : decode cL_law 860 = .ok (.iadd, 1) := dTL_law_8_ok 27 (860, .iadd, 1) rfl
theorem dL_law_861 : decode cL_law 861 = .ok (.iaload, 1) := dTL_law_8_ok 28 (861, .iaload, 1) rfl
theorem dL_law_862 : decode cL_law 862 = .ok (.aload_n 0, 1) := dTL_law_8_ok 29 (862, .aload_n 0, 1) rfl
theorem dL_law_863 : decode cL_law 863 = .ok (.iload 4, 2) := dTL_law_8_ok 30 (863, .iload 4, 2) rfl
theorem dL_law_865 : decode cL_law 865 = .ok (.iconst 2, 1) := dTL_law_8_ok 31 (865, .iconst 2, 1) rfl
theorem dL_law_866 : decode cL_law 866 = .ok (.iadd, 1) := dTL_law_8_ok 32 (866, .iadd, 1) rfl
theorem dL_law_867 : decode cL_law 867 = .ok (.iaload, 1) := dTL_law_8_ok 33 (867, .iaload, 1) rfl
theorem dL_law_868 : decode cL_law 868 = .ok (.aload_n 0, 1) := dTL_law_8_ok 34 (868, .aload_n 0, 1) rfl
theorem dL_law_869 : decode cL_law 869 = .ok (.iload 4, 2) := dTL_law_8_ok 35 (869, .iload 4, 2) rfl
theorem dL_law_871 : decode cL_law 871 = .ok (.iconst 3, 1) := dTL_law_8_ok 36 (871, .iconst 3, 1) rfl
theorem dL_law_872 : decode cL_law 872 = .ok (.iadd, 1) := dTL_law_8_ok 37 (872, .iadd, 1) rfl
theorem dL_law_873 : decode cL_law 873 = .ok (.iaload, 1) := dTL_law_8_ok 38 (873, .iaload, 1) rfl
theorem dL_law_874 : decode cL_law 874 = .ok (.invokevirtual 124, 3) := dTL_law_8_ok 39 (874, .invokevirtual 124, 3) rfl
theorem dL_law_877 : decode cL_law 877 = .ok (.istore 6, 2) := dTL_law_8_ok 40 (877, .istore 6, 2) rfl
theorem dL_law_879 : decode cL_law 879 = .ok (.aload_n 2, 1) := dTL_law_8_ok 41 (879, .aload_n 2, 1) rfl
theorem dL_law_880 : decode cL_law 880 = .ok (.invokevirtual 91, 3) := dTL_law_8_ok 42 (880, .invokevirtual 91, 3) rfl
theorem dL_law_883 : decode cL_law 883 = .ok (.iload 5, 2) := dTL_law_8_ok 43 (883, .iload 5, 2) rfl
theorem dL_law_885 : decode cL_law 885 = .ok (.if_icmp .eq 5, 3) := dTL_law_8_ok 44 (885, .if_icmp .eq 5, 3) rfl
theorem dL_law_888 : decode cL_law 888 = .ok (.iconst 0, 1) := dTL_law_8_ok 45 (888, .iconst 0, 1) rfl
theorem dL_law_889 : decode cL_law 889 = .ok (.ireturn, 1) := dTL_law_8_ok 46 (889, .ireturn, 1) rfl
theorem dL_law_890 : decode cL_law 890 = .ok (.iload 5, 2) := dTL_law_8_ok 47 (890, .iload 5, 2) rfl
theorem dL_law_892 : decode cL_law 892 = .ok (.ifCond .ne 15, 3) := dTL_law_8_ok 48 (892, .ifCond .ne 15, 3) rfl
theorem dL_law_895 : decode cL_law 895 = .ok (.aload_n 3, 1) := dTL_law_8_ok 49 (895, .aload_n 3, 1) rfl
theorem dL_law_896 : decode cL_law 896 = .ok (.iconst 0, 1) := dTL_law_8_ok 50 (896, .iconst 0, 1) rfl
theorem dL_law_897 : decode cL_law 897 = .ok (.laload, 1) := dTL_law_8_ok 51 (897, .laload, 1) rfl
theorem dL_law_898 : decode cL_law 898 = .ok (.iload 6, 2) := dTL_law_8_ok 52 (898, .iload 6, 2) rfl
theorem dL_law_900 : decode cL_law 900 = .ok (.i2l, 1) := dTL_law_8_ok 53 (900, .i2l, 1) rfl
theorem dL_law_901 : decode cL_law 901 = .ok (.lcmp, 1) := dTL_law_8_ok 54 (901, .lcmp, 1) rfl
theorem dL_law_902 : decode cL_law 902 = .ok (.ifCond .eq 5, 3) := dTL_law_8_ok 55 (902, .ifCond .eq 5, 3) rfl
theorem dL_law_905 : decode cL_law 905 = .ok (.iconst 0, 1) := dTL_law_8_ok 56 (905, .iconst 0, 1) rfl
theorem dL_law_906 : decode cL_law 906 = .ok (.ireturn, 1) := dTL_law_8_ok 57 (906, .ireturn, 1) rfl
theorem dL_law_907 : decode cL_law 907 = .ok (.goto 733, 3) := dTL_law_8_ok 58 (907, .goto 733, 3) rfl
theorem dL_law_910 : decode cL_law 910 = .ok (.aload_n 1, 1) := dTL_law_8_ok 59 (910, .aload_n 1, 1) rfl
noncomputable def dTL_law_9 : List (Nat × Instr × Nat) := [(911, .aload_n 0, 1), (912, .iload 4, 2), (914, .iconst 1, 1), (915, .iadd, 1), (916, .iaload, 1), (917, .aload_n 0, 1), (918, .iload 4, 2), (920, .iconst 2, 1), (921, .iadd, 1), (922, .iaload, 1), (923, .aload_n 0, 1), (924, .iload 4, 2), (926, .iconst 3, 1), (927, .iadd, 1), (928, .iaload, 1), (929, .aload_n 3, 1), (930, .invokestatic 125, 3), (933, .istore 5, 2), (935, .aload_n 2, 1), (936, .aload_n 0, 1), (937, .iload 4, 2), (939, .iconst 1, 1), (940, .iadd, 1), (941, .iaload, 1), (942, .aload_n 0, 1), (943, .iload 4, 2), (945, .iconst 2, 1), (946, .iadd, 1), (947, .iaload, 1), (948, .aload_n 0, 1), (949, .iload 4, 2), (951, .iconst 3, 1), (952, .iadd, 1), (953, .iaload, 1), (954, .invokevirtual 127, 3), (957, .istore 6, 2), (959, .aload_n 2, 1), (960, .invokevirtual 91, 3), (963, .iload 5, 2), (965, .if_icmp .eq 5, 3), (968, .iconst 0, 1), (969, .ireturn, 1), (970, .iload 5, 2), (972, .ifCond .ne 22, 3), (975, .aload_n 3, 1), (976, .iconst 0, 1), (977, .laload, 1), (978, .iload 6, 2), (980, .ifCond .eq 7, 3), (983, .lconst 1, 1), (984, .goto 4, 3), (987, .lconst 0, 1), (988, .lcmp, 1), (989, .ifCond .eq 5, 3), (992, .iconst 0, 1), (993, .ireturn, 1), (994, .goto 646, 3), (997, .aload_n 1, 1), (998, .aload_n 0, 1), (999, .iload 4, 2)]
theorem dTL_law_9_ok : ∀ (k : Nat) (q : Nat × Instr × Nat), dTL_law_9[k]? = some q → decode cL_law q.1 = .ok q.2 := dT_of (by decide +kernel)
theorem dL_law_911 : decode cL_law 911 = .ok (.aload_n 0, 1) := dTL_law_9_ok 0 (911, .aload_n 0, 1) rfl
theorem dL_law_912 : decode cL_law 912 = .ok (.iload 4, 2) := dTL_law_9_ok 1 (912, .iload 4, 2) rfl
theorem dL_law_914 : decode cL_law 914 = .ok (.iconst 1, 1) := dTL_law_9_ok 2 (914, .iconst 1, 1) rfl
theorem dL_law_915 : decode cL_law 915 = .ok (.iadd, 1) := dTL_law_9_ok 3 (915, .iadd, 1) rfl
theorem dL_law_916 : decode cL_law 916 = .ok (.iaload, 1) := dTL_law_9_ok 4 (916, .iaload, 1) rfl
theorem dL_law_917 : decode cL_law 917 = .ok (.aload_n 0, 1) := dTL_law_9_ok 5 (917, .aload_n 0, 1) rfl
theorem dL_law_918 : decode cL_law 918 = .ok (.iload 4, 2) := dTL_law_9_ok 6 (918, .iload 4, 2) rfl
theorem dL_law_920 : decode cL_law 920 = .ok (.iconst 2, 1) := dTL_law_9_ok 7 (920, .iconst 2, 1) rfl
theorem dL_law_921 : decode cL_law 921 = .ok (.iadd, 1) := dTL_law_9_ok 8 (921, .iadd, 1) rfl
theorem dL_law_922 : decode cL_law 922 = .ok (.iaload, 1) := dTL_law_9_ok 9 (922, .iaload, 1) rfl
theorem dL_law_923 : decode cL_law 923 = .ok (.aload_n 0, 1) := dTL_law_9_ok 10 (923, .aload_n 0, 1) rfl
theorem dL_law_924 : decode cL_law 924 = .ok (.iload 4, 2) := dTL_law_9_ok 11 (924, .iload 4, 2) rfl
theorem dL_law_926 : decode cL_law 926 = .ok (.iconst 3, 1) := dTL_law_9_ok 12 (926, .iconst 3, 1) rfl
theorem dL_law_927 : decode cL_law 927 = .ok (.iadd, 1) := dTL_law_9_ok 13 (927, .iadd, 1) rfl
theorem dL_law_928 : decode cL_law 928 = .ok (.iaload, 1) := dTL_law_9_ok 14 (928, .iaload, 1) rfl
theorem dL_law_929 : decode cL_law 929 = .ok (.aload_n 3, 1) := dTL_law_9_ok 15 (929, .aload_n 3, 1) rfl
theorem dL_law_930 : decode cL_law 930 = .ok (.invokestatic 125, 3) := dTL_law_9_ok 16 (930, .invokestatic 125, 3) rfl
theorem dL_law_933 : decode cL_law 933 = .ok (.istore 5, 2) := dTL_law_9_ok 17 (933, .istore 5, 2) rfl
theorem dL_law_935 : decode cL_law 935 = .ok (.aload_n 2, 1) := dTL_law_9_ok 18 (935, .aload_n 2, 1) rfl
theorem dL_law_936 : decode cL_law 936 = .ok (.aload_n 0, 1) := dTL_law_9_ok 19 (936, .aload_n 0, 1) rfl
theorem dL_law_937 : decode cL_law 937 = .ok (.iload 4, 2) := dTL_law_9_ok 20 (937, .iload 4, 2) rfl
theorem dL_law_939 : decode cL_law 939 = .ok (.iconst 1, 1) := dTL_law_9_ok 21 (939, .iconst 1, 1) rfl
theorem dL_law_940 : decode cL_law 940 = .ok (.iadd, 1) := dTL_law_9_ok 22 (940, .iadd, 1) rfl
theorem dL_law_941 : decode cL_law 941 = .ok (.iaload, 1) := dTL_law_9_ok 23 (941, .iaload, 1) rfl
theorem dL_law_942 : decode cL_law 942 = .ok (.aload_n 0, 1) := dTL_law_9_ok 24 (942, .aload_n 0, 1) rfl
theorem dL_law_943 : decode cL_law 943 = .ok (.iload 4, 2) := dTL_law_9_ok 25 (943, .iload 4, 2) rfl
theorem dL_law_945 : decode cL_law 945 = .ok (.iconst 2, 1) := dTL_law_9_ok 26 (945, .iconst 2, 1) rfl
theorem dL_law_946 : decode cL_law 946 = .ok (.iadd, 1) := dTL_law_9_ok 27 (946, .iadd, 1) rfl
theorem dL_law_947 : decode cL_law 947 = .ok (.iaload, 1) := dTL_law_9_ok 28 (947, .iaload, 1) rfl
theorem dL_law_948 : decode cL_law 948 = .ok (.aload_n 0, 1) := dTL_law_9_ok 29 (948, .aload_n 0, 1) rfl
theorem dL_law_949 : decode cL_law 949 = .ok (.iload 4, 2) := dTL_law_9_ok 30 (949, .iload 4, 2) rfl
theorem dL_law_951 : decode cL_law 951 = .ok (.iconst 3, 1) := dTL_law_9_ok 31 (951, .iconst 3, 1) rfl
theorem dL_law_952 : decode cL_law 952 = .ok (.iadd, 1) := dTL_law_9_ok 32 (952, .iadd, 1) rfl
theorem dL_law_953 : decode cL_law 953 = .ok (.iaload, 1) := dTL_law_9_ok 33 (953, .iaload, 1) rfl
theorem dL_law_954 : decode cL_law 954 = .ok (.invokevirtual 127, 3) := dTL_law_9_ok 34 (954, .invokevirtual 127, 3) rfl
theorem dL_law_957 : decode cL_law 957 = .ok (.istore 6, 2) := dTL_law_9_ok 35 (957, .istore 6, 2) rfl
theorem dL_law_959 : decode cL_law 959 = .ok (.aload_n 2, 1) := dTL_law_9_ok 36 (959, .aload_n 2, 1) rfl
theorem dL_law_960 : decode cL_law 960 = .ok (.invokevirtual 91, 3) := dTL_law_9_ok 37 (960, .invokevirtual 91, 3) rfl
theorem dL_law_963 : decode cL_law 963 = .ok (.iload 5, 2) := dTL_law_9_ok 38 (963, .iload 5, 2) rfl
theorem dL_law_965 : decode cL_law 965 = .ok (.if_icmp .eq 5, 3) := dTL_law_9_ok 39 (965, .if_icmp .eq 5, 3) rfl
theorem dL_law_968 : decode cL_law 968 = .ok (.iconst 0, 1) := dTL_law_9_ok 40 (968, .iconst 0, 1) rfl
theorem dL_law_969 : decode cL_law 969 = .ok (.ireturn, 1) := dTL_law_9_ok 41 (969, .ireturn, 1) rfl
theorem dL_law_970 : decode cL_law 970 = .ok (.iload 5, 2) := dTL_law_9_ok 42 (970, .iload 5, 2) rfl
theorem dL_law_972 : decode cL_law 972 = .ok (.ifCond .ne 22, 3) := dTL_law_9_ok 43 (972, .ifCond .ne 22, 3) rfl
theorem dL_law_975 : decode cL_law 975 = .ok (.aload_n 3, 1) := dTL_law_9_ok 44 (975, .aload_n 3, 1) rfl
theorem dL_law_976 : decode cL_law 976 = .ok (.iconst 0, 1) := dTL_law_9_ok 45 (976, .iconst 0, 1) rfl
theorem dL_law_977 : decode cL_law 977 = .ok (.laload, 1) := dTL_law_9_ok 46 (977, .laload, 1) rfl
theorem dL_law_978 : decode cL_law 978 = .ok (.iload 6, 2) := dTL_law_9_ok 47 (978, .iload 6, 2) rfl
theorem dL_law_980 : decode cL_law 980 = .ok (.ifCond .eq 7, 3) := dTL_law_9_ok 48 (980, .ifCond .eq 7, 3) rfl
theorem dL_law_983 : decode cL_law 983 = .ok (.lconst 1, 1) := dTL_law_9_ok 49 (983, .lconst 1, 1) rfl
theorem dL_law_984 : decode cL_law 984 = .ok (.goto 4, 3) := dTL_law_9_ok 50 (984, .goto 4, 3) rfl
theorem dL_law_987 : decode cL_law 987 = .ok (.lconst 0, 1) := dTL_law_9_ok 51 (987, .lconst 0, 1) rfl
theorem dL_law_988 : decode cL_law 988 = .ok (.lcmp, 1) := dTL_law_9_ok 52 (988, .lcmp, 1) rfl
theorem dL_law_989 : decode cL_law 989 = .ok (.ifCond .eq 5, 3) := dTL_law_9_ok 53 (989, .ifCond .eq 5, 3) rfl
theorem dL_law_992 : decode cL_law 992 = .ok (.iconst 0, 1) := dTL_law_9_ok 54 (992, .iconst 0, 1) rfl
theorem dL_law_993 : decode cL_law 993 = .ok (.ireturn, 1) := dTL_law_9_ok 55 (993, .ireturn, 1) rfl
theorem dL_law_994 : decode cL_law 994 = .ok (.goto 646, 3) := dTL_law_9_ok 56 (994, .goto 646, 3) rfl
theorem dL_law_997 : decode cL_law 997 = .ok (.aload_n 1, 1) := dTL_law_9_ok 57 (997, .aload_n 1, 1) rfl
theorem dL_law_998 : decode cL_law 998 = .ok (.aload_n 0, 1) := dTL_law_9_ok 58 (998, .aload_n 0, 1) rfl
theorem dL_law_999 : decode cL_law 999 = .ok (.iload 4, 2) := dTL_law_9_ok 59 (999, .iload 4, 2) rfl
noncomputable def dTL_law_10 : List (Nat × Instr × Nat) := [(1001, .iconst 1, 1), (1002, .iadd, 1), (1003, .iaload, 1), (1004, .aload_n 0, 1), (1005, .iload 4, 2), (1007, .iconst 2, 1), (1008, .iadd, 1), (1009, .iaload, 1), (1010, .aload_n 3, 1), (1011, .invokestatic 128, 3), (1014, .istore 5, 2), (1016, .aload_n 2, 1), (1017, .aload_n 0, 1), (1018, .iload 4, 2), (1020, .iconst 1, 1), (1021, .iadd, 1), (1022, .iaload, 1), (1023, .aload_n 0, 1), (1024, .iload 4, 2), (1026, .iconst 2, 1), (1027, .iadd, 1), (1028, .iaload, 1), (1029, .invokevirtual 130, 3), (1032, .istore 6, 2), (1034, .aload_n 2, 1), (1035, .invokevirtual 91, 3), (1038, .iload 5, 2), (1040, .if_icmp .eq 5, 3), (1043, .iconst 0, 1), (1044, .ireturn, 1), (1045, .iload 5, 2), (1047, .ifCond .ne 15, 3), (1050, .aload_n 3, 1), (1051, .iconst 0, 1), (1052, .laload, 1), (1053, .iload 6, 2), (1055, .i2l, 1), (1056, .lcmp, 1), (1057, .ifCond .eq 5, 3), (1060, .iconst 0, 1), (1061, .ireturn, 1), (1062, .goto 578, 3), (1065, .aload_n 1, 1), (1066, .aload_n 0, 1), (1067, .iload 4, 2), (1069, .iconst 1, 1), (1070, .iadd, 1), (1071, .iaload, 1), (1072, .aload_n 3, 1), (1073, .invokestatic 131, 3), (1076, .istore 5, 2), (1078, .aload_n 2, 1), (1079, .aload_n 0, 1), (1080, .iload 4, 2), (1082, .iconst 1, 1), (1083, .iadd, 1), (1084, .iaload, 1), (1085, .invokevirtual 133, 3), (1088, .istore 6, 2), (1090, .aload_n 2, 1)]
theorem dTL_law_10_ok : ∀ (k : Nat) (q : Nat × Instr × Nat), dTL_law_10[k]? = some q → decode cL_law q.1 = .ok q.2 := dT_of (by decide +kernel)
theorem dL_law_1001 : decode cL_law 1001 = .ok (.iconst 1, 1) := dTL_law_10_ok 0 (1001, .iconst 1, 1) rfl
theorem dL_law_1002 : decode cL_law 1002 = .ok (.iadd, 1) := dTL_law_10_ok 1 (1002, .iadd, 1) rfl
theorem dL_law_1003 : decode cL_law 1003 = .ok (.iaload, 1) := dTL_law_10_ok 2 (1003, .iaload, 1) rfl
theorem dL_law_1004 : decode cL_law 1004 = .ok (.aload_n 0, 1) := dTL_law_10_ok 3 (1004, .aload_n 0, 1) rfl
theorem dL_law_1005 : decode cL_law 1005 = .ok (.iload 4, 2) := dTL_law_10_ok 4 (1005, .iload 4, 2) rfl
theorem dL_law_1007 : decode cL_law 1007 = .ok (.iconst 2, 1) := dTL_law_10_ok 5 (1007, .iconst 2, 1) rfl
theorem dL_law_1008 : decode cL_law 1008 = .ok (.iadd, 1) := dTL_law_10_ok 6 (1008, .iadd, 1) rfl
theorem dL_law_1009 : decode cL_law 1009 = .ok (.iaload, 1) := dTL_law_10_ok 7 (1009, .iaload, 1) rfl
theorem dL_law_1010 : decode cL_law 1010 = .ok (.aload_n 3, 1) := dTL_law_10_ok 8 (1010, .aload_n 3, 1) rfl
theorem dL_law_1011 : decode cL_law 1011 = .ok (.invokestatic 128, 3) := dTL_law_10_ok 9 (1011, .invokestatic 128, 3) rfl
theorem dL_law_1014 : decode cL_law 1014 = .ok (.istore 5, 2) := dTL_law_10_ok 10 (1014, .istore 5, 2) rfl
theorem dL_law_1016 : decode cL_law 1016 = .ok (.aload_n 2, 1) := dTL_law_10_ok 11 (1016, .aload_n 2, 1) rfl
theorem dL_law_1017 : decode cL_law 1017 = .ok (.aload_n 0, 1) := dTL_law_10_ok 12 (1017, .aload_n 0, 1) rfl
theorem dL_law_1018 : decode cL_law 1018 = .ok (.iload 4, 2) := dTL_law_10_ok 13 (1018, .iload 4, 2) rfl
theorem dL_law_1020 : decode cL_law 1020 = .ok (.iconst 1, 1) := dTL_law_10_ok 14 (1020, .iconst 1, 1) rfl
theorem dL_law_1021 : decode cL_law 1021 = .ok (.iadd, 1) := dTL_law_10_ok 15 (1021, .iadd, 1) rfl
theorem dL_law_1022 : decode cL_law 1022 = .ok (.iaload, 1) := dTL_law_10_ok 16 (1022, .iaload, 1) rfl
theorem dL_law_1023 : decode cL_law 1023 = .ok (.aload_n 0, 1) := dTL_law_10_ok 17 (1023, .aload_n 0, 1) rfl
theorem dL_law_1024 : decode cL_law 1024 = .ok (.iload 4, 2) := dTL_law_10_ok 18 (1024, .iload 4, 2) rfl
theorem dL_law_1026 : decode cL_law 1026 = .ok (.iconst 2, 1) := dTL_law_10_ok 19 (1026, .iconst 2, 1) rfl
theorem dL_law_1027 : decode cL_law 1027 = .ok (.iadd, 1) := dTL_law_10_ok 20 (1027, .iadd, 1) rfl
theorem dL_law_1028 : decode cL_law 1028 = .ok (.iaload, 1) := dTL_law_10_ok 21 (1028, .iaload, 1) rfl
theorem dL_law_1029 : decode cL_law 1029 = .ok (.invokevirtual 130, 3) := dTL_law_10_ok 22 (1029, .invokevirtual 130, 3) rfl
theorem dL_law_1032 : decode cL_law 1032 = .ok (.istore 6, 2) := dTL_law_10_ok 23 (1032, .istore 6, 2) rfl
theorem dL_law_1034 : decode cL_law 1034 = .ok (.aload_n 2, 1) := dTL_law_10_ok 24 (1034, .aload_n 2, 1) rfl
theorem dL_law_1035 : decode cL_law 1035 = .ok (.invokevirtual 91, 3) := dTL_law_10_ok 25 (1035, .invokevirtual 91, 3) rfl
theorem dL_law_1038 : decode cL_law 1038 = .ok (.iload 5, 2) := dTL_law_10_ok 26 (1038, .iload 5, 2) rfl
theorem dL_law_1040 : decode cL_law 1040 = .ok (.if_icmp .eq 5, 3) := dTL_law_10_ok 27 (1040, .if_icmp .eq 5, 3) rfl
theorem dL_law_1043 : decode cL_law 1043 = .ok (.iconst 0, 1) := dTL_law_10_ok 28 (1043, .iconst 0, 1) rfl
theorem dL_law_1044 : decode cL_law 1044 = .ok (.ireturn, 1) := dTL_law_10_ok 29 (1044, .ireturn, 1) rfl
theorem dL_law_1045 : decode cL_law 1045 = .ok (.iload 5, 2) := dTL_law_10_ok 30 (1045, .iload 5, 2) rfl
theorem dL_law_1047 : decode cL_law 1047 = .ok (.ifCond .ne 15, 3) := dTL_law_10_ok 31 (1047, .ifCond .ne 15, 3) rfl
theorem dL_law_1050 : decode cL_law 1050 = .ok (.aload_n 3, 1) := dTL_law_10_ok 32 (1050, .aload_n 3, 1) rfl
theorem dL_law_1051 : decode cL_law 1051 = .ok (.iconst 0, 1) := dTL_law_10_ok 33 (1051, .iconst 0, 1) rfl
theorem dL_law_1052 : decode cL_law 1052 = .ok (.laload, 1) := dTL_law_10_ok 34 (1052, .laload, 1) rfl
theorem dL_law_1053 : decode cL_law 1053 = .ok (.iload 6, 2) := dTL_law_10_ok 35 (1053, .iload 6, 2) rfl
theorem dL_law_1055 : decode cL_law 1055 = .ok (.i2l, 1) := dTL_law_10_ok 36 (1055, .i2l, 1) rfl
theorem dL_law_1056 : decode cL_law 1056 = .ok (.lcmp, 1) := dTL_law_10_ok 37 (1056, .lcmp, 1) rfl
theorem dL_law_1057 : decode cL_law 1057 = .ok (.ifCond .eq 5, 3) := dTL_law_10_ok 38 (1057, .ifCond .eq 5, 3) rfl
theorem dL_law_1060 : decode cL_law 1060 = .ok (.iconst 0, 1) := dTL_law_10_ok 39 (1060, .iconst 0, 1) rfl
theorem dL_law_1061 : decode cL_law 1061 = .ok (.ireturn, 1) := dTL_law_10_ok 40 (1061, .ireturn, 1) rfl
theorem dL_law_1062 : decode cL_law 1062 = .ok (.goto 578, 3) := dTL_law_10_ok 41 (1062, .goto 578, 3) rfl
theorem dL_law_1065 : decode cL_law 1065 = .ok (.aload_n 1, 1) := dTL_law_10_ok 42 (1065, .aload_n 1, 1) rfl
theorem dL_law_1066 : decode cL_law 1066 = .ok (.aload_n 0, 1) := dTL_law_10_ok 43 (1066, .aload_n 0, 1) rfl
theorem dL_law_1067 : decode cL_law 1067 = .ok (.iload 4, 2) := dTL_law_10_ok 44 (1067, .iload 4, 2) rfl
theorem dL_law_1069 : decode cL_law 1069 = .ok (.iconst 1, 1) := dTL_law_10_ok 45 (1069, .iconst 1, 1) rfl
theorem dL_law_1070 : decode cL_law 1070 = .ok (.iadd, 1) := dTL_law_10_ok 46 (1070, .iadd, 1) rfl
theorem dL_law_1071 : decode cL_law 1071 = .ok (.iaload, 1) := dTL_law_10_ok 47 (1071, .iaload, 1) rfl
theorem dL_law_1072 : decode cL_law 1072 = .ok (.aload_n 3, 1) := dTL_law_10_ok 48 (1072, .aload_n 3, 1) rfl
theorem dL_law_1073 : decode cL_law 1073 = .ok (.invokestatic 131, 3) := dTL_law_10_ok 49 (1073, .invokestatic 131, 3) rfl
theorem dL_law_1076 : decode cL_law 1076 = .ok (.istore 5, 2) := dTL_law_10_ok 50 (1076, .istore 5, 2) rfl
theorem dL_law_1078 : decode cL_law 1078 = .ok (.aload_n 2, 1) := dTL_law_10_ok 51 (1078, .aload_n 2, 1) rfl
theorem dL_law_1079 : decode cL_law 1079 = .ok (.aload_n 0, 1) := dTL_law_10_ok 52 (1079, .aload_n 0, 1) rfl
theorem dL_law_1080 : decode cL_law 1080 = .ok (.iload 4, 2) := dTL_law_10_ok 53 (1080, .iload 4, 2) rfl
theorem dL_law_1082 : decode cL_law 1082 = .ok (.iconst 1, 1) := dTL_law_10_ok 54 (1082, .iconst 1, 1) rfl
theorem dL_law_1083 : decode cL_law 1083 = .ok (.iadd, 1) := dTL_law_10_ok 55 (1083, .iadd, 1) rfl
theorem dL_law_1084 : decode cL_law 1084 = .ok (.iaload, 1) := dTL_law_10_ok 56 (1084, .iaload, 1) rfl
theorem dL_law_1085 : decode cL_law 1085 = .ok (.invokevirtual 133, 3) := dTL_law_10_ok 57 (1085, .invokevirtual 133, 3) rfl
theorem dL_law_1088 : decode cL_law 1088 = .ok (.istore 6, 2) := dTL_law_10_ok 58 (1088, .istore 6, 2) rfl
theorem dL_law_1090 : decode cL_law 1090 = .ok (.aload_n 2, 1) := dTL_law_10_ok 59 (1090, .aload_n 2, 1) rfl
noncomputable def dTL_law_11 : List (Nat × Instr × Nat) := [(1091, .invokevirtual 91, 3), (1094, .iload 5, 2), (1096, .if_icmp .eq 5, 3), (1099, .iconst 0, 1), (1100, .ireturn, 1), (1101, .iload 5, 2), (1103, .ifCond .ne 15, 3), (1106, .aload_n 3, 1), (1107, .iconst 0, 1), (1108, .laload, 1), (1109, .iload 6, 2), (1111, .i2l, 1), (1112, .lcmp, 1), (1113, .ifCond .eq 5, 3), (1116, .iconst 0, 1), (1117, .ireturn, 1), (1118, .goto 522, 3), (1121, .aload_n 1, 1), (1122, .aload_n 0, 1), (1123, .iload 4, 2), (1125, .iconst 1, 1), (1126, .iadd, 1), (1127, .iaload, 1), (1128, .aload_n 0, 1), (1129, .iload 4, 2), (1131, .iconst 2, 1), (1132, .iadd, 1), (1133, .iaload, 1), (1134, .aload_n 3, 1), (1135, .invokestatic 134, 3), (1138, .istore 5, 2), (1140, .aload_n 2, 1), (1141, .aload_n 0, 1), (1142, .iload 4, 2), (1144, .iconst 1, 1), (1145, .iadd, 1), (1146, .iaload, 1), (1147, .aload_n 0, 1), (1148, .iload 4, 2), (1150, .iconst 2, 1), (1151, .iadd, 1), (1152, .iaload, 1), (1153, .invokevirtual 136, 3), (1156, .istore 6, 2), (1158, .aload_n 2, 1), (1159, .invokevirtual 91, 3), (1162, .iload 5, 2), (1164, .if_icmp .eq 5, 3), (1167, .iconst 0, 1), (1168, .ireturn, 1), (1169, .iload 5, 2), (1171, .ifCond .ne 15, 3), (1174, .aload_n 3, 1), (1175, .iconst 0, 1), (1176, .laload, 1), (1177, .iload 6, 2), (1179, .i2l, 1), (1180, .lcmp, 1), (1181, .ifCond .eq 5, 3), (1184, .iconst 0, 1)]
theorem dTL_law_11_ok : ∀ (k : Nat) (q : Nat × Instr × Nat), dTL_law_11[k]? = some q → decode cL_law q.1 = .ok q.2 := dT_of (by decide +kernel)
theorem dL_law_1091 : decode cL_law 1091 = .ok (.invokevirtual 91, 3) := dTL_law_11_ok 0 (1091, .invokevirtual 91, 3) rfl
theorem dL_law_1094 : decode cL_law 1094 = .ok (.iload 5, 2) := dTL_law_11_ok 1 (1094, .iload 5, 2) rfl
theorem dL_law_1096 : decode cL_law 1096 = .ok (.if_icmp .eq 5, 3) := dTL_law_11_ok 2 (1096, .if_icmp .eq 5, 3) rfl
theorem dL_law_1099 : decode cL_law 1099 = .ok (.iconst 0, 1) := dTL_law_11_ok 3 (1099, .iconst 0, 1) rfl
theorem dL_law_1100 : decode cL_law 1100 = .ok (.ireturn, 1) := dTL_law_11_ok 4 (1100, .ireturn, 1) rfl
theorem dL_law_1101 : decode cL_law 1101 = .ok (.iload 5, 2) := dTL_law_11_ok 5 (1101, .iload 5, 2) rfl
theorem dL_law_1103 : decode cL_law 1103 = .ok (.ifCond .ne 15, 3) := dTL_law_11_ok 6 (1103, .ifCond .ne 15, 3) rfl
theorem dL_law_1106 : decode cL_law 1106 = .ok (.aload_n 3, 1) := dTL_law_11_ok 7 (1106, .aload_n 3, 1) rfl
theorem dL_law_1107 : decode cL_law 1107 = .ok (.iconst 0, 1) := dTL_law_11_ok 8 (1107, .iconst 0, 1) rfl
theorem dL_law_1108 : decode cL_law 1108 = .ok (.laload, 1) := dTL_law_11_ok 9 (1108, .laload, 1) rfl
theorem dL_law_1109 : decode cL_law 1109 = .ok (.iload 6, 2) := dTL_law_11_ok 10 (1109, .iload 6, 2) rfl
theorem dL_law_1111 : decode cL_law 1111 = .ok (.i2l, 1) := dTL_law_11_ok 11 (1111, .i2l, 1) rfl
theorem dL_law_1112 : decode cL_law 1112 = .ok (.lcmp, 1) := dTL_law_11_ok 12 (1112, .lcmp, 1) rfl
theorem dL_law_1113 : decode cL_law 1113 = .ok (.ifCond .eq 5, 3) := dTL_law_11_ok 13 (1113, .ifCond .eq 5, 3) rfl
theorem dL_law_1116 : decode cL_law 1116 = .ok (.iconst 0, 1) := dTL_law_11_ok 14 (1116, .iconst 0, 1) rfl
theorem dL_law_1117 : decode cL_law 1117 = .ok (.ireturn, 1) := dTL_law_11_ok 15 (1117, .ireturn, 1) rfl
theorem dL_law_1118 : decode cL_law 1118 = .ok (.goto 522, 3) := dTL_law_11_ok 16 (1118, .goto 522, 3) rfl
theorem dL_law_1121 : decode cL_law 1121 = .ok (.aload_n 1, 1) := dTL_law_11_ok 17 (1121, .aload_n 1, 1) rfl
theorem dL_law_1122 : decode cL_law 1122 = .ok (.aload_n 0, 1) := dTL_law_11_ok 18 (1122, .aload_n 0, 1) rfl
theorem dL_law_1123 : decode cL_law 1123 = .ok (.iload 4, 2) := dTL_law_11_ok 19 (1123, .iload 4, 2) rfl
theorem dL_law_1125 : decode cL_law 1125 = .ok (.iconst 1, 1) := dTL_law_11_ok 20 (1125, .iconst 1, 1) rfl
theorem dL_law_1126 : decode cL_law 1126 = .ok (.iadd, 1) := dTL_law_11_ok 21 (1126, .iadd, 1) rfl
theorem dL_law_1127 : decode cL_law 1127 = .ok (.iaload, 1) := dTL_law_11_ok 22 (1127, .iaload, 1) rfl
theorem dL_law_1128 : decode cL_law 1128 = .ok (.aload_n 0, 1) := dTL_law_11_ok 23 (1128, .aload_n 0, 1) rfl
theorem dL_law_1129 : decode cL_law 1129 = .ok (.iload 4, 2) := dTL_law_11_ok 24 (1129, .iload 4, 2) rfl
theorem dL_law_1131 : decode cL_law 1131 = .ok (.iconst 2, 1) := dTL_law_11_ok 25 (1131, .iconst 2, 1) rfl
theorem dL_law_1132 : decode cL_law 1132 = .ok (.iadd, 1) := dTL_law_11_ok 26 (1132, .iadd, 1) rfl
theorem dL_law_1133 : decode cL_law 1133 = .ok (.iaload, 1) := dTL_law_11_ok 27 (1133, .iaload, 1) rfl
theorem dL_law_1134 : decode cL_law 1134 = .ok (.aload_n 3, 1) := dTL_law_11_ok 28 (1134, .aload_n 3, 1) rfl
theorem dL_law_1135 : decode cL_law 1135 = .ok (.invokestatic 134, 3) := dTL_law_11_ok 29 (1135, .invokestatic 134, 3) rfl
theorem dL_law_1138 : decode cL_law 1138 = .ok (.istore 5, 2) := dTL_law_11_ok 30 (1138, .istore 5, 2) rfl
theorem dL_law_1140 : decode cL_law 1140 = .ok (.aload_n 2, 1) := dTL_law_11_ok 31 (1140, .aload_n 2, 1) rfl
theorem dL_law_1141 : decode cL_law 1141 = .ok (.aload_n 0, 1) := dTL_law_11_ok 32 (1141, .aload_n 0, 1) rfl
theorem dL_law_1142 : decode cL_law 1142 = .ok (.iload 4, 2) := dTL_law_11_ok 33 (1142, .iload 4, 2) rfl
theorem dL_law_1144 : decode cL_law 1144 = .ok (.iconst 1, 1) := dTL_law_11_ok 34 (1144, .iconst 1, 1) rfl
theorem dL_law_1145 : decode cL_law 1145 = .ok (.iadd, 1) := dTL_law_11_ok 35 (1145, .iadd, 1) rfl
theorem dL_law_1146 : decode cL_law 1146 = .ok (.iaload, 1) := dTL_law_11_ok 36 (1146, .iaload, 1) rfl
theorem dL_law_1147 : decode cL_law 1147 = .ok (.aload_n 0, 1) := dTL_law_11_ok 37 (1147, .aload_n 0, 1) rfl
theorem dL_law_1148 : decode cL_law 1148 = .ok (.iload 4, 2) := dTL_law_11_ok 38 (1148, .iload 4, 2) rfl
theorem dL_law_1150 : decode cL_law 1150 = .ok (.iconst 2, 1) := dTL_law_11_ok 39 (1150, .iconst 2, 1) rfl
theorem dL_law_1151 : decode cL_law 1151 = .ok (.iadd, 1) := dTL_law_11_ok 40 (1151, .iadd, 1) rfl
theorem dL_law_1152 : decode cL_law 1152 = .ok (.iaload, 1) := dTL_law_11_ok 41 (1152, .iaload, 1) rfl
theorem dL_law_1153 : decode cL_law 1153 = .ok (.invokevirtual 136, 3) := dTL_law_11_ok 42 (1153, .invokevirtual 136, 3) rfl
theorem dL_law_1156 : decode cL_law 1156 = .ok (.istore 6, 2) := dTL_law_11_ok 43 (1156, .istore 6, 2) rfl
theorem dL_law_1158 : decode cL_law 1158 = .ok (.aload_n 2, 1) := dTL_law_11_ok 44 (1158, .aload_n 2, 1) rfl
theorem dL_law_1159 : decode cL_law 1159 = .ok (.invokevirtual 91, 3) := dTL_law_11_ok 45 (1159, .invokevirtual 91, 3) rfl
theorem dL_law_1162 : decode cL_law 1162 = .ok (.iload 5, 2) := dTL_law_11_ok 46 (1162, .iload 5, 2) rfl
theorem dL_law_1164 : decode cL_law 1164 = .ok (.if_icmp .eq 5, 3) := dTL_law_11_ok 47 (1164, .if_icmp .eq 5, 3) rfl
theorem dL_law_1167 : decode cL_law 1167 = .ok (.iconst 0, 1) := dTL_law_11_ok 48 (1167, .iconst 0, 1) rfl
theorem dL_law_1168 : decode cL_law 1168 = .ok (.ireturn, 1) := dTL_law_11_ok 49 (1168, .ireturn, 1) rfl
theorem dL_law_1169 : decode cL_law 1169 = .ok (.iload 5, 2) := dTL_law_11_ok 50 (1169, .iload 5, 2) rfl
theorem dL_law_1171 : decode cL_law 1171 = .ok (.ifCond .ne 15, 3) := dTL_law_11_ok 51 (1171, .ifCond .ne 15, 3) rfl
theorem dL_law_1174 : decode cL_law 1174 = .ok (.aload_n 3, 1) := dTL_law_11_ok 52 (1174, .aload_n 3, 1) rfl
theorem dL_law_1175 : decode cL_law 1175 = .ok (.iconst 0, 1) := dTL_law_11_ok 53 (1175, .iconst 0, 1) rfl
theorem dL_law_1176 : decode cL_law 1176 = .ok (.laload, 1) := dTL_law_11_ok 54 (1176, .laload, 1) rfl
theorem dL_law_1177 : decode cL_law 1177 = .ok (.iload 6, 2) := dTL_law_11_ok 55 (1177, .iload 6, 2) rfl
theorem dL_law_1179 : decode cL_law 1179 = .ok (.i2l, 1) := dTL_law_11_ok 56 (1179, .i2l, 1) rfl
theorem dL_law_1180 : decode cL_law 1180 = .ok (.lcmp, 1) := dTL_law_11_ok 57 (1180, .lcmp, 1) rfl
theorem dL_law_1181 : decode cL_law 1181 = .ok (.ifCond .eq 5, 3) := dTL_law_11_ok 58 (1181, .ifCond .eq 5, 3) rfl
theorem dL_law_1184 : decode cL_law 1184 = .ok (.iconst 0, 1) := dTL_law_11_ok 59 (1184, .iconst 0, 1) rfl
noncomputable def dTL_law_12 : List (Nat × Instr × Nat) := [(1185, .ireturn, 1), (1186, .goto 454, 3), (1189, .aload_n 1, 1), (1190, .aload_n 0, 1), (1191, .iload 4, 2), (1193, .iconst 1, 1), (1194, .iadd, 1), (1195, .iaload, 1), (1196, .aload_n 0, 1), (1197, .iload 4, 2), (1199, .iconst 2, 1), (1200, .iadd, 1), (1201, .iaload, 1), (1202, .aload_n 0, 1), (1203, .iload 4, 2), (1205, .iconst 3, 1), (1206, .iadd, 1), (1207, .iaload, 1), (1208, .aload_n 3, 1), (1209, .invokestatic 137, 3), (1212, .istore 5, 2), (1214, .aload_n 2, 1), (1215, .aload_n 0, 1), (1216, .iload 4, 2), (1218, .iconst 1, 1), (1219, .iadd, 1), (1220, .iaload, 1), (1221, .aload_n 0, 1), (1222, .iload 4, 2), (1224, .iconst 2, 1), (1225, .iadd, 1), (1226, .iaload, 1), (1227, .aload_n 0, 1), (1228, .iload 4, 2), (1230, .iconst 3, 1), (1231, .iadd, 1), (1232, .iaload, 1), (1233, .invokevirtual 139, 3), (1236, .istore 6, 2), (1238, .aload_n 2, 1), (1239, .invokevirtual 91, 3), (1242, .iload 5, 2), (1244, .if_icmp .eq 5, 3), (1247, .iconst 0, 1), (1248, .ireturn, 1), (1249, .iload 5, 2), (1251, .ifCond .ne 15, 3), (1254, .aload_n 3, 1), (1255, .iconst 0, 1), (1256, .laload, 1), (1257, .iload 6, 2), (1259, .i2l, 1), (1260, .lcmp, 1), (1261, .ifCond .eq 5, 3), (1264, .iconst 0, 1), (1265, .ireturn, 1), (1266, .goto 374, 3), (1269, .aload_n 1, 1), (1270, .aload_n 0, 1), (1271, .iload 4, 2)]
theorem dTL_law_12_ok : ∀ (k : Nat) (q : Nat × Instr × Nat), dTL_law_12[k]? = some q → decode cL_law q.1 = .ok q.2 := dT_of (by decide +kernel)
theorem dL_law_1185 : decode cL_law 1185 = .ok (.ireturn, 1) := dTL_law_12_ok 0 (1185, .ireturn, 1) rfl
theorem dL_law_1186 : decode cL_law 1186 = .ok (.goto 454, 3) := dTL_law_12_ok 1 (1186, .goto 454, 3) rfl
theorem dL_law_1189 : decode cL_law 1189 = .ok (.aload_n 1, 1) := dTL_law_12_ok 2 (1189, .aload_n 1, 1) rfl
theorem dL_law_1190 : decode cL_law 1190 = .ok (.aload_n 0, 1) := dTL_law_12_ok 3 (1190, .aload_n 0, 1) rfl
theorem dL_law_1191 : decode cL_law 1191 = .ok (.iload 4, 2) := dTL_law_12_ok 4 (1191, .iload 4, 2) rfl
theorem dL_law_1193 : decode cL_law 1193 = .ok (.iconst 1, 1) := dTL_law_12_ok 5 (1193, .iconst 1, 1) rfl
theorem dL_law_1194 : decode cL_law 1194 = .ok (.iadd, 1) := dTL_law_12_ok 6 (1194, .iadd, 1) rfl
theorem dL_law_1195 : decode cL_law 1195 = .ok (.iaload, 1) := dTL_law_12_ok 7 (1195, .iaload, 1) rfl
theorem dL_law_1196 : decode cL_law 1196 = .ok (.aload_n 0, 1) := dTL_law_12_ok 8 (1196, .aload_n 0, 1) rfl
theorem dL_law_1197 : decode cL_law 1197 = .ok (.iload 4, 2) := dTL_law_12_ok 9 (1197, .iload 4, 2) rfl
theorem dL_law_1199 : decode cL_law 1199 = .ok (.iconst 2, 1) := dTL_law_12_ok 10 (1199, .iconst 2, 1) rfl
theorem dL_law_1200 : decode cL_law 1200 = .ok (.iadd, 1) := dTL_law_12_ok 11 (1200, .iadd, 1) rfl
theorem dL_law_1201 : decode cL_law 1201 = .ok (.iaload, 1) := dTL_law_12_ok 12 (1201, .iaload, 1) rfl
theorem dL_law_1202 : decode cL_law 1202 = .ok (.aload_n 0, 1) := dTL_law_12_ok 13 (1202, .aload_n 0, 1) rfl
theorem dL_law_1203 : decode cL_law 1203 = .ok (.iload 4, 2) := dTL_law_12_ok 14 (1203, .iload 4, 2) rfl
theorem dL_law_1205 : decode cL_law 1205 = .ok (.iconst 3, 1) := dTL_law_12_ok 15 (1205, .iconst 3, 1) rfl
theorem dL_law_1206 : decode cL_law 1206 = .ok (.iadd, 1) := dTL_law_12_ok 16 (1206, .iadd, 1) rfl
theorem dL_law_1207 : decode cL_law 1207 = .ok (.iaload, 1) := dTL_law_12_ok 17 (1207, .iaload, 1) rfl
theorem dL_law_1208 : decode cL_law 1208 = .ok (.aload_n 3, 1) := dTL_law_12_ok 18 (1208, .aload_n 3, 1) rfl
theorem dL_law_1209 : decode cL_law 1209 = .ok (.invokestatic 137, 3) := dTL_law_12_ok 19 (1209, .invokestatic 137, 3) rfl
theorem dL_law_1212 : decode cL_law 1212 = .ok (.istore 5, 2) := dTL_law_12_ok 20 (1212, .istore 5, 2) rfl
theorem dL_law_1214 : decode cL_law 1214 = .ok (.aload_n 2, 1) := dTL_law_12_ok 21 (1214, .aload_n 2, 1) rfl
theorem dL_law_1215 : decode cL_law 1215 = .ok (.aload_n 0, 1) := dTL_law_12_ok 22 (1215, .aload_n 0, 1) rfl
theorem dL_law_1216 : decode cL_law 1216 = .ok (.iload 4, 2) := dTL_law_12_ok 23 (1216, .iload 4, 2) rfl
theorem dL_law_1218 : decode cL_law 1218 = .ok (.iconst 1, 1) := dTL_law_12_ok 24 (1218, .iconst 1, 1) rfl
theorem dL_law_1219 : decode cL_law 1219 = .ok (.iadd, 1) := dTL_law_12_ok 25 (1219, .iadd, 1) rfl
theorem dL_law_1220 : decode cL_law 1220 = .ok (.iaload, 1) := dTL_law_12_ok 26 (1220, .iaload, 1) rfl
theorem dL_law_1221 : decode cL_law 1221 = .ok (.aload_n 0, 1) := dTL_law_12_ok 27 (1221, .aload_n 0, 1) rfl
theorem dL_law_1222 : decode cL_law 1222 = .ok (.iload 4, 2) := dTL_law_12_ok 28 (1222, .iload 4, 2) rfl
theorem dL_law_1224 : decode cL_law 1224 = .ok (.iconst 2, 1) := dTL_law_12_ok 29 (1224, .iconst 2, 1) rfl
theorem dL_law_1225 : decode cL_law 1225 = .ok (.iadd, 1) := dTL_law_12_ok 30 (1225, .iadd, 1) rfl
theorem dL_law_1226 : decode cL_law 1226 = .ok (.iaload, 1) := dTL_law_12_ok 31 (1226, .iaload, 1) rfl
theorem dL_law_1227 : decode cL_law 1227 = .ok (.aload_n 0, 1) := dTL_law_12_ok 32 (1227, .aload_n 0, 1) rfl
theorem dL_law_1228 : decode cL_law 1228 = .ok (.iload 4, 2) := dTL_law_12_ok 33 (1228, .iload 4, 2) rfl
theorem dL_law_1230 : decode cL_law 1230 = .ok (.iconst 3, 1) := dTL_law_12_ok 34 (1230, .iconst 3, 1) rfl
theorem dL_law_1231 : decode cL_law 1231 = .ok (.iadd, 1) := dTL_law_12_ok 35 (1231, .iadd, 1) rfl
theorem dL_law_1232 : decode cL_law 1232 = .ok (.iaload, 1) := dTL_law_12_ok 36 (1232, .iaload, 1) rfl
theorem dL_law_1233 : decode cL_law 1233 = .ok (.invokevirtual 139, 3) := dTL_law_12_ok 37 (1233, .invokevirtual 139, 3) rfl
theorem dL_law_1236 : decode cL_law 1236 = .ok (.istore 6, 2) := dTL_law_12_ok 38 (1236, .istore 6, 2) rfl
theorem dL_law_1238 : decode cL_law 1238 = .ok (.aload_n 2, 1) := dTL_law_12_ok 39 (1238, .aload_n 2, 1) rfl
theorem dL_law_1239 : decode cL_law 1239 = .ok (.invokevirtual 91, 3) := dTL_law_12_ok 40 (1239, .invokevirtual 91, 3) rfl
theorem dL_law_1242 : decode cL_law 1242 = .ok (.iload 5, 2) := dTL_law_12_ok 41 (1242, .iload 5, 2) rfl
theorem dL_law_1244 : decode cL_law 1244 = .ok (.if_icmp .eq 5, 3) := dTL_law_12_ok 42 (1244, .if_icmp .eq 5, 3) rfl
theorem dL_law_1247 : decode cL_law 1247 = .ok (.iconst 0, 1) := dTL_law_12_ok 43 (1247, .iconst 0, 1) rfl
theorem dL_law_1248 : decode cL_law 1248 = .ok (.ireturn, 1) := dTL_law_12_ok 44 (1248, .ireturn, 1) rfl
theorem dL_law_1249 : decode cL_law 1249 = .ok (.iload 5, 2) := dTL_law_12_ok 45 (1249, .iload 5, 2) rfl
theorem dL_law_1251 : decode cL_law 1251 = .ok (.ifCond .ne 15, 3) := dTL_law_12_ok 46 (1251, .ifCond .ne 15, 3) rfl
theorem dL_law_1254 : decode cL_law 1254 = .ok (.aload_n 3, 1) := dTL_law_12_ok 47 (1254, .aload_n 3, 1) rfl
theorem dL_law_1255 : decode cL_law 1255 = .ok (.iconst 0, 1) := dTL_law_12_ok 48 (1255, .iconst 0, 1) rfl
theorem dL_law_1256 : decode cL_law 1256 = .ok (.laload, 1) := dTL_law_12_ok 49 (1256, .laload, 1) rfl
theorem dL_law_1257 : decode cL_law 1257 = .ok (.iload 6, 2) := dTL_law_12_ok 50 (1257, .iload 6, 2) rfl
theorem dL_law_1259 : decode cL_law 1259 = .ok (.i2l, 1) := dTL_law_12_ok 51 (1259, .i2l, 1) rfl
theorem dL_law_1260 : decode cL_law 1260 = .ok (.lcmp, 1) := dTL_law_12_ok 52 (1260, .lcmp, 1) rfl
theorem dL_law_1261 : decode cL_law 1261 = .ok (.ifCond .eq 5, 3) := dTL_law_12_ok 53 (1261, .ifCond .eq 5, 3) rfl
theorem dL_law_1264 : decode cL_law 1264 = .ok (.iconst 0, 1) := dTL_law_12_ok 54 (1264, .iconst 0, 1) rfl
theorem dL_law_1265 : decode cL_law 1265 = .ok (.ireturn, 1) := dTL_law_12_ok 55 (1265, .ireturn, 1) rfl
theorem dL_law_1266 : decode cL_law 1266 = .ok (.goto 374, 3) := dTL_law_12_ok 56 (1266, .goto 374, 3) rfl
theorem dL_law_1269 : decode cL_law 1269 = .ok (.aload_n 1, 1) := dTL_law_12_ok 57 (1269, .aload_n 1, 1) rfl
theorem dL_law_1270 : decode cL_law 1270 = .ok (.aload_n 0, 1) := dTL_law_12_ok 58 (1270, .aload_n 0, 1) rfl
theorem dL_law_1271 : decode cL_law 1271 = .ok (.iload 4, 2) := dTL_law_12_ok 59 (1271, .iload 4, 2) rfl
noncomputable def dTL_law_13 : List (Nat × Instr × Nat) := [(1273, .iconst 1, 1), (1274, .iadd, 1), (1275, .iaload, 1), (1276, .aload_n 3, 1), (1277, .invokestatic 140, 3), (1280, .istore 5, 2), (1282, .aload_n 2, 1), (1283, .aload_n 0, 1), (1284, .iload 4, 2), (1286, .iconst 1, 1), (1287, .iadd, 1), (1288, .iaload, 1), (1289, .invokevirtual 142, 3), (1292, .istore 6, 2), (1294, .aload_n 2, 1), (1295, .invokevirtual 91, 3), (1298, .iload 5, 2), (1300, .if_icmp .eq 5, 3), (1303, .iconst 0, 1), (1304, .ireturn, 1), (1305, .iload 5, 2), (1307, .ifCond .ne 15, 3), (1310, .aload_n 3, 1), (1311, .iconst 0, 1), (1312, .laload, 1), (1313, .iload 6, 2), (1315, .i2l, 1), (1316, .lcmp, 1), (1317, .ifCond .eq 5, 3), (1320, .iconst 0, 1), (1321, .ireturn, 1), (1322, .goto 318, 3), (1325, .aload_n 1, 1), (1326, .aload_n 0, 1), (1327, .iload 4, 2), (1329, .iconst 1, 1), (1330, .iadd, 1), (1331, .iaload, 1), (1332, .aload_n 3, 1), (1333, .invokestatic 143, 3), (1336, .istore 5, 2), (1338, .aload_n 2, 1), (1339, .aload_n 0, 1), (1340, .iload 4, 2), (1342, .iconst 1, 1), (1343, .iadd, 1), (1344, .iaload, 1), (1345, .invokevirtual 145, 3), (1348, .istore 6, 2), (1350, .aload_n 2, 1), (1351, .invokevirtual 91, 3), (1354, .iload 5, 2), (1356, .if_icmp .eq 5, 3), (1359, .iconst 0, 1), (1360, .ireturn, 1), (1361, .iload 5, 2), (1363, .ifCond .ne 15, 3), (1366, .aload_n 3, 1), (1367, .iconst 0, 1), (1368, .laload, 1)]
theorem dTL_law_13_ok : ∀ (k : Nat) (q : Nat × Instr × Nat), dTL_law_13[k]? = some q → decode cL_law q.1 = .ok q.2 := dT_of (by decide +kernel)
theorem dL_law_1273 : decode cL_law 1273 = .ok (.iconst 1, 1) := dTL_law_13_ok 0 (1273, .iconst 1, 1) rfl
theorem dL_law_1274 : decode cL_law 1274 = .ok (.iadd, 1) := dTL_law_13_ok 1 (1274, .iadd, 1) rfl
theorem dL_law_1275 : decode cL_law 1275 = .ok (.iaload, 1) := dTL_law_13_ok 2 (1275, .iaload, 1) rfl
theorem dL_law_1276 : decode cL_law 1276 = .ok (.aload_n 3, 1) := dTL_law_13_ok 3 (1276, .aload_n 3, 1) rfl
theorem dL_law_1277 : decode cL_law 1277 = .ok (.invokestatic 140, 3) := dTL_law_13_ok 4 (1277, .invokestatic 140, 3) rfl
theorem dL_law_1280 : decode cL_law 1280 = .ok (.istore 5, 2) := dTL_law_13_ok 5 (1280, .istore 5, 2) rfl
theorem dL_law_1282 : decode cL_law 1282 = .ok (.aload_n 2, 1) := dTL_law_13_ok 6 (1282, .aload_n 2, 1) rfl
theorem dL_law_1283 : decode cL_law 1283 = .ok (.aload_n 0, 1) := dTL_law_13_ok 7 (1283, .aload_n 0, 1) rfl
theorem dL_law_1284 : decode cL_law 1284 = .ok (.iload 4, 2) := dTL_law_13_ok 8 (1284, .iload 4, 2) rfl
theorem dL_law_1286 : decode cL_law 1286 = .ok (.iconst 1, 1) := dTL_law_13_ok 9 (1286, .iconst 1, 1) rfl
theorem dL_law_1287 : decode cL_law 1287 = .ok (.iadd, 1) := dTL_law_13_ok 10 (1287, .iadd, 1) rfl
theorem dL_law_1288 : decode cL_law 1288 = .ok (.iaload, 1) := dTL_law_13_ok 11 (1288, .iaload, 1) rfl
theorem dL_law_1289 : decode cL_law 1289 = .ok (.invokevirtual 142, 3) := dTL_law_13_ok 12 (1289, .invokevirtual 142, 3) rfl
theorem dL_law_1292 : decode cL_law 1292 = .ok (.istore 6, 2) := dTL_law_13_ok 13 (1292, .istore 6, 2) rfl
theorem dL_law_1294 : decode cL_law 1294 = .ok (.aload_n 2, 1) := dTL_law_13_ok 14 (1294, .aload_n 2, 1) rfl
theorem dL_law_1295 : decode cL_law 1295 = .ok (.invokevirtual 91, 3) := dTL_law_13_ok 15 (1295, .invokevirtual 91, 3) rfl
theorem dL_law_1298 : decode cL_law 1298 = .ok (.iload 5, 2) := dTL_law_13_ok 16 (1298, .iload 5, 2) rfl
theorem dL_law_1300 : decode cL_law 1300 = .ok (.if_icmp .eq 5, 3) := dTL_law_13_ok 17 (1300, .if_icmp .eq 5, 3) rfl
theorem dL_law_1303 : decode cL_law 1303 = .ok (.iconst 0, 1) := dTL_law_13_ok 18 (1303, .iconst 0, 1) rfl
theorem dL_law_1304 : decode cL_law 1304 = .ok (.ireturn, 1) := dTL_law_13_ok 19 (1304, .ireturn, 1) rfl
theorem dL_law_1305 : decode cL_law 1305 = .ok (.iload 5, 2) := dTL_law_13_ok 20 (1305, .iload 5, 2) rfl
theorem dL_law_1307 : decode cL_law 1307 = .ok (.ifCond .ne 15, 3) := dTL_law_13_ok 21 (1307, .ifCond .ne 15, 3) rfl
theorem dL_law_1310 : decode cL_law 1310 = .ok (.aload_n 3, 1) := dTL_law_13_ok 22 (1310, .aload_n 3, 1) rfl
theorem dL_law_1311 : decode cL_law 1311 = .ok (.iconst 0, 1) := dTL_law_13_ok 23 (1311, .iconst 0, 1) rfl
theorem dL_law_1312 : decode cL_law 1312 = .ok (.laload, 1) := dTL_law_13_ok 24 (1312, .laload, 1) rfl
theorem dL_law_1313 : decode cL_law 1313 = .ok (.iload 6, 2) := dTL_law_13_ok 25 (1313, .iload 6, 2) rfl
theorem dL_law_1315 : decode cL_law 1315 = .ok (.i2l, 1) := dTL_law_13_ok 26 (1315, .i2l, 1) rfl
theorem dL_law_1316 : decode cL_law 1316 = .ok (.lcmp, 1) := dTL_law_13_ok 27 (1316, .lcmp, 1) rfl
theorem dL_law_1317 : decode cL_law 1317 = .ok (.ifCond .eq 5, 3) := dTL_law_13_ok 28 (1317, .ifCond .eq 5, 3) rfl
theorem dL_law_1320 : decode cL_law 1320 = .ok (.iconst 0, 1) := dTL_law_13_ok 29 (1320, .iconst 0, 1) rfl
theorem dL_law_1321 : decode cL_law 1321 = .ok (.ireturn, 1) := dTL_law_13_ok 30 (1321, .ireturn, 1) rfl
theorem dL_law_1322 : decode cL_law 1322 = .ok (.goto 318, 3) := dTL_law_13_ok 31 (1322, .goto 318, 3) rfl
theorem dL_law_1325 : decode cL_law 1325 = .ok (.aload_n 1, 1) := dTL_law_13_ok 32 (1325, .aload_n 1, 1) rfl
theorem dL_law_1326 : decode cL_law 1326 = .ok (.aload_n 0, 1) := dTL_law_13_ok 33 (1326, .aload_n 0, 1) rfl
theorem dL_law_1327 : decode cL_law 1327 = .ok (.iload 4, 2) := dTL_law_13_ok 34 (1327, .iload 4, 2) rfl
theorem dL_law_1329 : decode cL_law 1329 = .ok (.iconst 1, 1) := dTL_law_13_ok 35 (1329, .iconst 1, 1) rfl
theorem dL_law_1330 : decode cL_law 1330 = .ok (.iadd, 1) := dTL_law_13_ok 36 (1330, .iadd, 1) rfl
theorem dL_law_1331 : decode cL_law 1331 = .ok (.iaload, 1) := dTL_law_13_ok 37 (1331, .iaload, 1) rfl
theorem dL_law_1332 : decode cL_law 1332 = .ok (.aload_n 3, 1) := dTL_law_13_ok 38 (1332, .aload_n 3, 1) rfl
theorem dL_law_1333 : decode cL_law 1333 = .ok (.invokestatic 143, 3) := dTL_law_13_ok 39 (1333, .invokestatic 143, 3) rfl
theorem dL_law_1336 : decode cL_law 1336 = .ok (.istore 5, 2) := dTL_law_13_ok 40 (1336, .istore 5, 2) rfl
theorem dL_law_1338 : decode cL_law 1338 = .ok (.aload_n 2, 1) := dTL_law_13_ok 41 (1338, .aload_n 2, 1) rfl
theorem dL_law_1339 : decode cL_law 1339 = .ok (.aload_n 0, 1) := dTL_law_13_ok 42 (1339, .aload_n 0, 1) rfl
theorem dL_law_1340 : decode cL_law 1340 = .ok (.iload 4, 2) := dTL_law_13_ok 43 (1340, .iload 4, 2) rfl
theorem dL_law_1342 : decode cL_law 1342 = .ok (.iconst 1, 1) := dTL_law_13_ok 44 (1342, .iconst 1, 1) rfl
theorem dL_law_1343 : decode cL_law 1343 = .ok (.iadd, 1) := dTL_law_13_ok 45 (1343, .iadd, 1) rfl
theorem dL_law_1344 : decode cL_law 1344 = .ok (.iaload, 1) := dTL_law_13_ok 46 (1344, .iaload, 1) rfl
theorem dL_law_1345 : decode cL_law 1345 = .ok (.invokevirtual 145, 3) := dTL_law_13_ok 47 (1345, .invokevirtual 145, 3) rfl
theorem dL_law_1348 : decode cL_law 1348 = .ok (.istore 6, 2) := dTL_law_13_ok 48 (1348, .istore 6, 2) rfl
theorem dL_law_1350 : decode cL_law 1350 = .ok (.aload_n 2, 1) := dTL_law_13_ok 49 (1350, .aload_n 2, 1) rfl
theorem dL_law_1351 : decode cL_law 1351 = .ok (.invokevirtual 91, 3) := dTL_law_13_ok 50 (1351, .invokevirtual 91, 3) rfl
theorem dL_law_1354 : decode cL_law 1354 = .ok (.iload 5, 2) := dTL_law_13_ok 51 (1354, .iload 5, 2) rfl
theorem dL_law_1356 : decode cL_law 1356 = .ok (.if_icmp .eq 5, 3) := dTL_law_13_ok 52 (1356, .if_icmp .eq 5, 3) rfl
theorem dL_law_1359 : decode cL_law 1359 = .ok (.iconst 0, 1) := dTL_law_13_ok 53 (1359, .iconst 0, 1) rfl
theorem dL_law_1360 : decode cL_law 1360 = .ok (.ireturn, 1) := dTL_law_13_ok 54 (1360, .ireturn, 1) rfl
theorem dL_law_1361 : decode cL_law 1361 = .ok (.iload 5, 2) := dTL_law_13_ok 55 (1361, .iload 5, 2) rfl
theorem dL_law_1363 : decode cL_law 1363 = .ok (.ifCond .ne 15, 3) := dTL_law_13_ok 56 (1363, .ifCond .ne 15, 3) rfl
theorem dL_law_1366 : decode cL_law 1366 = .ok (.aload_n 3, 1) := dTL_law_13_ok 57 (1366, .aload_n 3, 1) rfl
theorem dL_law_1367 : decode cL_law 1367 = .ok (.iconst 0, 1) := dTL_law_13_ok 58 (1367, .iconst 0, 1) rfl
theorem dL_law_1368 : decode cL_law 1368 = .ok (.laload, 1) := dTL_law_13_ok 59 (1368, .laload, 1) rfl
noncomputable def dTL_law_14 : List (Nat × Instr × Nat) := [(1369, .iload 6, 2), (1371, .i2l, 1), (1372, .lcmp, 1), (1373, .ifCond .eq 5, 3), (1376, .iconst 0, 1), (1377, .ireturn, 1), (1378, .goto 262, 3), (1381, .aload_n 1, 1), (1382, .aload_n 0, 1), (1383, .iload 4, 2), (1385, .iconst 1, 1), (1386, .iadd, 1), (1387, .iaload, 1), (1388, .aload_n 0, 1), (1389, .iload 4, 2), (1391, .iconst 2, 1), (1392, .iadd, 1), (1393, .iaload, 1), (1394, .aload_n 3, 1), (1395, .invokestatic 146, 3), (1398, .istore 5, 2), (1400, .aload_n 2, 1), (1401, .aload_n 0, 1), (1402, .iload 4, 2), (1404, .iconst 1, 1), (1405, .iadd, 1), (1406, .iaload, 1), (1407, .aload_n 0, 1), (1408, .iload 4, 2), (1410, .iconst 2, 1), (1411, .iadd, 1), (1412, .iaload, 1), (1413, .invokevirtual 148, 3), (1416, .istore 6, 2), (1418, .aload_n 2, 1), (1419, .invokevirtual 91, 3), (1422, .iload 5, 2), (1424, .if_icmp .eq 5, 3), (1427, .iconst 0, 1), (1428, .ireturn, 1), (1429, .iload 5, 2), (1431, .ifCond .ne 15, 3), (1434, .aload_n 3, 1), (1435, .iconst 0, 1), (1436, .laload, 1), (1437, .iload 6, 2), (1439, .i2l, 1), (1440, .lcmp, 1), (1441, .ifCond .eq 5, 3), (1444, .iconst 0, 1), (1445, .ireturn, 1), (1446, .goto 194, 3), (1449, .aload_n 1, 1), (1450, .aload_n 0, 1), (1451, .iload 4, 2), (1453, .iconst 1, 1), (1454, .iadd, 1), (1455, .iaload, 1), (1456, .aload_n 0, 1), (1457, .iload 4, 2)]
theorem dTL_law_14_ok : ∀ (k : Nat) (q : Nat × Instr × Nat), dTL_law_14[k]? = some q → decode cL_law q.1 = .ok q.2 := dT_of (by decide +kernel)
theorem dL_law_1369 : decode cL_law 1369 = .ok (.iload 6, 2) := dTL_law_14_ok 0 (1369, .iload 6, 2) rfl
theorem dL_law_1371 : decode cL_law 1371 = .ok (.i2l, 1) := dTL_law_14_ok 1 (1371, .i2l, 1) rfl
theorem dL_law_1372 : decode cL_law 1372 = .ok (.lcmp, 1) := dTL_law_14_ok 2 (1372, .lcmp, 1) rfl
theorem dL_law_1373 : decode cL_law 1373 = .ok (.ifCond .eq 5, 3) := dTL_law_14_ok 3 (1373, .ifCond .eq 5, 3) rfl
theorem dL_law_1376 : decode cL_law 1376 = .ok (.iconst 0, 1) := dTL_law_14_ok 4 (1376, .iconst 0, 1) rfl
theorem dL_law_1377 : decode cL_law 1377 = .ok (.ireturn, 1) := dTL_law_14_ok 5 (1377, .ireturn, 1) rfl
theorem dL_law_1378 : decode cL_law 1378 = .ok (.goto 262, 3) := dTL_law_14_ok 6 (1378, .goto 262, 3) rfl
theorem dL_law_1381 : decode cL_law 1381 = .ok (.aload_n 1, 1) := dTL_law_14_ok 7 (1381, .aload_n 1, 1) rfl
theorem dL_law_1382 : decode cL_law 1382 = .ok (.aload_n 0, 1) := dTL_law_14_ok 8 (1382, .aload_n 0, 1) rfl
theorem dL_law_1383 : decode cL_law 1383 = .ok (.iload 4, 2) := dTL_law_14_ok 9 (1383, .iload 4, 2) rfl
theorem dL_law_1385 : decode cL_law 1385 = .ok (.iconst 1, 1) := dTL_law_14_ok 10 (1385, .iconst 1, 1) rfl
theorem dL_law_1386 : decode cL_law 1386 = .ok (.iadd, 1) := dTL_law_14_ok 11 (1386, .iadd, 1) rfl
theorem dL_law_1387 : decode cL_law 1387 = .ok (.iaload, 1) := dTL_law_14_ok 12 (1387, .iaload, 1) rfl
theorem dL_law_1388 : decode cL_law 1388 = .ok (.aload_n 0, 1) := dTL_law_14_ok 13 (1388, .aload_n 0, 1) rfl
theorem dL_law_1389 : decode cL_law 1389 = .ok (.iload 4, 2) := dTL_law_14_ok 14 (1389, .iload 4, 2) rfl
theorem dL_law_1391 : decode cL_law 1391 = .ok (.iconst 2, 1) := dTL_law_14_ok 15 (1391, .iconst 2, 1) rfl
theorem dL_law_1392 : decode cL_law 1392 = .ok (.iadd, 1) := dTL_law_14_ok 16 (1392, .iadd, 1) rfl
theorem dL_law_1393 : decode cL_law 1393 = .ok (.iaload, 1) := dTL_law_14_ok 17 (1393, .iaload, 1) rfl
theorem dL_law_1394 : decode cL_law 1394 = .ok (.aload_n 3, 1) := dTL_law_14_ok 18 (1394, .aload_n 3, 1) rfl
theorem dL_law_1395 : decode cL_law 1395 = .ok (.invokestatic 146, 3) := dTL_law_14_ok 19 (1395, .invokestatic 146, 3) rfl
theorem dL_law_1398 : decode cL_law 1398 = .ok (.istore 5, 2) := dTL_law_14_ok 20 (1398, .istore 5, 2) rfl
theorem dL_law_1400 : decode cL_law 1400 = .ok (.aload_n 2, 1) := dTL_law_14_ok 21 (1400, .aload_n 2, 1) rfl
theorem dL_law_1401 : decode cL_law 1401 = .ok (.aload_n 0, 1) := dTL_law_14_ok 22 (1401, .aload_n 0, 1) rfl
theorem dL_law_1402 : decode cL_law 1402 = .ok (.iload 4, 2) := dTL_law_14_ok 23 (1402, .iload 4, 2) rfl
theorem dL_law_1404 : decode cL_law 1404 = .ok (.iconst 1, 1) := dTL_law_14_ok 24 (1404, .iconst 1, 1) rfl
theorem dL_law_1405 : decode cL_law 1405 = .ok (.iadd, 1) := dTL_law_14_ok 25 (1405, .iadd, 1) rfl
theorem dL_law_1406 : decode cL_law 1406 = .ok (.iaload, 1) := dTL_law_14_ok 26 (1406, .iaload, 1) rfl
theorem dL_law_1407 : decode cL_law 1407 = .ok (.aload_n 0, 1) := dTL_law_14_ok 27 (1407, .aload_n 0, 1) rfl
theorem dL_law_1408 : decode cL_law 1408 = .ok (.iload 4, 2) := dTL_law_14_ok 28 (1408, .iload 4, 2) rfl
theorem dL_law_1410 : decode cL_law 1410 = .ok (.iconst 2, 1) := dTL_law_14_ok 29 (1410, .iconst 2, 1) rfl
theorem dL_law_1411 : decode cL_law 1411 = .ok (.iadd, 1) := dTL_law_14_ok 30 (1411, .iadd, 1) rfl
theorem dL_law_1412 : decode cL_law 1412 = .ok (.iaload, 1) := dTL_law_14_ok 31 (1412, .iaload, 1) rfl
theorem dL_law_1413 : decode cL_law 1413 = .ok (.invokevirtual 148, 3) := dTL_law_14_ok 32 (1413, .invokevirtual 148, 3) rfl
theorem dL_law_1416 : decode cL_law 1416 = .ok (.istore 6, 2) := dTL_law_14_ok 33 (1416, .istore 6, 2) rfl
theorem dL_law_1418 : decode cL_law 1418 = .ok (.aload_n 2, 1) := dTL_law_14_ok 34 (1418, .aload_n 2, 1) rfl
theorem dL_law_1419 : decode cL_law 1419 = .ok (.invokevirtual 91, 3) := dTL_law_14_ok 35 (1419, .invokevirtual 91, 3) rfl
theorem dL_law_1422 : decode cL_law 1422 = .ok (.iload 5, 2) := dTL_law_14_ok 36 (1422, .iload 5, 2) rfl
theorem dL_law_1424 : decode cL_law 1424 = .ok (.if_icmp .eq 5, 3) := dTL_law_14_ok 37 (1424, .if_icmp .eq 5, 3) rfl
theorem dL_law_1427 : decode cL_law 1427 = .ok (.iconst 0, 1) := dTL_law_14_ok 38 (1427, .iconst 0, 1) rfl
theorem dL_law_1428 : decode cL_law 1428 = .ok (.ireturn, 1) := dTL_law_14_ok 39 (1428, .ireturn, 1) rfl
theorem dL_law_1429 : decode cL_law 1429 = .ok (.iload 5, 2) := dTL_law_14_ok 40 (1429, .iload 5, 2) rfl
theorem dL_law_1431 : decode cL_law 1431 = .ok (.ifCond .ne 15, 3) := dTL_law_14_ok 41 (1431, .ifCond .ne 15, 3) rfl
theorem dL_law_1434 : decode cL_law 1434 = .ok (.aload_n 3, 1) := dTL_law_14_ok 42 (1434, .aload_n 3, 1) rfl
theorem dL_law_1435 : decode cL_law 1435 = .ok (.iconst 0, 1) := dTL_law_14_ok 43 (1435, .iconst 0, 1) rfl
theorem dL_law_1436 : decode cL_law 1436 = .ok (.laload, 1) := dTL_law_14_ok 44 (1436, .laload, 1) rfl
theorem dL_law_1437 : decode cL_law 1437 = .ok (.iload 6, 2) := dTL_law_14_ok 45 (1437, .iload 6, 2) rfl
theorem dL_law_1439 : decode cL_law 1439 = .ok (.i2l, 1) := dTL_law_14_ok 46 (1439, .i2l, 1) rfl
theorem dL_law_1440 : decode cL_law 1440 = .ok (.lcmp, 1) := dTL_law_14_ok 47 (1440, .lcmp, 1) rfl
theorem dL_law_1441 : decode cL_law 1441 = .ok (.ifCond .eq 5, 3) := dTL_law_14_ok 48 (1441, .ifCond .eq 5, 3) rfl
theorem dL_law_1444 : decode cL_law 1444 = .ok (.iconst 0, 1) := dTL_law_14_ok 49 (1444, .iconst 0, 1) rfl
theorem dL_law_1445 : decode cL_law 1445 = .ok (.ireturn, 1) := dTL_law_14_ok 50 (1445, .ireturn, 1) rfl
theorem dL_law_1446 : decode cL_law 1446 = .ok (.goto 194, 3) := dTL_law_14_ok 51 (1446, .goto 194, 3) rfl
theorem dL_law_1449 : decode cL_law 1449 = .ok (.aload_n 1, 1) := dTL_law_14_ok 52 (1449, .aload_n 1, 1) rfl
theorem dL_law_1450 : decode cL_law 1450 = .ok (.aload_n 0, 1) := dTL_law_14_ok 53 (1450, .aload_n 0, 1) rfl
theorem dL_law_1451 : decode cL_law 1451 = .ok (.iload 4, 2) := dTL_law_14_ok 54 (1451, .iload 4, 2) rfl
theorem dL_law_1453 : decode cL_law 1453 = .ok (.iconst 1, 1) := dTL_law_14_ok 55 (1453, .iconst 1, 1) rfl
theorem dL_law_1454 : decode cL_law 1454 = .ok (.iadd, 1) := dTL_law_14_ok 56 (1454, .iadd, 1) rfl
theorem dL_law_1455 : decode cL_law 1455 = .ok (.iaload, 1) := dTL_law_14_ok 57 (1455, .iaload, 1) rfl
theorem dL_law_1456 : decode cL_law 1456 = .ok (.aload_n 0, 1) := dTL_law_14_ok 58 (1456, .aload_n 0, 1) rfl
theorem dL_law_1457 : decode cL_law 1457 = .ok (.iload 4, 2) := dTL_law_14_ok 59 (1457, .iload 4, 2) rfl
noncomputable def dTL_law_15 : List (Nat × Instr × Nat) := [(1459, .iconst 2, 1), (1460, .iadd, 1), (1461, .iaload, 1), (1462, .aload_n 0, 1), (1463, .iload 4, 2), (1465, .iconst 3, 1), (1466, .iadd, 1), (1467, .iaload, 1), (1468, .aload_n 3, 1), (1469, .invokestatic 149, 3), (1472, .istore 5, 2), (1474, .aload_n 2, 1), (1475, .aload_n 0, 1), (1476, .iload 4, 2), (1478, .iconst 1, 1), (1479, .iadd, 1), (1480, .iaload, 1), (1481, .aload_n 0, 1), (1482, .iload 4, 2), (1484, .iconst 2, 1), (1485, .iadd, 1), (1486, .iaload, 1), (1487, .aload_n 0, 1), (1488, .iload 4, 2), (1490, .iconst 3, 1), (1491, .iadd, 1), (1492, .iaload, 1), (1493, .invokevirtual 151, 3), (1496, .istore 6, 2), (1498, .aload_n 2, 1), (1499, .invokevirtual 91, 3), (1502, .iload 5, 2), (1504, .if_icmp .eq 5, 3), (1507, .iconst 0, 1), (1508, .ireturn, 1), (1509, .iload 5, 2), (1511, .ifCond .ne 15, 3), (1514, .aload_n 3, 1), (1515, .iconst 0, 1), (1516, .laload, 1), (1517, .iload 6, 2), (1519, .i2l, 1), (1520, .lcmp, 1), (1521, .ifCond .eq 5, 3), (1524, .iconst 0, 1), (1525, .ireturn, 1), (1526, .goto 114, 3), (1529, .aload_n 1, 1), (1530, .aload_n 0, 1), (1531, .iload 4, 2), (1533, .iconst 1, 1), (1534, .iadd, 1), (1535, .iaload, 1), (1536, .aload_n 3, 1), (1537, .invokestatic 152, 3), (1540, .istore 5, 2), (1542, .aload_n 2, 1), (1543, .aload_n 0, 1), (1544, .iload 4, 2), (1546, .iconst 1, 1)]
theorem dTL_law_15_ok : ∀ (k : Nat) (q : Nat × Instr × Nat), dTL_law_15[k]? = some q → decode cL_law q.1 = .ok q.2 := dT_of (by decide +kernel)
theorem dL_law_1459 : decode cL_law 1459 = .ok (.iconst 2, 1) := dTL_law_15_ok 0 (1459, .iconst 2, 1) rfl
theorem dL_law_1460 : decode cL_law 1460 = .ok (.iadd, 1) := dTL_law_15_ok 1 (1460, .iadd, 1) rfl
theorem dL_law_1461 : decode cL_law 1461 = .ok (.iaload, 1) := dTL_law_15_ok 2 (1461, .iaload, 1) rfl
theorem dL_law_1462 : decode cL_law 1462 = .ok (.aload_n 0, 1) := dTL_law_15_ok 3 (1462, .aload_n 0, 1) rfl
theorem dL_law_1463 : decode cL_law 1463 = .ok (.iload 4, 2) := dTL_law_15_ok 4 (1463, .iload 4, 2) rfl
theorem dL_law_1465 : decode cL_law 1465 = .ok (.iconst 3, 1) := dTL_law_15_ok 5 (1465, .iconst 3, 1) rfl
theorem dL_law_1466 : decode cL_law 1466 = .ok (.iadd, 1) := dTL_law_15_ok 6 (1466, .iadd, 1) rfl
theorem dL_law_1467 : decode cL_law 1467 = .ok (.iaload, 1) := dTL_law_15_ok 7 (1467, .iaload, 1) rfl
theorem dL_law_1468 : decode cL_law 1468 = .ok (.aload_n 3, 1) := dTL_law_15_ok 8 (1468, .aload_n 3, 1) rfl
theorem dL_law_1469 : decode cL_law 1469 = .ok (.invokestatic 149, 3) := dTL_law_15_ok 9 (1469, .invokestatic 149, 3) rfl
theorem dL_law_1472 : decode cL_law 1472 = .ok (.istore 5, 2) := dTL_law_15_ok 10 (1472, .istore 5, 2) rfl
theorem dL_law_1474 : decode cL_law 1474 = .ok (.aload_n 2, 1) := dTL_law_15_ok 11 (1474, .aload_n 2, 1) rfl
theorem dL_law_1475 : decode cL_law 1475 = .ok (.aload_n 0, 1) := dTL_law_15_ok 12 (1475, .aload_n 0, 1) rfl
theorem dL_law_1476 : decode cL_law 1476 = .ok (.iload 4, 2) := dTL_law_15_ok 13 (1476, .iload 4, 2) rfl
theorem dL_law_1478 : decode cL_law 1478 = .ok (.iconst 1, 1) := dTL_law_15_ok 14 (1478, .iconst 1, 1) rfl
theorem dL_law_1479 : decode cL_law 1479 = .ok (.iadd, 1) := dTL_law_15_ok 15 (1479, .iadd, 1) rfl
theorem dL_law_1480 : decode cL_law 1480 = .ok (.iaload, 1) := dTL_law_15_ok 16 (1480, .iaload, 1) rfl
theorem dL_law_1481 : decode cL_law 1481 = .ok (.aload_n 0, 1) := dTL_law_15_ok 17 (1481, .aload_n 0, 1) rfl
theorem dL_law_1482 : decode cL_law 1482 = .ok (.iload 4, 2) := dTL_law_15_ok 18 (1482, .iload 4, 2) rfl
theorem dL_law_1484 : decode cL_law 1484 = .ok (.iconst 2, 1) := dTL_law_15_ok 19 (1484, .iconst 2, 1) rfl
theorem dL_law_1485 : decode cL_law 1485 = .ok (.iadd, 1) := dTL_law_15_ok 20 (1485, .iadd, 1) rfl
theorem dL_law_1486 : decode cL_law 1486 = .ok (.iaload, 1) := dTL_law_15_ok 21 (1486, .iaload, 1) rfl
theorem dL_law_1487 : decode cL_law 1487 = .ok (.aload_n 0, 1) := dTL_law_15_ok 22 (1487, .aload_n 0, 1) rfl
theorem dL_law_1488 : decode cL_law 1488 = .ok (.iload 4, 2) := dTL_law_15_ok 23 (1488, .iload 4, 2) rfl
theorem dL_law_1490 : decode cL_law 1490 = .ok (.iconst 3, 1) := dTL_law_15_ok 24 (1490, .iconst 3, 1) rfl
theorem dL_law_1491 : decode cL_law 1491 = .ok (.iadd, 1) := dTL_law_15_ok 25 (1491, .iadd, 1) rfl
theorem dL_law_1492 : decode cL_law 1492 = .ok (.iaload, 1) := dTL_law_15_ok 26 (1492, .iaload, 1) rfl
theorem dL_law_1493 : decode cL_law 1493 = .ok (.invokevirtual 151, 3) := dTL_law_15_ok 27 (1493, .invokevirtual 151, 3) rfl
theorem dL_law_1496 : decode cL_law 1496 = .ok (.istore 6, 2) := dTL_law_15_ok 28 (1496, .istore 6, 2) rfl
theorem dL_law_1498 : decode cL_law 1498 = .ok (.aload_n 2, 1) := dTL_law_15_ok 29 (1498, .aload_n 2, 1) rfl
theorem dL_law_1499 : decode cL_law 1499 = .ok (.invokevirtual 91, 3) := dTL_law_15_ok 30 (1499, .invokevirtual 91, 3) rfl
theorem dL_law_1502 : decode cL_law 1502 = .ok (.iload 5, 2) := dTL_law_15_ok 31 (1502, .iload 5, 2) rfl
theorem dL_law_1504 : decode cL_law 1504 = .ok (.if_icmp .eq 5, 3) := dTL_law_15_ok 32 (1504, .if_icmp .eq 5, 3) rfl
theorem dL_law_1507 : decode cL_law 1507 = .ok (.iconst 0, 1) := dTL_law_15_ok 33 (1507, .iconst 0, 1) rfl
theorem dL_law_1508 : decode cL_law 1508 = .ok (.ireturn, 1) := dTL_law_15_ok 34 (1508, .ireturn, 1) rfl
theorem dL_law_1509 : decode cL_law 1509 = .ok (.iload 5, 2) := dTL_law_15_ok 35 (1509, .iload 5, 2) rfl
theorem dL_law_1511 : decode cL_law 1511 = .ok (.ifCond .ne 15, 3) := dTL_law_15_ok 36 (1511, .ifCond .ne 15, 3) rfl
theorem dL_law_1514 : decode cL_law 1514 = .ok (.aload_n 3, 1) := dTL_law_15_ok 37 (1514, .aload_n 3, 1) rfl
theorem dL_law_1515 : decode cL_law 1515 = .ok (.iconst 0, 1) := dTL_law_15_ok 38 (1515, .iconst 0, 1) rfl
theorem dL_law_1516 : decode cL_law 1516 = .ok (.laload, 1) := dTL_law_15_ok 39 (1516, .laload, 1) rfl
theorem dL_law_1517 : decode cL_law 1517 = .ok (.iload 6, 2) := dTL_law_15_ok 40 (1517, .iload 6, 2) rfl
theorem dL_law_1519 : decode cL_law 1519 = .ok (.i2l, 1) := dTL_law_15_ok 41 (1519, .i2l, 1) rfl
theorem dL_law_1520 : decode cL_law 1520 = .ok (.lcmp, 1) := dTL_law_15_ok 42 (1520, .lcmp, 1) rfl
theorem dL_law_1521 : decode cL_law 1521 = .ok (.ifCond .eq 5, 3) := dTL_law_15_ok 43 (1521, .ifCond .eq 5, 3) rfl
theorem dL_law_1524 : decode cL_law 1524 = .ok (.iconst 0, 1) := dTL_law_15_ok 44 (1524, .iconst 0, 1) rfl
theorem dL_law_1525 : decode cL_law 1525 = .ok (.ireturn, 1) := dTL_law_15_ok 45 (1525, .ireturn, 1) rfl
theorem dL_law_1526 : decode cL_law 1526 = .ok (.goto 114, 3) := dTL_law_15_ok 46 (1526, .goto 114, 3) rfl
theorem dL_law_1529 : decode cL_law 1529 = .ok (.aload_n 1, 1) := dTL_law_15_ok 47 (1529, .aload_n 1, 1) rfl
theorem dL_law_1530 : decode cL_law 1530 = .ok (.aload_n 0, 1) := dTL_law_15_ok 48 (1530, .aload_n 0, 1) rfl
theorem dL_law_1531 : decode cL_law 1531 = .ok (.iload 4, 2) := dTL_law_15_ok 49 (1531, .iload 4, 2) rfl
theorem dL_law_1533 : decode cL_law 1533 = .ok (.iconst 1, 1) := dTL_law_15_ok 50 (1533, .iconst 1, 1) rfl
theorem dL_law_1534 : decode cL_law 1534 = .ok (.iadd, 1) := dTL_law_15_ok 51 (1534, .iadd, 1) rfl
theorem dL_law_1535 : decode cL_law 1535 = .ok (.iaload, 1) := dTL_law_15_ok 52 (1535, .iaload, 1) rfl
theorem dL_law_1536 : decode cL_law 1536 = .ok (.aload_n 3, 1) := dTL_law_15_ok 53 (1536, .aload_n 3, 1) rfl
theorem dL_law_1537 : decode cL_law 1537 = .ok (.invokestatic 152, 3) := dTL_law_15_ok 54 (1537, .invokestatic 152, 3) rfl
theorem dL_law_1540 : decode cL_law 1540 = .ok (.istore 5, 2) := dTL_law_15_ok 55 (1540, .istore 5, 2) rfl
theorem dL_law_1542 : decode cL_law 1542 = .ok (.aload_n 2, 1) := dTL_law_15_ok 56 (1542, .aload_n 2, 1) rfl
theorem dL_law_1543 : decode cL_law 1543 = .ok (.aload_n 0, 1) := dTL_law_15_ok 57 (1543, .aload_n 0, 1) rfl
theorem dL_law_1544 : decode cL_law 1544 = .ok (.iload 4, 2) := dTL_law_15_ok 58 (1544, .iload 4, 2) rfl
theorem dL_law_1546 : decode cL_law 1546 = .ok (.iconst 1, 1) := dTL_law_15_ok 59 (1546, .iconst 1, 1) rfl
noncomputable def dTL_law_16 : List (Nat × Instr × Nat) := [(1547, .iadd, 1), (1548, .iaload, 1), (1549, .invokevirtual 154, 3), (1552, .istore 6, 2), (1554, .aload_n 2, 1), (1555, .invokevirtual 91, 3), (1558, .iload 5, 2), (1560, .if_icmp .eq 5, 3), (1563, .iconst 0, 1), (1564, .ireturn, 1), (1565, .iload 5, 2), (1567, .ifCond .ne 15, 3), (1570, .aload_n 3, 1), (1571, .iconst 0, 1), (1572, .laload, 1), (1573, .iload 6, 2), (1575, .i2l, 1), (1576, .lcmp, 1), (1577, .ifCond .eq 5, 3), (1580, .iconst 0, 1), (1581, .ireturn, 1), (1582, .goto 58, 3), (1585, .aload_n 1, 1), (1586, .invokevirtual 155, 3), (1589, .dstore 5, 2), (1591, .aload_n 2, 1), (1592, .invokevirtual 159, 3), (1595, .dstore 7, 2), (1597, .dload 5, 2), (1599, .dload 7, 2), (1601, .dcmp .l, 1), (1602, .ifCond .eq 21, 3), (1605, .dload 5, 2), (1607, .dload 5, 2), (1609, .dcmp .l, 1), (1610, .ifCond .eq 11, 3), (1613, .dload 7, 2), (1615, .dload 7, 2), (1617, .dcmp .l, 1), (1618, .ifCond .ne 5, 3), (1621, .iconst 0, 1), (1622, .ireturn, 1), (1623, .goto 17, 3), (1626, .aload_n 1, 1), (1627, .invokevirtual 160, 3), (1630, .aload_n 2, 1), (1631, .invokevirtual 164, 3), (1634, .lcmp, 1), (1635, .ifCond .eq 5, 3), (1638, .iconst 0, 1), (1639, .ireturn, 1), (1640, .iinc 4 4, 3), (1643, .goto (-1620), 3), (1646, .iconst 1, 1), (1647, .ireturn, 1)]
theorem dTL_law_16_ok : ∀ (k : Nat) (q : Nat × Instr × Nat), dTL_law_16[k]? = some q → decode cL_law q.1 = .ok q.2 := dT_of (by decide +kernel)
theorem dL_law_1547 : decode cL_law 1547 = .ok (.iadd, 1) := dTL_law_16_ok 0 (1547, .iadd, 1) rfl
theorem dL_law_1548 : decode cL_law 1548 = .ok (.iaload, 1) := dTL_law_16_ok 1 (1548, .iaload, 1) rfl
theorem dL_law_1549 : decode cL_law 1549 = .ok (.invokevirtual 154, 3) := dTL_law_16_ok 2 (1549, .invokevirtual 154, 3) rfl
theorem dL_law_1552 : decode cL_law 1552 = .ok (.istore 6, 2) := dTL_law_16_ok 3 (1552, .istore 6, 2) rfl
theorem dL_law_1554 : decode cL_law 1554 = .ok (.aload_n 2, 1) := dTL_law_16_ok 4 (1554, .aload_n 2, 1) rfl
theorem dL_law_1555 : decode cL_law 1555 = .ok (.invokevirtual 91, 3) := dTL_law_16_ok 5 (1555, .invokevirtual 91, 3) rfl
theorem dL_law_1558 : decode cL_law 1558 = .ok (.iload 5, 2) := dTL_law_16_ok 6 (1558, .iload 5, 2) rfl
theorem dL_law_1560 : decode cL_law 1560 = .ok (.if_icmp .eq 5, 3) := dTL_law_16_ok 7 (1560, .if_icmp .eq 5, 3) rfl
theorem dL_law_1563 : decode cL_law 1563 = .ok (.iconst 0, 1) := dTL_law_16_ok 8 (1563, .iconst 0, 1) rfl
theorem dL_law_1564 : decode cL_law 1564 = .ok (.ireturn, 1) := dTL_law_16_ok 9 (1564, .ireturn, 1) rfl
theorem dL_law_1565 : decode cL_law 1565 = .ok (.iload 5, 2) := dTL_law_16_ok 10 (1565, .iload 5, 2) rfl
theorem dL_law_1567 : decode cL_law 1567 = .ok (.ifCond .ne 15, 3) := dTL_law_16_ok 11 (1567, .ifCond .ne 15, 3) rfl
theorem dL_law_1570 : decode cL_law 1570 = .ok (.aload_n 3, 1) := dTL_law_16_ok 12 (1570, .aload_n 3, 1) rfl
theorem dL_law_1571 : decode cL_law 1571 = .ok (.iconst 0, 1) := dTL_law_16_ok 13 (1571, .iconst 0, 1) rfl
theorem dL_law_1572 : decode cL_law 1572 = .ok (.laload, 1) := dTL_law_16_ok 14 (1572, .laload, 1) rfl
theorem dL_law_1573 : decode cL_law 1573 = .ok (.iload 6, 2) := dTL_law_16_ok 15 (1573, .iload 6, 2) rfl
theorem dL_law_1575 : decode cL_law 1575 = .ok (.i2l, 1) := dTL_law_16_ok 16 (1575, .i2l, 1) rfl
theorem dL_law_1576 : decode cL_law 1576 = .ok (.lcmp, 1) := dTL_law_16_ok 17 (1576, .lcmp, 1) rfl
theorem dL_law_1577 : decode cL_law 1577 = .ok (.ifCond .eq 5, 3) := dTL_law_16_ok 18 (1577, .ifCond .eq 5, 3) rfl
theorem dL_law_1580 : decode cL_law 1580 = .ok (.iconst 0, 1) := dTL_law_16_ok 19 (1580, .iconst 0, 1) rfl
theorem dL_law_1581 : decode cL_law 1581 = .ok (.ireturn, 1) := dTL_law_16_ok 20 (1581, .ireturn, 1) rfl
theorem dL_law_1582 : decode cL_law 1582 = .ok (.goto 58, 3) := dTL_law_16_ok 21 (1582, .goto 58, 3) rfl
theorem dL_law_1585 : decode cL_law 1585 = .ok (.aload_n 1, 1) := dTL_law_16_ok 22 (1585, .aload_n 1, 1) rfl
theorem dL_law_1586 : decode cL_law 1586 = .ok (.invokevirtual 155, 3) := dTL_law_16_ok 23 (1586, .invokevirtual 155, 3) rfl
theorem dL_law_1589 : decode cL_law 1589 = .ok (.dstore 5, 2) := dTL_law_16_ok 24 (1589, .dstore 5, 2) rfl
theorem dL_law_1591 : decode cL_law 1591 = .ok (.aload_n 2, 1) := dTL_law_16_ok 25 (1591, .aload_n 2, 1) rfl
theorem dL_law_1592 : decode cL_law 1592 = .ok (.invokevirtual 159, 3) := dTL_law_16_ok 26 (1592, .invokevirtual 159, 3) rfl
theorem dL_law_1595 : decode cL_law 1595 = .ok (.dstore 7, 2) := dTL_law_16_ok 27 (1595, .dstore 7, 2) rfl
theorem dL_law_1597 : decode cL_law 1597 = .ok (.dload 5, 2) := dTL_law_16_ok 28 (1597, .dload 5, 2) rfl
theorem dL_law_1599 : decode cL_law 1599 = .ok (.dload 7, 2) := dTL_law_16_ok 29 (1599, .dload 7, 2) rfl
theorem dL_law_1601 : decode cL_law 1601 = .ok (.dcmp .l, 1) := dTL_law_16_ok 30 (1601, .dcmp .l, 1) rfl
theorem dL_law_1602 : decode cL_law 1602 = .ok (.ifCond .eq 21, 3) := dTL_law_16_ok 31 (1602, .ifCond .eq 21, 3) rfl
theorem dL_law_1605 : decode cL_law 1605 = .ok (.dload 5, 2) := dTL_law_16_ok 32 (1605, .dload 5, 2) rfl
theorem dL_law_1607 : decode cL_law 1607 = .ok (.dload 5, 2) := dTL_law_16_ok 33 (1607, .dload 5, 2) rfl
theorem dL_law_1609 : decode cL_law 1609 = .ok (.dcmp .l, 1) := dTL_law_16_ok 34 (1609, .dcmp .l, 1) rfl
theorem dL_law_1610 : decode cL_law 1610 = .ok (.ifCond .eq 11, 3) := dTL_law_16_ok 35 (1610, .ifCond .eq 11, 3) rfl
theorem dL_law_1613 : decode cL_law 1613 = .ok (.dload 7, 2) := dTL_law_16_ok 36 (1613, .dload 7, 2) rfl
theorem dL_law_1615 : decode cL_law 1615 = .ok (.dload 7, 2) := dTL_law_16_ok 37 (1615, .dload 7, 2) rfl
theorem dL_law_1617 : decode cL_law 1617 = .ok (.dcmp .l, 1) := dTL_law_16_ok 38 (1617, .dcmp .l, 1) rfl
theorem dL_law_1618 : decode cL_law 1618 = .ok (.ifCond .ne 5, 3) := dTL_law_16_ok 39 (1618, .ifCond .ne 5, 3) rfl
theorem dL_law_1621 : decode cL_law 1621 = .ok (.iconst 0, 1) := dTL_law_16_ok 40 (1621, .iconst 0, 1) rfl
theorem dL_law_1622 : decode cL_law 1622 = .ok (.ireturn, 1) := dTL_law_16_ok 41 (1622, .ireturn, 1) rfl
theorem dL_law_1623 : decode cL_law 1623 = .ok (.goto 17, 3) := dTL_law_16_ok 42 (1623, .goto 17, 3) rfl
theorem dL_law_1626 : decode cL_law 1626 = .ok (.aload_n 1, 1) := dTL_law_16_ok 43 (1626, .aload_n 1, 1) rfl
theorem dL_law_1627 : decode cL_law 1627 = .ok (.invokevirtual 160, 3) := dTL_law_16_ok 44 (1627, .invokevirtual 160, 3) rfl
theorem dL_law_1630 : decode cL_law 1630 = .ok (.aload_n 2, 1) := dTL_law_16_ok 45 (1630, .aload_n 2, 1) rfl
theorem dL_law_1631 : decode cL_law 1631 = .ok (.invokevirtual 164, 3) := dTL_law_16_ok 46 (1631, .invokevirtual 164, 3) rfl
theorem dL_law_1634 : decode cL_law 1634 = .ok (.lcmp, 1) := dTL_law_16_ok 47 (1634, .lcmp, 1) rfl
theorem dL_law_1635 : decode cL_law 1635 = .ok (.ifCond .eq 5, 3) := dTL_law_16_ok 48 (1635, .ifCond .eq 5, 3) rfl
theorem dL_law_1638 : decode cL_law 1638 = .ok (.iconst 0, 1) := dTL_law_16_ok 49 (1638, .iconst 0, 1) rfl
theorem dL_law_1639 : decode cL_law 1639 = .ok (.ireturn, 1) := dTL_law_16_ok 50 (1639, .ireturn, 1) rfl
theorem dL_law_1640 : decode cL_law 1640 = .ok (.iinc 4 4, 3) := dTL_law_16_ok 51 (1640, .iinc 4 4, 3) rfl
theorem dL_law_1643 : decode cL_law 1643 = .ok (.goto (-1620), 3) := dTL_law_16_ok 52 (1643, .goto (-1620), 3) rfl
theorem dL_law_1646 : decode cL_law 1646 = .ok (.iconst 1, 1) := dTL_law_16_ok 53 (1646, .iconst 1, 1) rfl
theorem dL_law_1647 : decode cL_law 1647 = .ok (.ireturn, 1) := dTL_law_16_ok 54 (1647, .ireturn, 1) rfl
