theorem dT_of {cc : ByteArray} {tab : List (Nat × Instr × Nat)} (h : tab.all (fun q => decide (decode cc q.1 = .ok q.2)) = true) : ∀ (k : Nat) (q : Nat × Instr × Nat), tab[k]? = some q → decode cc q.1 = .ok q.2 := fun _ _ hk => of_decide_eq_true (List.all_eq_true.mp h _ (List.mem_of_getElem? hk))
noncomputable def dTX0_only_0 : List (Nat × Instr × Nat) := [(0, .lconst 1, 1), (1, .iload_n 0, 1), (2, .lshl, 1), (3, .lreturn, 1)]
theorem dTX0_only_0_ok : ∀ (k : Nat) (q : Nat × Instr × Nat), dTX0_only_0[k]? = some q → decode cX0_only q.1 = .ok q.2 := dT_of (by decide +kernel)
theorem dX0_only_0 : decode cX0_only 0 = .ok (.lconst 1, 1) := dTX0_only_0_ok 0 (0, .lconst 1, 1) rfl
theorem dX0_only_1 : decode cX0_only 1 = .ok (.iload_n 0, 1) := dTX0_only_0_ok 1 (1, .iload_n 0, 1) rfl
theorem dX0_only_2 : decode cX0_only 2 = .ok (.lshl, 1) := dTX0_only_0_ok 2 (2, .lshl, 1) rfl
theorem dX0_only_3 : decode cX0_only 3 = .ok (.lreturn, 1) := dTX0_only_0_ok 3 (3, .lreturn, 1) rfl
noncomputable def dTX0_holds_0 : List (Nat × Instr × Nat) := [(0, .lload_n 0, 1), (1, .iload_n 2, 1), (2, .lushr, 1), (3, .lconst 1, 1), (4, .land, 1), (5, .lconst 0, 1), (6, .lcmp, 1), (7, .ifCond .eq 7, 3), (10, .iconst 1, 1), (11, .goto 4, 3), (14, .iconst 0, 1), (15, .ireturn, 1)]
theorem dTX0_holds_0_ok : ∀ (k : Nat) (q : Nat × Instr × Nat), dTX0_holds_0[k]? = some q → decode cX0_holds q.1 = .ok q.2 := dT_of (by decide +kernel)
theorem dX0_holds_0 : decode cX0_holds 0 = .ok (.lload_n 0, 1) := dTX0_holds_0_ok 0 (0, .lload_n 0, 1) rfl
theorem dX0_holds_1 : decode cX0_holds 1 = .ok (.iload_n 2, 1) := dTX0_holds_0_ok 1 (1, .iload_n 2, 1) rfl
theorem dX0_holds_2 : decode cX0_holds 2 = .ok (.lushr, 1) := dTX0_holds_0_ok 2 (2, .lushr, 1) rfl
theorem dX0_holds_3 : decode cX0_holds 3 = .ok (.lconst 1, 1) := dTX0_holds_0_ok 3 (3, .lconst 1, 1) rfl
theorem dX0_holds_4 : decode cX0_holds 4 = .ok (.land, 1) := dTX0_holds_0_ok 4 (4, .land, 1) rfl
theorem dX0_holds_5 : decode cX0_holds 5 = .ok (.lconst 0, 1) := dTX0_holds_0_ok 5 (5, .lconst 0, 1) rfl
theorem dX0_holds_6 : decode cX0_holds 6 = .ok (.lcmp, 1) := dTX0_holds_0_ok 6 (6, .lcmp, 1) rfl
theorem dX0_holds_7 : decode cX0_holds 7 = .ok (.ifCond .eq 7, 3) := dTX0_holds_0_ok 7 (7, .ifCond .eq 7, 3) rfl
theorem dX0_holds_10 : decode cX0_holds 10 = .ok (.iconst 1, 1) := dTX0_holds_0_ok 8 (10, .iconst 1, 1) rfl
theorem dX0_holds_11 : decode cX0_holds 11 = .ok (.goto 4, 3) := dTX0_holds_0_ok 9 (11, .goto 4, 3) rfl
theorem dX0_holds_14 : decode cX0_holds 14 = .ok (.iconst 0, 1) := dTX0_holds_0_ok 10 (14, .iconst 0, 1) rfl
theorem dX0_holds_15 : decode cX0_holds 15 = .ok (.ireturn, 1) := dTX0_holds_0_ok 11 (15, .ireturn, 1) rfl
noncomputable def dTX0_moved_0 : List (Nat × Instr × Nat) := [(0, .iload_n 2, 1), (1, .tableswitch 49 0 2 #[27, 32, 40], 27), (28, .lload_n 0, 1), (29, .bipush 9, 2), (31, .lushr, 1), (32, .lreturn, 1), (33, .lload_n 0, 1), (34, .ldc2_w 11, 3), (37, .land, 1), (38, .iconst 1, 1), (39, .lshl, 1), (40, .lreturn, 1), (41, .lload_n 0, 1), (42, .bipush 9, 2), (44, .lshl, 1), (45, .ldc2_w 13, 3), (48, .land, 1), (49, .lreturn, 1), (50, .lload_n 0, 1), (51, .ldc2_w 15, 3), (54, .land, 1), (55, .iconst 1, 1), (56, .lushr, 1), (57, .lreturn, 1)]
theorem dTX0_moved_0_ok : ∀ (k : Nat) (q : Nat × Instr × Nat), dTX0_moved_0[k]? = some q → decode cX0_moved q.1 = .ok q.2 := dT_of (by decide +kernel)
theorem dX0_moved_0 : decode cX0_moved 0 = .ok (.iload_n 2, 1) := dTX0_moved_0_ok 0 (0, .iload_n 2, 1) rfl
theorem dX0_moved_1 : decode cX0_moved 1 = .ok (.tableswitch 49 0 2 #[27, 32, 40], 27) := dTX0_moved_0_ok 1 (1, .tableswitch 49 0 2 #[27, 32, 40], 27) rfl
theorem dX0_moved_28 : decode cX0_moved 28 = .ok (.lload_n 0, 1) := dTX0_moved_0_ok 2 (28, .lload_n 0, 1) rfl
theorem dX0_moved_29 : decode cX0_moved 29 = .ok (.bipush 9, 2) := dTX0_moved_0_ok 3 (29, .bipush 9, 2) rfl
theorem dX0_moved_31 : decode cX0_moved 31 = .ok (.lushr, 1) := dTX0_moved_0_ok 4 (31, .lushr, 1) rfl
theorem dX0_moved_32 : decode cX0_moved 32 = .ok (.lreturn, 1) := dTX0_moved_0_ok 5 (32, .lreturn, 1) rfl
theorem dX0_moved_33 : decode cX0_moved 33 = .ok (.lload_n 0, 1) := dTX0_moved_0_ok 6 (33, .lload_n 0, 1) rfl
theorem dX0_moved_34 : decode cX0_moved 34 = .ok (.ldc2_w 11, 3) := dTX0_moved_0_ok 7 (34, .ldc2_w 11, 3) rfl
theorem dX0_moved_37 : decode cX0_moved 37 = .ok (.land, 1) := dTX0_moved_0_ok 8 (37, .land, 1) rfl
theorem dX0_moved_38 : decode cX0_moved 38 = .ok (.iconst 1, 1) := dTX0_moved_0_ok 9 (38, .iconst 1, 1) rfl
theorem dX0_moved_39 : decode cX0_moved 39 = .ok (.lshl, 1) := dTX0_moved_0_ok 10 (39, .lshl, 1) rfl
theorem dX0_moved_40 : decode cX0_moved 40 = .ok (.lreturn, 1) := dTX0_moved_0_ok 11 (40, .lreturn, 1) rfl
theorem dX0_moved_41 : decode cX0_moved 41 = .ok (.lload_n 0, 1) := dTX0_moved_0_ok 12 (41, .lload_n 0, 1) rfl
theorem dX0_moved_42 : decode cX0_moved 42 = .ok (.bipush 9, 2) := dTX0_moved_0_ok 13 (42, .bipush 9, 2) rfl
theorem dX0_moved_44 : decode cX0_moved 44 = .ok (.lshl, 1) := dTX0_moved_0_ok 14 (44, .lshl, 1) rfl
theorem dX0_moved_45 : decode cX0_moved 45 = .ok (.ldc2_w 13, 3) := dTX0_moved_0_ok 15 (45, .ldc2_w 13, 3) rfl
theorem dX0_moved_48 : decode cX0_moved 48 = .ok (.land, 1) := dTX0_moved_0_ok 16 (48, .land, 1) rfl
theorem dX0_moved_49 : decode cX0_moved 49 = .ok (.lreturn, 1) := dTX0_moved_0_ok 17 (49, .lreturn, 1) rfl
theorem dX0_moved_50 : decode cX0_moved 50 = .ok (.lload_n 0, 1) := dTX0_moved_0_ok 18 (50, .lload_n 0, 1) rfl
theorem dX0_moved_51 : decode cX0_moved 51 = .ok (.ldc2_w 15, 3) := dTX0_moved_0_ok 19 (51, .ldc2_w 15, 3) rfl
theorem dX0_moved_54 : decode cX0_moved 54 = .ok (.land, 1) := dTX0_moved_0_ok 20 (54, .land, 1) rfl
theorem dX0_moved_55 : decode cX0_moved 55 = .ok (.iconst 1, 1) := dTX0_moved_0_ok 21 (55, .iconst 1, 1) rfl
theorem dX0_moved_56 : decode cX0_moved 56 = .ok (.lushr, 1) := dTX0_moved_0_ok 22 (56, .lushr, 1) rfl
theorem dX0_moved_57 : decode cX0_moved 57 = .ok (.lreturn, 1) := dTX0_moved_0_ok 23 (57, .lreturn, 1) rfl
noncomputable def dTX0_isRim_0 : List (Nat × Instr × Nat) := [(0, .iload_n 0, 1), (1, .invokestatic 17, 3), (4, .iload_n 1, 1), (5, .invokestatic 21, 3), (8, .lconst 0, 1), (9, .lcmp, 1), (10, .ifCond .ne 7, 3), (13, .iconst 1, 1), (14, .goto 4, 3), (17, .iconst 0, 1), (18, .ireturn, 1)]
theorem dTX0_isRim_0_ok : ∀ (k : Nat) (q : Nat × Instr × Nat), dTX0_isRim_0[k]? = some q → decode cX0_isRim q.1 = .ok q.2 := dT_of (by decide +kernel)
theorem dX0_isRim_0 : decode cX0_isRim 0 = .ok (.iload_n 0, 1) := dTX0_isRim_0_ok 0 (0, .iload_n 0, 1) rfl
theorem dX0_isRim_1 : decode cX0_isRim 1 = .ok (.invokestatic 17, 3) := dTX0_isRim_0_ok 1 (1, .invokestatic 17, 3) rfl
theorem dX0_isRim_4 : decode cX0_isRim 4 = .ok (.iload_n 1, 1) := dTX0_isRim_0_ok 2 (4, .iload_n 1, 1) rfl
theorem dX0_isRim_5 : decode cX0_isRim 5 = .ok (.invokestatic 21, 3) := dTX0_isRim_0_ok 3 (5, .invokestatic 21, 3) rfl
theorem dX0_isRim_8 : decode cX0_isRim 8 = .ok (.lconst 0, 1) := dTX0_isRim_0_ok 4 (8, .lconst 0, 1) rfl
theorem dX0_isRim_9 : decode cX0_isRim 9 = .ok (.lcmp, 1) := dTX0_isRim_0_ok 5 (9, .lcmp, 1) rfl
theorem dX0_isRim_10 : decode cX0_isRim 10 = .ok (.ifCond .ne 7, 3) := dTX0_isRim_0_ok 6 (10, .ifCond .ne 7, 3) rfl
theorem dX0_isRim_13 : decode cX0_isRim 13 = .ok (.iconst 1, 1) := dTX0_isRim_0_ok 7 (13, .iconst 1, 1) rfl
theorem dX0_isRim_14 : decode cX0_isRim 14 = .ok (.goto 4, 3) := dTX0_isRim_0_ok 8 (14, .goto 4, 3) rfl
theorem dX0_isRim_17 : decode cX0_isRim 17 = .ok (.iconst 0, 1) := dTX0_isRim_0_ok 9 (17, .iconst 0, 1) rfl
theorem dX0_isRim_18 : decode cX0_isRim 18 = .ok (.ireturn, 1) := dTX0_isRim_0_ok 10 (18, .ireturn, 1) rfl
noncomputable def dTX0_neighbour_0 : List (Nat × Instr × Nat) := [(0, .iload_n 1, 1), (1, .tableswitch 41 0 2 #[27, 32, 36], 27), (28, .iload_n 0, 1), (29, .bipush 9, 2), (31, .isub, 1), (32, .ireturn, 1), (33, .iload_n 0, 1), (34, .iconst 1, 1), (35, .iadd, 1), (36, .ireturn, 1), (37, .iload_n 0, 1), (38, .bipush 9, 2), (40, .iadd, 1), (41, .ireturn, 1), (42, .iload_n 0, 1), (43, .iconst 1, 1), (44, .isub, 1), (45, .ireturn, 1)]
theorem dTX0_neighbour_0_ok : ∀ (k : Nat) (q : Nat × Instr × Nat), dTX0_neighbour_0[k]? = some q → decode cX0_neighbour q.1 = .ok q.2 := dT_of (by decide +kernel)
theorem dX0_neighbour_0 : decode cX0_neighbour 0 = .ok (.iload_n 1, 1) := dTX0_neighbour_0_ok 0 (0, .iload_n 1, 1) rfl
theorem dX0_neighbour_1 : decode cX0_neighbour 1 = .ok (.tableswitch 41 0 2 #[27, 32, 36], 27) := dTX0_neighbour_0_ok 1 (1, .tableswitch 41 0 2 #[27, 32, 36], 27) rfl
theorem dX0_neighbour_28 : decode cX0_neighbour 28 = .ok (.iload_n 0, 1) := dTX0_neighbour_0_ok 2 (28, .iload_n 0, 1) rfl
theorem dX0_neighbour_29 : decode cX0_neighbour 29 = .ok (.bipush 9, 2) := dTX0_neighbour_0_ok 3 (29, .bipush 9, 2) rfl
theorem dX0_neighbour_31 : decode cX0_neighbour 31 = .ok (.isub, 1) := dTX0_neighbour_0_ok 4 (31, .isub, 1) rfl
theorem dX0_neighbour_32 : decode cX0_neighbour 32 = .ok (.ireturn, 1) := dTX0_neighbour_0_ok 5 (32, .ireturn, 1) rfl
theorem dX0_neighbour_33 : decode cX0_neighbour 33 = .ok (.iload_n 0, 1) := dTX0_neighbour_0_ok 6 (33, .iload_n 0, 1) rfl
theorem dX0_neighbour_34 : decode cX0_neighbour 34 = .ok (.iconst 1, 1) := dTX0_neighbour_0_ok 7 (34, .iconst 1, 1) rfl
theorem dX0_neighbour_35 : decode cX0_neighbour 35 = .ok (.iadd, 1) := dTX0_neighbour_0_ok 8 (35, .iadd, 1) rfl
theorem dX0_neighbour_36 : decode cX0_neighbour 36 = .ok (.ireturn, 1) := dTX0_neighbour_0_ok 9 (36, .ireturn, 1) rfl
theorem dX0_neighbour_37 : decode cX0_neighbour 37 = .ok (.iload_n 0, 1) := dTX0_neighbour_0_ok 10 (37, .iload_n 0, 1) rfl
theorem dX0_neighbour_38 : decode cX0_neighbour 38 = .ok (.bipush 9, 2) := dTX0_neighbour_0_ok 11 (38, .bipush 9, 2) rfl
theorem dX0_neighbour_40 : decode cX0_neighbour 40 = .ok (.iadd, 1) := dTX0_neighbour_0_ok 12 (40, .iadd, 1) rfl
theorem dX0_neighbour_41 : decode cX0_neighbour 41 = .ok (.ireturn, 1) := dTX0_neighbour_0_ok 13 (41, .ireturn, 1) rfl
theorem dX0_neighbour_42 : decode cX0_neighbour 42 = .ok (.iload_n 0, 1) := dTX0_neighbour_0_ok 14 (42, .iload_n 0, 1) rfl
theorem dX0_neighbour_43 : decode cX0_neighbour 43 = .ok (.iconst 1, 1) := dTX0_neighbour_0_ok 15 (43, .iconst 1, 1) rfl
theorem dX0_neighbour_44 : decode cX0_neighbour 44 = .ok (.isub, 1) := dTX0_neighbour_0_ok 16 (44, .isub, 1) rfl
theorem dX0_neighbour_45 : decode cX0_neighbour 45 = .ok (.ireturn, 1) := dTX0_neighbour_0_ok 17 (45, .ireturn, 1) rfl
noncomputable def dTX1_init_0 : List (Nat × Instr × Nat) := [(0, .aload_n 0, 1), (1, .invokespecial 3, 3), (4, .aload_n 0, 1), (5, .new 9, 3), (8, .dup, 1), (9, .bipush 63, 2), (11, .invokespecial 11, 3), (14, .putfield 14, 3), (17, .return_, 1)]
theorem dTX1_init_0_ok : ∀ (k : Nat) (q : Nat × Instr × Nat), dTX1_init_0[k]? = some q → decode cX1_init q.1 = .ok q.2 := dT_of (by decide +kernel)
theorem dX1_init_0 : decode cX1_init 0 = .ok (.aload_n 0, 1) := dTX1_init_0_ok 0 (0, .aload_n 0, 1) rfl
theorem dX1_init_1 : decode cX1_init 1 = .ok (.invokespecial 3, 3) := dTX1_init_0_ok 1 (1, .invokespecial 3, 3) rfl
theorem dX1_init_4 : decode cX1_init 4 = .ok (.aload_n 0, 1) := dTX1_init_0_ok 2 (4, .aload_n 0, 1) rfl
theorem dX1_init_5 : decode cX1_init 5 = .ok (.new 9, 3) := dTX1_init_0_ok 3 (5, .new 9, 3) rfl
theorem dX1_init_8 : decode cX1_init 8 = .ok (.dup, 1) := dTX1_init_0_ok 4 (8, .dup, 1) rfl
theorem dX1_init_9 : decode cX1_init 9 = .ok (.bipush 63, 2) := dTX1_init_0_ok 5 (9, .bipush 63, 2) rfl
theorem dX1_init_11 : decode cX1_init 11 = .ok (.invokespecial 11, 3) := dTX1_init_0_ok 6 (11, .invokespecial 11, 3) rfl
theorem dX1_init_14 : decode cX1_init 14 = .ok (.putfield 14, 3) := dTX1_init_0_ok 7 (14, .putfield 14, 3) rfl
theorem dX1_init_17 : decode cX1_init 17 = .ok (.return_, 1) := dTX1_init_0_ok 8 (17, .return_, 1) rfl
noncomputable def dTX1_copyFrom_0 : List (Nat × Instr × Nat) := [(0, .aload_n 0, 1), (1, .aload_n 1, 1), (2, .getfield 20, 3), (5, .putfield 20, 3), (8, .aload_n 0, 1), (9, .aload_n 1, 1), (10, .getfield 24, 3), (13, .putfield 24, 3), (16, .aload_n 0, 1), (17, .aload_n 1, 1), (18, .getfield 27, 3), (21, .putfield 27, 3), (24, .aload_n 0, 1), (25, .aload_n 1, 1), (26, .getfield 30, 3), (29, .putfield 30, 3), (32, .aload_n 0, 1), (33, .aload_n 1, 1), (34, .getfield 33, 3), (37, .putfield 33, 3), (40, .aload_n 0, 1), (41, .aload_n 1, 1), (42, .getfield 36, 3), (45, .putfield 36, 3), (48, .aload_n 0, 1), (49, .aload_n 1, 1), (50, .getfield 39, 3), (53, .putfield 39, 3), (56, .aload_n 0, 1), (57, .aload_n 1, 1), (58, .getfield 42, 3), (61, .putfield 42, 3), (64, .aload_n 0, 1), (65, .getfield 14, 3), (68, .aload_n 1, 1), (69, .getfield 14, 3), (72, .invokevirtual 45, 3), (75, .return_, 1)]
theorem dTX1_copyFrom_0_ok : ∀ (k : Nat) (q : Nat × Instr × Nat), dTX1_copyFrom_0[k]? = some q → decode cX1_copyFrom q.1 = .ok q.2 := dT_of (by decide +kernel)
theorem dX1_copyFrom_0 : decode cX1_copyFrom 0 = .ok (.aload_n 0, 1) := dTX1_copyFrom_0_ok 0 (0, .aload_n 0, 1) rfl
theorem dX1_copyFrom_1 : decode cX1_copyFrom 1 = .ok (.aload_n 1, 1) := dTX1_copyFrom_0_ok 1 (1, .aload_n 1, 1) rfl
theorem dX1_copyFrom_2 : decode cX1_copyFrom 2 = .ok (.getfield 20, 3) := dTX1_copyFrom_0_ok 2 (2, .getfield 20, 3) rfl
theorem dX1_copyFrom_5 : decode cX1_copyFrom 5 = .ok (.putfield 20, 3) := dTX1_copyFrom_0_ok 3 (5, .putfield 20, 3) rfl
theorem dX1_copyFrom_8 : decode cX1_copyFrom 8 = .ok (.aload_n 0, 1) := dTX1_copyFrom_0_ok 4 (8, .aload_n 0, 1) rfl
theorem dX1_copyFrom_9 : decode cX1_copyFrom 9 = .ok (.aload_n 1, 1) := dTX1_copyFrom_0_ok 5 (9, .aload_n 1, 1) rfl
theorem dX1_copyFrom_10 : decode cX1_copyFrom 10 = .ok (.getfield 24, 3) := dTX1_copyFrom_0_ok 6 (10, .getfield 24, 3) rfl
theorem dX1_copyFrom_13 : decode cX1_copyFrom 13 = .ok (.putfield 24, 3) := dTX1_copyFrom_0_ok 7 (13, .putfield 24, 3) rfl
theorem dX1_copyFrom_16 : decode cX1_copyFrom 16 = .ok (.aload_n 0, 1) := dTX1_copyFrom_0_ok 8 (16, .aload_n 0, 1) rfl
theorem dX1_copyFrom_17 : decode cX1_copyFrom 17 = .ok (.aload_n 1, 1) := dTX1_copyFrom_0_ok 9 (17, .aload_n 1, 1) rfl
theorem dX1_copyFrom_18 : decode cX1_copyFrom 18 = .ok (.getfield 27, 3) := dTX1_copyFrom_0_ok 10 (18, .getfield 27, 3) rfl
theorem dX1_copyFrom_21 : decode cX1_copyFrom 21 = .ok (.putfield 27, 3) := dTX1_copyFrom_0_ok 11 (21, .putfield 27, 3) rfl
theorem dX1_copyFrom_24 : decode cX1_copyFrom 24 = .ok (.aload_n 0, 1) := dTX1_copyFrom_0_ok 12 (24, .aload_n 0, 1) rfl
theorem dX1_copyFrom_25 : decode cX1_copyFrom 25 = .ok (.aload_n 1, 1) := dTX1_copyFrom_0_ok 13 (25, .aload_n 1, 1) rfl
theorem dX1_copyFrom_26 : decode cX1_copyFrom 26 = .ok (.getfield 30, 3) := dTX1_copyFrom_0_ok 14 (26, .getfield 30, 3) rfl
theorem dX1_copyFrom_29 : decode cX1_copyFrom 29 = .ok (.putfield 30, 3) := dTX1_copyFrom_0_ok 15 (29, .putfield 30, 3) rfl
theorem dX1_copyFrom_32 : decode cX1_copyFrom 32 = .ok (.aload_n 0, 1) := dTX1_copyFrom_0_ok 16 (32, .aload_n 0, 1) rfl
theorem dX1_copyFrom_33 : decode cX1_copyFrom 33 = .ok (.aload_n 1, 1) := dTX1_copyFrom_0_ok 17 (33, .aload_n 1, 1) rfl
theorem dX1_copyFrom_34 : decode cX1_copyFrom 34 = .ok (.getfield 33, 3) := dTX1_copyFrom_0_ok 18 (34, .getfield 33, 3) rfl
theorem dX1_copyFrom_37 : decode cX1_copyFrom 37 = .ok (.putfield 33, 3) := dTX1_copyFrom_0_ok 19 (37, .putfield 33, 3) rfl
theorem dX1_copyFrom_40 : decode cX1_copyFrom 40 = .ok (.aload_n 0, 1) := dTX1_copyFrom_0_ok 20 (40, .aload_n 0, 1) rfl
theorem dX1_copyFrom_41 : decode cX1_copyFrom 41 = .ok (.aload_n 1, 1) := dTX1_copyFrom_0_ok 21 (41, .aload_n 1, 1) rfl
theorem dX1_copyFrom_42 : decode cX1_copyFrom 42 = .ok (.getfield 36, 3) := dTX1_copyFrom_0_ok 22 (42, .getfield 36, 3) rfl
theorem dX1_copyFrom_45 : decode cX1_copyFrom 45 = .ok (.putfield 36, 3) := dTX1_copyFrom_0_ok 23 (45, .putfield 36, 3) rfl
theorem dX1_copyFrom_48 : decode cX1_copyFrom 48 = .ok (.aload_n 0, 1) := dTX1_copyFrom_0_ok 24 (48, .aload_n 0, 1) rfl
theorem dX1_copyFrom_49 : decode cX1_copyFrom 49 = .ok (.aload_n 1, 1) := dTX1_copyFrom_0_ok 25 (49, .aload_n 1, 1) rfl
theorem dX1_copyFrom_50 : decode cX1_copyFrom 50 = .ok (.getfield 39, 3) := dTX1_copyFrom_0_ok 26 (50, .getfield 39, 3) rfl
theorem dX1_copyFrom_53 : decode cX1_copyFrom 53 = .ok (.putfield 39, 3) := dTX1_copyFrom_0_ok 27 (53, .putfield 39, 3) rfl
theorem dX1_copyFrom_56 : decode cX1_copyFrom 56 = .ok (.aload_n 0, 1) := dTX1_copyFrom_0_ok 28 (56, .aload_n 0, 1) rfl
theorem dX1_copyFrom_57 : decode cX1_copyFrom 57 = .ok (.aload_n 1, 1) := dTX1_copyFrom_0_ok 29 (57, .aload_n 1, 1) rfl
theorem dX1_copyFrom_58 : decode cX1_copyFrom 58 = .ok (.getfield 42, 3) := dTX1_copyFrom_0_ok 30 (58, .getfield 42, 3) rfl
theorem dX1_copyFrom_61 : decode cX1_copyFrom 61 = .ok (.putfield 42, 3) := dTX1_copyFrom_0_ok 31 (61, .putfield 42, 3) rfl
theorem dX1_copyFrom_64 : decode cX1_copyFrom 64 = .ok (.aload_n 0, 1) := dTX1_copyFrom_0_ok 32 (64, .aload_n 0, 1) rfl
theorem dX1_copyFrom_65 : decode cX1_copyFrom 65 = .ok (.getfield 14, 3) := dTX1_copyFrom_0_ok 33 (65, .getfield 14, 3) rfl
theorem dX1_copyFrom_68 : decode cX1_copyFrom 68 = .ok (.aload_n 1, 1) := dTX1_copyFrom_0_ok 34 (68, .aload_n 1, 1) rfl
theorem dX1_copyFrom_69 : decode cX1_copyFrom 69 = .ok (.getfield 14, 3) := dTX1_copyFrom_0_ok 35 (69, .getfield 14, 3) rfl
theorem dX1_copyFrom_72 : decode cX1_copyFrom 72 = .ok (.invokevirtual 45, 3) := dTX1_copyFrom_0_ok 36 (72, .invokevirtual 45, 3) rfl
theorem dX1_copyFrom_75 : decode cX1_copyFrom 75 = .ok (.return_, 1) := dTX1_copyFrom_0_ok 37 (75, .return_, 1) rfl
noncomputable def dTX1_candleCount_0 : List (Nat × Instr × Nat) := [(0, .aload_n 0, 1), (1, .getfield 20, 3), (4, .invokestatic 49, 3), (7, .ireturn, 1)]
theorem dTX1_candleCount_0_ok : ∀ (k : Nat) (q : Nat × Instr × Nat), dTX1_candleCount_0[k]? = some q → decode cX1_candleCount q.1 = .ok q.2 := dT_of (by decide +kernel)
theorem dX1_candleCount_0 : decode cX1_candleCount 0 = .ok (.aload_n 0, 1) := dTX1_candleCount_0_ok 0 (0, .aload_n 0, 1) rfl
theorem dX1_candleCount_1 : decode cX1_candleCount 1 = .ok (.getfield 20, 3) := dTX1_candleCount_0_ok 1 (1, .getfield 20, 3) rfl
theorem dX1_candleCount_4 : decode cX1_candleCount 4 = .ok (.invokestatic 49, 3) := dTX1_candleCount_0_ok 2 (4, .invokestatic 49, 3) rfl
theorem dX1_candleCount_7 : decode cX1_candleCount 7 = .ok (.ireturn, 1) := dTX1_candleCount_0_ok 3 (7, .ireturn, 1) rfl
noncomputable def dTX1_burningCount_0 : List (Nat × Instr × Nat) := [(0, .aload_n 0, 1), (1, .getfield 24, 3), (4, .invokestatic 49, 3), (7, .ireturn, 1)]
theorem dTX1_burningCount_0_ok : ∀ (k : Nat) (q : Nat × Instr × Nat), dTX1_burningCount_0[k]? = some q → decode cX1_burningCount q.1 = .ok q.2 := dT_of (by decide +kernel)
theorem dX1_burningCount_0 : decode cX1_burningCount 0 = .ok (.aload_n 0, 1) := dTX1_burningCount_0_ok 0 (0, .aload_n 0, 1) rfl
theorem dX1_burningCount_1 : decode cX1_burningCount 1 = .ok (.getfield 24, 3) := dTX1_burningCount_0_ok 1 (1, .getfield 24, 3) rfl
theorem dX1_burningCount_4 : decode cX1_burningCount 4 = .ok (.invokestatic 49, 3) := dTX1_burningCount_0_ok 2 (4, .invokestatic 49, 3) rfl
theorem dX1_burningCount_7 : decode cX1_burningCount 7 = .ok (.ireturn, 1) := dTX1_burningCount_0_ok 3 (7, .ireturn, 1) rfl
noncomputable def dTX1_mirrorCount_0 : List (Nat × Instr × Nat) := [(0, .aload_n 0, 1), (1, .getfield 27, 3), (4, .aload_n 0, 1), (5, .getfield 30, 3), (8, .lor, 1), (9, .invokestatic 49, 3), (12, .ireturn, 1)]
theorem dTX1_mirrorCount_0_ok : ∀ (k : Nat) (q : Nat × Instr × Nat), dTX1_mirrorCount_0[k]? = some q → decode cX1_mirrorCount q.1 = .ok q.2 := dT_of (by decide +kernel)
theorem dX1_mirrorCount_0 : decode cX1_mirrorCount 0 = .ok (.aload_n 0, 1) := dTX1_mirrorCount_0_ok 0 (0, .aload_n 0, 1) rfl
theorem dX1_mirrorCount_1 : decode cX1_mirrorCount 1 = .ok (.getfield 27, 3) := dTX1_mirrorCount_0_ok 1 (1, .getfield 27, 3) rfl
theorem dX1_mirrorCount_4 : decode cX1_mirrorCount 4 = .ok (.aload_n 0, 1) := dTX1_mirrorCount_0_ok 2 (4, .aload_n 0, 1) rfl
theorem dX1_mirrorCount_5 : decode cX1_mirrorCount 5 = .ok (.getfield 30, 3) := dTX1_mirrorCount_0_ok 3 (5, .getfield 30, 3) rfl
theorem dX1_mirrorCount_8 : decode cX1_mirrorCount 8 = .ok (.lor, 1) := dTX1_mirrorCount_0_ok 4 (8, .lor, 1) rfl
theorem dX1_mirrorCount_9 : decode cX1_mirrorCount 9 = .ok (.invokestatic 49, 3) := dTX1_mirrorCount_0_ok 5 (9, .invokestatic 49, 3) rfl
theorem dX1_mirrorCount_12 : decode cX1_mirrorCount 12 = .ok (.ireturn, 1) := dTX1_mirrorCount_0_ok 6 (12, .ireturn, 1) rfl
noncomputable def dTX1_tallyCount_0 : List (Nat × Instr × Nat) := [(0, .aload_n 0, 1), (1, .getfield 33, 3), (4, .invokestatic 49, 3), (7, .ireturn, 1)]
theorem dTX1_tallyCount_0_ok : ∀ (k : Nat) (q : Nat × Instr × Nat), dTX1_tallyCount_0[k]? = some q → decode cX1_tallyCount q.1 = .ok q.2 := dT_of (by decide +kernel)
theorem dX1_tallyCount_0 : decode cX1_tallyCount 0 = .ok (.aload_n 0, 1) := dTX1_tallyCount_0_ok 0 (0, .aload_n 0, 1) rfl
theorem dX1_tallyCount_1 : decode cX1_tallyCount 1 = .ok (.getfield 33, 3) := dTX1_tallyCount_0_ok 1 (1, .getfield 33, 3) rfl
theorem dX1_tallyCount_4 : decode cX1_tallyCount 4 = .ok (.invokestatic 49, 3) := dTX1_tallyCount_0_ok 2 (4, .invokestatic 49, 3) rfl
theorem dX1_tallyCount_7 : decode cX1_tallyCount 7 = .ok (.ireturn, 1) := dTX1_tallyCount_0_ok 3 (7, .ireturn, 1) rfl
noncomputable def dTX1_wallCount_0 : List (Nat × Instr × Nat) := [(0, .aload_n 0, 1), (1, .getfield 36, 3), (4, .invokestatic 49, 3), (7, .aload_n 0, 1), (8, .getfield 39, 3), (11, .invokestatic 49, 3), (14, .iadd, 1), (15, .ireturn, 1)]
theorem dTX1_wallCount_0_ok : ∀ (k : Nat) (q : Nat × Instr × Nat), dTX1_wallCount_0[k]? = some q → decode cX1_wallCount q.1 = .ok q.2 := dT_of (by decide +kernel)
theorem dX1_wallCount_0 : decode cX1_wallCount 0 = .ok (.aload_n 0, 1) := dTX1_wallCount_0_ok 0 (0, .aload_n 0, 1) rfl
theorem dX1_wallCount_1 : decode cX1_wallCount 1 = .ok (.getfield 36, 3) := dTX1_wallCount_0_ok 1 (1, .getfield 36, 3) rfl
theorem dX1_wallCount_4 : decode cX1_wallCount 4 = .ok (.invokestatic 49, 3) := dTX1_wallCount_0_ok 2 (4, .invokestatic 49, 3) rfl
theorem dX1_wallCount_7 : decode cX1_wallCount 7 = .ok (.aload_n 0, 1) := dTX1_wallCount_0_ok 3 (7, .aload_n 0, 1) rfl
theorem dX1_wallCount_8 : decode cX1_wallCount 8 = .ok (.getfield 39, 3) := dTX1_wallCount_0_ok 4 (8, .getfield 39, 3) rfl
theorem dX1_wallCount_11 : decode cX1_wallCount 11 = .ok (.invokestatic 49, 3) := dTX1_wallCount_0_ok 5 (11, .invokestatic 49, 3) rfl
theorem dX1_wallCount_14 : decode cX1_wallCount 14 = .ok (.iadd, 1) := dTX1_wallCount_0_ok 6 (14, .iadd, 1) rfl
theorem dX1_wallCount_15 : decode cX1_wallCount 15 = .ok (.ireturn, 1) := dTX1_wallCount_0_ok 7 (15, .ireturn, 1) rfl
noncomputable def dTX1_litCount_0 : List (Nat × Instr × Nat) := [(0, .aload_n 0, 1), (1, .getfield 42, 3), (4, .invokestatic 49, 3), (7, .ireturn, 1)]
theorem dTX1_litCount_0_ok : ∀ (k : Nat) (q : Nat × Instr × Nat), dTX1_litCount_0[k]? = some q → decode cX1_litCount q.1 = .ok q.2 := dT_of (by decide +kernel)
theorem dX1_litCount_0 : decode cX1_litCount 0 = .ok (.aload_n 0, 1) := dTX1_litCount_0_ok 0 (0, .aload_n 0, 1) rfl
theorem dX1_litCount_1 : decode cX1_litCount 1 = .ok (.getfield 42, 3) := dTX1_litCount_0_ok 1 (1, .getfield 42, 3) rfl
theorem dX1_litCount_4 : decode cX1_litCount 4 = .ok (.invokestatic 49, 3) := dTX1_litCount_0_ok 2 (4, .invokestatic 49, 3) rfl
theorem dX1_litCount_7 : decode cX1_litCount 7 = .ok (.ireturn, 1) := dTX1_litCount_0_ok 3 (7, .ireturn, 1) rfl
noncomputable def dTX1_sumOfMarks_0 : List (Nat × Instr × Nat) := [(0, .iconst 0, 1), (1, .istore_n 1, 1), (2, .iconst 0, 1), (3, .istore_n 2, 1), (4, .iload_n 2, 1), (5, .bipush 63, 2), (7, .if_icmp .ge 28, 3), (10, .aload_n 0, 1), (11, .iload_n 2, 1), (12, .invokevirtual 55, 3), (15, .ifCond .eq 14, 3), (18, .iload_n 1, 1), (19, .aload_n 0, 1), (20, .getfield 14, 3), (23, .iload_n 2, 1), (24, .invokevirtual 59, 3), (27, .iadd, 1), (28, .istore_n 1, 1), (29, .iinc 2 1, 3), (32, .goto (-28), 3), (35, .iload_n 1, 1), (36, .ireturn, 1)]
theorem dTX1_sumOfMarks_0_ok : ∀ (k : Nat) (q : Nat × Instr × Nat), dTX1_sumOfMarks_0[k]? = some q → decode cX1_sumOfMarks q.1 = .ok q.2 := dT_of (by decide +kernel)
theorem dX1_sumOfMarks_0 : decode cX1_sumOfMarks 0 = .ok (.iconst 0, 1) := dTX1_sumOfMarks_0_ok 0 (0, .iconst 0, 1) rfl
theorem dX1_sumOfMarks_1 : decode cX1_sumOfMarks 1 = .ok (.istore_n 1, 1) := dTX1_sumOfMarks_0_ok 1 (1, .istore_n 1, 1) rfl
theorem dX1_sumOfMarks_2 : decode cX1_sumOfMarks 2 = .ok (.iconst 0, 1) := dTX1_sumOfMarks_0_ok 2 (2, .iconst 0, 1) rfl
theorem dX1_sumOfMarks_3 : decode cX1_sumOfMarks 3 = .ok (.istore_n 2, 1) := dTX1_sumOfMarks_0_ok 3 (3, .istore_n 2, 1) rfl
theorem dX1_sumOfMarks_4 : decode cX1_sumOfMarks 4 = .ok (.iload_n 2, 1) := dTX1_sumOfMarks_0_ok 4 (4, .iload_n 2, 1) rfl
theorem dX1_sumOfMarks_5 : decode cX1_sumOfMarks 5 = .ok (.bipush 63, 2) := dTX1_sumOfMarks_0_ok 5 (5, .bipush 63, 2) rfl
theorem dX1_sumOfMarks_7 : decode cX1_sumOfMarks 7 = .ok (.if_icmp .ge 28, 3) := dTX1_sumOfMarks_0_ok 6 (7, .if_icmp .ge 28, 3) rfl
theorem dX1_sumOfMarks_10 : decode cX1_sumOfMarks 10 = .ok (.aload_n 0, 1) := dTX1_sumOfMarks_0_ok 7 (10, .aload_n 0, 1) rfl
theorem dX1_sumOfMarks_11 : decode cX1_sumOfMarks 11 = .ok (.iload_n 2, 1) := dTX1_sumOfMarks_0_ok 8 (11, .iload_n 2, 1) rfl
theorem dX1_sumOfMarks_12 : decode cX1_sumOfMarks 12 = .ok (.invokevirtual 55, 3) := dTX1_sumOfMarks_0_ok 9 (12, .invokevirtual 55, 3) rfl
theorem dX1_sumOfMarks_15 : decode cX1_sumOfMarks 15 = .ok (.ifCond .eq 14, 3) := dTX1_sumOfMarks_0_ok 10 (15, .ifCond .eq 14, 3) rfl
theorem dX1_sumOfMarks_18 : decode cX1_sumOfMarks 18 = .ok (.iload_n 1, 1) := dTX1_sumOfMarks_0_ok 11 (18, .iload_n 1, 1) rfl
theorem dX1_sumOfMarks_19 : decode cX1_sumOfMarks 19 = .ok (.aload_n 0, 1) := dTX1_sumOfMarks_0_ok 12 (19, .aload_n 0, 1) rfl
theorem dX1_sumOfMarks_20 : decode cX1_sumOfMarks 20 = .ok (.getfield 14, 3) := dTX1_sumOfMarks_0_ok 13 (20, .getfield 14, 3) rfl
theorem dX1_sumOfMarks_23 : decode cX1_sumOfMarks 23 = .ok (.iload_n 2, 1) := dTX1_sumOfMarks_0_ok 14 (23, .iload_n 2, 1) rfl
theorem dX1_sumOfMarks_24 : decode cX1_sumOfMarks 24 = .ok (.invokevirtual 59, 3) := dTX1_sumOfMarks_0_ok 15 (24, .invokevirtual 59, 3) rfl
theorem dX1_sumOfMarks_27 : decode cX1_sumOfMarks 27 = .ok (.iadd, 1) := dTX1_sumOfMarks_0_ok 16 (27, .iadd, 1) rfl
theorem dX1_sumOfMarks_28 : decode cX1_sumOfMarks 28 = .ok (.istore_n 1, 1) := dTX1_sumOfMarks_0_ok 17 (28, .istore_n 1, 1) rfl
theorem dX1_sumOfMarks_29 : decode cX1_sumOfMarks 29 = .ok (.iinc 2 1, 3) := dTX1_sumOfMarks_0_ok 18 (29, .iinc 2 1, 3) rfl
theorem dX1_sumOfMarks_32 : decode cX1_sumOfMarks 32 = .ok (.goto (-28), 3) := dTX1_sumOfMarks_0_ok 19 (32, .goto (-28), 3) rfl
theorem dX1_sumOfMarks_35 : decode cX1_sumOfMarks 35 = .ok (.iload_n 1, 1) := dTX1_sumOfMarks_0_ok 20 (35, .iload_n 1, 1) rfl
theorem dX1_sumOfMarks_36 : decode cX1_sumOfMarks 36 = .ok (.ireturn, 1) := dTX1_sumOfMarks_0_ok 21 (36, .ireturn, 1) rfl
noncomputable def dTX1_isBurning_0 : List (Nat × Instr × Nat) := [(0, .aload_n 0, 1), (1, .getfield 24, 3), (4, .iload_n 1, 1), (5, .invokestatic 63, 3), (8, .ireturn, 1)]
theorem dTX1_isBurning_0_ok : ∀ (k : Nat) (q : Nat × Instr × Nat), dTX1_isBurning_0[k]? = some q → decode cX1_isBurning q.1 = .ok q.2 := dT_of (by decide +kernel)
theorem dX1_isBurning_0 : decode cX1_isBurning 0 = .ok (.aload_n 0, 1) := dTX1_isBurning_0_ok 0 (0, .aload_n 0, 1) rfl
theorem dX1_isBurning_1 : decode cX1_isBurning 1 = .ok (.getfield 24, 3) := dTX1_isBurning_0_ok 1 (1, .getfield 24, 3) rfl
theorem dX1_isBurning_4 : decode cX1_isBurning 4 = .ok (.iload_n 1, 1) := dTX1_isBurning_0_ok 2 (4, .iload_n 1, 1) rfl
theorem dX1_isBurning_5 : decode cX1_isBurning 5 = .ok (.invokestatic 63, 3) := dTX1_isBurning_0_ok 3 (5, .invokestatic 63, 3) rfl
theorem dX1_isBurning_8 : decode cX1_isBurning 8 = .ok (.ireturn, 1) := dTX1_isBurning_0_ok 4 (8, .ireturn, 1) rfl
noncomputable def dTX1_isLit_0 : List (Nat × Instr × Nat) := [(0, .aload_n 0, 1), (1, .getfield 42, 3), (4, .iload_n 1, 1), (5, .invokestatic 63, 3), (8, .ireturn, 1)]
theorem dTX1_isLit_0_ok : ∀ (k : Nat) (q : Nat × Instr × Nat), dTX1_isLit_0[k]? = some q → decode cX1_isLit q.1 = .ok q.2 := dT_of (by decide +kernel)
theorem dX1_isLit_0 : decode cX1_isLit 0 = .ok (.aload_n 0, 1) := dTX1_isLit_0_ok 0 (0, .aload_n 0, 1) rfl
theorem dX1_isLit_1 : decode cX1_isLit 1 = .ok (.getfield 42, 3) := dTX1_isLit_0_ok 1 (1, .getfield 42, 3) rfl
theorem dX1_isLit_4 : decode cX1_isLit 4 = .ok (.iload_n 1, 1) := dTX1_isLit_0_ok 2 (4, .iload_n 1, 1) rfl
theorem dX1_isLit_5 : decode cX1_isLit 5 = .ok (.invokestatic 63, 3) := dTX1_isLit_0_ok 3 (5, .invokestatic 63, 3) rfl
theorem dX1_isLit_8 : decode cX1_isLit 8 = .ok (.ireturn, 1) := dTX1_isLit_0_ok 4 (8, .ireturn, 1) rfl
noncomputable def dTX1_hasTally_0 : List (Nat × Instr × Nat) := [(0, .aload_n 0, 1), (1, .getfield 33, 3), (4, .iload_n 1, 1), (5, .invokestatic 63, 3), (8, .ireturn, 1)]
theorem dTX1_hasTally_0_ok : ∀ (k : Nat) (q : Nat × Instr × Nat), dTX1_hasTally_0[k]? = some q → decode cX1_hasTally q.1 = .ok q.2 := dT_of (by decide +kernel)
theorem dX1_hasTally_0 : decode cX1_hasTally 0 = .ok (.aload_n 0, 1) := dTX1_hasTally_0_ok 0 (0, .aload_n 0, 1) rfl
theorem dX1_hasTally_1 : decode cX1_hasTally 1 = .ok (.getfield 33, 3) := dTX1_hasTally_0_ok 1 (1, .getfield 33, 3) rfl
theorem dX1_hasTally_4 : decode cX1_hasTally 4 = .ok (.iload_n 1, 1) := dTX1_hasTally_0_ok 2 (4, .iload_n 1, 1) rfl
theorem dX1_hasTally_5 : decode cX1_hasTally 5 = .ok (.invokestatic 63, 3) := dTX1_hasTally_0_ok 3 (5, .invokestatic 63, 3) rfl
theorem dX1_hasTally_8 : decode cX1_hasTally 8 = .ok (.ireturn, 1) := dTX1_hasTally_0_ok 4 (8, .ireturn, 1) rfl
noncomputable def dTX1_hasCandleWithWax_0 : List (Nat × Instr × Nat) := [(0, .aload_n 0, 1), (1, .getfield 20, 3), (4, .iload_n 1, 1), (5, .invokestatic 63, 3), (8, .ifCond .eq 18, 3), (11, .aload_n 0, 1), (12, .getfield 14, 3), (15, .iload_n 1, 1), (16, .invokevirtual 59, 3), (19, .ifCond .le 7, 3), (22, .iconst 1, 1), (23, .goto 4, 3), (26, .iconst 0, 1), (27, .ireturn, 1)]
theorem dTX1_hasCandleWithWax_0_ok : ∀ (k : Nat) (q : Nat × Instr × Nat), dTX1_hasCandleWithWax_0[k]? = some q → decode cX1_hasCandleWithWax q.1 = .ok q.2 := dT_of (by decide +kernel)
theorem dX1_hasCandleWithWax_0 : decode cX1_hasCandleWithWax 0 = .ok (.aload_n 0, 1) := dTX1_hasCandleWithWax_0_ok 0 (0, .aload_n 0, 1) rfl
theorem dX1_hasCandleWithWax_1 : decode cX1_hasCandleWithWax 1 = .ok (.getfield 20, 3) := dTX1_hasCandleWithWax_0_ok 1 (1, .getfield 20, 3) rfl
theorem dX1_hasCandleWithWax_4 : decode cX1_hasCandleWithWax 4 = .ok (.iload_n 1, 1) := dTX1_hasCandleWithWax_0_ok 2 (4, .iload_n 1, 1) rfl
theorem dX1_hasCandleWithWax_5 : decode cX1_hasCandleWithWax 5 = .ok (.invokestatic 63, 3) := dTX1_hasCandleWithWax_0_ok 3 (5, .invokestatic 63, 3) rfl
theorem dX1_hasCandleWithWax_8 : decode cX1_hasCandleWithWax 8 = .ok (.ifCond .eq 18, 3) := dTX1_hasCandleWithWax_0_ok 4 (8, .ifCond .eq 18, 3) rfl
theorem dX1_hasCandleWithWax_11 : decode cX1_hasCandleWithWax 11 = .ok (.aload_n 0, 1) := dTX1_hasCandleWithWax_0_ok 5 (11, .aload_n 0, 1) rfl
theorem dX1_hasCandleWithWax_12 : decode cX1_hasCandleWithWax 12 = .ok (.getfield 14, 3) := dTX1_hasCandleWithWax_0_ok 6 (12, .getfield 14, 3) rfl
theorem dX1_hasCandleWithWax_15 : decode cX1_hasCandleWithWax 15 = .ok (.iload_n 1, 1) := dTX1_hasCandleWithWax_0_ok 7 (15, .iload_n 1, 1) rfl
theorem dX1_hasCandleWithWax_16 : decode cX1_hasCandleWithWax 16 = .ok (.invokevirtual 59, 3) := dTX1_hasCandleWithWax_0_ok 8 (16, .invokevirtual 59, 3) rfl
theorem dX1_hasCandleWithWax_19 : decode cX1_hasCandleWithWax 19 = .ok (.ifCond .le 7, 3) := dTX1_hasCandleWithWax_0_ok 9 (19, .ifCond .le 7, 3) rfl
theorem dX1_hasCandleWithWax_22 : decode cX1_hasCandleWithWax 22 = .ok (.iconst 1, 1) := dTX1_hasCandleWithWax_0_ok 10 (22, .iconst 1, 1) rfl
theorem dX1_hasCandleWithWax_23 : decode cX1_hasCandleWithWax 23 = .ok (.goto 4, 3) := dTX1_hasCandleWithWax_0_ok 11 (23, .goto 4, 3) rfl
theorem dX1_hasCandleWithWax_26 : decode cX1_hasCandleWithWax 26 = .ok (.iconst 0, 1) := dTX1_hasCandleWithWax_0_ok 12 (26, .iconst 0, 1) rfl
theorem dX1_hasCandleWithWax_27 : decode cX1_hasCandleWithWax 27 = .ok (.ireturn, 1) := dTX1_hasCandleWithWax_0_ok 13 (27, .ireturn, 1) rfl
noncomputable def dTX1_amountIn_0 : List (Nat × Instr × Nat) := [(0, .aload_n 0, 1), (1, .getfield 14, 3), (4, .iload_n 1, 1), (5, .invokevirtual 59, 3), (8, .ireturn, 1)]
theorem dTX1_amountIn_0_ok : ∀ (k : Nat) (q : Nat × Instr × Nat), dTX1_amountIn_0[k]? = some q → decode cX1_amountIn q.1 = .ok q.2 := dT_of (by decide +kernel)
theorem dX1_amountIn_0 : decode cX1_amountIn 0 = .ok (.aload_n 0, 1) := dTX1_amountIn_0_ok 0 (0, .aload_n 0, 1) rfl
theorem dX1_amountIn_1 : decode cX1_amountIn 1 = .ok (.getfield 14, 3) := dTX1_amountIn_0_ok 1 (1, .getfield 14, 3) rfl
theorem dX1_amountIn_4 : decode cX1_amountIn 4 = .ok (.iload_n 1, 1) := dTX1_amountIn_0_ok 2 (4, .iload_n 1, 1) rfl
theorem dX1_amountIn_5 : decode cX1_amountIn 5 = .ok (.invokevirtual 59, 3) := dTX1_amountIn_0_ok 3 (5, .invokevirtual 59, 3) rfl
theorem dX1_amountIn_8 : decode cX1_amountIn 8 = .ok (.ireturn, 1) := dTX1_amountIn_0_ok 4 (8, .ireturn, 1) rfl
noncomputable def dTX1_thingIn_0 : List (Nat × Instr × Nat) := [(0, .aload_n 0, 1), (1, .getfield 20, 3), (4, .iload_n 1, 1), (5, .invokestatic 63, 3), (8, .ifCond .eq 5, 3), (11, .iconst 1, 1), (12, .ireturn, 1), (13, .aload_n 0, 1), (14, .getfield 27, 3), (17, .iload_n 1, 1), (18, .invokestatic 63, 3), (21, .ifCond .eq 5, 3), (24, .iconst 2, 1), (25, .ireturn, 1), (26, .aload_n 0, 1), (27, .getfield 30, 3), (30, .iload_n 1, 1), (31, .invokestatic 63, 3), (34, .ifCond .eq 5, 3), (37, .iconst 3, 1), (38, .ireturn, 1), (39, .aload_n 0, 1), (40, .iload_n 1, 1), (41, .invokevirtual 55, 3), (44, .ifCond .eq 7, 3), (47, .iconst 4, 1), (48, .goto 4, 3), (51, .iconst 0, 1), (52, .ireturn, 1)]
theorem dTX1_thingIn_0_ok : ∀ (k : Nat) (q : Nat × Instr × Nat), dTX1_thingIn_0[k]? = some q → decode cX1_thingIn q.1 = .ok q.2 := dT_of (by decide +kernel)
theorem dX1_thingIn_0 : decode cX1_thingIn 0 = .ok (.aload_n 0, 1) := dTX1_thingIn_0_ok 0 (0, .aload_n 0, 1) rfl
theorem dX1_thingIn_1 : decode cX1_thingIn 1 = .ok (.getfield 20, 3) := dTX1_thingIn_0_ok 1 (1, .getfield 20, 3) rfl
theorem dX1_thingIn_4 : decode cX1_thingIn 4 = .ok (.iload_n 1, 1) := dTX1_thingIn_0_ok 2 (4, .iload_n 1, 1) rfl
theorem dX1_thingIn_5 : decode cX1_thingIn 5 = .ok (.invokestatic 63, 3) := dTX1_thingIn_0_ok 3 (5, .invokestatic 63, 3) rfl
theorem dX1_thingIn_8 : decode cX1_thingIn 8 = .ok (.ifCond .eq 5, 3) := dTX1_thingIn_0_ok 4 (8, .ifCond .eq 5, 3) rfl
theorem dX1_thingIn_11 : decode cX1_thingIn 11 = .ok (.iconst 1, 1) := dTX1_thingIn_0_ok 5 (11, .iconst 1, 1) rfl
theorem dX1_thingIn_12 : decode cX1_thingIn 12 = .ok (.ireturn, 1) := dTX1_thingIn_0_ok 6 (12, .ireturn, 1) rfl
theorem dX1_thingIn_13 : decode cX1_thingIn 13 = .ok (.aload_n 0, 1) := dTX1_thingIn_0_ok 7 (13, .aload_n 0, 1) rfl
theorem dX1_thingIn_14 : decode cX1_thingIn 14 = .ok (.getfield 27, 3) := dTX1_thingIn_0_ok 8 (14, .getfield 27, 3) rfl
theorem dX1_thingIn_17 : decode cX1_thingIn 17 = .ok (.iload_n 1, 1) := dTX1_thingIn_0_ok 9 (17, .iload_n 1, 1) rfl
theorem dX1_thingIn_18 : decode cX1_thingIn 18 = .ok (.invokestatic 63, 3) := dTX1_thingIn_0_ok 10 (18, .invokestatic 63, 3) rfl
theorem dX1_thingIn_21 : decode cX1_thingIn 21 = .ok (.ifCond .eq 5, 3) := dTX1_thingIn_0_ok 11 (21, .ifCond .eq 5, 3) rfl
theorem dX1_thingIn_24 : decode cX1_thingIn 24 = .ok (.iconst 2, 1) := dTX1_thingIn_0_ok 12 (24, .iconst 2, 1) rfl
theorem dX1_thingIn_25 : decode cX1_thingIn 25 = .ok (.ireturn, 1) := dTX1_thingIn_0_ok 13 (25, .ireturn, 1) rfl
theorem dX1_thingIn_26 : decode cX1_thingIn 26 = .ok (.aload_n 0, 1) := dTX1_thingIn_0_ok 14 (26, .aload_n 0, 1) rfl
theorem dX1_thingIn_27 : decode cX1_thingIn 27 = .ok (.getfield 30, 3) := dTX1_thingIn_0_ok 15 (27, .getfield 30, 3) rfl
theorem dX1_thingIn_30 : decode cX1_thingIn 30 = .ok (.iload_n 1, 1) := dTX1_thingIn_0_ok 16 (30, .iload_n 1, 1) rfl
theorem dX1_thingIn_31 : decode cX1_thingIn 31 = .ok (.invokestatic 63, 3) := dTX1_thingIn_0_ok 17 (31, .invokestatic 63, 3) rfl
theorem dX1_thingIn_34 : decode cX1_thingIn 34 = .ok (.ifCond .eq 5, 3) := dTX1_thingIn_0_ok 18 (34, .ifCond .eq 5, 3) rfl
theorem dX1_thingIn_37 : decode cX1_thingIn 37 = .ok (.iconst 3, 1) := dTX1_thingIn_0_ok 19 (37, .iconst 3, 1) rfl
theorem dX1_thingIn_38 : decode cX1_thingIn 38 = .ok (.ireturn, 1) := dTX1_thingIn_0_ok 20 (38, .ireturn, 1) rfl
theorem dX1_thingIn_39 : decode cX1_thingIn 39 = .ok (.aload_n 0, 1) := dTX1_thingIn_0_ok 21 (39, .aload_n 0, 1) rfl
theorem dX1_thingIn_40 : decode cX1_thingIn 40 = .ok (.iload_n 1, 1) := dTX1_thingIn_0_ok 22 (40, .iload_n 1, 1) rfl
theorem dX1_thingIn_41 : decode cX1_thingIn 41 = .ok (.invokevirtual 55, 3) := dTX1_thingIn_0_ok 23 (41, .invokevirtual 55, 3) rfl
theorem dX1_thingIn_44 : decode cX1_thingIn 44 = .ok (.ifCond .eq 7, 3) := dTX1_thingIn_0_ok 24 (44, .ifCond .eq 7, 3) rfl
theorem dX1_thingIn_47 : decode cX1_thingIn 47 = .ok (.iconst 4, 1) := dTX1_thingIn_0_ok 25 (47, .iconst 4, 1) rfl
theorem dX1_thingIn_48 : decode cX1_thingIn 48 = .ok (.goto 4, 3) := dTX1_thingIn_0_ok 26 (48, .goto 4, 3) rfl
theorem dX1_thingIn_51 : decode cX1_thingIn 51 = .ok (.iconst 0, 1) := dTX1_thingIn_0_ok 27 (51, .iconst 0, 1) rfl
theorem dX1_thingIn_52 : decode cX1_thingIn 52 = .ok (.ireturn, 1) := dTX1_thingIn_0_ok 28 (52, .ireturn, 1) rfl
noncomputable def dTX1_addCandle_0 : List (Nat × Instr × Nat) := [(0, .aload_n 0, 1), (1, .dup, 1), (2, .getfield 20, 3), (5, .iload_n 1, 1), (6, .invokestatic 69, 3), (9, .lor, 1), (10, .putfield 20, 3), (13, .aload_n 0, 1), (14, .dup, 1), (15, .getfield 24, 3), (18, .iload_n 1, 1), (19, .invokestatic 69, 3), (22, .lor, 1), (23, .putfield 24, 3), (26, .aload_n 0, 1), (27, .getfield 14, 3), (30, .iload_n 1, 1), (31, .iload_n 2, 1), (32, .invokevirtual 73, 3), (35, .aload_n 0, 1), (36, .invokevirtual 77, 3), (39, .return_, 1)]
theorem dTX1_addCandle_0_ok : ∀ (k : Nat) (q : Nat × Instr × Nat), dTX1_addCandle_0[k]? = some q → decode cX1_addCandle q.1 = .ok q.2 := dT_of (by decide +kernel)
theorem dX1_addCandle_0 : decode cX1_addCandle 0 = .ok (.aload_n 0, 1) := dTX1_addCandle_0_ok 0 (0, .aload_n 0, 1) rfl
theorem dX1_addCandle_1 : decode cX1_addCandle 1 = .ok (.dup, 1) := dTX1_addCandle_0_ok 1 (1, .dup, 1) rfl
theorem dX1_addCandle_2 : decode cX1_addCandle 2 = .ok (.getfield 20, 3) := dTX1_addCandle_0_ok 2 (2, .getfield 20, 3) rfl
theorem dX1_addCandle_5 : decode cX1_addCandle 5 = .ok (.iload_n 1, 1) := dTX1_addCandle_0_ok 3 (5, .iload_n 1, 1) rfl
theorem dX1_addCandle_6 : decode cX1_addCandle 6 = .ok (.invokestatic 69, 3) := dTX1_addCandle_0_ok 4 (6, .invokestatic 69, 3) rfl
theorem dX1_addCandle_9 : decode cX1_addCandle 9 = .ok (.lor, 1) := dTX1_addCandle_0_ok 5 (9, .lor, 1) rfl
theorem dX1_addCandle_10 : decode cX1_addCandle 10 = .ok (.putfield 20, 3) := dTX1_addCandle_0_ok 6 (10, .putfield 20, 3) rfl
theorem dX1_addCandle_13 : decode cX1_addCandle 13 = .ok (.aload_n 0, 1) := dTX1_addCandle_0_ok 7 (13, .aload_n 0, 1) rfl
theorem dX1_addCandle_14 : decode cX1_addCandle 14 = .ok (.dup, 1) := dTX1_addCandle_0_ok 8 (14, .dup, 1) rfl
theorem dX1_addCandle_15 : decode cX1_addCandle 15 = .ok (.getfield 24, 3) := dTX1_addCandle_0_ok 9 (15, .getfield 24, 3) rfl
theorem dX1_addCandle_18 : decode cX1_addCandle 18 = .ok (.iload_n 1, 1) := dTX1_addCandle_0_ok 10 (18, .iload_n 1, 1) rfl
theorem dX1_addCandle_19 : decode cX1_addCandle 19 = .ok (.invokestatic 69, 3) := dTX1_addCandle_0_ok 11 (19, .invokestatic 69, 3) rfl
theorem dX1_addCandle_22 : decode cX1_addCandle 22 = .ok (.lor, 1) := dTX1_addCandle_0_ok 12 (22, .lor, 1) rfl
theorem dX1_addCandle_23 : decode cX1_addCandle 23 = .ok (.putfield 24, 3) := dTX1_addCandle_0_ok 13 (23, .putfield 24, 3) rfl
theorem dX1_addCandle_26 : decode cX1_addCandle 26 = .ok (.aload_n 0, 1) := dTX1_addCandle_0_ok 14 (26, .aload_n 0, 1) rfl
theorem dX1_addCandle_27 : decode cX1_addCandle 27 = .ok (.getfield 14, 3) := dTX1_addCandle_0_ok 15 (27, .getfield 14, 3) rfl
theorem dX1_addCandle_30 : decode cX1_addCandle 30 = .ok (.iload_n 1, 1) := dTX1_addCandle_0_ok 16 (30, .iload_n 1, 1) rfl
theorem dX1_addCandle_31 : decode cX1_addCandle 31 = .ok (.iload_n 2, 1) := dTX1_addCandle_0_ok 17 (31, .iload_n 2, 1) rfl
theorem dX1_addCandle_32 : decode cX1_addCandle 32 = .ok (.invokevirtual 73, 3) := dTX1_addCandle_0_ok 18 (32, .invokevirtual 73, 3) rfl
theorem dX1_addCandle_35 : decode cX1_addCandle 35 = .ok (.aload_n 0, 1) := dTX1_addCandle_0_ok 19 (35, .aload_n 0, 1) rfl
theorem dX1_addCandle_36 : decode cX1_addCandle 36 = .ok (.invokevirtual 77, 3) := dTX1_addCandle_0_ok 20 (36, .invokevirtual 77, 3) rfl
theorem dX1_addCandle_39 : decode cX1_addCandle 39 = .ok (.return_, 1) := dTX1_addCandle_0_ok 21 (39, .return_, 1) rfl
noncomputable def dTX1_addMirror_0 : List (Nat × Instr × Nat) := [(0, .iload_n 2, 1), (1, .ifCond .eq 19, 3), (4, .aload_n 0, 1), (5, .dup, 1), (6, .getfield 27, 3), (9, .iload_n 1, 1), (10, .invokestatic 69, 3), (13, .lor, 1), (14, .putfield 27, 3), (17, .goto 16, 3), (20, .aload_n 0, 1), (21, .dup, 1), (22, .getfield 30, 3), (25, .iload_n 1, 1), (26, .invokestatic 69, 3), (29, .lor, 1), (30, .putfield 30, 3), (33, .aload_n 0, 1), (34, .invokevirtual 77, 3), (37, .return_, 1)]
theorem dTX1_addMirror_0_ok : ∀ (k : Nat) (q : Nat × Instr × Nat), dTX1_addMirror_0[k]? = some q → decode cX1_addMirror q.1 = .ok q.2 := dT_of (by decide +kernel)
theorem dX1_addMirror_0 : decode cX1_addMirror 0 = .ok (.iload_n 2, 1) := dTX1_addMirror_0_ok 0 (0, .iload_n 2, 1) rfl
theorem dX1_addMirror_1 : decode cX1_addMirror 1 = .ok (.ifCond .eq 19, 3) := dTX1_addMirror_0_ok 1 (1, .ifCond .eq 19, 3) rfl
theorem dX1_addMirror_4 : decode cX1_addMirror 4 = .ok (.aload_n 0, 1) := dTX1_addMirror_0_ok 2 (4, .aload_n 0, 1) rfl
theorem dX1_addMirror_5 : decode cX1_addMirror 5 = .ok (.dup, 1) := dTX1_addMirror_0_ok 3 (5, .dup, 1) rfl
theorem dX1_addMirror_6 : decode cX1_addMirror 6 = .ok (.getfield 27, 3) := dTX1_addMirror_0_ok 4 (6, .getfield 27, 3) rfl
theorem dX1_addMirror_9 : decode cX1_addMirror 9 = .ok (.iload_n 1, 1) := dTX1_addMirror_0_ok 5 (9, .iload_n 1, 1) rfl
theorem dX1_addMirror_10 : decode cX1_addMirror 10 = .ok (.invokestatic 69, 3) := dTX1_addMirror_0_ok 6 (10, .invokestatic 69, 3) rfl
theorem dX1_addMirror_13 : decode cX1_addMirror 13 = .ok (.lor, 1) := dTX1_addMirror_0_ok 7 (13, .lor, 1) rfl
theorem dX1_addMirror_14 : decode cX1_addMirror 14 = .ok (.putfield 27, 3) := dTX1_addMirror_0_ok 8 (14, .putfield 27, 3) rfl
theorem dX1_addMirror_17 : decode cX1_addMirror 17 = .ok (.goto 16, 3) := dTX1_addMirror_0_ok 9 (17, .goto 16, 3) rfl
theorem dX1_addMirror_20 : decode cX1_addMirror 20 = .ok (.aload_n 0, 1) := dTX1_addMirror_0_ok 10 (20, .aload_n 0, 1) rfl
theorem dX1_addMirror_21 : decode cX1_addMirror 21 = .ok (.dup, 1) := dTX1_addMirror_0_ok 11 (21, .dup, 1) rfl
theorem dX1_addMirror_22 : decode cX1_addMirror 22 = .ok (.getfield 30, 3) := dTX1_addMirror_0_ok 12 (22, .getfield 30, 3) rfl
theorem dX1_addMirror_25 : decode cX1_addMirror 25 = .ok (.iload_n 1, 1) := dTX1_addMirror_0_ok 13 (25, .iload_n 1, 1) rfl
theorem dX1_addMirror_26 : decode cX1_addMirror 26 = .ok (.invokestatic 69, 3) := dTX1_addMirror_0_ok 14 (26, .invokestatic 69, 3) rfl
theorem dX1_addMirror_29 : decode cX1_addMirror 29 = .ok (.lor, 1) := dTX1_addMirror_0_ok 15 (29, .lor, 1) rfl
theorem dX1_addMirror_30 : decode cX1_addMirror 30 = .ok (.putfield 30, 3) := dTX1_addMirror_0_ok 16 (30, .putfield 30, 3) rfl
theorem dX1_addMirror_33 : decode cX1_addMirror 33 = .ok (.aload_n 0, 1) := dTX1_addMirror_0_ok 17 (33, .aload_n 0, 1) rfl
theorem dX1_addMirror_34 : decode cX1_addMirror 34 = .ok (.invokevirtual 77, 3) := dTX1_addMirror_0_ok 18 (34, .invokevirtual 77, 3) rfl
theorem dX1_addMirror_37 : decode cX1_addMirror 37 = .ok (.return_, 1) := dTX1_addMirror_0_ok 19 (37, .return_, 1) rfl
noncomputable def dTX1_addTally_0 : List (Nat × Instr × Nat) := [(0, .aload_n 0, 1), (1, .dup, 1), (2, .getfield 33, 3), (5, .iload_n 1, 1), (6, .invokestatic 69, 3), (9, .lor, 1), (10, .putfield 33, 3), (13, .return_, 1)]
theorem dTX1_addTally_0_ok : ∀ (k : Nat) (q : Nat × Instr × Nat), dTX1_addTally_0[k]? = some q → decode cX1_addTally q.1 = .ok q.2 := dT_of (by decide +kernel)
theorem dX1_addTally_0 : decode cX1_addTally 0 = .ok (.aload_n 0, 1) := dTX1_addTally_0_ok 0 (0, .aload_n 0, 1) rfl
theorem dX1_addTally_1 : decode cX1_addTally 1 = .ok (.dup, 1) := dTX1_addTally_0_ok 1 (1, .dup, 1) rfl
theorem dX1_addTally_2 : decode cX1_addTally 2 = .ok (.getfield 33, 3) := dTX1_addTally_0_ok 2 (2, .getfield 33, 3) rfl
theorem dX1_addTally_5 : decode cX1_addTally 5 = .ok (.iload_n 1, 1) := dTX1_addTally_0_ok 3 (5, .iload_n 1, 1) rfl
theorem dX1_addTally_6 : decode cX1_addTally 6 = .ok (.invokestatic 69, 3) := dTX1_addTally_0_ok 4 (6, .invokestatic 69, 3) rfl
theorem dX1_addTally_9 : decode cX1_addTally 9 = .ok (.lor, 1) := dTX1_addTally_0_ok 5 (9, .lor, 1) rfl
theorem dX1_addTally_10 : decode cX1_addTally 10 = .ok (.putfield 33, 3) := dTX1_addTally_0_ok 6 (10, .putfield 33, 3) rfl
theorem dX1_addTally_13 : decode cX1_addTally 13 = .ok (.return_, 1) := dTX1_addTally_0_ok 7 (13, .return_, 1) rfl
noncomputable def dTX1_clear_0 : List (Nat × Instr × Nat) := [(0, .iload_n 1, 1), (1, .invokestatic 69, 3), (4, .ldc2_w 80, 3), (7, .lxor, 1), (8, .lstore_n 2, 1), (9, .aload_n 0, 1), (10, .dup, 1), (11, .getfield 20, 3), (14, .lload_n 2, 1), (15, .land, 1), (16, .putfield 20, 3), (19, .aload_n 0, 1), (20, .dup, 1), (21, .getfield 24, 3), (24, .lload_n 2, 1), (25, .land, 1), (26, .putfield 24, 3), (29, .aload_n 0, 1), (30, .dup, 1), (31, .getfield 27, 3), (34, .lload_n 2, 1), (35, .land, 1), (36, .putfield 27, 3), (39, .aload_n 0, 1), (40, .dup, 1), (41, .getfield 30, 3), (44, .lload_n 2, 1), (45, .land, 1), (46, .putfield 30, 3), (49, .aload_n 0, 1), (50, .dup, 1), (51, .getfield 33, 3), (54, .lload_n 2, 1), (55, .land, 1), (56, .putfield 33, 3), (59, .aload_n 0, 1), (60, .getfield 14, 3), (63, .iload_n 1, 1), (64, .iconst 0, 1), (65, .invokevirtual 73, 3), (68, .aload_n 0, 1), (69, .invokevirtual 77, 3), (72, .return_, 1)]
theorem dTX1_clear_0_ok : ∀ (k : Nat) (q : Nat × Instr × Nat), dTX1_clear_0[k]? = some q → decode cX1_clear q.1 = .ok q.2 := dT_of (by decide +kernel)
theorem dX1_clear_0 : decode cX1_clear 0 = .ok (.iload_n 1, 1) := dTX1_clear_0_ok 0 (0, .iload_n 1, 1) rfl
theorem dX1_clear_1 : decode cX1_clear 1 = .ok (.invokestatic 69, 3) := dTX1_clear_0_ok 1 (1, .invokestatic 69, 3) rfl
theorem dX1_clear_4 : decode cX1_clear 4 = .ok (.ldc2_w 80, 3) := dTX1_clear_0_ok 2 (4, .ldc2_w 80, 3) rfl
theorem dX1_clear_7 : decode cX1_clear 7 = .ok (.lxor, 1) := dTX1_clear_0_ok 3 (7, .lxor, 1) rfl
theorem dX1_clear_8 : decode cX1_clear 8 = .ok (.lstore_n 2, 1) := dTX1_clear_0_ok 4 (8, .lstore_n 2, 1) rfl
theorem dX1_clear_9 : decode cX1_clear 9 = .ok (.aload_n 0, 1) := dTX1_clear_0_ok 5 (9, .aload_n 0, 1) rfl
theorem dX1_clear_10 : decode cX1_clear 10 = .ok (.dup, 1) := dTX1_clear_0_ok 6 (10, .dup, 1) rfl
theorem dX1_clear_11 : decode cX1_clear 11 = .ok (.getfield 20, 3) := dTX1_clear_0_ok 7 (11, .getfield 20, 3) rfl
theorem dX1_clear_14 : decode cX1_clear 14 = .ok (.lload_n 2, 1) := dTX1_clear_0_ok 8 (14, .lload_n 2, 1) rfl
theorem dX1_clear_15 : decode cX1_clear 15 = .ok (.land, 1) := dTX1_clear_0_ok 9 (15, .land, 1) rfl
theorem dX1_clear_16 : decode cX1_clear 16 = .ok (.putfield 20, 3) := dTX1_clear_0_ok 10 (16, .putfield 20, 3) rfl
theorem dX1_clear_19 : decode cX1_clear 19 = .ok (.aload_n 0, 1) := dTX1_clear_0_ok 11 (19, .aload_n 0, 1) rfl
theorem dX1_clear_20 : decode cX1_clear 20 = .ok (.dup, 1) := dTX1_clear_0_ok 12 (20, .dup, 1) rfl
theorem dX1_clear_21 : decode cX1_clear 21 = .ok (.getfield 24, 3) := dTX1_clear_0_ok 13 (21, .getfield 24, 3) rfl
theorem dX1_clear_24 : decode cX1_clear 24 = .ok (.lload_n 2, 1) := dTX1_clear_0_ok 14 (24, .lload_n 2, 1) rfl
theorem dX1_clear_25 : decode cX1_clear 25 = .ok (.land, 1) := dTX1_clear_0_ok 15 (25, .land, 1) rfl
theorem dX1_clear_26 : decode cX1_clear 26 = .ok (.putfield 24, 3) := dTX1_clear_0_ok 16 (26, .putfield 24, 3) rfl
theorem dX1_clear_29 : decode cX1_clear 29 = .ok (.aload_n 0, 1) := dTX1_clear_0_ok 17 (29, .aload_n 0, 1) rfl
theorem dX1_clear_30 : decode cX1_clear 30 = .ok (.dup, 1) := dTX1_clear_0_ok 18 (30, .dup, 1) rfl
theorem dX1_clear_31 : decode cX1_clear 31 = .ok (.getfield 27, 3) := dTX1_clear_0_ok 19 (31, .getfield 27, 3) rfl
theorem dX1_clear_34 : decode cX1_clear 34 = .ok (.lload_n 2, 1) := dTX1_clear_0_ok 20 (34, .lload_n 2, 1) rfl
theorem dX1_clear_35 : decode cX1_clear 35 = .ok (.land, 1) := dTX1_clear_0_ok 21 (35, .land, 1) rfl
theorem dX1_clear_36 : decode cX1_clear 36 = .ok (.putfield 27, 3) := dTX1_clear_0_ok 22 (36, .putfield 27, 3) rfl
theorem dX1_clear_39 : decode cX1_clear 39 = .ok (.aload_n 0, 1) := dTX1_clear_0_ok 23 (39, .aload_n 0, 1) rfl
theorem dX1_clear_40 : decode cX1_clear 40 = .ok (.dup, 1) := dTX1_clear_0_ok 24 (40, .dup, 1) rfl
theorem dX1_clear_41 : decode cX1_clear 41 = .ok (.getfield 30, 3) := dTX1_clear_0_ok 25 (41, .getfield 30, 3) rfl
theorem dX1_clear_44 : decode cX1_clear 44 = .ok (.lload_n 2, 1) := dTX1_clear_0_ok 26 (44, .lload_n 2, 1) rfl
theorem dX1_clear_45 : decode cX1_clear 45 = .ok (.land, 1) := dTX1_clear_0_ok 27 (45, .land, 1) rfl
theorem dX1_clear_46 : decode cX1_clear 46 = .ok (.putfield 30, 3) := dTX1_clear_0_ok 28 (46, .putfield 30, 3) rfl
theorem dX1_clear_49 : decode cX1_clear 49 = .ok (.aload_n 0, 1) := dTX1_clear_0_ok 29 (49, .aload_n 0, 1) rfl
theorem dX1_clear_50 : decode cX1_clear 50 = .ok (.dup, 1) := dTX1_clear_0_ok 30 (50, .dup, 1) rfl
theorem dX1_clear_51 : decode cX1_clear 51 = .ok (.getfield 33, 3) := dTX1_clear_0_ok 31 (51, .getfield 33, 3) rfl
theorem dX1_clear_54 : decode cX1_clear 54 = .ok (.lload_n 2, 1) := dTX1_clear_0_ok 32 (54, .lload_n 2, 1) rfl
theorem dX1_clear_55 : decode cX1_clear 55 = .ok (.land, 1) := dTX1_clear_0_ok 33 (55, .land, 1) rfl
theorem dX1_clear_56 : decode cX1_clear 56 = .ok (.putfield 33, 3) := dTX1_clear_0_ok 34 (56, .putfield 33, 3) rfl
theorem dX1_clear_59 : decode cX1_clear 59 = .ok (.aload_n 0, 1) := dTX1_clear_0_ok 35 (59, .aload_n 0, 1) rfl
theorem dX1_clear_60 : decode cX1_clear 60 = .ok (.getfield 14, 3) := dTX1_clear_0_ok 36 (60, .getfield 14, 3) rfl
theorem dX1_clear_63 : decode cX1_clear 63 = .ok (.iload_n 1, 1) := dTX1_clear_0_ok 37 (63, .iload_n 1, 1) rfl
theorem dX1_clear_64 : decode cX1_clear 64 = .ok (.iconst 0, 1) := dTX1_clear_0_ok 38 (64, .iconst 0, 1) rfl
theorem dX1_clear_65 : decode cX1_clear 65 = .ok (.invokevirtual 73, 3) := dTX1_clear_0_ok 39 (65, .invokevirtual 73, 3) rfl
theorem dX1_clear_68 : decode cX1_clear 68 = .ok (.aload_n 0, 1) := dTX1_clear_0_ok 40 (68, .aload_n 0, 1) rfl
theorem dX1_clear_69 : decode cX1_clear 69 = .ok (.invokevirtual 77, 3) := dTX1_clear_0_ok 41 (69, .invokevirtual 77, 3) rfl
theorem dX1_clear_72 : decode cX1_clear 72 = .ok (.return_, 1) := dTX1_clear_0_ok 42 (72, .return_, 1) rfl
noncomputable def dTX1_switchCandle_0 : List (Nat × Instr × Nat) := [(0, .aload_n 0, 1), (1, .dup, 1), (2, .getfield 24, 3), (5, .iload_n 1, 1), (6, .invokestatic 69, 3), (9, .lxor, 1), (10, .putfield 24, 3), (13, .aload_n 0, 1), (14, .invokevirtual 77, 3), (17, .return_, 1)]
theorem dTX1_switchCandle_0_ok : ∀ (k : Nat) (q : Nat × Instr × Nat), dTX1_switchCandle_0[k]? = some q → decode cX1_switchCandle q.1 = .ok q.2 := dT_of (by decide +kernel)
theorem dX1_switchCandle_0 : decode cX1_switchCandle 0 = .ok (.aload_n 0, 1) := dTX1_switchCandle_0_ok 0 (0, .aload_n 0, 1) rfl
theorem dX1_switchCandle_1 : decode cX1_switchCandle 1 = .ok (.dup, 1) := dTX1_switchCandle_0_ok 1 (1, .dup, 1) rfl
theorem dX1_switchCandle_2 : decode cX1_switchCandle 2 = .ok (.getfield 24, 3) := dTX1_switchCandle_0_ok 2 (2, .getfield 24, 3) rfl
theorem dX1_switchCandle_5 : decode cX1_switchCandle 5 = .ok (.iload_n 1, 1) := dTX1_switchCandle_0_ok 3 (5, .iload_n 1, 1) rfl
theorem dX1_switchCandle_6 : decode cX1_switchCandle 6 = .ok (.invokestatic 69, 3) := dTX1_switchCandle_0_ok 4 (6, .invokestatic 69, 3) rfl
theorem dX1_switchCandle_9 : decode cX1_switchCandle 9 = .ok (.lxor, 1) := dTX1_switchCandle_0_ok 5 (9, .lxor, 1) rfl
theorem dX1_switchCandle_10 : decode cX1_switchCandle 10 = .ok (.putfield 24, 3) := dTX1_switchCandle_0_ok 6 (10, .putfield 24, 3) rfl
theorem dX1_switchCandle_13 : decode cX1_switchCandle 13 = .ok (.aload_n 0, 1) := dTX1_switchCandle_0_ok 7 (13, .aload_n 0, 1) rfl
theorem dX1_switchCandle_14 : decode cX1_switchCandle 14 = .ok (.invokevirtual 77, 3) := dTX1_switchCandle_0_ok 8 (14, .invokevirtual 77, 3) rfl
theorem dX1_switchCandle_17 : decode cX1_switchCandle 17 = .ok (.return_, 1) := dTX1_switchCandle_0_ok 9 (17, .return_, 1) rfl
noncomputable def dTX1_walledCells_0 : List (Nat × Instr × Nat) := [(0, .iload_n 1, 1), (1, .tableswitch 45 0 2 #[27, 35, 40], 27), (28, .aload_n 0, 1), (29, .getfield 39, 3), (32, .bipush 9, 2), (34, .lshl, 1), (35, .lreturn, 1), (36, .aload_n 0, 1), (37, .getfield 36, 3), (40, .lreturn, 1), (41, .aload_n 0, 1), (42, .getfield 39, 3), (45, .lreturn, 1), (46, .aload_n 0, 1), (47, .getfield 36, 3), (50, .iconst 1, 1), (51, .lshl, 1), (52, .lreturn, 1)]
theorem dTX1_walledCells_0_ok : ∀ (k : Nat) (q : Nat × Instr × Nat), dTX1_walledCells_0[k]? = some q → decode cX1_walledCells q.1 = .ok q.2 := dT_of (by decide +kernel)
theorem dX1_walledCells_0 : decode cX1_walledCells 0 = .ok (.iload_n 1, 1) := dTX1_walledCells_0_ok 0 (0, .iload_n 1, 1) rfl
theorem dX1_walledCells_1 : decode cX1_walledCells 1 = .ok (.tableswitch 45 0 2 #[27, 35, 40], 27) := dTX1_walledCells_0_ok 1 (1, .tableswitch 45 0 2 #[27, 35, 40], 27) rfl
theorem dX1_walledCells_28 : decode cX1_walledCells 28 = .ok (.aload_n 0, 1) := dTX1_walledCells_0_ok 2 (28, .aload_n 0, 1) rfl
theorem dX1_walledCells_29 : decode cX1_walledCells 29 = .ok (.getfield 39, 3) := dTX1_walledCells_0_ok 3 (29, .getfield 39, 3) rfl
theorem dX1_walledCells_32 : decode cX1_walledCells 32 = .ok (.bipush 9, 2) := dTX1_walledCells_0_ok 4 (32, .bipush 9, 2) rfl
theorem dX1_walledCells_34 : decode cX1_walledCells 34 = .ok (.lshl, 1) := dTX1_walledCells_0_ok 5 (34, .lshl, 1) rfl
theorem dX1_walledCells_35 : decode cX1_walledCells 35 = .ok (.lreturn, 1) := dTX1_walledCells_0_ok 6 (35, .lreturn, 1) rfl
theorem dX1_walledCells_36 : decode cX1_walledCells 36 = .ok (.aload_n 0, 1) := dTX1_walledCells_0_ok 7 (36, .aload_n 0, 1) rfl
theorem dX1_walledCells_37 : decode cX1_walledCells 37 = .ok (.getfield 36, 3) := dTX1_walledCells_0_ok 8 (37, .getfield 36, 3) rfl
theorem dX1_walledCells_40 : decode cX1_walledCells 40 = .ok (.lreturn, 1) := dTX1_walledCells_0_ok 9 (40, .lreturn, 1) rfl
theorem dX1_walledCells_41 : decode cX1_walledCells 41 = .ok (.aload_n 0, 1) := dTX1_walledCells_0_ok 10 (41, .aload_n 0, 1) rfl
theorem dX1_walledCells_42 : decode cX1_walledCells 42 = .ok (.getfield 39, 3) := dTX1_walledCells_0_ok 11 (42, .getfield 39, 3) rfl
theorem dX1_walledCells_45 : decode cX1_walledCells 45 = .ok (.lreturn, 1) := dTX1_walledCells_0_ok 12 (45, .lreturn, 1) rfl
theorem dX1_walledCells_46 : decode cX1_walledCells 46 = .ok (.aload_n 0, 1) := dTX1_walledCells_0_ok 13 (46, .aload_n 0, 1) rfl
theorem dX1_walledCells_47 : decode cX1_walledCells 47 = .ok (.getfield 36, 3) := dTX1_walledCells_0_ok 14 (47, .getfield 36, 3) rfl
theorem dX1_walledCells_50 : decode cX1_walledCells 50 = .ok (.iconst 1, 1) := dTX1_walledCells_0_ok 15 (50, .iconst 1, 1) rfl
theorem dX1_walledCells_51 : decode cX1_walledCells 51 = .ok (.lshl, 1) := dTX1_walledCells_0_ok 16 (51, .lshl, 1) rfl
theorem dX1_walledCells_52 : decode cX1_walledCells 52 = .ok (.lreturn, 1) := dTX1_walledCells_0_ok 17 (52, .lreturn, 1) rfl
noncomputable def dTX1_hasWall_0 : List (Nat × Instr × Nat) := [(0, .aload_n 0, 1), (1, .iload_n 2, 1), (2, .invokevirtual 82, 3), (5, .iload_n 1, 1), (6, .invokestatic 63, 3), (9, .ireturn, 1)]
theorem dTX1_hasWall_0_ok : ∀ (k : Nat) (q : Nat × Instr × Nat), dTX1_hasWall_0[k]? = some q → decode cX1_hasWall q.1 = .ok q.2 := dT_of (by decide +kernel)
theorem dX1_hasWall_0 : decode cX1_hasWall 0 = .ok (.aload_n 0, 1) := dTX1_hasWall_0_ok 0 (0, .aload_n 0, 1) rfl
theorem dX1_hasWall_1 : decode cX1_hasWall 1 = .ok (.iload_n 2, 1) := dTX1_hasWall_0_ok 1 (1, .iload_n 2, 1) rfl
theorem dX1_hasWall_2 : decode cX1_hasWall 2 = .ok (.invokevirtual 82, 3) := dTX1_hasWall_0_ok 2 (2, .invokevirtual 82, 3) rfl
theorem dX1_hasWall_5 : decode cX1_hasWall 5 = .ok (.iload_n 1, 1) := dTX1_hasWall_0_ok 3 (5, .iload_n 1, 1) rfl
theorem dX1_hasWall_6 : decode cX1_hasWall 6 = .ok (.invokestatic 63, 3) := dTX1_hasWall_0_ok 4 (6, .invokestatic 63, 3) rfl
theorem dX1_hasWall_9 : decode cX1_hasWall 9 = .ok (.ireturn, 1) := dTX1_hasWall_0_ok 5 (9, .ireturn, 1) rfl
noncomputable def dTX1_switchWall_0 : List (Nat × Instr × Nat) := [(0, .iload_n 1, 1), (1, .invokestatic 69, 3), (4, .lstore_n 3, 1), (5, .lload_n 3, 1), (6, .iload_n 2, 1), (7, .invokestatic 85, 3), (10, .lstore 5, 2), (12, .iload_n 2, 1), (13, .tableswitch 67 0 2 #[27, 41, 54], 27), (40, .aload_n 0, 1), (41, .dup, 1), (42, .getfield 39, 3), (45, .lload 5, 2), (47, .lxor, 1), (48, .putfield 39, 3), (51, .goto 40, 3), (54, .aload_n 0, 1), (55, .dup, 1), (56, .getfield 36, 3), (59, .lload_n 3, 1), (60, .lxor, 1), (61, .putfield 36, 3), (64, .goto 27, 3), (67, .aload_n 0, 1), (68, .dup, 1), (69, .getfield 39, 3), (72, .lload_n 3, 1), (73, .lxor, 1), (74, .putfield 39, 3), (77, .goto 14, 3), (80, .aload_n 0, 1), (81, .dup, 1), (82, .getfield 36, 3), (85, .lload 5, 2), (87, .lxor, 1), (88, .putfield 36, 3), (91, .aload_n 0, 1), (92, .invokevirtual 77, 3), (95, .return_, 1)]
theorem dTX1_switchWall_0_ok : ∀ (k : Nat) (q : Nat × Instr × Nat), dTX1_switchWall_0[k]? = some q → decode cX1_switchWall q.1 = .ok q.2 := dT_of (by decide +kernel)
theorem dX1_switchWall_0 : decode cX1_switchWall 0 = .ok (.iload_n 1, 1) := dTX1_switchWall_0_ok 0 (0, .iload_n 1, 1) rfl
theorem dX1_switchWall_1 : decode cX1_switchWall 1 = .ok (.invokestatic 69, 3) := dTX1_switchWall_0_ok 1 (1, .invokestatic 69, 3) rfl
theorem dX1_switchWall_4 : decode cX1_switchWall 4 = .ok (.lstore_n 3, 1) := dTX1_switchWall_0_ok 2 (4, .lstore_n 3, 1) rfl
theorem dX1_switchWall_5 : decode cX1_switchWall 5 = .ok (.lload_n 3, 1) := dTX1_switchWall_0_ok 3 (5, .lload_n 3, 1) rfl
theorem dX1_switchWall_6 : decode cX1_switchWall 6 = .ok (.iload_n 2, 1) := dTX1_switchWall_0_ok 4 (6, .iload_n 2, 1) rfl
theorem dX1_switchWall_7 : decode cX1_switchWall 7 = .ok (.invokestatic 85, 3) := dTX1_switchWall_0_ok 5 (7, .invokestatic 85, 3) rfl
theorem dX1_switchWall_10 : decode cX1_switchWall 10 = .ok (.lstore 5, 2) := dTX1_switchWall_0_ok 6 (10, .lstore 5, 2) rfl
theorem dX1_switchWall_12 : decode cX1_switchWall 12 = .ok (.iload_n 2, 1) := dTX1_switchWall_0_ok 7 (12, .iload_n 2, 1) rfl
theorem dX1_switchWall_13 : decode cX1_switchWall 13 = .ok (.tableswitch 67 0 2 #[27, 41, 54], 27) := dTX1_switchWall_0_ok 8 (13, .tableswitch 67 0 2 #[27, 41, 54], 27) rfl
theorem dX1_switchWall_40 : decode cX1_switchWall 40 = .ok (.aload_n 0, 1) := dTX1_switchWall_0_ok 9 (40, .aload_n 0, 1) rfl
theorem dX1_switchWall_41 : decode cX1_switchWall 41 = .ok (.dup, 1) := dTX1_switchWall_0_ok 10 (41, .dup, 1) rfl
theorem dX1_switchWall_42 : decode cX1_switchWall 42 = .ok (.getfield 39, 3) := dTX1_switchWall_0_ok 11 (42, .getfield 39, 3) rfl
theorem dX1_switchWall_45 : decode cX1_switchWall 45 = .ok (.lload 5, 2) := dTX1_switchWall_0_ok 12 (45, .lload 5, 2) rfl
theorem dX1_switchWall_47 : decode cX1_switchWall 47 = .ok (.lxor, 1) := dTX1_switchWall_0_ok 13 (47, .lxor, 1) rfl
theorem dX1_switchWall_48 : decode cX1_switchWall 48 = .ok (.putfield 39, 3) := dTX1_switchWall_0_ok 14 (48, .putfield 39, 3) rfl
theorem dX1_switchWall_51 : decode cX1_switchWall 51 = .ok (.goto 40, 3) := dTX1_switchWall_0_ok 15 (51, .goto 40, 3) rfl
theorem dX1_switchWall_54 : decode cX1_switchWall 54 = .ok (.aload_n 0, 1) := dTX1_switchWall_0_ok 16 (54, .aload_n 0, 1) rfl
theorem dX1_switchWall_55 : decode cX1_switchWall 55 = .ok (.dup, 1) := dTX1_switchWall_0_ok 17 (55, .dup, 1) rfl
theorem dX1_switchWall_56 : decode cX1_switchWall 56 = .ok (.getfield 36, 3) := dTX1_switchWall_0_ok 18 (56, .getfield 36, 3) rfl
theorem dX1_switchWall_59 : decode cX1_switchWall 59 = .ok (.lload_n 3, 1) := dTX1_switchWall_0_ok 19 (59, .lload_n 3, 1) rfl
theorem dX1_switchWall_60 : decode cX1_switchWall 60 = .ok (.lxor, 1) := dTX1_switchWall_0_ok 20 (60, .lxor, 1) rfl
theorem dX1_switchWall_61 : decode cX1_switchWall 61 = .ok (.putfield 36, 3) := dTX1_switchWall_0_ok 21 (61, .putfield 36, 3) rfl
theorem dX1_switchWall_64 : decode cX1_switchWall 64 = .ok (.goto 27, 3) := dTX1_switchWall_0_ok 22 (64, .goto 27, 3) rfl
theorem dX1_switchWall_67 : decode cX1_switchWall 67 = .ok (.aload_n 0, 1) := dTX1_switchWall_0_ok 23 (67, .aload_n 0, 1) rfl
theorem dX1_switchWall_68 : decode cX1_switchWall 68 = .ok (.dup, 1) := dTX1_switchWall_0_ok 24 (68, .dup, 1) rfl
theorem dX1_switchWall_69 : decode cX1_switchWall 69 = .ok (.getfield 39, 3) := dTX1_switchWall_0_ok 25 (69, .getfield 39, 3) rfl
theorem dX1_switchWall_72 : decode cX1_switchWall 72 = .ok (.lload_n 3, 1) := dTX1_switchWall_0_ok 26 (72, .lload_n 3, 1) rfl
theorem dX1_switchWall_73 : decode cX1_switchWall 73 = .ok (.lxor, 1) := dTX1_switchWall_0_ok 27 (73, .lxor, 1) rfl
theorem dX1_switchWall_74 : decode cX1_switchWall 74 = .ok (.putfield 39, 3) := dTX1_switchWall_0_ok 28 (74, .putfield 39, 3) rfl
theorem dX1_switchWall_77 : decode cX1_switchWall 77 = .ok (.goto 14, 3) := dTX1_switchWall_0_ok 29 (77, .goto 14, 3) rfl
theorem dX1_switchWall_80 : decode cX1_switchWall 80 = .ok (.aload_n 0, 1) := dTX1_switchWall_0_ok 30 (80, .aload_n 0, 1) rfl
theorem dX1_switchWall_81 : decode cX1_switchWall 81 = .ok (.dup, 1) := dTX1_switchWall_0_ok 31 (81, .dup, 1) rfl
theorem dX1_switchWall_82 : decode cX1_switchWall 82 = .ok (.getfield 36, 3) := dTX1_switchWall_0_ok 32 (82, .getfield 36, 3) rfl
theorem dX1_switchWall_85 : decode cX1_switchWall 85 = .ok (.lload 5, 2) := dTX1_switchWall_0_ok 33 (85, .lload 5, 2) rfl
theorem dX1_switchWall_87 : decode cX1_switchWall 87 = .ok (.lxor, 1) := dTX1_switchWall_0_ok 34 (87, .lxor, 1) rfl
theorem dX1_switchWall_88 : decode cX1_switchWall 88 = .ok (.putfield 36, 3) := dTX1_switchWall_0_ok 35 (88, .putfield 36, 3) rfl
theorem dX1_switchWall_91 : decode cX1_switchWall 91 = .ok (.aload_n 0, 1) := dTX1_switchWall_0_ok 36 (91, .aload_n 0, 1) rfl
theorem dX1_switchWall_92 : decode cX1_switchWall 92 = .ok (.invokevirtual 77, 3) := dTX1_switchWall_0_ok 37 (92, .invokevirtual 77, 3) rfl
theorem dX1_switchWall_95 : decode cX1_switchWall 95 = .ok (.return_, 1) := dTX1_switchWall_0_ok 38 (95, .return_, 1) rfl
noncomputable def dTX1_neighbours_0 : List (Nat × Instr × Nat) := [(0, .lconst 0, 1), (1, .lstore 4, 2), (3, .iconst 0, 1), (4, .istore 6, 2), (6, .iload 6, 2), (8, .iconst 4, 1), (9, .if_icmp .ge 44, 3), (12, .aload_n 0, 1), (13, .iload 6, 2), (15, .invokevirtual 82, 3), (18, .lstore 7, 2), (20, .lload 4, 2), (22, .lload_n 1, 1), (23, .iload_n 3, 1), (24, .ifCond .eq 8, 3), (27, .lload 7, 2), (29, .goto 9, 3), (32, .lload 7, 2), (34, .ldc2_w 80, 3), (37, .lxor, 1), (38, .land, 1), (39, .iload 6, 2), (41, .invokestatic 85, 3), (44, .lor, 1), (45, .lstore 4, 2), (47, .iinc 6 1, 3), (50, .goto (-44), 3), (53, .lload 4, 2), (55, .lreturn, 1)]
theorem dTX1_neighbours_0_ok : ∀ (k : Nat) (q : Nat × Instr × Nat), dTX1_neighbours_0[k]? = some q → decode cX1_neighbours q.1 = .ok q.2 := dT_of (by decide +kernel)
theorem dX1_neighbours_0 : decode cX1_neighbours 0 = .ok (.lconst 0, 1) := dTX1_neighbours_0_ok 0 (0, .lconst 0, 1) rfl
theorem dX1_neighbours_1 : decode cX1_neighbours 1 = .ok (.lstore 4, 2) := dTX1_neighbours_0_ok 1 (1, .lstore 4, 2) rfl
theorem dX1_neighbours_3 : decode cX1_neighbours 3 = .ok (.iconst 0, 1) := dTX1_neighbours_0_ok 2 (3, .iconst 0, 1) rfl
theorem dX1_neighbours_4 : decode cX1_neighbours 4 = .ok (.istore 6, 2) := dTX1_neighbours_0_ok 3 (4, .istore 6, 2) rfl
theorem dX1_neighbours_6 : decode cX1_neighbours 6 = .ok (.iload 6, 2) := dTX1_neighbours_0_ok 4 (6, .iload 6, 2) rfl
theorem dX1_neighbours_8 : decode cX1_neighbours 8 = .ok (.iconst 4, 1) := dTX1_neighbours_0_ok 5 (8, .iconst 4, 1) rfl
theorem dX1_neighbours_9 : decode cX1_neighbours 9 = .ok (.if_icmp .ge 44, 3) := dTX1_neighbours_0_ok 6 (9, .if_icmp .ge 44, 3) rfl
theorem dX1_neighbours_12 : decode cX1_neighbours 12 = .ok (.aload_n 0, 1) := dTX1_neighbours_0_ok 7 (12, .aload_n 0, 1) rfl
theorem dX1_neighbours_13 : decode cX1_neighbours 13 = .ok (.iload 6, 2) := dTX1_neighbours_0_ok 8 (13, .iload 6, 2) rfl
theorem dX1_neighbours_15 : decode cX1_neighbours 15 = .ok (.invokevirtual 82, 3) := dTX1_neighbours_0_ok 9 (15, .invokevirtual 82, 3) rfl
theorem dX1_neighbours_18 : decode cX1_neighbours 18 = .ok (.lstore 7, 2) := dTX1_neighbours_0_ok 10 (18, .lstore 7, 2) rfl
theorem dX1_neighbours_20 : decode cX1_neighbours 20 = .ok (.lload 4, 2) := dTX1_neighbours_0_ok 11 (20, .lload 4, 2) rfl
theorem dX1_neighbours_22 : decode cX1_neighbours 22 = .ok (.lload_n 1, 1) := dTX1_neighbours_0_ok 12 (22, .lload_n 1, 1) rfl
theorem dX1_neighbours_23 : decode cX1_neighbours 23 = .ok (.iload_n 3, 1) := dTX1_neighbours_0_ok 13 (23, .iload_n 3, 1) rfl
theorem dX1_neighbours_24 : decode cX1_neighbours 24 = .ok (.ifCond .eq 8, 3) := dTX1_neighbours_0_ok 14 (24, .ifCond .eq 8, 3) rfl
theorem dX1_neighbours_27 : decode cX1_neighbours 27 = .ok (.lload 7, 2) := dTX1_neighbours_0_ok 15 (27, .lload 7, 2) rfl
theorem dX1_neighbours_29 : decode cX1_neighbours 29 = .ok (.goto 9, 3) := dTX1_neighbours_0_ok 16 (29, .goto 9, 3) rfl
theorem dX1_neighbours_32 : decode cX1_neighbours 32 = .ok (.lload 7, 2) := dTX1_neighbours_0_ok 17 (32, .lload 7, 2) rfl
theorem dX1_neighbours_34 : decode cX1_neighbours 34 = .ok (.ldc2_w 80, 3) := dTX1_neighbours_0_ok 18 (34, .ldc2_w 80, 3) rfl
theorem dX1_neighbours_37 : decode cX1_neighbours 37 = .ok (.lxor, 1) := dTX1_neighbours_0_ok 19 (37, .lxor, 1) rfl
theorem dX1_neighbours_38 : decode cX1_neighbours 38 = .ok (.land, 1) := dTX1_neighbours_0_ok 20 (38, .land, 1) rfl
theorem dX1_neighbours_39 : decode cX1_neighbours 39 = .ok (.iload 6, 2) := dTX1_neighbours_0_ok 21 (39, .iload 6, 2) rfl
theorem dX1_neighbours_41 : decode cX1_neighbours 41 = .ok (.invokestatic 85, 3) := dTX1_neighbours_0_ok 22 (41, .invokestatic 85, 3) rfl
theorem dX1_neighbours_44 : decode cX1_neighbours 44 = .ok (.lor, 1) := dTX1_neighbours_0_ok 23 (44, .lor, 1) rfl
theorem dX1_neighbours_45 : decode cX1_neighbours 45 = .ok (.lstore 4, 2) := dTX1_neighbours_0_ok 24 (45, .lstore 4, 2) rfl
theorem dX1_neighbours_47 : decode cX1_neighbours 47 = .ok (.iinc 6 1, 3) := dTX1_neighbours_0_ok 25 (47, .iinc 6 1, 3) rfl
theorem dX1_neighbours_50 : decode cX1_neighbours 50 = .ok (.goto (-44), 3) := dTX1_neighbours_0_ok 26 (50, .goto (-44), 3) rfl
theorem dX1_neighbours_53 : decode cX1_neighbours 53 = .ok (.lload 4, 2) := dTX1_neighbours_0_ok 27 (53, .lload 4, 2) rfl
theorem dX1_neighbours_55 : decode cX1_neighbours 55 = .ok (.lreturn, 1) := dTX1_neighbours_0_ok 28 (55, .lreturn, 1) rfl
noncomputable def dTX1_cellsLitFrom_0 : List (Nat × Instr × Nat) := [(0, .iload_n 1, 1), (1, .invokestatic 69, 3), (4, .lstore_n 2, 1), (5, .lload_n 2, 1), (6, .lstore 4, 2), (8, .iconst 0, 1), (9, .istore 6, 2), (11, .iload 6, 2), (13, .iconst 4, 1), (14, .if_icmp .ge 75, 3), (17, .lload_n 2, 1), (18, .lstore 7, 2), (20, .iload 6, 2), (22, .istore 9, 2), (24, .iconst 0, 1), (25, .istore 10, 2), (27, .iload 10, 2), (29, .bipush 6, 2), (31, .if_icmp .ge 52, 3), (34, .lload 7, 2), (36, .aload_n 0, 1), (37, .iload 9, 2), (39, .invokevirtual 82, 3), (42, .ldc2_w 80, 3), (45, .lxor, 1), (46, .land, 1), (47, .iload 9, 2), (49, .invokestatic 85, 3), (52, .lstore 7, 2), (54, .lload 4, 2), (56, .lload 7, 2), (58, .lor, 1), (59, .lstore 4, 2), (61, .aload_n 0, 1), (62, .lload 7, 2), (64, .lload_n 2, 1), (65, .ldc2_w 80, 3), (68, .lxor, 1), (69, .land, 1), (70, .iload 9, 2), (72, .invokevirtual 89, 3), (75, .istore 9, 2), (77, .iinc 10 1, 3), (80, .goto (-53), 3), (83, .iinc 6 1, 3), (86, .goto (-75), 3), (89, .lload 4, 2), (91, .lreturn, 1)]
theorem dTX1_cellsLitFrom_0_ok : ∀ (k : Nat) (q : Nat × Instr × Nat), dTX1_cellsLitFrom_0[k]? = some q → decode cX1_cellsLitFrom q.1 = .ok q.2 := dT_of (by decide +kernel)
theorem dX1_cellsLitFrom_0 : decode cX1_cellsLitFrom 0 = .ok (.iload_n 1, 1) := dTX1_cellsLitFrom_0_ok 0 (0, .iload_n 1, 1) rfl
theorem dX1_cellsLitFrom_1 : decode cX1_cellsLitFrom 1 = .ok (.invokestatic 69, 3) := dTX1_cellsLitFrom_0_ok 1 (1, .invokestatic 69, 3) rfl
theorem dX1_cellsLitFrom_4 : decode cX1_cellsLitFrom 4 = .ok (.lstore_n 2, 1) := dTX1_cellsLitFrom_0_ok 2 (4, .lstore_n 2, 1) rfl
theorem dX1_cellsLitFrom_5 : decode cX1_cellsLitFrom 5 = .ok (.lload_n 2, 1) := dTX1_cellsLitFrom_0_ok 3 (5, .lload_n 2, 1) rfl
theorem dX1_cellsLitFrom_6 : decode cX1_cellsLitFrom 6 = .ok (.lstore 4, 2) := dTX1_cellsLitFrom_0_ok 4 (6, .lstore 4, 2) rfl
theorem dX1_cellsLitFrom_8 : decode cX1_cellsLitFrom 8 = .ok (.iconst 0, 1) := dTX1_cellsLitFrom_0_ok 5 (8, .iconst 0, 1) rfl
theorem dX1_cellsLitFrom_9 : decode cX1_cellsLitFrom 9 = .ok (.istore 6, 2) := dTX1_cellsLitFrom_0_ok 6 (9, .istore 6, 2) rfl
theorem dX1_cellsLitFrom_11 : decode cX1_cellsLitFrom 11 = .ok (.iload 6, 2) := dTX1_cellsLitFrom_0_ok 7 (11, .iload 6, 2) rfl
theorem dX1_cellsLitFrom_13 : decode cX1_cellsLitFrom 13 = .ok (.iconst 4, 1) := dTX1_cellsLitFrom_0_ok 8 (13, .iconst 4, 1) rfl
theorem dX1_cellsLitFrom_14 : decode cX1_cellsLitFrom 14 = .ok (.if_icmp .ge 75, 3) := dTX1_cellsLitFrom_0_ok 9 (14, .if_icmp .ge 75, 3) rfl
theorem dX1_cellsLitFrom_17 : decode cX1_cellsLitFrom 17 = .ok (.lload_n 2, 1) := dTX1_cellsLitFrom_0_ok 10 (17, .lload_n 2, 1) rfl
theorem dX1_cellsLitFrom_18 : decode cX1_cellsLitFrom 18 = .ok (.lstore 7, 2) := dTX1_cellsLitFrom_0_ok 11 (18, .lstore 7, 2) rfl
theorem dX1_cellsLitFrom_20 : decode cX1_cellsLitFrom 20 = .ok (.iload 6, 2) := dTX1_cellsLitFrom_0_ok 12 (20, .iload 6, 2) rfl
theorem dX1_cellsLitFrom_22 : decode cX1_cellsLitFrom 22 = .ok (.istore 9, 2) := dTX1_cellsLitFrom_0_ok 13 (22, .istore 9, 2) rfl
theorem dX1_cellsLitFrom_24 : decode cX1_cellsLitFrom 24 = .ok (.iconst 0, 1) := dTX1_cellsLitFrom_0_ok 14 (24, .iconst 0, 1) rfl
theorem dX1_cellsLitFrom_25 : decode cX1_cellsLitFrom 25 = .ok (.istore 10, 2) := dTX1_cellsLitFrom_0_ok 15 (25, .istore 10, 2) rfl
theorem dX1_cellsLitFrom_27 : decode cX1_cellsLitFrom 27 = .ok (.iload 10, 2) := dTX1_cellsLitFrom_0_ok 16 (27, .iload 10, 2) rfl
theorem dX1_cellsLitFrom_29 : decode cX1_cellsLitFrom 29 = .ok (.bipush 6, 2) := dTX1_cellsLitFrom_0_ok 17 (29, .bipush 6, 2) rfl
theorem dX1_cellsLitFrom_31 : decode cX1_cellsLitFrom 31 = .ok (.if_icmp .ge 52, 3) := dTX1_cellsLitFrom_0_ok 18 (31, .if_icmp .ge 52, 3) rfl
theorem dX1_cellsLitFrom_34 : decode cX1_cellsLitFrom 34 = .ok (.lload 7, 2) := dTX1_cellsLitFrom_0_ok 19 (34, .lload 7, 2) rfl
theorem dX1_cellsLitFrom_36 : decode cX1_cellsLitFrom 36 = .ok (.aload_n 0, 1) := dTX1_cellsLitFrom_0_ok 20 (36, .aload_n 0, 1) rfl
theorem dX1_cellsLitFrom_37 : decode cX1_cellsLitFrom 37 = .ok (.iload 9, 2) := dTX1_cellsLitFrom_0_ok 21 (37, .iload 9, 2) rfl
theorem dX1_cellsLitFrom_39 : decode cX1_cellsLitFrom 39 = .ok (.invokevirtual 82, 3) := dTX1_cellsLitFrom_0_ok 22 (39, .invokevirtual 82, 3) rfl
theorem dX1_cellsLitFrom_42 : decode cX1_cellsLitFrom 42 = .ok (.ldc2_w 80, 3) := dTX1_cellsLitFrom_0_ok 23 (42, .ldc2_w 80, 3) rfl
theorem dX1_cellsLitFrom_45 : decode cX1_cellsLitFrom 45 = .ok (.lxor, 1) := dTX1_cellsLitFrom_0_ok 24 (45, .lxor, 1) rfl
theorem dX1_cellsLitFrom_46 : decode cX1_cellsLitFrom 46 = .ok (.land, 1) := dTX1_cellsLitFrom_0_ok 25 (46, .land, 1) rfl
theorem dX1_cellsLitFrom_47 : decode cX1_cellsLitFrom 47 = .ok (.iload 9, 2) := dTX1_cellsLitFrom_0_ok 26 (47, .iload 9, 2) rfl
theorem dX1_cellsLitFrom_49 : decode cX1_cellsLitFrom 49 = .ok (.invokestatic 85, 3) := dTX1_cellsLitFrom_0_ok 27 (49, .invokestatic 85, 3) rfl
theorem dX1_cellsLitFrom_52 : decode cX1_cellsLitFrom 52 = .ok (.lstore 7, 2) := dTX1_cellsLitFrom_0_ok 28 (52, .lstore 7, 2) rfl
theorem dX1_cellsLitFrom_54 : decode cX1_cellsLitFrom 54 = .ok (.lload 4, 2) := dTX1_cellsLitFrom_0_ok 29 (54, .lload 4, 2) rfl
theorem dX1_cellsLitFrom_56 : decode cX1_cellsLitFrom 56 = .ok (.lload 7, 2) := dTX1_cellsLitFrom_0_ok 30 (56, .lload 7, 2) rfl
theorem dX1_cellsLitFrom_58 : decode cX1_cellsLitFrom 58 = .ok (.lor, 1) := dTX1_cellsLitFrom_0_ok 31 (58, .lor, 1) rfl
theorem dX1_cellsLitFrom_59 : decode cX1_cellsLitFrom 59 = .ok (.lstore 4, 2) := dTX1_cellsLitFrom_0_ok 32 (59, .lstore 4, 2) rfl
theorem dX1_cellsLitFrom_61 : decode cX1_cellsLitFrom 61 = .ok (.aload_n 0, 1) := dTX1_cellsLitFrom_0_ok 33 (61, .aload_n 0, 1) rfl
theorem dX1_cellsLitFrom_62 : decode cX1_cellsLitFrom 62 = .ok (.lload 7, 2) := dTX1_cellsLitFrom_0_ok 34 (62, .lload 7, 2) rfl
theorem dX1_cellsLitFrom_64 : decode cX1_cellsLitFrom 64 = .ok (.lload_n 2, 1) := dTX1_cellsLitFrom_0_ok 35 (64, .lload_n 2, 1) rfl
theorem dX1_cellsLitFrom_65 : decode cX1_cellsLitFrom 65 = .ok (.ldc2_w 80, 3) := dTX1_cellsLitFrom_0_ok 36 (65, .ldc2_w 80, 3) rfl
theorem dX1_cellsLitFrom_68 : decode cX1_cellsLitFrom 68 = .ok (.lxor, 1) := dTX1_cellsLitFrom_0_ok 37 (68, .lxor, 1) rfl
theorem dX1_cellsLitFrom_69 : decode cX1_cellsLitFrom 69 = .ok (.land, 1) := dTX1_cellsLitFrom_0_ok 38 (69, .land, 1) rfl
theorem dX1_cellsLitFrom_70 : decode cX1_cellsLitFrom 70 = .ok (.iload 9, 2) := dTX1_cellsLitFrom_0_ok 39 (70, .iload 9, 2) rfl
theorem dX1_cellsLitFrom_72 : decode cX1_cellsLitFrom 72 = .ok (.invokevirtual 89, 3) := dTX1_cellsLitFrom_0_ok 40 (72, .invokevirtual 89, 3) rfl
theorem dX1_cellsLitFrom_75 : decode cX1_cellsLitFrom 75 = .ok (.istore 9, 2) := dTX1_cellsLitFrom_0_ok 41 (75, .istore 9, 2) rfl
theorem dX1_cellsLitFrom_77 : decode cX1_cellsLitFrom 77 = .ok (.iinc 10 1, 3) := dTX1_cellsLitFrom_0_ok 42 (77, .iinc 10 1, 3) rfl
theorem dX1_cellsLitFrom_80 : decode cX1_cellsLitFrom 80 = .ok (.goto (-53), 3) := dTX1_cellsLitFrom_0_ok 43 (80, .goto (-53), 3) rfl
theorem dX1_cellsLitFrom_83 : decode cX1_cellsLitFrom 83 = .ok (.iinc 6 1, 3) := dTX1_cellsLitFrom_0_ok 44 (83, .iinc 6 1, 3) rfl
theorem dX1_cellsLitFrom_86 : decode cX1_cellsLitFrom 86 = .ok (.goto (-75), 3) := dTX1_cellsLitFrom_0_ok 45 (86, .goto (-75), 3) rfl
theorem dX1_cellsLitFrom_89 : decode cX1_cellsLitFrom 89 = .ok (.lload 4, 2) := dTX1_cellsLitFrom_0_ok 46 (89, .lload 4, 2) rfl
theorem dX1_cellsLitFrom_91 : decode cX1_cellsLitFrom 91 = .ok (.lreturn, 1) := dTX1_cellsLitFrom_0_ok 47 (91, .lreturn, 1) rfl
noncomputable def dTX1_turned_0 : List (Nat × Instr × Nat) := [(0, .lload_n 1, 1), (1, .aload_n 0, 1), (2, .getfield 27, 3), (5, .land, 1), (6, .lconst 0, 1), (7, .lcmp, 1), (8, .ifCond .eq 7, 3), (11, .iload_n 3, 1), (12, .iconst 1, 1), (13, .ixor, 1), (14, .ireturn, 1), (15, .lload_n 1, 1), (16, .aload_n 0, 1), (17, .getfield 30, 3), (20, .land, 1), (21, .lconst 0, 1), (22, .lcmp, 1), (23, .ifCond .eq 7, 3), (26, .iconst 3, 1), (27, .iload_n 3, 1), (28, .isub, 1), (29, .ireturn, 1), (30, .iload_n 3, 1), (31, .ireturn, 1)]
theorem dTX1_turned_0_ok : ∀ (k : Nat) (q : Nat × Instr × Nat), dTX1_turned_0[k]? = some q → decode cX1_turned q.1 = .ok q.2 := dT_of (by decide +kernel)
theorem dX1_turned_0 : decode cX1_turned 0 = .ok (.lload_n 1, 1) := dTX1_turned_0_ok 0 (0, .lload_n 1, 1) rfl
theorem dX1_turned_1 : decode cX1_turned 1 = .ok (.aload_n 0, 1) := dTX1_turned_0_ok 1 (1, .aload_n 0, 1) rfl
theorem dX1_turned_2 : decode cX1_turned 2 = .ok (.getfield 27, 3) := dTX1_turned_0_ok 2 (2, .getfield 27, 3) rfl
theorem dX1_turned_5 : decode cX1_turned 5 = .ok (.land, 1) := dTX1_turned_0_ok 3 (5, .land, 1) rfl
theorem dX1_turned_6 : decode cX1_turned 6 = .ok (.lconst 0, 1) := dTX1_turned_0_ok 4 (6, .lconst 0, 1) rfl
theorem dX1_turned_7 : decode cX1_turned 7 = .ok (.lcmp, 1) := dTX1_turned_0_ok 5 (7, .lcmp, 1) rfl
theorem dX1_turned_8 : decode cX1_turned 8 = .ok (.ifCond .eq 7, 3) := dTX1_turned_0_ok 6 (8, .ifCond .eq 7, 3) rfl
theorem dX1_turned_11 : decode cX1_turned 11 = .ok (.iload_n 3, 1) := dTX1_turned_0_ok 7 (11, .iload_n 3, 1) rfl
theorem dX1_turned_12 : decode cX1_turned 12 = .ok (.iconst 1, 1) := dTX1_turned_0_ok 8 (12, .iconst 1, 1) rfl
theorem dX1_turned_13 : decode cX1_turned 13 = .ok (.ixor, 1) := dTX1_turned_0_ok 9 (13, .ixor, 1) rfl
theorem dX1_turned_14 : decode cX1_turned 14 = .ok (.ireturn, 1) := dTX1_turned_0_ok 10 (14, .ireturn, 1) rfl
theorem dX1_turned_15 : decode cX1_turned 15 = .ok (.lload_n 1, 1) := dTX1_turned_0_ok 11 (15, .lload_n 1, 1) rfl
theorem dX1_turned_16 : decode cX1_turned 16 = .ok (.aload_n 0, 1) := dTX1_turned_0_ok 12 (16, .aload_n 0, 1) rfl
theorem dX1_turned_17 : decode cX1_turned 17 = .ok (.getfield 30, 3) := dTX1_turned_0_ok 13 (17, .getfield 30, 3) rfl
theorem dX1_turned_20 : decode cX1_turned 20 = .ok (.land, 1) := dTX1_turned_0_ok 14 (20, .land, 1) rfl
theorem dX1_turned_21 : decode cX1_turned 21 = .ok (.lconst 0, 1) := dTX1_turned_0_ok 15 (21, .lconst 0, 1) rfl
theorem dX1_turned_22 : decode cX1_turned 22 = .ok (.lcmp, 1) := dTX1_turned_0_ok 16 (22, .lcmp, 1) rfl
theorem dX1_turned_23 : decode cX1_turned 23 = .ok (.ifCond .eq 7, 3) := dTX1_turned_0_ok 17 (23, .ifCond .eq 7, 3) rfl
theorem dX1_turned_26 : decode cX1_turned 26 = .ok (.iconst 3, 1) := dTX1_turned_0_ok 18 (26, .iconst 3, 1) rfl
theorem dX1_turned_27 : decode cX1_turned 27 = .ok (.iload_n 3, 1) := dTX1_turned_0_ok 19 (27, .iload_n 3, 1) rfl
theorem dX1_turned_28 : decode cX1_turned 28 = .ok (.isub, 1) := dTX1_turned_0_ok 20 (28, .isub, 1) rfl
theorem dX1_turned_29 : decode cX1_turned 29 = .ok (.ireturn, 1) := dTX1_turned_0_ok 21 (29, .ireturn, 1) rfl
theorem dX1_turned_30 : decode cX1_turned 30 = .ok (.iload_n 3, 1) := dTX1_turned_0_ok 22 (30, .iload_n 3, 1) rfl
theorem dX1_turned_31 : decode cX1_turned 31 = .ok (.ireturn, 1) := dTX1_turned_0_ok 23 (31, .ireturn, 1) rfl
noncomputable def dTX1_relight_0 : List (Nat × Instr × Nat) := [(0, .aload_n 0, 1), (1, .lconst 0, 1), (2, .putfield 42, 3), (5, .iconst 0, 1), (6, .istore_n 1, 1), (7, .iload_n 1, 1), (8, .bipush 63, 2), (10, .if_icmp .ge 34, 3), (13, .aload_n 0, 1), (14, .getfield 24, 3), (17, .iload_n 1, 1), (18, .invokestatic 63, 3), (21, .ifCond .eq 17, 3), (24, .aload_n 0, 1), (25, .dup, 1), (26, .getfield 42, 3), (29, .aload_n 0, 1), (30, .iload_n 1, 1), (31, .invokevirtual 93, 3), (34, .lor, 1), (35, .putfield 42, 3), (38, .iinc 1 1, 3), (41, .goto (-34), 3), (44, .return_, 1)]
theorem dTX1_relight_0_ok : ∀ (k : Nat) (q : Nat × Instr × Nat), dTX1_relight_0[k]? = some q → decode cX1_relight q.1 = .ok q.2 := dT_of (by decide +kernel)
theorem dX1_relight_0 : decode cX1_relight 0 = .ok (.aload_n 0, 1) := dTX1_relight_0_ok 0 (0, .aload_n 0, 1) rfl
theorem dX1_relight_1 : decode cX1_relight 1 = .ok (.lconst 0, 1) := dTX1_relight_0_ok 1 (1, .lconst 0, 1) rfl
theorem dX1_relight_2 : decode cX1_relight 2 = .ok (.putfield 42, 3) := dTX1_relight_0_ok 2 (2, .putfield 42, 3) rfl
theorem dX1_relight_5 : decode cX1_relight 5 = .ok (.iconst 0, 1) := dTX1_relight_0_ok 3 (5, .iconst 0, 1) rfl
theorem dX1_relight_6 : decode cX1_relight 6 = .ok (.istore_n 1, 1) := dTX1_relight_0_ok 4 (6, .istore_n 1, 1) rfl
theorem dX1_relight_7 : decode cX1_relight 7 = .ok (.iload_n 1, 1) := dTX1_relight_0_ok 5 (7, .iload_n 1, 1) rfl
theorem dX1_relight_8 : decode cX1_relight 8 = .ok (.bipush 63, 2) := dTX1_relight_0_ok 6 (8, .bipush 63, 2) rfl
theorem dX1_relight_10 : decode cX1_relight 10 = .ok (.if_icmp .ge 34, 3) := dTX1_relight_0_ok 7 (10, .if_icmp .ge 34, 3) rfl
theorem dX1_relight_13 : decode cX1_relight 13 = .ok (.aload_n 0, 1) := dTX1_relight_0_ok 8 (13, .aload_n 0, 1) rfl
theorem dX1_relight_14 : decode cX1_relight 14 = .ok (.getfield 24, 3) := dTX1_relight_0_ok 9 (14, .getfield 24, 3) rfl
theorem dX1_relight_17 : decode cX1_relight 17 = .ok (.iload_n 1, 1) := dTX1_relight_0_ok 10 (17, .iload_n 1, 1) rfl
theorem dX1_relight_18 : decode cX1_relight 18 = .ok (.invokestatic 63, 3) := dTX1_relight_0_ok 11 (18, .invokestatic 63, 3) rfl
theorem dX1_relight_21 : decode cX1_relight 21 = .ok (.ifCond .eq 17, 3) := dTX1_relight_0_ok 12 (21, .ifCond .eq 17, 3) rfl
theorem dX1_relight_24 : decode cX1_relight 24 = .ok (.aload_n 0, 1) := dTX1_relight_0_ok 13 (24, .aload_n 0, 1) rfl
theorem dX1_relight_25 : decode cX1_relight 25 = .ok (.dup, 1) := dTX1_relight_0_ok 14 (25, .dup, 1) rfl
theorem dX1_relight_26 : decode cX1_relight 26 = .ok (.getfield 42, 3) := dTX1_relight_0_ok 15 (26, .getfield 42, 3) rfl
theorem dX1_relight_29 : decode cX1_relight 29 = .ok (.aload_n 0, 1) := dTX1_relight_0_ok 16 (29, .aload_n 0, 1) rfl
theorem dX1_relight_30 : decode cX1_relight 30 = .ok (.iload_n 1, 1) := dTX1_relight_0_ok 17 (30, .iload_n 1, 1) rfl
theorem dX1_relight_31 : decode cX1_relight 31 = .ok (.invokevirtual 93, 3) := dTX1_relight_0_ok 18 (31, .invokevirtual 93, 3) rfl
theorem dX1_relight_34 : decode cX1_relight 34 = .ok (.lor, 1) := dTX1_relight_0_ok 19 (34, .lor, 1) rfl
theorem dX1_relight_35 : decode cX1_relight 35 = .ok (.putfield 42, 3) := dTX1_relight_0_ok 20 (35, .putfield 42, 3) rfl
theorem dX1_relight_38 : decode cX1_relight 38 = .ok (.iinc 1 1, 3) := dTX1_relight_0_ok 21 (38, .iinc 1 1, 3) rfl
theorem dX1_relight_41 : decode cX1_relight 41 = .ok (.goto (-34), 3) := dTX1_relight_0_ok 22 (41, .goto (-34), 3) rfl
theorem dX1_relight_44 : decode cX1_relight 44 = .ok (.return_, 1) := dTX1_relight_0_ok 23 (44, .return_, 1) rfl
noncomputable def dTX1_burnDown_0 : List (Nat × Instr × Nat) := [(0, .iconst 0, 1), (1, .istore_n 1, 1), (2, .iload_n 1, 1), (3, .bipush 63, 2), (5, .if_icmp .ge 58, 3), (8, .aload_n 0, 1), (9, .iload_n 1, 1), (10, .invokevirtual 96, 3), (13, .ifCond .eq 44, 3), (16, .aload_n 0, 1), (17, .getfield 14, 3), (20, .iload_n 1, 1), (21, .invokevirtual 59, 3), (24, .iconst 1, 1), (25, .isub, 1), (26, .istore_n 2, 1), (27, .aload_n 0, 1), (28, .getfield 14, 3), (31, .iload_n 1, 1), (32, .iload_n 2, 1), (33, .invokevirtual 73, 3), (36, .iload_n 2, 1), (37, .ifCond .gt 20, 3), (40, .aload_n 0, 1), (41, .dup, 1), (42, .getfield 24, 3), (45, .iload_n 1, 1), (46, .invokestatic 69, 3), (49, .ldc2_w 80, 3), (52, .lxor, 1), (53, .land, 1), (54, .putfield 24, 3), (57, .iinc 1 1, 3), (60, .goto (-58), 3), (63, .aload_n 0, 1), (64, .invokevirtual 77, 3), (67, .return_, 1)]
theorem dTX1_burnDown_0_ok : ∀ (k : Nat) (q : Nat × Instr × Nat), dTX1_burnDown_0[k]? = some q → decode cX1_burnDown q.1 = .ok q.2 := dT_of (by decide +kernel)
theorem dX1_burnDown_0 : decode cX1_burnDown 0 = .ok (.iconst 0, 1) := dTX1_burnDown_0_ok 0 (0, .iconst 0, 1) rfl
theorem dX1_burnDown_1 : decode cX1_burnDown 1 = .ok (.istore_n 1, 1) := dTX1_burnDown_0_ok 1 (1, .istore_n 1, 1) rfl
theorem dX1_burnDown_2 : decode cX1_burnDown 2 = .ok (.iload_n 1, 1) := dTX1_burnDown_0_ok 2 (2, .iload_n 1, 1) rfl
theorem dX1_burnDown_3 : decode cX1_burnDown 3 = .ok (.bipush 63, 2) := dTX1_burnDown_0_ok 3 (3, .bipush 63, 2) rfl
theorem dX1_burnDown_5 : decode cX1_burnDown 5 = .ok (.if_icmp .ge 58, 3) := dTX1_burnDown_0_ok 4 (5, .if_icmp .ge 58, 3) rfl
theorem dX1_burnDown_8 : decode cX1_burnDown 8 = .ok (.aload_n 0, 1) := dTX1_burnDown_0_ok 5 (8, .aload_n 0, 1) rfl
theorem dX1_burnDown_9 : decode cX1_burnDown 9 = .ok (.iload_n 1, 1) := dTX1_burnDown_0_ok 6 (9, .iload_n 1, 1) rfl
theorem dX1_burnDown_10 : decode cX1_burnDown 10 = .ok (.invokevirtual 96, 3) := dTX1_burnDown_0_ok 7 (10, .invokevirtual 96, 3) rfl
theorem dX1_burnDown_13 : decode cX1_burnDown 13 = .ok (.ifCond .eq 44, 3) := dTX1_burnDown_0_ok 8 (13, .ifCond .eq 44, 3) rfl
theorem dX1_burnDown_16 : decode cX1_burnDown 16 = .ok (.aload_n 0, 1) := dTX1_burnDown_0_ok 9 (16, .aload_n 0, 1) rfl
theorem dX1_burnDown_17 : decode cX1_burnDown 17 = .ok (.getfield 14, 3) := dTX1_burnDown_0_ok 10 (17, .getfield 14, 3) rfl
theorem dX1_burnDown_20 : decode cX1_burnDown 20 = .ok (.iload_n 1, 1) := dTX1_burnDown_0_ok 11 (20, .iload_n 1, 1) rfl
theorem dX1_burnDown_21 : decode cX1_burnDown 21 = .ok (.invokevirtual 59, 3) := dTX1_burnDown_0_ok 12 (21, .invokevirtual 59, 3) rfl
theorem dX1_burnDown_24 : decode cX1_burnDown 24 = .ok (.iconst 1, 1) := dTX1_burnDown_0_ok 13 (24, .iconst 1, 1) rfl
theorem dX1_burnDown_25 : decode cX1_burnDown 25 = .ok (.isub, 1) := dTX1_burnDown_0_ok 14 (25, .isub, 1) rfl
theorem dX1_burnDown_26 : decode cX1_burnDown 26 = .ok (.istore_n 2, 1) := dTX1_burnDown_0_ok 15 (26, .istore_n 2, 1) rfl
theorem dX1_burnDown_27 : decode cX1_burnDown 27 = .ok (.aload_n 0, 1) := dTX1_burnDown_0_ok 16 (27, .aload_n 0, 1) rfl
theorem dX1_burnDown_28 : decode cX1_burnDown 28 = .ok (.getfield 14, 3) := dTX1_burnDown_0_ok 17 (28, .getfield 14, 3) rfl
theorem dX1_burnDown_31 : decode cX1_burnDown 31 = .ok (.iload_n 1, 1) := dTX1_burnDown_0_ok 18 (31, .iload_n 1, 1) rfl
theorem dX1_burnDown_32 : decode cX1_burnDown 32 = .ok (.iload_n 2, 1) := dTX1_burnDown_0_ok 19 (32, .iload_n 2, 1) rfl
theorem dX1_burnDown_33 : decode cX1_burnDown 33 = .ok (.invokevirtual 73, 3) := dTX1_burnDown_0_ok 20 (33, .invokevirtual 73, 3) rfl
theorem dX1_burnDown_36 : decode cX1_burnDown 36 = .ok (.iload_n 2, 1) := dTX1_burnDown_0_ok 21 (36, .iload_n 2, 1) rfl
theorem dX1_burnDown_37 : decode cX1_burnDown 37 = .ok (.ifCond .gt 20, 3) := dTX1_burnDown_0_ok 22 (37, .ifCond .gt 20, 3) rfl
theorem dX1_burnDown_40 : decode cX1_burnDown 40 = .ok (.aload_n 0, 1) := dTX1_burnDown_0_ok 23 (40, .aload_n 0, 1) rfl
theorem dX1_burnDown_41 : decode cX1_burnDown 41 = .ok (.dup, 1) := dTX1_burnDown_0_ok 24 (41, .dup, 1) rfl
theorem dX1_burnDown_42 : decode cX1_burnDown 42 = .ok (.getfield 24, 3) := dTX1_burnDown_0_ok 25 (42, .getfield 24, 3) rfl
theorem dX1_burnDown_45 : decode cX1_burnDown 45 = .ok (.iload_n 1, 1) := dTX1_burnDown_0_ok 26 (45, .iload_n 1, 1) rfl
theorem dX1_burnDown_46 : decode cX1_burnDown 46 = .ok (.invokestatic 69, 3) := dTX1_burnDown_0_ok 27 (46, .invokestatic 69, 3) rfl
theorem dX1_burnDown_49 : decode cX1_burnDown 49 = .ok (.ldc2_w 80, 3) := dTX1_burnDown_0_ok 28 (49, .ldc2_w 80, 3) rfl
theorem dX1_burnDown_52 : decode cX1_burnDown 52 = .ok (.lxor, 1) := dTX1_burnDown_0_ok 29 (52, .lxor, 1) rfl
theorem dX1_burnDown_53 : decode cX1_burnDown 53 = .ok (.land, 1) := dTX1_burnDown_0_ok 30 (53, .land, 1) rfl
theorem dX1_burnDown_54 : decode cX1_burnDown 54 = .ok (.putfield 24, 3) := dTX1_burnDown_0_ok 31 (54, .putfield 24, 3) rfl
theorem dX1_burnDown_57 : decode cX1_burnDown 57 = .ok (.iinc 1 1, 3) := dTX1_burnDown_0_ok 32 (57, .iinc 1 1, 3) rfl
theorem dX1_burnDown_60 : decode cX1_burnDown 60 = .ok (.goto (-58), 3) := dTX1_burnDown_0_ok 33 (60, .goto (-58), 3) rfl
theorem dX1_burnDown_63 : decode cX1_burnDown 63 = .ok (.aload_n 0, 1) := dTX1_burnDown_0_ok 34 (63, .aload_n 0, 1) rfl
theorem dX1_burnDown_64 : decode cX1_burnDown 64 = .ok (.invokevirtual 77, 3) := dTX1_burnDown_0_ok 35 (64, .invokevirtual 77, 3) rfl
theorem dX1_burnDown_67 : decode cX1_burnDown 67 = .ok (.return_, 1) := dTX1_burnDown_0_ok 36 (67, .return_, 1) rfl
noncomputable def dTX1_blowOutAround_0 : List (Nat × Instr × Nat) := [(0, .iload_n 1, 1), (1, .invokestatic 69, 3), (4, .lstore_n 2, 1), (5, .aload_n 0, 1), (6, .dup, 1), (7, .getfield 24, 3), (10, .aload_n 0, 1), (11, .lload_n 2, 1), (12, .iconst 0, 1), (13, .invokevirtual 99, 3), (16, .aload_n 0, 1), (17, .lload_n 2, 1), (18, .iconst 1, 1), (19, .invokevirtual 99, 3), (22, .lor, 1), (23, .ldc2_w 80, 3), (26, .lxor, 1), (27, .land, 1), (28, .putfield 24, 3), (31, .aload_n 0, 1), (32, .invokevirtual 77, 3), (35, .return_, 1)]
theorem dTX1_blowOutAround_0_ok : ∀ (k : Nat) (q : Nat × Instr × Nat), dTX1_blowOutAround_0[k]? = some q → decode cX1_blowOutAround q.1 = .ok q.2 := dT_of (by decide +kernel)
theorem dX1_blowOutAround_0 : decode cX1_blowOutAround 0 = .ok (.iload_n 1, 1) := dTX1_blowOutAround_0_ok 0 (0, .iload_n 1, 1) rfl
theorem dX1_blowOutAround_1 : decode cX1_blowOutAround 1 = .ok (.invokestatic 69, 3) := dTX1_blowOutAround_0_ok 1 (1, .invokestatic 69, 3) rfl
theorem dX1_blowOutAround_4 : decode cX1_blowOutAround 4 = .ok (.lstore_n 2, 1) := dTX1_blowOutAround_0_ok 2 (4, .lstore_n 2, 1) rfl
theorem dX1_blowOutAround_5 : decode cX1_blowOutAround 5 = .ok (.aload_n 0, 1) := dTX1_blowOutAround_0_ok 3 (5, .aload_n 0, 1) rfl
theorem dX1_blowOutAround_6 : decode cX1_blowOutAround 6 = .ok (.dup, 1) := dTX1_blowOutAround_0_ok 4 (6, .dup, 1) rfl
theorem dX1_blowOutAround_7 : decode cX1_blowOutAround 7 = .ok (.getfield 24, 3) := dTX1_blowOutAround_0_ok 5 (7, .getfield 24, 3) rfl
theorem dX1_blowOutAround_10 : decode cX1_blowOutAround 10 = .ok (.aload_n 0, 1) := dTX1_blowOutAround_0_ok 6 (10, .aload_n 0, 1) rfl
theorem dX1_blowOutAround_11 : decode cX1_blowOutAround 11 = .ok (.lload_n 2, 1) := dTX1_blowOutAround_0_ok 7 (11, .lload_n 2, 1) rfl
theorem dX1_blowOutAround_12 : decode cX1_blowOutAround 12 = .ok (.iconst 0, 1) := dTX1_blowOutAround_0_ok 8 (12, .iconst 0, 1) rfl
theorem dX1_blowOutAround_13 : decode cX1_blowOutAround 13 = .ok (.invokevirtual 99, 3) := dTX1_blowOutAround_0_ok 9 (13, .invokevirtual 99, 3) rfl
theorem dX1_blowOutAround_16 : decode cX1_blowOutAround 16 = .ok (.aload_n 0, 1) := dTX1_blowOutAround_0_ok 10 (16, .aload_n 0, 1) rfl
theorem dX1_blowOutAround_17 : decode cX1_blowOutAround 17 = .ok (.lload_n 2, 1) := dTX1_blowOutAround_0_ok 11 (17, .lload_n 2, 1) rfl
theorem dX1_blowOutAround_18 : decode cX1_blowOutAround 18 = .ok (.iconst 1, 1) := dTX1_blowOutAround_0_ok 12 (18, .iconst 1, 1) rfl
theorem dX1_blowOutAround_19 : decode cX1_blowOutAround 19 = .ok (.invokevirtual 99, 3) := dTX1_blowOutAround_0_ok 13 (19, .invokevirtual 99, 3) rfl
theorem dX1_blowOutAround_22 : decode cX1_blowOutAround 22 = .ok (.lor, 1) := dTX1_blowOutAround_0_ok 14 (22, .lor, 1) rfl
theorem dX1_blowOutAround_23 : decode cX1_blowOutAround 23 = .ok (.ldc2_w 80, 3) := dTX1_blowOutAround_0_ok 15 (23, .ldc2_w 80, 3) rfl
theorem dX1_blowOutAround_26 : decode cX1_blowOutAround 26 = .ok (.lxor, 1) := dTX1_blowOutAround_0_ok 16 (26, .lxor, 1) rfl
theorem dX1_blowOutAround_27 : decode cX1_blowOutAround 27 = .ok (.land, 1) := dTX1_blowOutAround_0_ok 17 (27, .land, 1) rfl
theorem dX1_blowOutAround_28 : decode cX1_blowOutAround 28 = .ok (.putfield 24, 3) := dTX1_blowOutAround_0_ok 18 (28, .putfield 24, 3) rfl
theorem dX1_blowOutAround_31 : decode cX1_blowOutAround 31 = .ok (.aload_n 0, 1) := dTX1_blowOutAround_0_ok 19 (31, .aload_n 0, 1) rfl
theorem dX1_blowOutAround_32 : decode cX1_blowOutAround 32 = .ok (.invokevirtual 77, 3) := dTX1_blowOutAround_0_ok 20 (32, .invokevirtual 77, 3) rfl
theorem dX1_blowOutAround_35 : decode cX1_blowOutAround 35 = .ok (.return_, 1) := dTX1_blowOutAround_0_ok 21 (35, .return_, 1) rfl
noncomputable def dTX1_addMark_0 : List (Nat × Instr × Nat) := [(0, .aload_n 0, 1), (1, .getfield 14, 3), (4, .iload_n 1, 1), (5, .invokevirtual 59, 3), (8, .iconst 1, 1), (9, .iadd, 1), (10, .istore_n 2, 1), (11, .iload_n 2, 1), (12, .bipush 99, 2), (14, .if_icmp .le 5, 3), (17, .iconst 0, 1), (18, .istore_n 2, 1), (19, .iload_n 2, 1), (20, .bipush 13, 2), (22, .irem, 1), (23, .ifCond .ne 16, 3), (26, .iload_n 2, 1), (27, .bipush 10, 2), (29, .irem, 1), (30, .bipush 10, 2), (32, .imul, 1), (33, .iload_n 2, 1), (34, .bipush 10, 2), (36, .idiv, 1), (37, .iadd, 1), (38, .istore_n 2, 1), (39, .aload_n 0, 1), (40, .getfield 14, 3), (43, .iload_n 1, 1), (44, .iload_n 2, 1), (45, .invokevirtual 73, 3), (48, .return_, 1)]
theorem dTX1_addMark_0_ok : ∀ (k : Nat) (q : Nat × Instr × Nat), dTX1_addMark_0[k]? = some q → decode cX1_addMark q.1 = .ok q.2 := dT_of (by decide +kernel)
theorem dX1_addMark_0 : decode cX1_addMark 0 = .ok (.aload_n 0, 1) := dTX1_addMark_0_ok 0 (0, .aload_n 0, 1) rfl
theorem dX1_addMark_1 : decode cX1_addMark 1 = .ok (.getfield 14, 3) := dTX1_addMark_0_ok 1 (1, .getfield 14, 3) rfl
theorem dX1_addMark_4 : decode cX1_addMark 4 = .ok (.iload_n 1, 1) := dTX1_addMark_0_ok 2 (4, .iload_n 1, 1) rfl
theorem dX1_addMark_5 : decode cX1_addMark 5 = .ok (.invokevirtual 59, 3) := dTX1_addMark_0_ok 3 (5, .invokevirtual 59, 3) rfl
theorem dX1_addMark_8 : decode cX1_addMark 8 = .ok (.iconst 1, 1) := dTX1_addMark_0_ok 4 (8, .iconst 1, 1) rfl
theorem dX1_addMark_9 : decode cX1_addMark 9 = .ok (.iadd, 1) := dTX1_addMark_0_ok 5 (9, .iadd, 1) rfl
theorem dX1_addMark_10 : decode cX1_addMark 10 = .ok (.istore_n 2, 1) := dTX1_addMark_0_ok 6 (10, .istore_n 2, 1) rfl
theorem dX1_addMark_11 : decode cX1_addMark 11 = .ok (.iload_n 2, 1) := dTX1_addMark_0_ok 7 (11, .iload_n 2, 1) rfl
theorem dX1_addMark_12 : decode cX1_addMark 12 = .ok (.bipush 99, 2) := dTX1_addMark_0_ok 8 (12, .bipush 99, 2) rfl
theorem dX1_addMark_14 : decode cX1_addMark 14 = .ok (.if_icmp .le 5, 3) := dTX1_addMark_0_ok 9 (14, .if_icmp .le 5, 3) rfl
theorem dX1_addMark_17 : decode cX1_addMark 17 = .ok (.iconst 0, 1) := dTX1_addMark_0_ok 10 (17, .iconst 0, 1) rfl
theorem dX1_addMark_18 : decode cX1_addMark 18 = .ok (.istore_n 2, 1) := dTX1_addMark_0_ok 11 (18, .istore_n 2, 1) rfl
theorem dX1_addMark_19 : decode cX1_addMark 19 = .ok (.iload_n 2, 1) := dTX1_addMark_0_ok 12 (19, .iload_n 2, 1) rfl
theorem dX1_addMark_20 : decode cX1_addMark 20 = .ok (.bipush 13, 2) := dTX1_addMark_0_ok 13 (20, .bipush 13, 2) rfl
theorem dX1_addMark_22 : decode cX1_addMark 22 = .ok (.irem, 1) := dTX1_addMark_0_ok 14 (22, .irem, 1) rfl
theorem dX1_addMark_23 : decode cX1_addMark 23 = .ok (.ifCond .ne 16, 3) := dTX1_addMark_0_ok 15 (23, .ifCond .ne 16, 3) rfl
theorem dX1_addMark_26 : decode cX1_addMark 26 = .ok (.iload_n 2, 1) := dTX1_addMark_0_ok 16 (26, .iload_n 2, 1) rfl
theorem dX1_addMark_27 : decode cX1_addMark 27 = .ok (.bipush 10, 2) := dTX1_addMark_0_ok 17 (27, .bipush 10, 2) rfl
theorem dX1_addMark_29 : decode cX1_addMark 29 = .ok (.irem, 1) := dTX1_addMark_0_ok 18 (29, .irem, 1) rfl
theorem dX1_addMark_30 : decode cX1_addMark 30 = .ok (.bipush 10, 2) := dTX1_addMark_0_ok 19 (30, .bipush 10, 2) rfl
theorem dX1_addMark_32 : decode cX1_addMark 32 = .ok (.imul, 1) := dTX1_addMark_0_ok 20 (32, .imul, 1) rfl
theorem dX1_addMark_33 : decode cX1_addMark 33 = .ok (.iload_n 2, 1) := dTX1_addMark_0_ok 21 (33, .iload_n 2, 1) rfl
theorem dX1_addMark_34 : decode cX1_addMark 34 = .ok (.bipush 10, 2) := dTX1_addMark_0_ok 22 (34, .bipush 10, 2) rfl
theorem dX1_addMark_36 : decode cX1_addMark 36 = .ok (.idiv, 1) := dTX1_addMark_0_ok 23 (36, .idiv, 1) rfl
theorem dX1_addMark_37 : decode cX1_addMark 37 = .ok (.iadd, 1) := dTX1_addMark_0_ok 24 (37, .iadd, 1) rfl
theorem dX1_addMark_38 : decode cX1_addMark 38 = .ok (.istore_n 2, 1) := dTX1_addMark_0_ok 25 (38, .istore_n 2, 1) rfl
theorem dX1_addMark_39 : decode cX1_addMark 39 = .ok (.aload_n 0, 1) := dTX1_addMark_0_ok 26 (39, .aload_n 0, 1) rfl
theorem dX1_addMark_40 : decode cX1_addMark 40 = .ok (.getfield 14, 3) := dTX1_addMark_0_ok 27 (40, .getfield 14, 3) rfl
theorem dX1_addMark_43 : decode cX1_addMark 43 = .ok (.iload_n 1, 1) := dTX1_addMark_0_ok 28 (43, .iload_n 1, 1) rfl
theorem dX1_addMark_44 : decode cX1_addMark 44 = .ok (.iload_n 2, 1) := dTX1_addMark_0_ok 29 (44, .iload_n 2, 1) rfl
theorem dX1_addMark_45 : decode cX1_addMark 45 = .ok (.invokevirtual 73, 3) := dTX1_addMark_0_ok 30 (45, .invokevirtual 73, 3) rfl
theorem dX1_addMark_48 : decode cX1_addMark 48 = .ok (.return_, 1) := dTX1_addMark_0_ok 31 (48, .return_, 1) rfl
noncomputable def dTX2_init_0 : List (Nat × Instr × Nat) := [(0, .aload_n 0, 1), (1, .invokespecial 3, 3), (4, .aload_n 0, 1), (5, .new 9, 3), (8, .dup, 1), (9, .invokespecial 11, 3), (12, .putfield 12, 3), (15, .aload_n 0, 1), (16, .new 18, 3), (19, .dup, 1), (20, .invokespecial 20, 3), (23, .putfield 21, 3), (26, .aload_n 0, 1), (27, .new 25, 3), (30, .dup, 1), (31, .bipush 48, 2), (33, .invokespecial 27, 3), (36, .putfield 30, 3), (39, .return_, 1)]
theorem dTX2_init_0_ok : ∀ (k : Nat) (q : Nat × Instr × Nat), dTX2_init_0[k]? = some q → decode cX2_init q.1 = .ok q.2 := dT_of (by decide +kernel)
theorem dX2_init_0 : decode cX2_init 0 = .ok (.aload_n 0, 1) := dTX2_init_0_ok 0 (0, .aload_n 0, 1) rfl
theorem dX2_init_1 : decode cX2_init 1 = .ok (.invokespecial 3, 3) := dTX2_init_0_ok 1 (1, .invokespecial 3, 3) rfl
theorem dX2_init_4 : decode cX2_init 4 = .ok (.aload_n 0, 1) := dTX2_init_0_ok 2 (4, .aload_n 0, 1) rfl
theorem dX2_init_5 : decode cX2_init 5 = .ok (.new 9, 3) := dTX2_init_0_ok 3 (5, .new 9, 3) rfl
theorem dX2_init_8 : decode cX2_init 8 = .ok (.dup, 1) := dTX2_init_0_ok 4 (8, .dup, 1) rfl
theorem dX2_init_9 : decode cX2_init 9 = .ok (.invokespecial 11, 3) := dTX2_init_0_ok 5 (9, .invokespecial 11, 3) rfl
theorem dX2_init_12 : decode cX2_init 12 = .ok (.putfield 12, 3) := dTX2_init_0_ok 6 (12, .putfield 12, 3) rfl
theorem dX2_init_15 : decode cX2_init 15 = .ok (.aload_n 0, 1) := dTX2_init_0_ok 7 (15, .aload_n 0, 1) rfl
theorem dX2_init_16 : decode cX2_init 16 = .ok (.new 18, 3) := dTX2_init_0_ok 8 (16, .new 18, 3) rfl
theorem dX2_init_19 : decode cX2_init 19 = .ok (.dup, 1) := dTX2_init_0_ok 9 (19, .dup, 1) rfl
theorem dX2_init_20 : decode cX2_init 20 = .ok (.invokespecial 20, 3) := dTX2_init_0_ok 10 (20, .invokespecial 20, 3) rfl
theorem dX2_init_23 : decode cX2_init 23 = .ok (.putfield 21, 3) := dTX2_init_0_ok 11 (23, .putfield 21, 3) rfl
theorem dX2_init_26 : decode cX2_init 26 = .ok (.aload_n 0, 1) := dTX2_init_0_ok 12 (26, .aload_n 0, 1) rfl
theorem dX2_init_27 : decode cX2_init 27 = .ok (.new 25, 3) := dTX2_init_0_ok 13 (27, .new 25, 3) rfl
theorem dX2_init_30 : decode cX2_init 30 = .ok (.dup, 1) := dTX2_init_0_ok 14 (30, .dup, 1) rfl
theorem dX2_init_31 : decode cX2_init 31 = .ok (.bipush 48, 2) := dTX2_init_0_ok 15 (31, .bipush 48, 2) rfl
theorem dX2_init_33 : decode cX2_init 33 = .ok (.invokespecial 27, 3) := dTX2_init_0_ok 16 (33, .invokespecial 27, 3) rfl
theorem dX2_init_36 : decode cX2_init 36 = .ok (.putfield 30, 3) := dTX2_init_0_ok 17 (36, .putfield 30, 3) rfl
theorem dX2_init_39 : decode cX2_init 39 = .ok (.return_, 1) := dTX2_init_0_ok 18 (39, .return_, 1) rfl
noncomputable def dTX2_copyFrom_0 : List (Nat × Instr × Nat) := [(0, .aload_n 0, 1), (1, .getfield 12, 3), (4, .aload_n 1, 1), (5, .getfield 12, 3), (8, .invokevirtual 34, 3), (11, .aload_n 0, 1), (12, .getfield 30, 3), (15, .aload_n 1, 1), (16, .getfield 30, 3), (19, .invokevirtual 38, 3), (22, .aload_n 0, 1), (23, .aload_n 1, 1), (24, .getfield 41, 3), (27, .putfield 41, 3), (30, .aload_n 0, 1), (31, .aload_n 1, 1), (32, .getfield 45, 3), (35, .putfield 45, 3), (38, .return_, 1)]
theorem dTX2_copyFrom_0_ok : ∀ (k : Nat) (q : Nat × Instr × Nat), dTX2_copyFrom_0[k]? = some q → decode cX2_copyFrom q.1 = .ok q.2 := dT_of (by decide +kernel)
theorem dX2_copyFrom_0 : decode cX2_copyFrom 0 = .ok (.aload_n 0, 1) := dTX2_copyFrom_0_ok 0 (0, .aload_n 0, 1) rfl
theorem dX2_copyFrom_1 : decode cX2_copyFrom 1 = .ok (.getfield 12, 3) := dTX2_copyFrom_0_ok 1 (1, .getfield 12, 3) rfl
theorem dX2_copyFrom_4 : decode cX2_copyFrom 4 = .ok (.aload_n 1, 1) := dTX2_copyFrom_0_ok 2 (4, .aload_n 1, 1) rfl
theorem dX2_copyFrom_5 : decode cX2_copyFrom 5 = .ok (.getfield 12, 3) := dTX2_copyFrom_0_ok 3 (5, .getfield 12, 3) rfl
theorem dX2_copyFrom_8 : decode cX2_copyFrom 8 = .ok (.invokevirtual 34, 3) := dTX2_copyFrom_0_ok 4 (8, .invokevirtual 34, 3) rfl
theorem dX2_copyFrom_11 : decode cX2_copyFrom 11 = .ok (.aload_n 0, 1) := dTX2_copyFrom_0_ok 5 (11, .aload_n 0, 1) rfl
theorem dX2_copyFrom_12 : decode cX2_copyFrom 12 = .ok (.getfield 30, 3) := dTX2_copyFrom_0_ok 6 (12, .getfield 30, 3) rfl
theorem dX2_copyFrom_15 : decode cX2_copyFrom 15 = .ok (.aload_n 1, 1) := dTX2_copyFrom_0_ok 7 (15, .aload_n 1, 1) rfl
theorem dX2_copyFrom_16 : decode cX2_copyFrom 16 = .ok (.getfield 30, 3) := dTX2_copyFrom_0_ok 8 (16, .getfield 30, 3) rfl
theorem dX2_copyFrom_19 : decode cX2_copyFrom 19 = .ok (.invokevirtual 38, 3) := dTX2_copyFrom_0_ok 9 (19, .invokevirtual 38, 3) rfl
theorem dX2_copyFrom_22 : decode cX2_copyFrom 22 = .ok (.aload_n 0, 1) := dTX2_copyFrom_0_ok 10 (22, .aload_n 0, 1) rfl
theorem dX2_copyFrom_23 : decode cX2_copyFrom 23 = .ok (.aload_n 1, 1) := dTX2_copyFrom_0_ok 11 (23, .aload_n 1, 1) rfl
theorem dX2_copyFrom_24 : decode cX2_copyFrom 24 = .ok (.getfield 41, 3) := dTX2_copyFrom_0_ok 12 (24, .getfield 41, 3) rfl
theorem dX2_copyFrom_27 : decode cX2_copyFrom 27 = .ok (.putfield 41, 3) := dTX2_copyFrom_0_ok 13 (27, .putfield 41, 3) rfl
theorem dX2_copyFrom_30 : decode cX2_copyFrom 30 = .ok (.aload_n 0, 1) := dTX2_copyFrom_0_ok 14 (30, .aload_n 0, 1) rfl
theorem dX2_copyFrom_31 : decode cX2_copyFrom 31 = .ok (.aload_n 1, 1) := dTX2_copyFrom_0_ok 15 (31, .aload_n 1, 1) rfl
theorem dX2_copyFrom_32 : decode cX2_copyFrom 32 = .ok (.getfield 45, 3) := dTX2_copyFrom_0_ok 16 (32, .getfield 45, 3) rfl
theorem dX2_copyFrom_35 : decode cX2_copyFrom 35 = .ok (.putfield 45, 3) := dTX2_copyFrom_0_ok 17 (35, .putfield 45, 3) rfl
theorem dX2_copyFrom_38 : decode cX2_copyFrom 38 = .ok (.return_, 1) := dTX2_copyFrom_0_ok 18 (38, .return_, 1) rfl
noncomputable def dTX2_trait_0 : List (Nat × Instr × Nat) := [(0, .aload_n 0, 1), (1, .getfield 30, 3), (4, .iload_n 1, 1), (5, .bipush 8, 2), (7, .imul, 1), (8, .iload_n 2, 1), (9, .iadd, 1), (10, .invokevirtual 48, 3), (13, .ireturn, 1)]
theorem dTX2_trait_0_ok : ∀ (k : Nat) (q : Nat × Instr × Nat), dTX2_trait_0[k]? = some q → decode cX2_trait q.1 = .ok q.2 := dT_of (by decide +kernel)
theorem dX2_trait_0 : decode cX2_trait 0 = .ok (.aload_n 0, 1) := dTX2_trait_0_ok 0 (0, .aload_n 0, 1) rfl
theorem dX2_trait_1 : decode cX2_trait 1 = .ok (.getfield 30, 3) := dTX2_trait_0_ok 1 (1, .getfield 30, 3) rfl
theorem dX2_trait_4 : decode cX2_trait 4 = .ok (.iload_n 1, 1) := dTX2_trait_0_ok 2 (4, .iload_n 1, 1) rfl
theorem dX2_trait_5 : decode cX2_trait 5 = .ok (.bipush 8, 2) := dTX2_trait_0_ok 3 (5, .bipush 8, 2) rfl
theorem dX2_trait_7 : decode cX2_trait 7 = .ok (.imul, 1) := dTX2_trait_0_ok 4 (7, .imul, 1) rfl
theorem dX2_trait_8 : decode cX2_trait 8 = .ok (.iload_n 2, 1) := dTX2_trait_0_ok 5 (8, .iload_n 2, 1) rfl
theorem dX2_trait_9 : decode cX2_trait 9 = .ok (.iadd, 1) := dTX2_trait_0_ok 6 (9, .iadd, 1) rfl
theorem dX2_trait_10 : decode cX2_trait 10 = .ok (.invokevirtual 48, 3) := dTX2_trait_0_ok 7 (10, .invokevirtual 48, 3) rfl
theorem dX2_trait_13 : decode cX2_trait 13 = .ok (.ireturn, 1) := dTX2_trait_0_ok 8 (13, .ireturn, 1) rfl
noncomputable def dTX2_setTrait_0 : List (Nat × Instr × Nat) := [(0, .aload_n 0, 1), (1, .getfield 30, 3), (4, .iload_n 1, 1), (5, .bipush 8, 2), (7, .imul, 1), (8, .iload_n 2, 1), (9, .iadd, 1), (10, .iload_n 3, 1), (11, .invokevirtual 52, 3), (14, .return_, 1)]
theorem dTX2_setTrait_0_ok : ∀ (k : Nat) (q : Nat × Instr × Nat), dTX2_setTrait_0[k]? = some q → decode cX2_setTrait q.1 = .ok q.2 := dT_of (by decide +kernel)
theorem dX2_setTrait_0 : decode cX2_setTrait 0 = .ok (.aload_n 0, 1) := dTX2_setTrait_0_ok 0 (0, .aload_n 0, 1) rfl
theorem dX2_setTrait_1 : decode cX2_setTrait 1 = .ok (.getfield 30, 3) := dTX2_setTrait_0_ok 1 (1, .getfield 30, 3) rfl
theorem dX2_setTrait_4 : decode cX2_setTrait 4 = .ok (.iload_n 1, 1) := dTX2_setTrait_0_ok 2 (4, .iload_n 1, 1) rfl
theorem dX2_setTrait_5 : decode cX2_setTrait 5 = .ok (.bipush 8, 2) := dTX2_setTrait_0_ok 3 (5, .bipush 8, 2) rfl
theorem dX2_setTrait_7 : decode cX2_setTrait 7 = .ok (.imul, 1) := dTX2_setTrait_0_ok 4 (7, .imul, 1) rfl
theorem dX2_setTrait_8 : decode cX2_setTrait 8 = .ok (.iload_n 2, 1) := dTX2_setTrait_0_ok 5 (8, .iload_n 2, 1) rfl
theorem dX2_setTrait_9 : decode cX2_setTrait 9 = .ok (.iadd, 1) := dTX2_setTrait_0_ok 6 (9, .iadd, 1) rfl
theorem dX2_setTrait_10 : decode cX2_setTrait 10 = .ok (.iload_n 3, 1) := dTX2_setTrait_0_ok 7 (10, .iload_n 3, 1) rfl
theorem dX2_setTrait_11 : decode cX2_setTrait 11 = .ok (.invokevirtual 52, 3) := dTX2_setTrait_0_ok 8 (11, .invokevirtual 52, 3) rfl
theorem dX2_setTrait_14 : decode cX2_setTrait 14 = .ok (.return_, 1) := dTX2_setTrait_0_ok 9 (14, .return_, 1) rfl
noncomputable def dTX2_sumOfTrait_0 : List (Nat × Instr × Nat) := [(0, .iconst 0, 1), (1, .istore_n 2, 1), (2, .iconst 0, 1), (3, .istore_n 3, 1), (4, .iload_n 3, 1), (5, .aload_n 0, 1), (6, .getfield 41, 3), (9, .if_icmp .ge 18, 3), (12, .iload_n 2, 1), (13, .aload_n 0, 1), (14, .iload_n 3, 1), (15, .iload_n 1, 1), (16, .invokevirtual 56, 3), (19, .iadd, 1), (20, .istore_n 2, 1), (21, .iinc 3 1, 3), (24, .goto (-20), 3), (27, .iload_n 2, 1), (28, .ireturn, 1)]
theorem dTX2_sumOfTrait_0_ok : ∀ (k : Nat) (q : Nat × Instr × Nat), dTX2_sumOfTrait_0[k]? = some q → decode cX2_sumOfTrait q.1 = .ok q.2 := dT_of (by decide +kernel)
theorem dX2_sumOfTrait_0 : decode cX2_sumOfTrait 0 = .ok (.iconst 0, 1) := dTX2_sumOfTrait_0_ok 0 (0, .iconst 0, 1) rfl
theorem dX2_sumOfTrait_1 : decode cX2_sumOfTrait 1 = .ok (.istore_n 2, 1) := dTX2_sumOfTrait_0_ok 1 (1, .istore_n 2, 1) rfl
theorem dX2_sumOfTrait_2 : decode cX2_sumOfTrait 2 = .ok (.iconst 0, 1) := dTX2_sumOfTrait_0_ok 2 (2, .iconst 0, 1) rfl
theorem dX2_sumOfTrait_3 : decode cX2_sumOfTrait 3 = .ok (.istore_n 3, 1) := dTX2_sumOfTrait_0_ok 3 (3, .istore_n 3, 1) rfl
theorem dX2_sumOfTrait_4 : decode cX2_sumOfTrait 4 = .ok (.iload_n 3, 1) := dTX2_sumOfTrait_0_ok 4 (4, .iload_n 3, 1) rfl
theorem dX2_sumOfTrait_5 : decode cX2_sumOfTrait 5 = .ok (.aload_n 0, 1) := dTX2_sumOfTrait_0_ok 5 (5, .aload_n 0, 1) rfl
theorem dX2_sumOfTrait_6 : decode cX2_sumOfTrait 6 = .ok (.getfield 41, 3) := dTX2_sumOfTrait_0_ok 6 (6, .getfield 41, 3) rfl
theorem dX2_sumOfTrait_9 : decode cX2_sumOfTrait 9 = .ok (.if_icmp .ge 18, 3) := dTX2_sumOfTrait_0_ok 7 (9, .if_icmp .ge 18, 3) rfl
theorem dX2_sumOfTrait_12 : decode cX2_sumOfTrait 12 = .ok (.iload_n 2, 1) := dTX2_sumOfTrait_0_ok 8 (12, .iload_n 2, 1) rfl
theorem dX2_sumOfTrait_13 : decode cX2_sumOfTrait 13 = .ok (.aload_n 0, 1) := dTX2_sumOfTrait_0_ok 9 (13, .aload_n 0, 1) rfl
theorem dX2_sumOfTrait_14 : decode cX2_sumOfTrait 14 = .ok (.iload_n 3, 1) := dTX2_sumOfTrait_0_ok 10 (14, .iload_n 3, 1) rfl
theorem dX2_sumOfTrait_15 : decode cX2_sumOfTrait 15 = .ok (.iload_n 1, 1) := dTX2_sumOfTrait_0_ok 11 (15, .iload_n 1, 1) rfl
theorem dX2_sumOfTrait_16 : decode cX2_sumOfTrait 16 = .ok (.invokevirtual 56, 3) := dTX2_sumOfTrait_0_ok 12 (16, .invokevirtual 56, 3) rfl
theorem dX2_sumOfTrait_19 : decode cX2_sumOfTrait 19 = .ok (.iadd, 1) := dTX2_sumOfTrait_0_ok 13 (19, .iadd, 1) rfl
theorem dX2_sumOfTrait_20 : decode cX2_sumOfTrait 20 = .ok (.istore_n 2, 1) := dTX2_sumOfTrait_0_ok 14 (20, .istore_n 2, 1) rfl
theorem dX2_sumOfTrait_21 : decode cX2_sumOfTrait 21 = .ok (.iinc 3 1, 3) := dTX2_sumOfTrait_0_ok 15 (21, .iinc 3 1, 3) rfl
theorem dX2_sumOfTrait_24 : decode cX2_sumOfTrait 24 = .ok (.goto (-20), 3) := dTX2_sumOfTrait_0_ok 16 (24, .goto (-20), 3) rfl
theorem dX2_sumOfTrait_27 : decode cX2_sumOfTrait 27 = .ok (.iload_n 2, 1) := dTX2_sumOfTrait_0_ok 17 (27, .iload_n 2, 1) rfl
theorem dX2_sumOfTrait_28 : decode cX2_sumOfTrait 28 = .ok (.ireturn, 1) := dTX2_sumOfTrait_0_ok 18 (28, .ireturn, 1) rfl
noncomputable def dTX2_mayPass_0 : List (Nat × Instr × Nat) := [(0, .aload_n 0, 1), (1, .iload_n 1, 1), (2, .iconst 5, 1), (3, .invokevirtual 56, 3), (6, .iconst 1, 1), (7, .if_icmp .ne 7, 3), (10, .iconst 1, 1), (11, .goto 4, 3), (14, .iconst 0, 1), (15, .ireturn, 1)]
theorem dTX2_mayPass_0_ok : ∀ (k : Nat) (q : Nat × Instr × Nat), dTX2_mayPass_0[k]? = some q → decode cX2_mayPass q.1 = .ok q.2 := dT_of (by decide +kernel)
theorem dX2_mayPass_0 : decode cX2_mayPass 0 = .ok (.aload_n 0, 1) := dTX2_mayPass_0_ok 0 (0, .aload_n 0, 1) rfl
theorem dX2_mayPass_1 : decode cX2_mayPass 1 = .ok (.iload_n 1, 1) := dTX2_mayPass_0_ok 1 (1, .iload_n 1, 1) rfl
theorem dX2_mayPass_2 : decode cX2_mayPass 2 = .ok (.iconst 5, 1) := dTX2_mayPass_0_ok 2 (2, .iconst 5, 1) rfl
theorem dX2_mayPass_3 : decode cX2_mayPass 3 = .ok (.invokevirtual 56, 3) := dTX2_mayPass_0_ok 3 (3, .invokevirtual 56, 3) rfl
theorem dX2_mayPass_6 : decode cX2_mayPass 6 = .ok (.iconst 1, 1) := dTX2_mayPass_0_ok 4 (6, .iconst 1, 1) rfl
theorem dX2_mayPass_7 : decode cX2_mayPass 7 = .ok (.if_icmp .ne 7, 3) := dTX2_mayPass_0_ok 5 (7, .if_icmp .ne 7, 3) rfl
theorem dX2_mayPass_10 : decode cX2_mayPass 10 = .ok (.iconst 1, 1) := dTX2_mayPass_0_ok 6 (10, .iconst 1, 1) rfl
theorem dX2_mayPass_11 : decode cX2_mayPass 11 = .ok (.goto 4, 3) := dTX2_mayPass_0_ok 7 (11, .goto 4, 3) rfl
theorem dX2_mayPass_14 : decode cX2_mayPass 14 = .ok (.iconst 0, 1) := dTX2_mayPass_0_ok 8 (14, .iconst 0, 1) rfl
theorem dX2_mayPass_15 : decode cX2_mayPass 15 = .ok (.ireturn, 1) := dTX2_mayPass_0_ok 9 (15, .ireturn, 1) rfl
noncomputable def dTX2_cellOf_0 : List (Nat × Instr × Nat) := [(0, .bipush 9, 2), (2, .aload_n 0, 1), (3, .iload_n 1, 1), (4, .iconst 1, 1), (5, .invokevirtual 56, 3), (8, .imul, 1), (9, .aload_n 0, 1), (10, .iload_n 1, 1), (11, .iconst 0, 1), (12, .invokevirtual 56, 3), (15, .iadd, 1), (16, .ireturn, 1)]
theorem dTX2_cellOf_0_ok : ∀ (k : Nat) (q : Nat × Instr × Nat), dTX2_cellOf_0[k]? = some q → decode cX2_cellOf q.1 = .ok q.2 := dT_of (by decide +kernel)
theorem dX2_cellOf_0 : decode cX2_cellOf 0 = .ok (.bipush 9, 2) := dTX2_cellOf_0_ok 0 (0, .bipush 9, 2) rfl
theorem dX2_cellOf_2 : decode cX2_cellOf 2 = .ok (.aload_n 0, 1) := dTX2_cellOf_0_ok 1 (2, .aload_n 0, 1) rfl
theorem dX2_cellOf_3 : decode cX2_cellOf 3 = .ok (.iload_n 1, 1) := dTX2_cellOf_0_ok 2 (3, .iload_n 1, 1) rfl
theorem dX2_cellOf_4 : decode cX2_cellOf 4 = .ok (.iconst 1, 1) := dTX2_cellOf_0_ok 3 (4, .iconst 1, 1) rfl
theorem dX2_cellOf_5 : decode cX2_cellOf 5 = .ok (.invokevirtual 56, 3) := dTX2_cellOf_0_ok 4 (5, .invokevirtual 56, 3) rfl
theorem dX2_cellOf_8 : decode cX2_cellOf 8 = .ok (.imul, 1) := dTX2_cellOf_0_ok 5 (8, .imul, 1) rfl
theorem dX2_cellOf_9 : decode cX2_cellOf 9 = .ok (.aload_n 0, 1) := dTX2_cellOf_0_ok 6 (9, .aload_n 0, 1) rfl
theorem dX2_cellOf_10 : decode cX2_cellOf 10 = .ok (.iload_n 1, 1) := dTX2_cellOf_0_ok 7 (10, .iload_n 1, 1) rfl
theorem dX2_cellOf_11 : decode cX2_cellOf 11 = .ok (.iconst 0, 1) := dTX2_cellOf_0_ok 8 (11, .iconst 0, 1) rfl
theorem dX2_cellOf_12 : decode cX2_cellOf 12 = .ok (.invokevirtual 56, 3) := dTX2_cellOf_0_ok 9 (12, .invokevirtual 56, 3) rfl
theorem dX2_cellOf_15 : decode cX2_cellOf 15 = .ok (.iadd, 1) := dTX2_cellOf_0_ok 10 (15, .iadd, 1) rfl
theorem dX2_cellOf_16 : decode cX2_cellOf 16 = .ok (.ireturn, 1) := dTX2_cellOf_0_ok 11 (16, .ireturn, 1) rfl
noncomputable def dTX2_goalOf_0 : List (Nat × Instr × Nat) := [(0, .bipush 9, 2), (2, .aload_n 0, 1), (3, .iload_n 1, 1), (4, .iconst 4, 1), (5, .invokevirtual 56, 3), (8, .imul, 1), (9, .aload_n 0, 1), (10, .iload_n 1, 1), (11, .iconst 3, 1), (12, .invokevirtual 56, 3), (15, .iadd, 1), (16, .ireturn, 1)]
theorem dTX2_goalOf_0_ok : ∀ (k : Nat) (q : Nat × Instr × Nat), dTX2_goalOf_0[k]? = some q → decode cX2_goalOf q.1 = .ok q.2 := dT_of (by decide +kernel)
theorem dX2_goalOf_0 : decode cX2_goalOf 0 = .ok (.bipush 9, 2) := dTX2_goalOf_0_ok 0 (0, .bipush 9, 2) rfl
theorem dX2_goalOf_2 : decode cX2_goalOf 2 = .ok (.aload_n 0, 1) := dTX2_goalOf_0_ok 1 (2, .aload_n 0, 1) rfl
theorem dX2_goalOf_3 : decode cX2_goalOf 3 = .ok (.iload_n 1, 1) := dTX2_goalOf_0_ok 2 (3, .iload_n 1, 1) rfl
theorem dX2_goalOf_4 : decode cX2_goalOf 4 = .ok (.iconst 4, 1) := dTX2_goalOf_0_ok 3 (4, .iconst 4, 1) rfl
theorem dX2_goalOf_5 : decode cX2_goalOf 5 = .ok (.invokevirtual 56, 3) := dTX2_goalOf_0_ok 4 (5, .invokevirtual 56, 3) rfl
theorem dX2_goalOf_8 : decode cX2_goalOf 8 = .ok (.imul, 1) := dTX2_goalOf_0_ok 5 (8, .imul, 1) rfl
theorem dX2_goalOf_9 : decode cX2_goalOf 9 = .ok (.aload_n 0, 1) := dTX2_goalOf_0_ok 6 (9, .aload_n 0, 1) rfl
theorem dX2_goalOf_10 : decode cX2_goalOf 10 = .ok (.iload_n 1, 1) := dTX2_goalOf_0_ok 7 (10, .iload_n 1, 1) rfl
theorem dX2_goalOf_11 : decode cX2_goalOf 11 = .ok (.iconst 3, 1) := dTX2_goalOf_0_ok 8 (11, .iconst 3, 1) rfl
theorem dX2_goalOf_12 : decode cX2_goalOf 12 = .ok (.invokevirtual 56, 3) := dTX2_goalOf_0_ok 9 (12, .invokevirtual 56, 3) rfl
theorem dX2_goalOf_15 : decode cX2_goalOf 15 = .ok (.iadd, 1) := dTX2_goalOf_0_ok 10 (15, .iadd, 1) rfl
theorem dX2_goalOf_16 : decode cX2_goalOf 16 = .ok (.ireturn, 1) := dTX2_goalOf_0_ok 11 (16, .ireturn, 1) rfl
noncomputable def dTX2_setCell_0 : List (Nat × Instr × Nat) := [(0, .aload_n 0, 1), (1, .iload_n 1, 1), (2, .iconst 0, 1), (3, .iload_n 2, 1), (4, .bipush 9, 2), (6, .irem, 1), (7, .invokevirtual 60, 3), (10, .aload_n 0, 1), (11, .iload_n 1, 1), (12, .iconst 1, 1), (13, .iload_n 2, 1), (14, .bipush 9, 2), (16, .idiv, 1), (17, .invokevirtual 60, 3), (20, .return_, 1)]
theorem dTX2_setCell_0_ok : ∀ (k : Nat) (q : Nat × Instr × Nat), dTX2_setCell_0[k]? = some q → decode cX2_setCell q.1 = .ok q.2 := dT_of (by decide +kernel)
theorem dX2_setCell_0 : decode cX2_setCell 0 = .ok (.aload_n 0, 1) := dTX2_setCell_0_ok 0 (0, .aload_n 0, 1) rfl
theorem dX2_setCell_1 : decode cX2_setCell 1 = .ok (.iload_n 1, 1) := dTX2_setCell_0_ok 1 (1, .iload_n 1, 1) rfl
theorem dX2_setCell_2 : decode cX2_setCell 2 = .ok (.iconst 0, 1) := dTX2_setCell_0_ok 2 (2, .iconst 0, 1) rfl
theorem dX2_setCell_3 : decode cX2_setCell 3 = .ok (.iload_n 2, 1) := dTX2_setCell_0_ok 3 (3, .iload_n 2, 1) rfl
theorem dX2_setCell_4 : decode cX2_setCell 4 = .ok (.bipush 9, 2) := dTX2_setCell_0_ok 4 (4, .bipush 9, 2) rfl
theorem dX2_setCell_6 : decode cX2_setCell 6 = .ok (.irem, 1) := dTX2_setCell_0_ok 5 (6, .irem, 1) rfl
theorem dX2_setCell_7 : decode cX2_setCell 7 = .ok (.invokevirtual 60, 3) := dTX2_setCell_0_ok 6 (7, .invokevirtual 60, 3) rfl
theorem dX2_setCell_10 : decode cX2_setCell 10 = .ok (.aload_n 0, 1) := dTX2_setCell_0_ok 7 (10, .aload_n 0, 1) rfl
theorem dX2_setCell_11 : decode cX2_setCell 11 = .ok (.iload_n 1, 1) := dTX2_setCell_0_ok 8 (11, .iload_n 1, 1) rfl
theorem dX2_setCell_12 : decode cX2_setCell 12 = .ok (.iconst 1, 1) := dTX2_setCell_0_ok 9 (12, .iconst 1, 1) rfl
theorem dX2_setCell_13 : decode cX2_setCell 13 = .ok (.iload_n 2, 1) := dTX2_setCell_0_ok 10 (13, .iload_n 2, 1) rfl
theorem dX2_setCell_14 : decode cX2_setCell 14 = .ok (.bipush 9, 2) := dTX2_setCell_0_ok 11 (14, .bipush 9, 2) rfl
theorem dX2_setCell_16 : decode cX2_setCell 16 = .ok (.idiv, 1) := dTX2_setCell_0_ok 12 (16, .idiv, 1) rfl
theorem dX2_setCell_17 : decode cX2_setCell 17 = .ok (.invokevirtual 60, 3) := dTX2_setCell_0_ok 13 (17, .invokevirtual 60, 3) rfl
theorem dX2_setCell_20 : decode cX2_setCell 20 = .ok (.return_, 1) := dTX2_setCell_0_ok 14 (20, .return_, 1) rfl
noncomputable def dTX2_setGoal_0 : List (Nat × Instr × Nat) := [(0, .aload_n 0, 1), (1, .iload_n 1, 1), (2, .iconst 3, 1), (3, .iload_n 2, 1), (4, .bipush 9, 2), (6, .irem, 1), (7, .invokevirtual 60, 3), (10, .aload_n 0, 1), (11, .iload_n 1, 1), (12, .iconst 4, 1), (13, .iload_n 2, 1), (14, .bipush 9, 2), (16, .idiv, 1), (17, .invokevirtual 60, 3), (20, .return_, 1)]
theorem dTX2_setGoal_0_ok : ∀ (k : Nat) (q : Nat × Instr × Nat), dTX2_setGoal_0[k]? = some q → decode cX2_setGoal q.1 = .ok q.2 := dT_of (by decide +kernel)
theorem dX2_setGoal_0 : decode cX2_setGoal 0 = .ok (.aload_n 0, 1) := dTX2_setGoal_0_ok 0 (0, .aload_n 0, 1) rfl
theorem dX2_setGoal_1 : decode cX2_setGoal 1 = .ok (.iload_n 1, 1) := dTX2_setGoal_0_ok 1 (1, .iload_n 1, 1) rfl
theorem dX2_setGoal_2 : decode cX2_setGoal 2 = .ok (.iconst 3, 1) := dTX2_setGoal_0_ok 2 (2, .iconst 3, 1) rfl
theorem dX2_setGoal_3 : decode cX2_setGoal 3 = .ok (.iload_n 2, 1) := dTX2_setGoal_0_ok 3 (3, .iload_n 2, 1) rfl
theorem dX2_setGoal_4 : decode cX2_setGoal 4 = .ok (.bipush 9, 2) := dTX2_setGoal_0_ok 4 (4, .bipush 9, 2) rfl
theorem dX2_setGoal_6 : decode cX2_setGoal 6 = .ok (.irem, 1) := dTX2_setGoal_0_ok 5 (6, .irem, 1) rfl
theorem dX2_setGoal_7 : decode cX2_setGoal 7 = .ok (.invokevirtual 60, 3) := dTX2_setGoal_0_ok 6 (7, .invokevirtual 60, 3) rfl
theorem dX2_setGoal_10 : decode cX2_setGoal 10 = .ok (.aload_n 0, 1) := dTX2_setGoal_0_ok 7 (10, .aload_n 0, 1) rfl
theorem dX2_setGoal_11 : decode cX2_setGoal 11 = .ok (.iload_n 1, 1) := dTX2_setGoal_0_ok 8 (11, .iload_n 1, 1) rfl
theorem dX2_setGoal_12 : decode cX2_setGoal 12 = .ok (.iconst 4, 1) := dTX2_setGoal_0_ok 9 (12, .iconst 4, 1) rfl
theorem dX2_setGoal_13 : decode cX2_setGoal 13 = .ok (.iload_n 2, 1) := dTX2_setGoal_0_ok 10 (13, .iload_n 2, 1) rfl
theorem dX2_setGoal_14 : decode cX2_setGoal 14 = .ok (.bipush 9, 2) := dTX2_setGoal_0_ok 11 (14, .bipush 9, 2) rfl
theorem dX2_setGoal_16 : decode cX2_setGoal 16 = .ok (.idiv, 1) := dTX2_setGoal_0_ok 12 (16, .idiv, 1) rfl
theorem dX2_setGoal_17 : decode cX2_setGoal 17 = .ok (.invokevirtual 60, 3) := dTX2_setGoal_0_ok 13 (17, .invokevirtual 60, 3) rfl
theorem dX2_setGoal_20 : decode cX2_setGoal 20 = .ok (.return_, 1) := dTX2_setGoal_0_ok 14 (20, .return_, 1) rfl
noncomputable def dTX2_addGhost_0 : List (Nat × Instr × Nat) := [(0, .aload_n 0, 1), (1, .getfield 41, 3), (4, .istore_n 3, 1), (5, .aload_n 0, 1), (6, .iload_n 3, 1), (7, .iload_n 1, 1), (8, .invokevirtual 64, 3), (11, .aload_n 0, 1), (12, .iload_n 3, 1), (13, .iload_n 1, 1), (14, .invokevirtual 67, 3), (17, .aload_n 0, 1), (18, .iload_n 3, 1), (19, .iconst 2, 1), (20, .iload_n 2, 1), (21, .invokevirtual 60, 3), (24, .aload_n 0, 1), (25, .iload_n 3, 1), (26, .iconst 5, 1), (27, .iconst 1, 1), (28, .invokevirtual 60, 3), (31, .aload_n 0, 1), (32, .dup, 1), (33, .getfield 41, 3), (36, .iconst 1, 1), (37, .iadd, 1), (38, .putfield 41, 3), (41, .iload_n 3, 1), (42, .ireturn, 1)]
theorem dTX2_addGhost_0_ok : ∀ (k : Nat) (q : Nat × Instr × Nat), dTX2_addGhost_0[k]? = some q → decode cX2_addGhost q.1 = .ok q.2 := dT_of (by decide +kernel)
theorem dX2_addGhost_0 : decode cX2_addGhost 0 = .ok (.aload_n 0, 1) := dTX2_addGhost_0_ok 0 (0, .aload_n 0, 1) rfl
theorem dX2_addGhost_1 : decode cX2_addGhost 1 = .ok (.getfield 41, 3) := dTX2_addGhost_0_ok 1 (1, .getfield 41, 3) rfl
theorem dX2_addGhost_4 : decode cX2_addGhost 4 = .ok (.istore_n 3, 1) := dTX2_addGhost_0_ok 2 (4, .istore_n 3, 1) rfl
theorem dX2_addGhost_5 : decode cX2_addGhost 5 = .ok (.aload_n 0, 1) := dTX2_addGhost_0_ok 3 (5, .aload_n 0, 1) rfl
theorem dX2_addGhost_6 : decode cX2_addGhost 6 = .ok (.iload_n 3, 1) := dTX2_addGhost_0_ok 4 (6, .iload_n 3, 1) rfl
theorem dX2_addGhost_7 : decode cX2_addGhost 7 = .ok (.iload_n 1, 1) := dTX2_addGhost_0_ok 5 (7, .iload_n 1, 1) rfl
theorem dX2_addGhost_8 : decode cX2_addGhost 8 = .ok (.invokevirtual 64, 3) := dTX2_addGhost_0_ok 6 (8, .invokevirtual 64, 3) rfl
theorem dX2_addGhost_11 : decode cX2_addGhost 11 = .ok (.aload_n 0, 1) := dTX2_addGhost_0_ok 7 (11, .aload_n 0, 1) rfl
theorem dX2_addGhost_12 : decode cX2_addGhost 12 = .ok (.iload_n 3, 1) := dTX2_addGhost_0_ok 8 (12, .iload_n 3, 1) rfl
theorem dX2_addGhost_13 : decode cX2_addGhost 13 = .ok (.iload_n 1, 1) := dTX2_addGhost_0_ok 9 (13, .iload_n 1, 1) rfl
theorem dX2_addGhost_14 : decode cX2_addGhost 14 = .ok (.invokevirtual 67, 3) := dTX2_addGhost_0_ok 10 (14, .invokevirtual 67, 3) rfl
theorem dX2_addGhost_17 : decode cX2_addGhost 17 = .ok (.aload_n 0, 1) := dTX2_addGhost_0_ok 11 (17, .aload_n 0, 1) rfl
theorem dX2_addGhost_18 : decode cX2_addGhost 18 = .ok (.iload_n 3, 1) := dTX2_addGhost_0_ok 12 (18, .iload_n 3, 1) rfl
theorem dX2_addGhost_19 : decode cX2_addGhost 19 = .ok (.iconst 2, 1) := dTX2_addGhost_0_ok 13 (19, .iconst 2, 1) rfl
theorem dX2_addGhost_20 : decode cX2_addGhost 20 = .ok (.iload_n 2, 1) := dTX2_addGhost_0_ok 14 (20, .iload_n 2, 1) rfl
theorem dX2_addGhost_21 : decode cX2_addGhost 21 = .ok (.invokevirtual 60, 3) := dTX2_addGhost_0_ok 15 (21, .invokevirtual 60, 3) rfl
theorem dX2_addGhost_24 : decode cX2_addGhost 24 = .ok (.aload_n 0, 1) := dTX2_addGhost_0_ok 16 (24, .aload_n 0, 1) rfl
theorem dX2_addGhost_25 : decode cX2_addGhost 25 = .ok (.iload_n 3, 1) := dTX2_addGhost_0_ok 17 (25, .iload_n 3, 1) rfl
theorem dX2_addGhost_26 : decode cX2_addGhost 26 = .ok (.iconst 5, 1) := dTX2_addGhost_0_ok 18 (26, .iconst 5, 1) rfl
theorem dX2_addGhost_27 : decode cX2_addGhost 27 = .ok (.iconst 1, 1) := dTX2_addGhost_0_ok 19 (27, .iconst 1, 1) rfl
theorem dX2_addGhost_28 : decode cX2_addGhost 28 = .ok (.invokevirtual 60, 3) := dTX2_addGhost_0_ok 20 (28, .invokevirtual 60, 3) rfl
theorem dX2_addGhost_31 : decode cX2_addGhost 31 = .ok (.aload_n 0, 1) := dTX2_addGhost_0_ok 21 (31, .aload_n 0, 1) rfl
theorem dX2_addGhost_32 : decode cX2_addGhost 32 = .ok (.dup, 1) := dTX2_addGhost_0_ok 22 (32, .dup, 1) rfl
theorem dX2_addGhost_33 : decode cX2_addGhost 33 = .ok (.getfield 41, 3) := dTX2_addGhost_0_ok 23 (33, .getfield 41, 3) rfl
theorem dX2_addGhost_36 : decode cX2_addGhost 36 = .ok (.iconst 1, 1) := dTX2_addGhost_0_ok 24 (36, .iconst 1, 1) rfl
theorem dX2_addGhost_37 : decode cX2_addGhost 37 = .ok (.iadd, 1) := dTX2_addGhost_0_ok 25 (37, .iadd, 1) rfl
theorem dX2_addGhost_38 : decode cX2_addGhost 38 = .ok (.putfield 41, 3) := dTX2_addGhost_0_ok 26 (38, .putfield 41, 3) rfl
theorem dX2_addGhost_41 : decode cX2_addGhost 41 = .ok (.iload_n 3, 1) := dTX2_addGhost_0_ok 27 (41, .iload_n 3, 1) rfl
theorem dX2_addGhost_42 : decode cX2_addGhost 42 = .ok (.ireturn, 1) := dTX2_addGhost_0_ok 28 (42, .ireturn, 1) rfl
noncomputable def dTX2_ghostsIn_0 : List (Nat × Instr × Nat) := [(0, .iconst 0, 1), (1, .istore_n 2, 1), (2, .iconst 0, 1), (3, .istore_n 3, 1), (4, .iload_n 3, 1), (5, .aload_n 0, 1), (6, .getfield 41, 3), (9, .if_icmp .ge 21, 3), (12, .aload_n 0, 1), (13, .iload_n 3, 1), (14, .invokevirtual 70, 3), (17, .iload_n 1, 1), (18, .if_icmp .ne 6, 3), (21, .iinc 2 1, 3), (24, .iinc 3 1, 3), (27, .goto (-23), 3), (30, .iload_n 2, 1), (31, .ireturn, 1)]
theorem dTX2_ghostsIn_0_ok : ∀ (k : Nat) (q : Nat × Instr × Nat), dTX2_ghostsIn_0[k]? = some q → decode cX2_ghostsIn q.1 = .ok q.2 := dT_of (by decide +kernel)
theorem dX2_ghostsIn_0 : decode cX2_ghostsIn 0 = .ok (.iconst 0, 1) := dTX2_ghostsIn_0_ok 0 (0, .iconst 0, 1) rfl
theorem dX2_ghostsIn_1 : decode cX2_ghostsIn 1 = .ok (.istore_n 2, 1) := dTX2_ghostsIn_0_ok 1 (1, .istore_n 2, 1) rfl
theorem dX2_ghostsIn_2 : decode cX2_ghostsIn 2 = .ok (.iconst 0, 1) := dTX2_ghostsIn_0_ok 2 (2, .iconst 0, 1) rfl
theorem dX2_ghostsIn_3 : decode cX2_ghostsIn 3 = .ok (.istore_n 3, 1) := dTX2_ghostsIn_0_ok 3 (3, .istore_n 3, 1) rfl
theorem dX2_ghostsIn_4 : decode cX2_ghostsIn 4 = .ok (.iload_n 3, 1) := dTX2_ghostsIn_0_ok 4 (4, .iload_n 3, 1) rfl
theorem dX2_ghostsIn_5 : decode cX2_ghostsIn 5 = .ok (.aload_n 0, 1) := dTX2_ghostsIn_0_ok 5 (5, .aload_n 0, 1) rfl
theorem dX2_ghostsIn_6 : decode cX2_ghostsIn 6 = .ok (.getfield 41, 3) := dTX2_ghostsIn_0_ok 6 (6, .getfield 41, 3) rfl
theorem dX2_ghostsIn_9 : decode cX2_ghostsIn 9 = .ok (.if_icmp .ge 21, 3) := dTX2_ghostsIn_0_ok 7 (9, .if_icmp .ge 21, 3) rfl
theorem dX2_ghostsIn_12 : decode cX2_ghostsIn 12 = .ok (.aload_n 0, 1) := dTX2_ghostsIn_0_ok 8 (12, .aload_n 0, 1) rfl
theorem dX2_ghostsIn_13 : decode cX2_ghostsIn 13 = .ok (.iload_n 3, 1) := dTX2_ghostsIn_0_ok 9 (13, .iload_n 3, 1) rfl
theorem dX2_ghostsIn_14 : decode cX2_ghostsIn 14 = .ok (.invokevirtual 70, 3) := dTX2_ghostsIn_0_ok 10 (14, .invokevirtual 70, 3) rfl
theorem dX2_ghostsIn_17 : decode cX2_ghostsIn 17 = .ok (.iload_n 1, 1) := dTX2_ghostsIn_0_ok 11 (17, .iload_n 1, 1) rfl
theorem dX2_ghostsIn_18 : decode cX2_ghostsIn 18 = .ok (.if_icmp .ne 6, 3) := dTX2_ghostsIn_0_ok 12 (18, .if_icmp .ne 6, 3) rfl
theorem dX2_ghostsIn_21 : decode cX2_ghostsIn 21 = .ok (.iinc 2 1, 3) := dTX2_ghostsIn_0_ok 13 (21, .iinc 2 1, 3) rfl
theorem dX2_ghostsIn_24 : decode cX2_ghostsIn 24 = .ok (.iinc 3 1, 3) := dTX2_ghostsIn_0_ok 14 (24, .iinc 3 1, 3) rfl
theorem dX2_ghostsIn_27 : decode cX2_ghostsIn 27 = .ok (.goto (-23), 3) := dTX2_ghostsIn_0_ok 15 (27, .goto (-23), 3) rfl
theorem dX2_ghostsIn_30 : decode cX2_ghostsIn 30 = .ok (.iload_n 2, 1) := dTX2_ghostsIn_0_ok 16 (30, .iload_n 2, 1) rfl
theorem dX2_ghostsIn_31 : decode cX2_ghostsIn 31 = .ok (.ireturn, 1) := dTX2_ghostsIn_0_ok 17 (31, .ireturn, 1) rfl
noncomputable def dTX2_ghostsAtGoals_0 : List (Nat × Instr × Nat) := [(0, .iconst 0, 1), (1, .istore_n 1, 1), (2, .iconst 0, 1), (3, .istore_n 2, 1), (4, .iload_n 2, 1), (5, .aload_n 0, 1), (6, .getfield 41, 3), (9, .if_icmp .ge 25, 3), (12, .aload_n 0, 1), (13, .iload_n 2, 1), (14, .invokevirtual 70, 3), (17, .aload_n 0, 1), (18, .iload_n 2, 1), (19, .invokevirtual 73, 3), (22, .if_icmp .ne 6, 3), (25, .iinc 1 1, 3), (28, .iinc 2 1, 3), (31, .goto (-27), 3), (34, .iload_n 1, 1), (35, .ireturn, 1)]
theorem dTX2_ghostsAtGoals_0_ok : ∀ (k : Nat) (q : Nat × Instr × Nat), dTX2_ghostsAtGoals_0[k]? = some q → decode cX2_ghostsAtGoals q.1 = .ok q.2 := dT_of (by decide +kernel)
theorem dX2_ghostsAtGoals_0 : decode cX2_ghostsAtGoals 0 = .ok (.iconst 0, 1) := dTX2_ghostsAtGoals_0_ok 0 (0, .iconst 0, 1) rfl
theorem dX2_ghostsAtGoals_1 : decode cX2_ghostsAtGoals 1 = .ok (.istore_n 1, 1) := dTX2_ghostsAtGoals_0_ok 1 (1, .istore_n 1, 1) rfl
theorem dX2_ghostsAtGoals_2 : decode cX2_ghostsAtGoals 2 = .ok (.iconst 0, 1) := dTX2_ghostsAtGoals_0_ok 2 (2, .iconst 0, 1) rfl
theorem dX2_ghostsAtGoals_3 : decode cX2_ghostsAtGoals 3 = .ok (.istore_n 2, 1) := dTX2_ghostsAtGoals_0_ok 3 (3, .istore_n 2, 1) rfl
theorem dX2_ghostsAtGoals_4 : decode cX2_ghostsAtGoals 4 = .ok (.iload_n 2, 1) := dTX2_ghostsAtGoals_0_ok 4 (4, .iload_n 2, 1) rfl
theorem dX2_ghostsAtGoals_5 : decode cX2_ghostsAtGoals 5 = .ok (.aload_n 0, 1) := dTX2_ghostsAtGoals_0_ok 5 (5, .aload_n 0, 1) rfl
theorem dX2_ghostsAtGoals_6 : decode cX2_ghostsAtGoals 6 = .ok (.getfield 41, 3) := dTX2_ghostsAtGoals_0_ok 6 (6, .getfield 41, 3) rfl
theorem dX2_ghostsAtGoals_9 : decode cX2_ghostsAtGoals 9 = .ok (.if_icmp .ge 25, 3) := dTX2_ghostsAtGoals_0_ok 7 (9, .if_icmp .ge 25, 3) rfl
theorem dX2_ghostsAtGoals_12 : decode cX2_ghostsAtGoals 12 = .ok (.aload_n 0, 1) := dTX2_ghostsAtGoals_0_ok 8 (12, .aload_n 0, 1) rfl
theorem dX2_ghostsAtGoals_13 : decode cX2_ghostsAtGoals 13 = .ok (.iload_n 2, 1) := dTX2_ghostsAtGoals_0_ok 9 (13, .iload_n 2, 1) rfl
theorem dX2_ghostsAtGoals_14 : decode cX2_ghostsAtGoals 14 = .ok (.invokevirtual 70, 3) := dTX2_ghostsAtGoals_0_ok 10 (14, .invokevirtual 70, 3) rfl
theorem dX2_ghostsAtGoals_17 : decode cX2_ghostsAtGoals 17 = .ok (.aload_n 0, 1) := dTX2_ghostsAtGoals_0_ok 11 (17, .aload_n 0, 1) rfl
theorem dX2_ghostsAtGoals_18 : decode cX2_ghostsAtGoals 18 = .ok (.iload_n 2, 1) := dTX2_ghostsAtGoals_0_ok 12 (18, .iload_n 2, 1) rfl
theorem dX2_ghostsAtGoals_19 : decode cX2_ghostsAtGoals 19 = .ok (.invokevirtual 73, 3) := dTX2_ghostsAtGoals_0_ok 13 (19, .invokevirtual 73, 3) rfl
theorem dX2_ghostsAtGoals_22 : decode cX2_ghostsAtGoals 22 = .ok (.if_icmp .ne 6, 3) := dTX2_ghostsAtGoals_0_ok 14 (22, .if_icmp .ne 6, 3) rfl
theorem dX2_ghostsAtGoals_25 : decode cX2_ghostsAtGoals 25 = .ok (.iinc 1 1, 3) := dTX2_ghostsAtGoals_0_ok 15 (25, .iinc 1 1, 3) rfl
theorem dX2_ghostsAtGoals_28 : decode cX2_ghostsAtGoals 28 = .ok (.iinc 2 1, 3) := dTX2_ghostsAtGoals_0_ok 16 (28, .iinc 2 1, 3) rfl
theorem dX2_ghostsAtGoals_31 : decode cX2_ghostsAtGoals 31 = .ok (.goto (-27), 3) := dTX2_ghostsAtGoals_0_ok 17 (31, .goto (-27), 3) rfl
theorem dX2_ghostsAtGoals_34 : decode cX2_ghostsAtGoals 34 = .ok (.iload_n 1, 1) := dTX2_ghostsAtGoals_0_ok 18 (34, .iload_n 1, 1) rfl
theorem dX2_ghostsAtGoals_35 : decode cX2_ghostsAtGoals 35 = .ok (.ireturn, 1) := dTX2_ghostsAtGoals_0_ok 19 (35, .ireturn, 1) rfl
noncomputable def dTX2_aboutCell_0 : List (Nat × Instr × Nat) := [(0, .iload_n 2, 1), (1, .tableswitch 83 0 3 #[31, 40, 49, 66], 31), (32, .aload_n 0, 1), (33, .getfield 12, 3), (36, .iload_n 1, 1), (37, .invokevirtual 76, 3), (40, .ireturn, 1), (41, .aload_n 0, 1), (42, .getfield 12, 3), (45, .iload_n 1, 1), (46, .invokevirtual 79, 3), (49, .ireturn, 1), (50, .aload_n 0, 1), (51, .getfield 12, 3), (54, .iload_n 1, 1), (55, .invokevirtual 82, 3), (58, .ifCond .eq 7, 3), (61, .iconst 1, 1), (62, .goto 4, 3), (65, .iconst 0, 1), (66, .ireturn, 1), (67, .aload_n 0, 1), (68, .getfield 12, 3), (71, .iload_n 1, 1), (72, .invokevirtual 86, 3), (75, .ifCond .eq 7, 3), (78, .iconst 1, 1), (79, .goto 4, 3), (82, .iconst 0, 1), (83, .ireturn, 1), (84, .aload_n 0, 1), (85, .iload_n 1, 1), (86, .invokevirtual 89, 3), (89, .ireturn, 1)]
theorem dTX2_aboutCell_0_ok : ∀ (k : Nat) (q : Nat × Instr × Nat), dTX2_aboutCell_0[k]? = some q → decode cX2_aboutCell q.1 = .ok q.2 := dT_of (by decide +kernel)
theorem dX2_aboutCell_0 : decode cX2_aboutCell 0 = .ok (.iload_n 2, 1) := dTX2_aboutCell_0_ok 0 (0, .iload_n 2, 1) rfl
theorem dX2_aboutCell_1 : decode cX2_aboutCell 1 = .ok (.tableswitch 83 0 3 #[31, 40, 49, 66], 31) := dTX2_aboutCell_0_ok 1 (1, .tableswitch 83 0 3 #[31, 40, 49, 66], 31) rfl
theorem dX2_aboutCell_32 : decode cX2_aboutCell 32 = .ok (.aload_n 0, 1) := dTX2_aboutCell_0_ok 2 (32, .aload_n 0, 1) rfl
theorem dX2_aboutCell_33 : decode cX2_aboutCell 33 = .ok (.getfield 12, 3) := dTX2_aboutCell_0_ok 3 (33, .getfield 12, 3) rfl
theorem dX2_aboutCell_36 : decode cX2_aboutCell 36 = .ok (.iload_n 1, 1) := dTX2_aboutCell_0_ok 4 (36, .iload_n 1, 1) rfl
theorem dX2_aboutCell_37 : decode cX2_aboutCell 37 = .ok (.invokevirtual 76, 3) := dTX2_aboutCell_0_ok 5 (37, .invokevirtual 76, 3) rfl
theorem dX2_aboutCell_40 : decode cX2_aboutCell 40 = .ok (.ireturn, 1) := dTX2_aboutCell_0_ok 6 (40, .ireturn, 1) rfl
theorem dX2_aboutCell_41 : decode cX2_aboutCell 41 = .ok (.aload_n 0, 1) := dTX2_aboutCell_0_ok 7 (41, .aload_n 0, 1) rfl
theorem dX2_aboutCell_42 : decode cX2_aboutCell 42 = .ok (.getfield 12, 3) := dTX2_aboutCell_0_ok 8 (42, .getfield 12, 3) rfl
theorem dX2_aboutCell_45 : decode cX2_aboutCell 45 = .ok (.iload_n 1, 1) := dTX2_aboutCell_0_ok 9 (45, .iload_n 1, 1) rfl
theorem dX2_aboutCell_46 : decode cX2_aboutCell 46 = .ok (.invokevirtual 79, 3) := dTX2_aboutCell_0_ok 10 (46, .invokevirtual 79, 3) rfl
theorem dX2_aboutCell_49 : decode cX2_aboutCell 49 = .ok (.ireturn, 1) := dTX2_aboutCell_0_ok 11 (49, .ireturn, 1) rfl
theorem dX2_aboutCell_50 : decode cX2_aboutCell 50 = .ok (.aload_n 0, 1) := dTX2_aboutCell_0_ok 12 (50, .aload_n 0, 1) rfl
theorem dX2_aboutCell_51 : decode cX2_aboutCell 51 = .ok (.getfield 12, 3) := dTX2_aboutCell_0_ok 13 (51, .getfield 12, 3) rfl
theorem dX2_aboutCell_54 : decode cX2_aboutCell 54 = .ok (.iload_n 1, 1) := dTX2_aboutCell_0_ok 14 (54, .iload_n 1, 1) rfl
theorem dX2_aboutCell_55 : decode cX2_aboutCell 55 = .ok (.invokevirtual 82, 3) := dTX2_aboutCell_0_ok 15 (55, .invokevirtual 82, 3) rfl
theorem dX2_aboutCell_58 : decode cX2_aboutCell 58 = .ok (.ifCond .eq 7, 3) := dTX2_aboutCell_0_ok 16 (58, .ifCond .eq 7, 3) rfl
theorem dX2_aboutCell_61 : decode cX2_aboutCell 61 = .ok (.iconst 1, 1) := dTX2_aboutCell_0_ok 17 (61, .iconst 1, 1) rfl
theorem dX2_aboutCell_62 : decode cX2_aboutCell 62 = .ok (.goto 4, 3) := dTX2_aboutCell_0_ok 18 (62, .goto 4, 3) rfl
theorem dX2_aboutCell_65 : decode cX2_aboutCell 65 = .ok (.iconst 0, 1) := dTX2_aboutCell_0_ok 19 (65, .iconst 0, 1) rfl
theorem dX2_aboutCell_66 : decode cX2_aboutCell 66 = .ok (.ireturn, 1) := dTX2_aboutCell_0_ok 20 (66, .ireturn, 1) rfl
theorem dX2_aboutCell_67 : decode cX2_aboutCell 67 = .ok (.aload_n 0, 1) := dTX2_aboutCell_0_ok 21 (67, .aload_n 0, 1) rfl
theorem dX2_aboutCell_68 : decode cX2_aboutCell 68 = .ok (.getfield 12, 3) := dTX2_aboutCell_0_ok 22 (68, .getfield 12, 3) rfl
theorem dX2_aboutCell_71 : decode cX2_aboutCell 71 = .ok (.iload_n 1, 1) := dTX2_aboutCell_0_ok 23 (71, .iload_n 1, 1) rfl
theorem dX2_aboutCell_72 : decode cX2_aboutCell 72 = .ok (.invokevirtual 86, 3) := dTX2_aboutCell_0_ok 24 (72, .invokevirtual 86, 3) rfl
theorem dX2_aboutCell_75 : decode cX2_aboutCell 75 = .ok (.ifCond .eq 7, 3) := dTX2_aboutCell_0_ok 25 (75, .ifCond .eq 7, 3) rfl
theorem dX2_aboutCell_78 : decode cX2_aboutCell 78 = .ok (.iconst 1, 1) := dTX2_aboutCell_0_ok 26 (78, .iconst 1, 1) rfl
theorem dX2_aboutCell_79 : decode cX2_aboutCell 79 = .ok (.goto 4, 3) := dTX2_aboutCell_0_ok 27 (79, .goto 4, 3) rfl
theorem dX2_aboutCell_82 : decode cX2_aboutCell 82 = .ok (.iconst 0, 1) := dTX2_aboutCell_0_ok 28 (82, .iconst 0, 1) rfl
theorem dX2_aboutCell_83 : decode cX2_aboutCell 83 = .ok (.ireturn, 1) := dTX2_aboutCell_0_ok 29 (83, .ireturn, 1) rfl
theorem dX2_aboutCell_84 : decode cX2_aboutCell 84 = .ok (.aload_n 0, 1) := dTX2_aboutCell_0_ok 30 (84, .aload_n 0, 1) rfl
theorem dX2_aboutCell_85 : decode cX2_aboutCell 85 = .ok (.iload_n 1, 1) := dTX2_aboutCell_0_ok 31 (85, .iload_n 1, 1) rfl
theorem dX2_aboutCell_86 : decode cX2_aboutCell 86 = .ok (.invokevirtual 89, 3) := dTX2_aboutCell_0_ok 32 (86, .invokevirtual 89, 3) rfl
theorem dX2_aboutCell_89 : decode cX2_aboutCell 89 = .ok (.ireturn, 1) := dTX2_aboutCell_0_ok 33 (89, .ireturn, 1) rfl
noncomputable def dTX2_aboutAll_0 : List (Nat × Instr × Nat) := [(0, .iload_n 1, 1), (1, .tableswitch 116 0 8 #[51, 56, 61, 69, 77, 85, 93, 101, 109], 51), (52, .aload_n 0, 1), (53, .getfield 45, 3), (56, .ireturn, 1), (57, .aload_n 0, 1), (58, .getfield 41, 3), (61, .ireturn, 1), (62, .aload_n 0, 1), (63, .getfield 12, 3), (66, .invokevirtual 92, 3), (69, .ireturn, 1), (70, .aload_n 0, 1), (71, .getfield 12, 3), (74, .invokevirtual 96, 3), (77, .ireturn, 1), (78, .aload_n 0, 1), (79, .getfield 12, 3), (82, .invokevirtual 99, 3), (85, .ireturn, 1), (86, .aload_n 0, 1), (87, .getfield 12, 3), (90, .invokevirtual 102, 3), (93, .ireturn, 1), (94, .aload_n 0, 1), (95, .getfield 12, 3), (98, .invokevirtual 105, 3), (101, .ireturn, 1), (102, .aload_n 0, 1), (103, .getfield 12, 3), (106, .invokevirtual 108, 3), (109, .ireturn, 1), (110, .aload_n 0, 1), (111, .bipush 6, 2), (113, .invokevirtual 111, 3), (116, .ireturn, 1), (117, .aload_n 0, 1), (118, .getfield 12, 3), (121, .invokevirtual 114, 3), (124, .ireturn, 1)]
theorem dTX2_aboutAll_0_ok : ∀ (k : Nat) (q : Nat × Instr × Nat), dTX2_aboutAll_0[k]? = some q → decode cX2_aboutAll q.1 = .ok q.2 := dT_of (by decide +kernel)
theorem dX2_aboutAll_0 : decode cX2_aboutAll 0 = .ok (.iload_n 1, 1) := dTX2_aboutAll_0_ok 0 (0, .iload_n 1, 1) rfl
theorem dX2_aboutAll_1 : decode cX2_aboutAll 1 = .ok (.tableswitch 116 0 8 #[51, 56, 61, 69, 77, 85, 93, 101, 109], 51) := dTX2_aboutAll_0_ok 1 (1, .tableswitch 116 0 8 #[51, 56, 61, 69, 77, 85, 93, 101, 109], 51) rfl
theorem dX2_aboutAll_52 : decode cX2_aboutAll 52 = .ok (.aload_n 0, 1) := dTX2_aboutAll_0_ok 2 (52, .aload_n 0, 1) rfl
theorem dX2_aboutAll_53 : decode cX2_aboutAll 53 = .ok (.getfield 45, 3) := dTX2_aboutAll_0_ok 3 (53, .getfield 45, 3) rfl
theorem dX2_aboutAll_56 : decode cX2_aboutAll 56 = .ok (.ireturn, 1) := dTX2_aboutAll_0_ok 4 (56, .ireturn, 1) rfl
theorem dX2_aboutAll_57 : decode cX2_aboutAll 57 = .ok (.aload_n 0, 1) := dTX2_aboutAll_0_ok 5 (57, .aload_n 0, 1) rfl
theorem dX2_aboutAll_58 : decode cX2_aboutAll 58 = .ok (.getfield 41, 3) := dTX2_aboutAll_0_ok 6 (58, .getfield 41, 3) rfl
theorem dX2_aboutAll_61 : decode cX2_aboutAll 61 = .ok (.ireturn, 1) := dTX2_aboutAll_0_ok 7 (61, .ireturn, 1) rfl
theorem dX2_aboutAll_62 : decode cX2_aboutAll 62 = .ok (.aload_n 0, 1) := dTX2_aboutAll_0_ok 8 (62, .aload_n 0, 1) rfl
theorem dX2_aboutAll_63 : decode cX2_aboutAll 63 = .ok (.getfield 12, 3) := dTX2_aboutAll_0_ok 9 (63, .getfield 12, 3) rfl
theorem dX2_aboutAll_66 : decode cX2_aboutAll 66 = .ok (.invokevirtual 92, 3) := dTX2_aboutAll_0_ok 10 (66, .invokevirtual 92, 3) rfl
theorem dX2_aboutAll_69 : decode cX2_aboutAll 69 = .ok (.ireturn, 1) := dTX2_aboutAll_0_ok 11 (69, .ireturn, 1) rfl
theorem dX2_aboutAll_70 : decode cX2_aboutAll 70 = .ok (.aload_n 0, 1) := dTX2_aboutAll_0_ok 12 (70, .aload_n 0, 1) rfl
theorem dX2_aboutAll_71 : decode cX2_aboutAll 71 = .ok (.getfield 12, 3) := dTX2_aboutAll_0_ok 13 (71, .getfield 12, 3) rfl
theorem dX2_aboutAll_74 : decode cX2_aboutAll 74 = .ok (.invokevirtual 96, 3) := dTX2_aboutAll_0_ok 14 (74, .invokevirtual 96, 3) rfl
theorem dX2_aboutAll_77 : decode cX2_aboutAll 77 = .ok (.ireturn, 1) := dTX2_aboutAll_0_ok 15 (77, .ireturn, 1) rfl
theorem dX2_aboutAll_78 : decode cX2_aboutAll 78 = .ok (.aload_n 0, 1) := dTX2_aboutAll_0_ok 16 (78, .aload_n 0, 1) rfl
theorem dX2_aboutAll_79 : decode cX2_aboutAll 79 = .ok (.getfield 12, 3) := dTX2_aboutAll_0_ok 17 (79, .getfield 12, 3) rfl
theorem dX2_aboutAll_82 : decode cX2_aboutAll 82 = .ok (.invokevirtual 99, 3) := dTX2_aboutAll_0_ok 18 (82, .invokevirtual 99, 3) rfl
theorem dX2_aboutAll_85 : decode cX2_aboutAll 85 = .ok (.ireturn, 1) := dTX2_aboutAll_0_ok 19 (85, .ireturn, 1) rfl
theorem dX2_aboutAll_86 : decode cX2_aboutAll 86 = .ok (.aload_n 0, 1) := dTX2_aboutAll_0_ok 20 (86, .aload_n 0, 1) rfl
theorem dX2_aboutAll_87 : decode cX2_aboutAll 87 = .ok (.getfield 12, 3) := dTX2_aboutAll_0_ok 21 (87, .getfield 12, 3) rfl
theorem dX2_aboutAll_90 : decode cX2_aboutAll 90 = .ok (.invokevirtual 102, 3) := dTX2_aboutAll_0_ok 22 (90, .invokevirtual 102, 3) rfl
theorem dX2_aboutAll_93 : decode cX2_aboutAll 93 = .ok (.ireturn, 1) := dTX2_aboutAll_0_ok 23 (93, .ireturn, 1) rfl
theorem dX2_aboutAll_94 : decode cX2_aboutAll 94 = .ok (.aload_n 0, 1) := dTX2_aboutAll_0_ok 24 (94, .aload_n 0, 1) rfl
theorem dX2_aboutAll_95 : decode cX2_aboutAll 95 = .ok (.getfield 12, 3) := dTX2_aboutAll_0_ok 25 (95, .getfield 12, 3) rfl
theorem dX2_aboutAll_98 : decode cX2_aboutAll 98 = .ok (.invokevirtual 105, 3) := dTX2_aboutAll_0_ok 26 (98, .invokevirtual 105, 3) rfl
theorem dX2_aboutAll_101 : decode cX2_aboutAll 101 = .ok (.ireturn, 1) := dTX2_aboutAll_0_ok 27 (101, .ireturn, 1) rfl
theorem dX2_aboutAll_102 : decode cX2_aboutAll 102 = .ok (.aload_n 0, 1) := dTX2_aboutAll_0_ok 28 (102, .aload_n 0, 1) rfl
theorem dX2_aboutAll_103 : decode cX2_aboutAll 103 = .ok (.getfield 12, 3) := dTX2_aboutAll_0_ok 29 (103, .getfield 12, 3) rfl
theorem dX2_aboutAll_106 : decode cX2_aboutAll 106 = .ok (.invokevirtual 108, 3) := dTX2_aboutAll_0_ok 30 (106, .invokevirtual 108, 3) rfl
theorem dX2_aboutAll_109 : decode cX2_aboutAll 109 = .ok (.ireturn, 1) := dTX2_aboutAll_0_ok 31 (109, .ireturn, 1) rfl
theorem dX2_aboutAll_110 : decode cX2_aboutAll 110 = .ok (.aload_n 0, 1) := dTX2_aboutAll_0_ok 32 (110, .aload_n 0, 1) rfl
theorem dX2_aboutAll_111 : decode cX2_aboutAll 111 = .ok (.bipush 6, 2) := dTX2_aboutAll_0_ok 33 (111, .bipush 6, 2) rfl
theorem dX2_aboutAll_113 : decode cX2_aboutAll 113 = .ok (.invokevirtual 111, 3) := dTX2_aboutAll_0_ok 34 (113, .invokevirtual 111, 3) rfl
theorem dX2_aboutAll_116 : decode cX2_aboutAll 116 = .ok (.ireturn, 1) := dTX2_aboutAll_0_ok 35 (116, .ireturn, 1) rfl
theorem dX2_aboutAll_117 : decode cX2_aboutAll 117 = .ok (.aload_n 0, 1) := dTX2_aboutAll_0_ok 36 (117, .aload_n 0, 1) rfl
theorem dX2_aboutAll_118 : decode cX2_aboutAll 118 = .ok (.getfield 12, 3) := dTX2_aboutAll_0_ok 37 (118, .getfield 12, 3) rfl
theorem dX2_aboutAll_121 : decode cX2_aboutAll 121 = .ok (.invokevirtual 114, 3) := dTX2_aboutAll_0_ok 38 (121, .invokevirtual 114, 3) rfl
theorem dX2_aboutAll_124 : decode cX2_aboutAll 124 = .ok (.ireturn, 1) := dTX2_aboutAll_0_ok 39 (124, .ireturn, 1) rfl
noncomputable def dTX2_stepsTo_0 : List (Nat × Instr × Nat) := [(0, .aload_n 0, 1), (1, .getfield 21, 3), (4, .aload_n 0, 1), (5, .getfield 12, 3), (8, .aload_n 0, 1), (9, .iload_n 1, 1), (10, .invokevirtual 70, 3), (13, .iload_n 2, 1), (14, .aload_n 0, 1), (15, .iload_n 1, 1), (16, .invokevirtual 117, 3), (19, .invokevirtual 120, 3), (22, .ireturn, 1)]
theorem dTX2_stepsTo_0_ok : ∀ (k : Nat) (q : Nat × Instr × Nat), dTX2_stepsTo_0[k]? = some q → decode cX2_stepsTo q.1 = .ok q.2 := dT_of (by decide +kernel)
theorem dX2_stepsTo_0 : decode cX2_stepsTo 0 = .ok (.aload_n 0, 1) := dTX2_stepsTo_0_ok 0 (0, .aload_n 0, 1) rfl
theorem dX2_stepsTo_1 : decode cX2_stepsTo 1 = .ok (.getfield 21, 3) := dTX2_stepsTo_0_ok 1 (1, .getfield 21, 3) rfl
theorem dX2_stepsTo_4 : decode cX2_stepsTo 4 = .ok (.aload_n 0, 1) := dTX2_stepsTo_0_ok 2 (4, .aload_n 0, 1) rfl
theorem dX2_stepsTo_5 : decode cX2_stepsTo 5 = .ok (.getfield 12, 3) := dTX2_stepsTo_0_ok 3 (5, .getfield 12, 3) rfl
theorem dX2_stepsTo_8 : decode cX2_stepsTo 8 = .ok (.aload_n 0, 1) := dTX2_stepsTo_0_ok 4 (8, .aload_n 0, 1) rfl
theorem dX2_stepsTo_9 : decode cX2_stepsTo 9 = .ok (.iload_n 1, 1) := dTX2_stepsTo_0_ok 5 (9, .iload_n 1, 1) rfl
theorem dX2_stepsTo_10 : decode cX2_stepsTo 10 = .ok (.invokevirtual 70, 3) := dTX2_stepsTo_0_ok 6 (10, .invokevirtual 70, 3) rfl
theorem dX2_stepsTo_13 : decode cX2_stepsTo 13 = .ok (.iload_n 2, 1) := dTX2_stepsTo_0_ok 7 (13, .iload_n 2, 1) rfl
theorem dX2_stepsTo_14 : decode cX2_stepsTo 14 = .ok (.aload_n 0, 1) := dTX2_stepsTo_0_ok 8 (14, .aload_n 0, 1) rfl
theorem dX2_stepsTo_15 : decode cX2_stepsTo 15 = .ok (.iload_n 1, 1) := dTX2_stepsTo_0_ok 9 (15, .iload_n 1, 1) rfl
theorem dX2_stepsTo_16 : decode cX2_stepsTo 16 = .ok (.invokevirtual 117, 3) := dTX2_stepsTo_0_ok 10 (16, .invokevirtual 117, 3) rfl
theorem dX2_stepsTo_19 : decode cX2_stepsTo 19 = .ok (.invokevirtual 120, 3) := dTX2_stepsTo_0_ok 11 (19, .invokevirtual 120, 3) rfl
theorem dX2_stepsTo_22 : decode cX2_stepsTo 22 = .ok (.ireturn, 1) := dTX2_stepsTo_0_ok 12 (22, .ireturn, 1) rfl
noncomputable def dTX2_nextDirection_0 : List (Nat × Instr × Nat) := [(0, .aload_n 0, 1), (1, .getfield 21, 3), (4, .aload_n 0, 1), (5, .getfield 12, 3), (8, .aload_n 0, 1), (9, .iload_n 1, 1), (10, .invokevirtual 70, 3), (13, .aload_n 0, 1), (14, .iload_n 1, 1), (15, .invokevirtual 73, 3), (18, .aload_n 0, 1), (19, .iload_n 1, 1), (20, .invokevirtual 117, 3), (23, .invokevirtual 120, 3), (26, .istore_n 2, 1), (27, .iload_n 2, 1), (28, .ifCond .le 17, 3), (31, .aload_n 0, 1), (32, .getfield 21, 3), (35, .aload_n 0, 1), (36, .getfield 12, 3), (39, .invokevirtual 124, 3), (42, .goto 4, 3), (45, .iconst (-1), 1), (46, .ireturn, 1)]
theorem dTX2_nextDirection_0_ok : ∀ (k : Nat) (q : Nat × Instr × Nat), dTX2_nextDirection_0[k]? = some q → decode cX2_nextDirection q.1 = .ok q.2 := dT_of (by decide +kernel)
theorem dX2_nextDirection_0 : decode cX2_nextDirection 0 = .ok (.aload_n 0, 1) := dTX2_nextDirection_0_ok 0 (0, .aload_n 0, 1) rfl
theorem dX2_nextDirection_1 : decode cX2_nextDirection 1 = .ok (.getfield 21, 3) := dTX2_nextDirection_0_ok 1 (1, .getfield 21, 3) rfl
theorem dX2_nextDirection_4 : decode cX2_nextDirection 4 = .ok (.aload_n 0, 1) := dTX2_nextDirection_0_ok 2 (4, .aload_n 0, 1) rfl
theorem dX2_nextDirection_5 : decode cX2_nextDirection 5 = .ok (.getfield 12, 3) := dTX2_nextDirection_0_ok 3 (5, .getfield 12, 3) rfl
theorem dX2_nextDirection_8 : decode cX2_nextDirection 8 = .ok (.aload_n 0, 1) := dTX2_nextDirection_0_ok 4 (8, .aload_n 0, 1) rfl
theorem dX2_nextDirection_9 : decode cX2_nextDirection 9 = .ok (.iload_n 1, 1) := dTX2_nextDirection_0_ok 5 (9, .iload_n 1, 1) rfl
theorem dX2_nextDirection_10 : decode cX2_nextDirection 10 = .ok (.invokevirtual 70, 3) := dTX2_nextDirection_0_ok 6 (10, .invokevirtual 70, 3) rfl
theorem dX2_nextDirection_13 : decode cX2_nextDirection 13 = .ok (.aload_n 0, 1) := dTX2_nextDirection_0_ok 7 (13, .aload_n 0, 1) rfl
theorem dX2_nextDirection_14 : decode cX2_nextDirection 14 = .ok (.iload_n 1, 1) := dTX2_nextDirection_0_ok 8 (14, .iload_n 1, 1) rfl
theorem dX2_nextDirection_15 : decode cX2_nextDirection 15 = .ok (.invokevirtual 73, 3) := dTX2_nextDirection_0_ok 9 (15, .invokevirtual 73, 3) rfl
theorem dX2_nextDirection_18 : decode cX2_nextDirection 18 = .ok (.aload_n 0, 1) := dTX2_nextDirection_0_ok 10 (18, .aload_n 0, 1) rfl
theorem dX2_nextDirection_19 : decode cX2_nextDirection 19 = .ok (.iload_n 1, 1) := dTX2_nextDirection_0_ok 11 (19, .iload_n 1, 1) rfl
theorem dX2_nextDirection_20 : decode cX2_nextDirection 20 = .ok (.invokevirtual 117, 3) := dTX2_nextDirection_0_ok 12 (20, .invokevirtual 117, 3) rfl
theorem dX2_nextDirection_23 : decode cX2_nextDirection 23 = .ok (.invokevirtual 120, 3) := dTX2_nextDirection_0_ok 13 (23, .invokevirtual 120, 3) rfl
theorem dX2_nextDirection_26 : decode cX2_nextDirection 26 = .ok (.istore_n 2, 1) := dTX2_nextDirection_0_ok 14 (26, .istore_n 2, 1) rfl
theorem dX2_nextDirection_27 : decode cX2_nextDirection 27 = .ok (.iload_n 2, 1) := dTX2_nextDirection_0_ok 15 (27, .iload_n 2, 1) rfl
theorem dX2_nextDirection_28 : decode cX2_nextDirection 28 = .ok (.ifCond .le 17, 3) := dTX2_nextDirection_0_ok 16 (28, .ifCond .le 17, 3) rfl
theorem dX2_nextDirection_31 : decode cX2_nextDirection 31 = .ok (.aload_n 0, 1) := dTX2_nextDirection_0_ok 17 (31, .aload_n 0, 1) rfl
theorem dX2_nextDirection_32 : decode cX2_nextDirection 32 = .ok (.getfield 21, 3) := dTX2_nextDirection_0_ok 18 (32, .getfield 21, 3) rfl
theorem dX2_nextDirection_35 : decode cX2_nextDirection 35 = .ok (.aload_n 0, 1) := dTX2_nextDirection_0_ok 19 (35, .aload_n 0, 1) rfl
theorem dX2_nextDirection_36 : decode cX2_nextDirection 36 = .ok (.getfield 12, 3) := dTX2_nextDirection_0_ok 20 (36, .getfield 12, 3) rfl
theorem dX2_nextDirection_39 : decode cX2_nextDirection 39 = .ok (.invokevirtual 124, 3) := dTX2_nextDirection_0_ok 21 (39, .invokevirtual 124, 3) rfl
theorem dX2_nextDirection_42 : decode cX2_nextDirection 42 = .ok (.goto 4, 3) := dTX2_nextDirection_0_ok 22 (42, .goto 4, 3) rfl
theorem dX2_nextDirection_45 : decode cX2_nextDirection 45 = .ok (.iconst (-1), 1) := dTX2_nextDirection_0_ok 23 (45, .iconst (-1), 1) rfl
theorem dX2_nextDirection_46 : decode cX2_nextDirection 46 = .ok (.ireturn, 1) := dTX2_nextDirection_0_ok 24 (46, .ireturn, 1) rfl
noncomputable def dTX2_passHour_0 : List (Nat × Instr × Nat) := [(0, .aload_n 0, 1), (1, .getfield 12, 3), (4, .invokevirtual 128, 3), (7, .iconst 0, 1), (8, .istore_n 1, 1), (9, .iload_n 1, 1), (10, .aload_n 0, 1), (11, .getfield 41, 3), (14, .if_icmp .ge 34, 3), (17, .aload_n 0, 1), (18, .iload_n 1, 1), (19, .iconst 2, 1), (20, .invokevirtual 56, 3), (23, .istore_n 2, 1), (24, .iconst 0, 1), (25, .istore_n 3, 1), (26, .iload_n 3, 1), (27, .iload_n 2, 1), (28, .if_icmp .ge 14, 3), (31, .aload_n 0, 1), (32, .iload_n 1, 1), (33, .invokevirtual 131, 3), (36, .iinc 3 1, 3), (39, .goto (-13), 3), (42, .iinc 1 1, 3), (45, .goto (-36), 3), (48, .iconst 0, 1), (49, .istore_n 1, 1), (50, .iconst 0, 1), (51, .istore_n 2, 1), (52, .iload_n 2, 1), (53, .aload_n 0, 1), (54, .getfield 41, 3), (57, .if_icmp .ge 20, 3), (60, .aload_n 0, 1), (61, .iload_n 2, 1), (62, .invokevirtual 134, 3), (65, .ifCond .eq 6, 3), (68, .iinc 1 1, 3), (71, .iinc 2 1, 3), (74, .goto (-22), 3), (77, .aload_n 0, 1), (78, .dup, 1), (79, .getfield 45, 3), (82, .iconst 1, 1), (83, .iadd, 1), (84, .putfield 45, 3), (87, .iload_n 1, 1), (88, .ireturn, 1)]
theorem dTX2_passHour_0_ok : ∀ (k : Nat) (q : Nat × Instr × Nat), dTX2_passHour_0[k]? = some q → decode cX2_passHour q.1 = .ok q.2 := dT_of (by decide +kernel)
theorem dX2_passHour_0 : decode cX2_passHour 0 = .ok (.aload_n 0, 1) := dTX2_passHour_0_ok 0 (0, .aload_n 0, 1) rfl
theorem dX2_passHour_1 : decode cX2_passHour 1 = .ok (.getfield 12, 3) := dTX2_passHour_0_ok 1 (1, .getfield 12, 3) rfl
theorem dX2_passHour_4 : decode cX2_passHour 4 = .ok (.invokevirtual 128, 3) := dTX2_passHour_0_ok 2 (4, .invokevirtual 128, 3) rfl
theorem dX2_passHour_7 : decode cX2_passHour 7 = .ok (.iconst 0, 1) := dTX2_passHour_0_ok 3 (7, .iconst 0, 1) rfl
theorem dX2_passHour_8 : decode cX2_passHour 8 = .ok (.istore_n 1, 1) := dTX2_passHour_0_ok 4 (8, .istore_n 1, 1) rfl
theorem dX2_passHour_9 : decode cX2_passHour 9 = .ok (.iload_n 1, 1) := dTX2_passHour_0_ok 5 (9, .iload_n 1, 1) rfl
theorem dX2_passHour_10 : decode cX2_passHour 10 = .ok (.aload_n 0, 1) := dTX2_passHour_0_ok 6 (10, .aload_n 0, 1) rfl
theorem dX2_passHour_11 : decode cX2_passHour 11 = .ok (.getfield 41, 3) := dTX2_passHour_0_ok 7 (11, .getfield 41, 3) rfl
theorem dX2_passHour_14 : decode cX2_passHour 14 = .ok (.if_icmp .ge 34, 3) := dTX2_passHour_0_ok 8 (14, .if_icmp .ge 34, 3) rfl
theorem dX2_passHour_17 : decode cX2_passHour 17 = .ok (.aload_n 0, 1) := dTX2_passHour_0_ok 9 (17, .aload_n 0, 1) rfl
theorem dX2_passHour_18 : decode cX2_passHour 18 = .ok (.iload_n 1, 1) := dTX2_passHour_0_ok 10 (18, .iload_n 1, 1) rfl
theorem dX2_passHour_19 : decode cX2_passHour 19 = .ok (.iconst 2, 1) := dTX2_passHour_0_ok 11 (19, .iconst 2, 1) rfl
theorem dX2_passHour_20 : decode cX2_passHour 20 = .ok (.invokevirtual 56, 3) := dTX2_passHour_0_ok 12 (20, .invokevirtual 56, 3) rfl
theorem dX2_passHour_23 : decode cX2_passHour 23 = .ok (.istore_n 2, 1) := dTX2_passHour_0_ok 13 (23, .istore_n 2, 1) rfl
theorem dX2_passHour_24 : decode cX2_passHour 24 = .ok (.iconst 0, 1) := dTX2_passHour_0_ok 14 (24, .iconst 0, 1) rfl
theorem dX2_passHour_25 : decode cX2_passHour 25 = .ok (.istore_n 3, 1) := dTX2_passHour_0_ok 15 (25, .istore_n 3, 1) rfl
theorem dX2_passHour_26 : decode cX2_passHour 26 = .ok (.iload_n 3, 1) := dTX2_passHour_0_ok 16 (26, .iload_n 3, 1) rfl
theorem dX2_passHour_27 : decode cX2_passHour 27 = .ok (.iload_n 2, 1) := dTX2_passHour_0_ok 17 (27, .iload_n 2, 1) rfl
theorem dX2_passHour_28 : decode cX2_passHour 28 = .ok (.if_icmp .ge 14, 3) := dTX2_passHour_0_ok 18 (28, .if_icmp .ge 14, 3) rfl
theorem dX2_passHour_31 : decode cX2_passHour 31 = .ok (.aload_n 0, 1) := dTX2_passHour_0_ok 19 (31, .aload_n 0, 1) rfl
theorem dX2_passHour_32 : decode cX2_passHour 32 = .ok (.iload_n 1, 1) := dTX2_passHour_0_ok 20 (32, .iload_n 1, 1) rfl
theorem dX2_passHour_33 : decode cX2_passHour 33 = .ok (.invokevirtual 131, 3) := dTX2_passHour_0_ok 21 (33, .invokevirtual 131, 3) rfl
theorem dX2_passHour_36 : decode cX2_passHour 36 = .ok (.iinc 3 1, 3) := dTX2_passHour_0_ok 22 (36, .iinc 3 1, 3) rfl
theorem dX2_passHour_39 : decode cX2_passHour 39 = .ok (.goto (-13), 3) := dTX2_passHour_0_ok 23 (39, .goto (-13), 3) rfl
theorem dX2_passHour_42 : decode cX2_passHour 42 = .ok (.iinc 1 1, 3) := dTX2_passHour_0_ok 24 (42, .iinc 1 1, 3) rfl
theorem dX2_passHour_45 : decode cX2_passHour 45 = .ok (.goto (-36), 3) := dTX2_passHour_0_ok 25 (45, .goto (-36), 3) rfl
theorem dX2_passHour_48 : decode cX2_passHour 48 = .ok (.iconst 0, 1) := dTX2_passHour_0_ok 26 (48, .iconst 0, 1) rfl
theorem dX2_passHour_49 : decode cX2_passHour 49 = .ok (.istore_n 1, 1) := dTX2_passHour_0_ok 27 (49, .istore_n 1, 1) rfl
theorem dX2_passHour_50 : decode cX2_passHour 50 = .ok (.iconst 0, 1) := dTX2_passHour_0_ok 28 (50, .iconst 0, 1) rfl
theorem dX2_passHour_51 : decode cX2_passHour 51 = .ok (.istore_n 2, 1) := dTX2_passHour_0_ok 29 (51, .istore_n 2, 1) rfl
theorem dX2_passHour_52 : decode cX2_passHour 52 = .ok (.iload_n 2, 1) := dTX2_passHour_0_ok 30 (52, .iload_n 2, 1) rfl
theorem dX2_passHour_53 : decode cX2_passHour 53 = .ok (.aload_n 0, 1) := dTX2_passHour_0_ok 31 (53, .aload_n 0, 1) rfl
theorem dX2_passHour_54 : decode cX2_passHour 54 = .ok (.getfield 41, 3) := dTX2_passHour_0_ok 32 (54, .getfield 41, 3) rfl
theorem dX2_passHour_57 : decode cX2_passHour 57 = .ok (.if_icmp .ge 20, 3) := dTX2_passHour_0_ok 33 (57, .if_icmp .ge 20, 3) rfl
theorem dX2_passHour_60 : decode cX2_passHour 60 = .ok (.aload_n 0, 1) := dTX2_passHour_0_ok 34 (60, .aload_n 0, 1) rfl
theorem dX2_passHour_61 : decode cX2_passHour 61 = .ok (.iload_n 2, 1) := dTX2_passHour_0_ok 35 (61, .iload_n 2, 1) rfl
theorem dX2_passHour_62 : decode cX2_passHour 62 = .ok (.invokevirtual 134, 3) := dTX2_passHour_0_ok 36 (62, .invokevirtual 134, 3) rfl
theorem dX2_passHour_65 : decode cX2_passHour 65 = .ok (.ifCond .eq 6, 3) := dTX2_passHour_0_ok 37 (65, .ifCond .eq 6, 3) rfl
theorem dX2_passHour_68 : decode cX2_passHour 68 = .ok (.iinc 1 1, 3) := dTX2_passHour_0_ok 38 (68, .iinc 1 1, 3) rfl
theorem dX2_passHour_71 : decode cX2_passHour 71 = .ok (.iinc 2 1, 3) := dTX2_passHour_0_ok 39 (71, .iinc 2 1, 3) rfl
theorem dX2_passHour_74 : decode cX2_passHour 74 = .ok (.goto (-22), 3) := dTX2_passHour_0_ok 40 (74, .goto (-22), 3) rfl
theorem dX2_passHour_77 : decode cX2_passHour 77 = .ok (.aload_n 0, 1) := dTX2_passHour_0_ok 41 (77, .aload_n 0, 1) rfl
theorem dX2_passHour_78 : decode cX2_passHour 78 = .ok (.dup, 1) := dTX2_passHour_0_ok 42 (78, .dup, 1) rfl
theorem dX2_passHour_79 : decode cX2_passHour 79 = .ok (.getfield 45, 3) := dTX2_passHour_0_ok 43 (79, .getfield 45, 3) rfl
theorem dX2_passHour_82 : decode cX2_passHour 82 = .ok (.iconst 1, 1) := dTX2_passHour_0_ok 44 (82, .iconst 1, 1) rfl
theorem dX2_passHour_83 : decode cX2_passHour 83 = .ok (.iadd, 1) := dTX2_passHour_0_ok 45 (83, .iadd, 1) rfl
theorem dX2_passHour_84 : decode cX2_passHour 84 = .ok (.putfield 45, 3) := dTX2_passHour_0_ok 46 (84, .putfield 45, 3) rfl
theorem dX2_passHour_87 : decode cX2_passHour 87 = .ok (.iload_n 1, 1) := dTX2_passHour_0_ok 47 (87, .iload_n 1, 1) rfl
theorem dX2_passHour_88 : decode cX2_passHour 88 = .ok (.ireturn, 1) := dTX2_passHour_0_ok 48 (88, .ireturn, 1) rfl
noncomputable def dTX2_takeStep_0 : List (Nat × Instr × Nat) := [(0, .aload_n 0, 1), (1, .iload_n 1, 1), (2, .invokevirtual 137, 3), (5, .istore_n 2, 1), (6, .iload_n 2, 1), (7, .iconst (-1), 1), (8, .if_icmp .ne 4, 3), (11, .return_, 1), (12, .aload_n 0, 1), (13, .iload_n 1, 1), (14, .invokevirtual 70, 3), (17, .istore_n 3, 1), (18, .iload_n 3, 1), (19, .iload_n 2, 1), (20, .invokestatic 140, 3), (23, .istore 4, 2), (25, .aload_n 0, 1), (26, .iload_n 1, 1), (27, .iload 4, 2), (29, .invokevirtual 64, 3), (32, .aload_n 0, 1), (33, .getfield 12, 3), (36, .iload_n 3, 1), (37, .iload_n 2, 1), (38, .invokevirtual 145, 3), (41, .ifCond .eq 19, 3), (44, .aload_n 0, 1), (45, .iload_n 1, 1), (46, .iconst 5, 1), (47, .iconst 0, 1), (48, .invokevirtual 60, 3), (51, .aload_n 0, 1), (52, .getfield 12, 3), (55, .iload 4, 2), (57, .invokevirtual 149, 3), (60, .return_, 1)]
theorem dTX2_takeStep_0_ok : ∀ (k : Nat) (q : Nat × Instr × Nat), dTX2_takeStep_0[k]? = some q → decode cX2_takeStep q.1 = .ok q.2 := dT_of (by decide +kernel)
theorem dX2_takeStep_0 : decode cX2_takeStep 0 = .ok (.aload_n 0, 1) := dTX2_takeStep_0_ok 0 (0, .aload_n 0, 1) rfl
theorem dX2_takeStep_1 : decode cX2_takeStep 1 = .ok (.iload_n 1, 1) := dTX2_takeStep_0_ok 1 (1, .iload_n 1, 1) rfl
theorem dX2_takeStep_2 : decode cX2_takeStep 2 = .ok (.invokevirtual 137, 3) := dTX2_takeStep_0_ok 2 (2, .invokevirtual 137, 3) rfl
theorem dX2_takeStep_5 : decode cX2_takeStep 5 = .ok (.istore_n 2, 1) := dTX2_takeStep_0_ok 3 (5, .istore_n 2, 1) rfl
theorem dX2_takeStep_6 : decode cX2_takeStep 6 = .ok (.iload_n 2, 1) := dTX2_takeStep_0_ok 4 (6, .iload_n 2, 1) rfl
theorem dX2_takeStep_7 : decode cX2_takeStep 7 = .ok (.iconst (-1), 1) := dTX2_takeStep_0_ok 5 (7, .iconst (-1), 1) rfl
theorem dX2_takeStep_8 : decode cX2_takeStep 8 = .ok (.if_icmp .ne 4, 3) := dTX2_takeStep_0_ok 6 (8, .if_icmp .ne 4, 3) rfl
theorem dX2_takeStep_11 : decode cX2_takeStep 11 = .ok (.return_, 1) := dTX2_takeStep_0_ok 7 (11, .return_, 1) rfl
theorem dX2_takeStep_12 : decode cX2_takeStep 12 = .ok (.aload_n 0, 1) := dTX2_takeStep_0_ok 8 (12, .aload_n 0, 1) rfl
theorem dX2_takeStep_13 : decode cX2_takeStep 13 = .ok (.iload_n 1, 1) := dTX2_takeStep_0_ok 9 (13, .iload_n 1, 1) rfl
theorem dX2_takeStep_14 : decode cX2_takeStep 14 = .ok (.invokevirtual 70, 3) := dTX2_takeStep_0_ok 10 (14, .invokevirtual 70, 3) rfl
theorem dX2_takeStep_17 : decode cX2_takeStep 17 = .ok (.istore_n 3, 1) := dTX2_takeStep_0_ok 11 (17, .istore_n 3, 1) rfl
theorem dX2_takeStep_18 : decode cX2_takeStep 18 = .ok (.iload_n 3, 1) := dTX2_takeStep_0_ok 12 (18, .iload_n 3, 1) rfl
theorem dX2_takeStep_19 : decode cX2_takeStep 19 = .ok (.iload_n 2, 1) := dTX2_takeStep_0_ok 13 (19, .iload_n 2, 1) rfl
theorem dX2_takeStep_20 : decode cX2_takeStep 20 = .ok (.invokestatic 140, 3) := dTX2_takeStep_0_ok 14 (20, .invokestatic 140, 3) rfl
theorem dX2_takeStep_23 : decode cX2_takeStep 23 = .ok (.istore 4, 2) := dTX2_takeStep_0_ok 15 (23, .istore 4, 2) rfl
theorem dX2_takeStep_25 : decode cX2_takeStep 25 = .ok (.aload_n 0, 1) := dTX2_takeStep_0_ok 16 (25, .aload_n 0, 1) rfl
theorem dX2_takeStep_26 : decode cX2_takeStep 26 = .ok (.iload_n 1, 1) := dTX2_takeStep_0_ok 17 (26, .iload_n 1, 1) rfl
theorem dX2_takeStep_27 : decode cX2_takeStep 27 = .ok (.iload 4, 2) := dTX2_takeStep_0_ok 18 (27, .iload 4, 2) rfl
theorem dX2_takeStep_29 : decode cX2_takeStep 29 = .ok (.invokevirtual 64, 3) := dTX2_takeStep_0_ok 19 (29, .invokevirtual 64, 3) rfl
theorem dX2_takeStep_32 : decode cX2_takeStep 32 = .ok (.aload_n 0, 1) := dTX2_takeStep_0_ok 20 (32, .aload_n 0, 1) rfl
theorem dX2_takeStep_33 : decode cX2_takeStep 33 = .ok (.getfield 12, 3) := dTX2_takeStep_0_ok 21 (33, .getfield 12, 3) rfl
theorem dX2_takeStep_36 : decode cX2_takeStep 36 = .ok (.iload_n 3, 1) := dTX2_takeStep_0_ok 22 (36, .iload_n 3, 1) rfl
theorem dX2_takeStep_37 : decode cX2_takeStep 37 = .ok (.iload_n 2, 1) := dTX2_takeStep_0_ok 23 (37, .iload_n 2, 1) rfl
theorem dX2_takeStep_38 : decode cX2_takeStep 38 = .ok (.invokevirtual 145, 3) := dTX2_takeStep_0_ok 24 (38, .invokevirtual 145, 3) rfl
theorem dX2_takeStep_41 : decode cX2_takeStep 41 = .ok (.ifCond .eq 19, 3) := dTX2_takeStep_0_ok 25 (41, .ifCond .eq 19, 3) rfl
theorem dX2_takeStep_44 : decode cX2_takeStep 44 = .ok (.aload_n 0, 1) := dTX2_takeStep_0_ok 26 (44, .aload_n 0, 1) rfl
theorem dX2_takeStep_45 : decode cX2_takeStep 45 = .ok (.iload_n 1, 1) := dTX2_takeStep_0_ok 27 (45, .iload_n 1, 1) rfl
theorem dX2_takeStep_46 : decode cX2_takeStep 46 = .ok (.iconst 5, 1) := dTX2_takeStep_0_ok 28 (46, .iconst 5, 1) rfl
theorem dX2_takeStep_47 : decode cX2_takeStep 47 = .ok (.iconst 0, 1) := dTX2_takeStep_0_ok 29 (47, .iconst 0, 1) rfl
theorem dX2_takeStep_48 : decode cX2_takeStep 48 = .ok (.invokevirtual 60, 3) := dTX2_takeStep_0_ok 30 (48, .invokevirtual 60, 3) rfl
theorem dX2_takeStep_51 : decode cX2_takeStep 51 = .ok (.aload_n 0, 1) := dTX2_takeStep_0_ok 31 (51, .aload_n 0, 1) rfl
theorem dX2_takeStep_52 : decode cX2_takeStep 52 = .ok (.getfield 12, 3) := dTX2_takeStep_0_ok 32 (52, .getfield 12, 3) rfl
theorem dX2_takeStep_55 : decode cX2_takeStep 55 = .ok (.iload 4, 2) := dTX2_takeStep_0_ok 33 (55, .iload 4, 2) rfl
theorem dX2_takeStep_57 : decode cX2_takeStep 57 = .ok (.invokevirtual 149, 3) := dTX2_takeStep_0_ok 34 (57, .invokevirtual 149, 3) rfl
theorem dX2_takeStep_60 : decode cX2_takeStep 60 = .ok (.return_, 1) := dTX2_takeStep_0_ok 35 (60, .return_, 1) rfl
noncomputable def dTX2_hauntsOrFears_0 : List (Nat × Instr × Nat) := [(0, .aload_n 0, 1), (1, .iload_n 1, 1), (2, .invokevirtual 70, 3), (5, .istore_n 2, 1), (6, .aload_n 0, 1), (7, .getfield 12, 3), (10, .iload_n 2, 1), (11, .invokevirtual 86, 3), (14, .ifCond .eq 21, 3), (17, .aload_n 0, 1), (18, .iload_n 1, 1), (19, .bipush 7, 2), (21, .aload_n 0, 1), (22, .iload_n 1, 1), (23, .bipush 7, 2), (25, .invokevirtual 56, 3), (28, .iconst 1, 1), (29, .iadd, 1), (30, .invokevirtual 60, 3), (33, .iconst 0, 1), (34, .ireturn, 1), (35, .aload_n 0, 1), (36, .getfield 12, 3), (39, .iload_n 2, 1), (40, .invokevirtual 152, 3), (43, .ifCond .ne 5, 3), (46, .iconst 0, 1), (47, .ireturn, 1), (48, .aload_n 0, 1), (49, .getfield 12, 3), (52, .iload_n 2, 1), (53, .invokevirtual 155, 3), (56, .aload_n 0, 1), (57, .iload_n 1, 1), (58, .bipush 6, 2), (60, .aload_n 0, 1), (61, .iload_n 1, 1), (62, .bipush 6, 2), (64, .invokevirtual 56, 3), (67, .iconst 1, 1), (68, .iadd, 1), (69, .invokevirtual 60, 3), (72, .iconst 1, 1), (73, .ireturn, 1)]
theorem dTX2_hauntsOrFears_0_ok : ∀ (k : Nat) (q : Nat × Instr × Nat), dTX2_hauntsOrFears_0[k]? = some q → decode cX2_hauntsOrFears q.1 = .ok q.2 := dT_of (by decide +kernel)
theorem dX2_hauntsOrFears_0 : decode cX2_hauntsOrFears 0 = .ok (.aload_n 0, 1) := dTX2_hauntsOrFears_0_ok 0 (0, .aload_n 0, 1) rfl
theorem dX2_hauntsOrFears_1 : decode cX2_hauntsOrFears 1 = .ok (.iload_n 1, 1) := dTX2_hauntsOrFears_0_ok 1 (1, .iload_n 1, 1) rfl
theorem dX2_hauntsOrFears_2 : decode cX2_hauntsOrFears 2 = .ok (.invokevirtual 70, 3) := dTX2_hauntsOrFears_0_ok 2 (2, .invokevirtual 70, 3) rfl
theorem dX2_hauntsOrFears_5 : decode cX2_hauntsOrFears 5 = .ok (.istore_n 2, 1) := dTX2_hauntsOrFears_0_ok 3 (5, .istore_n 2, 1) rfl
theorem dX2_hauntsOrFears_6 : decode cX2_hauntsOrFears 6 = .ok (.aload_n 0, 1) := dTX2_hauntsOrFears_0_ok 4 (6, .aload_n 0, 1) rfl
theorem dX2_hauntsOrFears_7 : decode cX2_hauntsOrFears 7 = .ok (.getfield 12, 3) := dTX2_hauntsOrFears_0_ok 5 (7, .getfield 12, 3) rfl
theorem dX2_hauntsOrFears_10 : decode cX2_hauntsOrFears 10 = .ok (.iload_n 2, 1) := dTX2_hauntsOrFears_0_ok 6 (10, .iload_n 2, 1) rfl
theorem dX2_hauntsOrFears_11 : decode cX2_hauntsOrFears 11 = .ok (.invokevirtual 86, 3) := dTX2_hauntsOrFears_0_ok 7 (11, .invokevirtual 86, 3) rfl
theorem dX2_hauntsOrFears_14 : decode cX2_hauntsOrFears 14 = .ok (.ifCond .eq 21, 3) := dTX2_hauntsOrFears_0_ok 8 (14, .ifCond .eq 21, 3) rfl
theorem dX2_hauntsOrFears_17 : decode cX2_hauntsOrFears 17 = .ok (.aload_n 0, 1) := dTX2_hauntsOrFears_0_ok 9 (17, .aload_n 0, 1) rfl
theorem dX2_hauntsOrFears_18 : decode cX2_hauntsOrFears 18 = .ok (.iload_n 1, 1) := dTX2_hauntsOrFears_0_ok 10 (18, .iload_n 1, 1) rfl
theorem dX2_hauntsOrFears_19 : decode cX2_hauntsOrFears 19 = .ok (.bipush 7, 2) := dTX2_hauntsOrFears_0_ok 11 (19, .bipush 7, 2) rfl
theorem dX2_hauntsOrFears_21 : decode cX2_hauntsOrFears 21 = .ok (.aload_n 0, 1) := dTX2_hauntsOrFears_0_ok 12 (21, .aload_n 0, 1) rfl
theorem dX2_hauntsOrFears_22 : decode cX2_hauntsOrFears 22 = .ok (.iload_n 1, 1) := dTX2_hauntsOrFears_0_ok 13 (22, .iload_n 1, 1) rfl
theorem dX2_hauntsOrFears_23 : decode cX2_hauntsOrFears 23 = .ok (.bipush 7, 2) := dTX2_hauntsOrFears_0_ok 14 (23, .bipush 7, 2) rfl
theorem dX2_hauntsOrFears_25 : decode cX2_hauntsOrFears 25 = .ok (.invokevirtual 56, 3) := dTX2_hauntsOrFears_0_ok 15 (25, .invokevirtual 56, 3) rfl
theorem dX2_hauntsOrFears_28 : decode cX2_hauntsOrFears 28 = .ok (.iconst 1, 1) := dTX2_hauntsOrFears_0_ok 16 (28, .iconst 1, 1) rfl
theorem dX2_hauntsOrFears_29 : decode cX2_hauntsOrFears 29 = .ok (.iadd, 1) := dTX2_hauntsOrFears_0_ok 17 (29, .iadd, 1) rfl
theorem dX2_hauntsOrFears_30 : decode cX2_hauntsOrFears 30 = .ok (.invokevirtual 60, 3) := dTX2_hauntsOrFears_0_ok 18 (30, .invokevirtual 60, 3) rfl
theorem dX2_hauntsOrFears_33 : decode cX2_hauntsOrFears 33 = .ok (.iconst 0, 1) := dTX2_hauntsOrFears_0_ok 19 (33, .iconst 0, 1) rfl
theorem dX2_hauntsOrFears_34 : decode cX2_hauntsOrFears 34 = .ok (.ireturn, 1) := dTX2_hauntsOrFears_0_ok 20 (34, .ireturn, 1) rfl
theorem dX2_hauntsOrFears_35 : decode cX2_hauntsOrFears 35 = .ok (.aload_n 0, 1) := dTX2_hauntsOrFears_0_ok 21 (35, .aload_n 0, 1) rfl
theorem dX2_hauntsOrFears_36 : decode cX2_hauntsOrFears 36 = .ok (.getfield 12, 3) := dTX2_hauntsOrFears_0_ok 22 (36, .getfield 12, 3) rfl
theorem dX2_hauntsOrFears_39 : decode cX2_hauntsOrFears 39 = .ok (.iload_n 2, 1) := dTX2_hauntsOrFears_0_ok 23 (39, .iload_n 2, 1) rfl
theorem dX2_hauntsOrFears_40 : decode cX2_hauntsOrFears 40 = .ok (.invokevirtual 152, 3) := dTX2_hauntsOrFears_0_ok 24 (40, .invokevirtual 152, 3) rfl
theorem dX2_hauntsOrFears_43 : decode cX2_hauntsOrFears 43 = .ok (.ifCond .ne 5, 3) := dTX2_hauntsOrFears_0_ok 25 (43, .ifCond .ne 5, 3) rfl
theorem dX2_hauntsOrFears_46 : decode cX2_hauntsOrFears 46 = .ok (.iconst 0, 1) := dTX2_hauntsOrFears_0_ok 26 (46, .iconst 0, 1) rfl
theorem dX2_hauntsOrFears_47 : decode cX2_hauntsOrFears 47 = .ok (.ireturn, 1) := dTX2_hauntsOrFears_0_ok 27 (47, .ireturn, 1) rfl
theorem dX2_hauntsOrFears_48 : decode cX2_hauntsOrFears 48 = .ok (.aload_n 0, 1) := dTX2_hauntsOrFears_0_ok 28 (48, .aload_n 0, 1) rfl
theorem dX2_hauntsOrFears_49 : decode cX2_hauntsOrFears 49 = .ok (.getfield 12, 3) := dTX2_hauntsOrFears_0_ok 29 (49, .getfield 12, 3) rfl
theorem dX2_hauntsOrFears_52 : decode cX2_hauntsOrFears 52 = .ok (.iload_n 2, 1) := dTX2_hauntsOrFears_0_ok 30 (52, .iload_n 2, 1) rfl
theorem dX2_hauntsOrFears_53 : decode cX2_hauntsOrFears 53 = .ok (.invokevirtual 155, 3) := dTX2_hauntsOrFears_0_ok 31 (53, .invokevirtual 155, 3) rfl
theorem dX2_hauntsOrFears_56 : decode cX2_hauntsOrFears 56 = .ok (.aload_n 0, 1) := dTX2_hauntsOrFears_0_ok 32 (56, .aload_n 0, 1) rfl
theorem dX2_hauntsOrFears_57 : decode cX2_hauntsOrFears 57 = .ok (.iload_n 1, 1) := dTX2_hauntsOrFears_0_ok 33 (57, .iload_n 1, 1) rfl
theorem dX2_hauntsOrFears_58 : decode cX2_hauntsOrFears 58 = .ok (.bipush 6, 2) := dTX2_hauntsOrFears_0_ok 34 (58, .bipush 6, 2) rfl
theorem dX2_hauntsOrFears_60 : decode cX2_hauntsOrFears 60 = .ok (.aload_n 0, 1) := dTX2_hauntsOrFears_0_ok 35 (60, .aload_n 0, 1) rfl
theorem dX2_hauntsOrFears_61 : decode cX2_hauntsOrFears 61 = .ok (.iload_n 1, 1) := dTX2_hauntsOrFears_0_ok 36 (61, .iload_n 1, 1) rfl
theorem dX2_hauntsOrFears_62 : decode cX2_hauntsOrFears 62 = .ok (.bipush 6, 2) := dTX2_hauntsOrFears_0_ok 37 (62, .bipush 6, 2) rfl
theorem dX2_hauntsOrFears_64 : decode cX2_hauntsOrFears 64 = .ok (.invokevirtual 56, 3) := dTX2_hauntsOrFears_0_ok 38 (64, .invokevirtual 56, 3) rfl
theorem dX2_hauntsOrFears_67 : decode cX2_hauntsOrFears 67 = .ok (.iconst 1, 1) := dTX2_hauntsOrFears_0_ok 39 (67, .iconst 1, 1) rfl
theorem dX2_hauntsOrFears_68 : decode cX2_hauntsOrFears 68 = .ok (.iadd, 1) := dTX2_hauntsOrFears_0_ok 40 (68, .iadd, 1) rfl
theorem dX2_hauntsOrFears_69 : decode cX2_hauntsOrFears 69 = .ok (.invokevirtual 60, 3) := dTX2_hauntsOrFears_0_ok 41 (69, .invokevirtual 60, 3) rfl
theorem dX2_hauntsOrFears_72 : decode cX2_hauntsOrFears 72 = .ok (.iconst 1, 1) := dTX2_hauntsOrFears_0_ok 42 (72, .iconst 1, 1) rfl
theorem dX2_hauntsOrFears_73 : decode cX2_hauntsOrFears 73 = .ok (.ireturn, 1) := dTX2_hauntsOrFears_0_ok 43 (73, .ireturn, 1) rfl
noncomputable def dTX3_init_0 : List (Nat × Instr × Nat) := [(0, .aload_n 0, 1), (1, .invokespecial 1, 3), (4, .aload_n 0, 1), (5, .iload_n 1, 1), (6, .ifCond .ge 7, 3), (9, .iconst 0, 1), (10, .goto 4, 3), (13, .iload_n 1, 1), (14, .newarray .int, 2), (16, .putfield 7, 3), (19, .return_, 1)]
theorem dTX3_init_0_ok : ∀ (k : Nat) (q : Nat × Instr × Nat), dTX3_init_0[k]? = some q → decode cX3_init q.1 = .ok q.2 := dT_of (by decide +kernel)
theorem dX3_init_0 : decode cX3_init 0 = .ok (.aload_n 0, 1) := dTX3_init_0_ok 0 (0, .aload_n 0, 1) rfl
theorem dX3_init_1 : decode cX3_init 1 = .ok (.invokespecial 1, 3) := dTX3_init_0_ok 1 (1, .invokespecial 1, 3) rfl
theorem dX3_init_4 : decode cX3_init 4 = .ok (.aload_n 0, 1) := dTX3_init_0_ok 2 (4, .aload_n 0, 1) rfl
theorem dX3_init_5 : decode cX3_init 5 = .ok (.iload_n 1, 1) := dTX3_init_0_ok 3 (5, .iload_n 1, 1) rfl
theorem dX3_init_6 : decode cX3_init 6 = .ok (.ifCond .ge 7, 3) := dTX3_init_0_ok 4 (6, .ifCond .ge 7, 3) rfl
theorem dX3_init_9 : decode cX3_init 9 = .ok (.iconst 0, 1) := dTX3_init_0_ok 5 (9, .iconst 0, 1) rfl
theorem dX3_init_10 : decode cX3_init 10 = .ok (.goto 4, 3) := dTX3_init_0_ok 6 (10, .goto 4, 3) rfl
theorem dX3_init_13 : decode cX3_init 13 = .ok (.iload_n 1, 1) := dTX3_init_0_ok 7 (13, .iload_n 1, 1) rfl
theorem dX3_init_14 : decode cX3_init 14 = .ok (.newarray .int, 2) := dTX3_init_0_ok 8 (14, .newarray .int, 2) rfl
theorem dX3_init_16 : decode cX3_init 16 = .ok (.putfield 7, 3) := dTX3_init_0_ok 9 (16, .putfield 7, 3) rfl
theorem dX3_init_19 : decode cX3_init 19 = .ok (.return_, 1) := dTX3_init_0_ok 10 (19, .return_, 1) rfl
noncomputable def dTX3_get_0 : List (Nat × Instr × Nat) := [(0, .iload_n 1, 1), (1, .ifCond .lt 21, 3), (4, .iload_n 1, 1), (5, .aload_n 0, 1), (6, .getfield 7, 3), (9, .arraylength, 1), (10, .if_icmp .ge 12, 3), (13, .aload_n 0, 1), (14, .getfield 7, 3), (17, .iload_n 1, 1), (18, .iaload, 1), (19, .goto 4, 3), (22, .iconst 0, 1), (23, .ireturn, 1)]
theorem dTX3_get_0_ok : ∀ (k : Nat) (q : Nat × Instr × Nat), dTX3_get_0[k]? = some q → decode cX3_get q.1 = .ok q.2 := dT_of (by decide +kernel)
theorem dX3_get_0 : decode cX3_get 0 = .ok (.iload_n 1, 1) := dTX3_get_0_ok 0 (0, .iload_n 1, 1) rfl
theorem dX3_get_1 : decode cX3_get 1 = .ok (.ifCond .lt 21, 3) := dTX3_get_0_ok 1 (1, .ifCond .lt 21, 3) rfl
theorem dX3_get_4 : decode cX3_get 4 = .ok (.iload_n 1, 1) := dTX3_get_0_ok 2 (4, .iload_n 1, 1) rfl
theorem dX3_get_5 : decode cX3_get 5 = .ok (.aload_n 0, 1) := dTX3_get_0_ok 3 (5, .aload_n 0, 1) rfl
theorem dX3_get_6 : decode cX3_get 6 = .ok (.getfield 7, 3) := dTX3_get_0_ok 4 (6, .getfield 7, 3) rfl
theorem dX3_get_9 : decode cX3_get 9 = .ok (.arraylength, 1) := dTX3_get_0_ok 5 (9, .arraylength, 1) rfl
theorem dX3_get_10 : decode cX3_get 10 = .ok (.if_icmp .ge 12, 3) := dTX3_get_0_ok 6 (10, .if_icmp .ge 12, 3) rfl
theorem dX3_get_13 : decode cX3_get 13 = .ok (.aload_n 0, 1) := dTX3_get_0_ok 7 (13, .aload_n 0, 1) rfl
theorem dX3_get_14 : decode cX3_get 14 = .ok (.getfield 7, 3) := dTX3_get_0_ok 8 (14, .getfield 7, 3) rfl
theorem dX3_get_17 : decode cX3_get 17 = .ok (.iload_n 1, 1) := dTX3_get_0_ok 9 (17, .iload_n 1, 1) rfl
theorem dX3_get_18 : decode cX3_get 18 = .ok (.iaload, 1) := dTX3_get_0_ok 10 (18, .iaload, 1) rfl
theorem dX3_get_19 : decode cX3_get 19 = .ok (.goto 4, 3) := dTX3_get_0_ok 11 (19, .goto 4, 3) rfl
theorem dX3_get_22 : decode cX3_get 22 = .ok (.iconst 0, 1) := dTX3_get_0_ok 12 (22, .iconst 0, 1) rfl
theorem dX3_get_23 : decode cX3_get 23 = .ok (.ireturn, 1) := dTX3_get_0_ok 13 (23, .ireturn, 1) rfl
noncomputable def dTX3_put_0 : List (Nat × Instr × Nat) := [(0, .iload_n 1, 1), (1, .ifCond .lt 19, 3), (4, .iload_n 1, 1), (5, .aload_n 0, 1), (6, .getfield 7, 3), (9, .arraylength, 1), (10, .if_icmp .ge 10, 3), (13, .aload_n 0, 1), (14, .getfield 7, 3), (17, .iload_n 1, 1), (18, .iload_n 2, 1), (19, .iastore, 1), (20, .return_, 1)]
theorem dTX3_put_0_ok : ∀ (k : Nat) (q : Nat × Instr × Nat), dTX3_put_0[k]? = some q → decode cX3_put q.1 = .ok q.2 := dT_of (by decide +kernel)
theorem dX3_put_0 : decode cX3_put 0 = .ok (.iload_n 1, 1) := dTX3_put_0_ok 0 (0, .iload_n 1, 1) rfl
theorem dX3_put_1 : decode cX3_put 1 = .ok (.ifCond .lt 19, 3) := dTX3_put_0_ok 1 (1, .ifCond .lt 19, 3) rfl
theorem dX3_put_4 : decode cX3_put 4 = .ok (.iload_n 1, 1) := dTX3_put_0_ok 2 (4, .iload_n 1, 1) rfl
theorem dX3_put_5 : decode cX3_put 5 = .ok (.aload_n 0, 1) := dTX3_put_0_ok 3 (5, .aload_n 0, 1) rfl
theorem dX3_put_6 : decode cX3_put 6 = .ok (.getfield 7, 3) := dTX3_put_0_ok 4 (6, .getfield 7, 3) rfl
theorem dX3_put_9 : decode cX3_put 9 = .ok (.arraylength, 1) := dTX3_put_0_ok 5 (9, .arraylength, 1) rfl
theorem dX3_put_10 : decode cX3_put 10 = .ok (.if_icmp .ge 10, 3) := dTX3_put_0_ok 6 (10, .if_icmp .ge 10, 3) rfl
theorem dX3_put_13 : decode cX3_put 13 = .ok (.aload_n 0, 1) := dTX3_put_0_ok 7 (13, .aload_n 0, 1) rfl
theorem dX3_put_14 : decode cX3_put 14 = .ok (.getfield 7, 3) := dTX3_put_0_ok 8 (14, .getfield 7, 3) rfl
theorem dX3_put_17 : decode cX3_put 17 = .ok (.iload_n 1, 1) := dTX3_put_0_ok 9 (17, .iload_n 1, 1) rfl
theorem dX3_put_18 : decode cX3_put 18 = .ok (.iload_n 2, 1) := dTX3_put_0_ok 10 (18, .iload_n 2, 1) rfl
theorem dX3_put_19 : decode cX3_put 19 = .ok (.iastore, 1) := dTX3_put_0_ok 11 (19, .iastore, 1) rfl
theorem dX3_put_20 : decode cX3_put 20 = .ok (.return_, 1) := dTX3_put_0_ok 12 (20, .return_, 1) rfl
noncomputable def dTX3_copyFrom_0 : List (Nat × Instr × Nat) := [(0, .iconst 0, 1), (1, .istore_n 2, 1), (2, .iload_n 2, 1), (3, .aload_n 0, 1), (4, .getfield 7, 3), (7, .arraylength, 1), (8, .if_icmp .ge 20, 3), (11, .aload_n 0, 1), (12, .getfield 7, 3), (15, .iload_n 2, 1), (16, .aload_n 1, 1), (17, .iload_n 2, 1), (18, .invokevirtual 13, 3), (21, .iastore, 1), (22, .iinc 2 1, 3), (25, .goto (-23), 3), (28, .return_, 1)]
theorem dTX3_copyFrom_0_ok : ∀ (k : Nat) (q : Nat × Instr × Nat), dTX3_copyFrom_0[k]? = some q → decode cX3_copyFrom q.1 = .ok q.2 := dT_of (by decide +kernel)
theorem dX3_copyFrom_0 : decode cX3_copyFrom 0 = .ok (.iconst 0, 1) := dTX3_copyFrom_0_ok 0 (0, .iconst 0, 1) rfl
theorem dX3_copyFrom_1 : decode cX3_copyFrom 1 = .ok (.istore_n 2, 1) := dTX3_copyFrom_0_ok 1 (1, .istore_n 2, 1) rfl
theorem dX3_copyFrom_2 : decode cX3_copyFrom 2 = .ok (.iload_n 2, 1) := dTX3_copyFrom_0_ok 2 (2, .iload_n 2, 1) rfl
theorem dX3_copyFrom_3 : decode cX3_copyFrom 3 = .ok (.aload_n 0, 1) := dTX3_copyFrom_0_ok 3 (3, .aload_n 0, 1) rfl
theorem dX3_copyFrom_4 : decode cX3_copyFrom 4 = .ok (.getfield 7, 3) := dTX3_copyFrom_0_ok 4 (4, .getfield 7, 3) rfl
theorem dX3_copyFrom_7 : decode cX3_copyFrom 7 = .ok (.arraylength, 1) := dTX3_copyFrom_0_ok 5 (7, .arraylength, 1) rfl
theorem dX3_copyFrom_8 : decode cX3_copyFrom 8 = .ok (.if_icmp .ge 20, 3) := dTX3_copyFrom_0_ok 6 (8, .if_icmp .ge 20, 3) rfl
theorem dX3_copyFrom_11 : decode cX3_copyFrom 11 = .ok (.aload_n 0, 1) := dTX3_copyFrom_0_ok 7 (11, .aload_n 0, 1) rfl
theorem dX3_copyFrom_12 : decode cX3_copyFrom 12 = .ok (.getfield 7, 3) := dTX3_copyFrom_0_ok 8 (12, .getfield 7, 3) rfl
theorem dX3_copyFrom_15 : decode cX3_copyFrom 15 = .ok (.iload_n 2, 1) := dTX3_copyFrom_0_ok 9 (15, .iload_n 2, 1) rfl
theorem dX3_copyFrom_16 : decode cX3_copyFrom 16 = .ok (.aload_n 1, 1) := dTX3_copyFrom_0_ok 10 (16, .aload_n 1, 1) rfl
theorem dX3_copyFrom_17 : decode cX3_copyFrom 17 = .ok (.iload_n 2, 1) := dTX3_copyFrom_0_ok 11 (17, .iload_n 2, 1) rfl
theorem dX3_copyFrom_18 : decode cX3_copyFrom 18 = .ok (.invokevirtual 13, 3) := dTX3_copyFrom_0_ok 12 (18, .invokevirtual 13, 3) rfl
theorem dX3_copyFrom_21 : decode cX3_copyFrom 21 = .ok (.iastore, 1) := dTX3_copyFrom_0_ok 13 (21, .iastore, 1) rfl
theorem dX3_copyFrom_22 : decode cX3_copyFrom 22 = .ok (.iinc 2 1, 3) := dTX3_copyFrom_0_ok 14 (22, .iinc 2 1, 3) rfl
theorem dX3_copyFrom_25 : decode cX3_copyFrom 25 = .ok (.goto (-23), 3) := dTX3_copyFrom_0_ok 15 (25, .goto (-23), 3) rfl
theorem dX3_copyFrom_28 : decode cX3_copyFrom 28 = .ok (.return_, 1) := dTX3_copyFrom_0_ok 16 (28, .return_, 1) rfl
noncomputable def dTX4_init_0 : List (Nat × Instr × Nat) := [(0, .aload_n 0, 1), (1, .invokespecial 3, 3), (4, .return_, 1)]
theorem dTX4_init_0_ok : ∀ (k : Nat) (q : Nat × Instr × Nat), dTX4_init_0[k]? = some q → decode cX4_init q.1 = .ok q.2 := dT_of (by decide +kernel)
theorem dX4_init_0 : decode cX4_init 0 = .ok (.aload_n 0, 1) := dTX4_init_0_ok 0 (0, .aload_n 0, 1) rfl
theorem dX4_init_1 : decode cX4_init 1 = .ok (.invokespecial 3, 3) := dTX4_init_0_ok 1 (1, .invokespecial 3, 3) rfl
theorem dX4_init_4 : decode cX4_init 4 = .ok (.return_, 1) := dTX4_init_0_ok 2 (4, .return_, 1) rfl
noncomputable def dTX4_fewestSteps_0 : List (Nat × Instr × Nat) := [(0, .aload_n 0, 1), (1, .iload_n 2, 1), (2, .invokestatic 9, 3), (5, .putfield 15, 3), (8, .aload_n 0, 1), (9, .iload 4, 2), (11, .putfield 21, 3), (14, .aload_n 1, 1), (15, .getfield 25, 3), (18, .ldc2_w 30, 3), (21, .lxor, 1), (22, .aload_n 0, 1), (23, .getfield 15, 3), (26, .lor, 1), (27, .lstore 5, 2), (29, .aload_n 0, 1), (30, .iload_n 3, 1), (31, .invokestatic 9, 3), (34, .lload 5, 2), (36, .land, 1), (37, .putfield 32, 3), (40, .aload_n 0, 1), (41, .lconst 0, 1), (42, .putfield 35, 3), (45, .iload_n 2, 1), (46, .iload_n 3, 1), (47, .if_icmp .ne 5, 3), (50, .iconst 0, 1), (51, .ireturn, 1), (52, .iconst 1, 1), (53, .istore 7, 2), (55, .iload 7, 2), (57, .bipush 63, 2), (59, .if_icmp .ge 127, 3), (62, .aload_n 0, 1), (63, .getfield 32, 3), (66, .aload_n 1, 1), (67, .aload_n 0, 1), (68, .getfield 32, 3), (71, .iconst 0, 1), (72, .invokevirtual 38, 3), (75, .lload 5, 2), (77, .land, 1), (78, .lor, 1), (79, .lstore 8, 2), (81, .aload_n 0, 1), (82, .getfield 35, 3), (85, .lstore 10, 2), (87, .aload_n 0, 1), (88, .getfield 21, 3), (91, .ifCond .eq 37, 3), (94, .lload 10, 2), (96, .aload_n 1, 1), (97, .aload_n 0, 1), (98, .getfield 35, 3), (101, .iconst 0, 1), (102, .invokevirtual 38, 3), (105, .lload 5, 2), (107, .land, 1), (108, .lor, 1)]
theorem dTX4_fewestSteps_0_ok : ∀ (k : Nat) (q : Nat × Instr × Nat), dTX4_fewestSteps_0[k]? = some q → decode cX4_fewestSteps q.1 = .ok q.2 := dT_of (by decide +kernel)
theorem dX4_fewestSteps_0 : decode cX4_fewestSteps 0 = .ok (.aload_n 0, 1) := dTX4_fewestSteps_0_ok 0 (0, .aload_n 0, 1) rfl
theorem dX4_fewestSteps_1 : decode cX4_fewestSteps 1 = .ok (.iload_n 2, 1) := dTX4_fewestSteps_0_ok 1 (1, .iload_n 2, 1) rfl
theorem dX4_fewestSteps_2 : decode cX4_fewestSteps 2 = .ok (.invokestatic 9, 3) := dTX4_fewestSteps_0_ok 2 (2, .invokestatic 9, 3) rfl
theorem dX4_fewestSteps_5 : decode cX4_fewestSteps 5 = .ok (.putfield 15, 3) := dTX4_fewestSteps_0_ok 3 (5, .putfield 15, 3) rfl
theorem dX4_fewestSteps_8 : decode cX4_fewestSteps 8 = .ok (.aload_n 0, 1) := dTX4_fewestSteps_0_ok 4 (8, .aload_n 0, 1) rfl
theorem dX4_fewestSteps_9 : decode cX4_fewestSteps 9 = .ok (.iload 4, 2) := dTX4_fewestSteps_0_ok 5 (9, .iload 4, 2) rfl
theorem dX4_fewestSteps_11 : decode cX4_fewestSteps 11 = .ok (.putfield 21, 3) := dTX4_fewestSteps_0_ok 6 (11, .putfield 21, 3) rfl
theorem dX4_fewestSteps_14 : decode cX4_fewestSteps 14 = .ok (.aload_n 1, 1) := dTX4_fewestSteps_0_ok 7 (14, .aload_n 1, 1) rfl
theorem dX4_fewestSteps_15 : decode cX4_fewestSteps 15 = .ok (.getfield 25, 3) := dTX4_fewestSteps_0_ok 8 (15, .getfield 25, 3) rfl
theorem dX4_fewestSteps_18 : decode cX4_fewestSteps 18 = .ok (.ldc2_w 30, 3) := dTX4_fewestSteps_0_ok 9 (18, .ldc2_w 30, 3) rfl
theorem dX4_fewestSteps_21 : decode cX4_fewestSteps 21 = .ok (.lxor, 1) := dTX4_fewestSteps_0_ok 10 (21, .lxor, 1) rfl
theorem dX4_fewestSteps_22 : decode cX4_fewestSteps 22 = .ok (.aload_n 0, 1) := dTX4_fewestSteps_0_ok 11 (22, .aload_n 0, 1) rfl
theorem dX4_fewestSteps_23 : decode cX4_fewestSteps 23 = .ok (.getfield 15, 3) := dTX4_fewestSteps_0_ok 12 (23, .getfield 15, 3) rfl
theorem dX4_fewestSteps_26 : decode cX4_fewestSteps 26 = .ok (.lor, 1) := dTX4_fewestSteps_0_ok 13 (26, .lor, 1) rfl
theorem dX4_fewestSteps_27 : decode cX4_fewestSteps 27 = .ok (.lstore 5, 2) := dTX4_fewestSteps_0_ok 14 (27, .lstore 5, 2) rfl
theorem dX4_fewestSteps_29 : decode cX4_fewestSteps 29 = .ok (.aload_n 0, 1) := dTX4_fewestSteps_0_ok 15 (29, .aload_n 0, 1) rfl
theorem dX4_fewestSteps_30 : decode cX4_fewestSteps 30 = .ok (.iload_n 3, 1) := dTX4_fewestSteps_0_ok 16 (30, .iload_n 3, 1) rfl
theorem dX4_fewestSteps_31 : decode cX4_fewestSteps 31 = .ok (.invokestatic 9, 3) := dTX4_fewestSteps_0_ok 17 (31, .invokestatic 9, 3) rfl
theorem dX4_fewestSteps_34 : decode cX4_fewestSteps 34 = .ok (.lload 5, 2) := dTX4_fewestSteps_0_ok 18 (34, .lload 5, 2) rfl
theorem dX4_fewestSteps_36 : decode cX4_fewestSteps 36 = .ok (.land, 1) := dTX4_fewestSteps_0_ok 19 (36, .land, 1) rfl
theorem dX4_fewestSteps_37 : decode cX4_fewestSteps 37 = .ok (.putfield 32, 3) := dTX4_fewestSteps_0_ok 20 (37, .putfield 32, 3) rfl
theorem dX4_fewestSteps_40 : decode cX4_fewestSteps 40 = .ok (.aload_n 0, 1) := dTX4_fewestSteps_0_ok 21 (40, .aload_n 0, 1) rfl
theorem dX4_fewestSteps_41 : decode cX4_fewestSteps 41 = .ok (.lconst 0, 1) := dTX4_fewestSteps_0_ok 22 (41, .lconst 0, 1) rfl
theorem dX4_fewestSteps_42 : decode cX4_fewestSteps 42 = .ok (.putfield 35, 3) := dTX4_fewestSteps_0_ok 23 (42, .putfield 35, 3) rfl
theorem dX4_fewestSteps_45 : decode cX4_fewestSteps 45 = .ok (.iload_n 2, 1) := dTX4_fewestSteps_0_ok 24 (45, .iload_n 2, 1) rfl
theorem dX4_fewestSteps_46 : decode cX4_fewestSteps 46 = .ok (.iload_n 3, 1) := dTX4_fewestSteps_0_ok 25 (46, .iload_n 3, 1) rfl
theorem dX4_fewestSteps_47 : decode cX4_fewestSteps 47 = .ok (.if_icmp .ne 5, 3) := dTX4_fewestSteps_0_ok 26 (47, .if_icmp .ne 5, 3) rfl
theorem dX4_fewestSteps_50 : decode cX4_fewestSteps 50 = .ok (.iconst 0, 1) := dTX4_fewestSteps_0_ok 27 (50, .iconst 0, 1) rfl
theorem dX4_fewestSteps_51 : decode cX4_fewestSteps 51 = .ok (.ireturn, 1) := dTX4_fewestSteps_0_ok 28 (51, .ireturn, 1) rfl
theorem dX4_fewestSteps_52 : decode cX4_fewestSteps 52 = .ok (.iconst 1, 1) := dTX4_fewestSteps_0_ok 29 (52, .iconst 1, 1) rfl
theorem dX4_fewestSteps_53 : decode cX4_fewestSteps 53 = .ok (.istore 7, 2) := dTX4_fewestSteps_0_ok 30 (53, .istore 7, 2) rfl
theorem dX4_fewestSteps_55 : decode cX4_fewestSteps 55 = .ok (.iload 7, 2) := dTX4_fewestSteps_0_ok 31 (55, .iload 7, 2) rfl
theorem dX4_fewestSteps_57 : decode cX4_fewestSteps 57 = .ok (.bipush 63, 2) := dTX4_fewestSteps_0_ok 32 (57, .bipush 63, 2) rfl
theorem dX4_fewestSteps_59 : decode cX4_fewestSteps 59 = .ok (.if_icmp .ge 127, 3) := dTX4_fewestSteps_0_ok 33 (59, .if_icmp .ge 127, 3) rfl
theorem dX4_fewestSteps_62 : decode cX4_fewestSteps 62 = .ok (.aload_n 0, 1) := dTX4_fewestSteps_0_ok 34 (62, .aload_n 0, 1) rfl
theorem dX4_fewestSteps_63 : decode cX4_fewestSteps 63 = .ok (.getfield 32, 3) := dTX4_fewestSteps_0_ok 35 (63, .getfield 32, 3) rfl
theorem dX4_fewestSteps_66 : decode cX4_fewestSteps 66 = .ok (.aload_n 1, 1) := dTX4_fewestSteps_0_ok 36 (66, .aload_n 1, 1) rfl
theorem dX4_fewestSteps_67 : decode cX4_fewestSteps 67 = .ok (.aload_n 0, 1) := dTX4_fewestSteps_0_ok 37 (67, .aload_n 0, 1) rfl
theorem dX4_fewestSteps_68 : decode cX4_fewestSteps 68 = .ok (.getfield 32, 3) := dTX4_fewestSteps_0_ok 38 (68, .getfield 32, 3) rfl
theorem dX4_fewestSteps_71 : decode cX4_fewestSteps 71 = .ok (.iconst 0, 1) := dTX4_fewestSteps_0_ok 39 (71, .iconst 0, 1) rfl
theorem dX4_fewestSteps_72 : decode cX4_fewestSteps 72 = .ok (.invokevirtual 38, 3) := dTX4_fewestSteps_0_ok 40 (72, .invokevirtual 38, 3) rfl
theorem dX4_fewestSteps_75 : decode cX4_fewestSteps 75 = .ok (.lload 5, 2) := dTX4_fewestSteps_0_ok 41 (75, .lload 5, 2) rfl
theorem dX4_fewestSteps_77 : decode cX4_fewestSteps 77 = .ok (.land, 1) := dTX4_fewestSteps_0_ok 42 (77, .land, 1) rfl
theorem dX4_fewestSteps_78 : decode cX4_fewestSteps 78 = .ok (.lor, 1) := dTX4_fewestSteps_0_ok 43 (78, .lor, 1) rfl
theorem dX4_fewestSteps_79 : decode cX4_fewestSteps 79 = .ok (.lstore 8, 2) := dTX4_fewestSteps_0_ok 44 (79, .lstore 8, 2) rfl
theorem dX4_fewestSteps_81 : decode cX4_fewestSteps 81 = .ok (.aload_n 0, 1) := dTX4_fewestSteps_0_ok 45 (81, .aload_n 0, 1) rfl
theorem dX4_fewestSteps_82 : decode cX4_fewestSteps 82 = .ok (.getfield 35, 3) := dTX4_fewestSteps_0_ok 46 (82, .getfield 35, 3) rfl
theorem dX4_fewestSteps_85 : decode cX4_fewestSteps 85 = .ok (.lstore 10, 2) := dTX4_fewestSteps_0_ok 47 (85, .lstore 10, 2) rfl
theorem dX4_fewestSteps_87 : decode cX4_fewestSteps 87 = .ok (.aload_n 0, 1) := dTX4_fewestSteps_0_ok 48 (87, .aload_n 0, 1) rfl
theorem dX4_fewestSteps_88 : decode cX4_fewestSteps 88 = .ok (.getfield 21, 3) := dTX4_fewestSteps_0_ok 49 (88, .getfield 21, 3) rfl
theorem dX4_fewestSteps_91 : decode cX4_fewestSteps 91 = .ok (.ifCond .eq 37, 3) := dTX4_fewestSteps_0_ok 50 (91, .ifCond .eq 37, 3) rfl
theorem dX4_fewestSteps_94 : decode cX4_fewestSteps 94 = .ok (.lload 10, 2) := dTX4_fewestSteps_0_ok 51 (94, .lload 10, 2) rfl
theorem dX4_fewestSteps_96 : decode cX4_fewestSteps 96 = .ok (.aload_n 1, 1) := dTX4_fewestSteps_0_ok 52 (96, .aload_n 1, 1) rfl
theorem dX4_fewestSteps_97 : decode cX4_fewestSteps 97 = .ok (.aload_n 0, 1) := dTX4_fewestSteps_0_ok 53 (97, .aload_n 0, 1) rfl
theorem dX4_fewestSteps_98 : decode cX4_fewestSteps 98 = .ok (.getfield 35, 3) := dTX4_fewestSteps_0_ok 54 (98, .getfield 35, 3) rfl
theorem dX4_fewestSteps_101 : decode cX4_fewestSteps 101 = .ok (.iconst 0, 1) := dTX4_fewestSteps_0_ok 55 (101, .iconst 0, 1) rfl
theorem dX4_fewestSteps_102 : decode cX4_fewestSteps 102 = .ok (.invokevirtual 38, 3) := dTX4_fewestSteps_0_ok 56 (102, .invokevirtual 38, 3) rfl
theorem dX4_fewestSteps_105 : decode cX4_fewestSteps 105 = .ok (.lload 5, 2) := dTX4_fewestSteps_0_ok 57 (105, .lload 5, 2) rfl
theorem dX4_fewestSteps_107 : decode cX4_fewestSteps 107 = .ok (.land, 1) := dTX4_fewestSteps_0_ok 58 (107, .land, 1) rfl
theorem dX4_fewestSteps_108 : decode cX4_fewestSteps 108 = .ok (.lor, 1) := dTX4_fewestSteps_0_ok 59 (108, .lor, 1) rfl
noncomputable def dTX4_fewestSteps_1 : List (Nat × Instr × Nat) := [(109, .lstore 10, 2), (111, .lload 10, 2), (113, .aload_n 1, 1), (114, .aload_n 0, 1), (115, .getfield 32, 3), (118, .iconst 1, 1), (119, .invokevirtual 38, 3), (122, .lload 5, 2), (124, .land, 1), (125, .lor, 1), (126, .lstore 10, 2), (128, .lload 8, 2), (130, .lload 10, 2), (132, .lor, 1), (133, .aload_n 0, 1), (134, .getfield 15, 3), (137, .land, 1), (138, .lconst 0, 1), (139, .lcmp, 1), (140, .ifCond .eq 6, 3), (143, .iload 7, 2), (145, .ireturn, 1), (146, .lload 8, 2), (148, .aload_n 0, 1), (149, .getfield 32, 3), (152, .lcmp, 1), (153, .ifCond .ne 15, 3), (156, .lload 10, 2), (158, .aload_n 0, 1), (159, .getfield 35, 3), (162, .lcmp, 1), (163, .ifCond .ne 5, 3), (166, .iconst (-1), 1), (167, .ireturn, 1), (168, .aload_n 0, 1), (169, .lload 8, 2), (171, .putfield 32, 3), (174, .aload_n 0, 1), (175, .lload 10, 2), (177, .putfield 35, 3), (180, .iinc 7 1, 3), (183, .goto (-128), 3), (186, .iconst (-1), 1), (187, .ireturn, 1)]
theorem dTX4_fewestSteps_1_ok : ∀ (k : Nat) (q : Nat × Instr × Nat), dTX4_fewestSteps_1[k]? = some q → decode cX4_fewestSteps q.1 = .ok q.2 := dT_of (by decide +kernel)
theorem dX4_fewestSteps_109 : decode cX4_fewestSteps 109 = .ok (.lstore 10, 2) := dTX4_fewestSteps_1_ok 0 (109, .lstore 10, 2) rfl
theorem dX4_fewestSteps_111 : decode cX4_fewestSteps 111 = .ok (.lload 10, 2) := dTX4_fewestSteps_1_ok 1 (111, .lload 10, 2) rfl
theorem dX4_fewestSteps_113 : decode cX4_fewestSteps 113 = .ok (.aload_n 1, 1) := dTX4_fewestSteps_1_ok 2 (113, .aload_n 1, 1) rfl
theorem dX4_fewestSteps_114 : decode cX4_fewestSteps 114 = .ok (.aload_n 0, 1) := dTX4_fewestSteps_1_ok 3 (114, .aload_n 0, 1) rfl
theorem dX4_fewestSteps_115 : decode cX4_fewestSteps 115 = .ok (.getfield 32, 3) := dTX4_fewestSteps_1_ok 4 (115, .getfield 32, 3) rfl
theorem dX4_fewestSteps_118 : decode cX4_fewestSteps 118 = .ok (.iconst 1, 1) := dTX4_fewestSteps_1_ok 5 (118, .iconst 1, 1) rfl
theorem dX4_fewestSteps_119 : decode cX4_fewestSteps 119 = .ok (.invokevirtual 38, 3) := dTX4_fewestSteps_1_ok 6 (119, .invokevirtual 38, 3) rfl
theorem dX4_fewestSteps_122 : decode cX4_fewestSteps 122 = .ok (.lload 5, 2) := dTX4_fewestSteps_1_ok 7 (122, .lload 5, 2) rfl
theorem dX4_fewestSteps_124 : decode cX4_fewestSteps 124 = .ok (.land, 1) := dTX4_fewestSteps_1_ok 8 (124, .land, 1) rfl
theorem dX4_fewestSteps_125 : decode cX4_fewestSteps 125 = .ok (.lor, 1) := dTX4_fewestSteps_1_ok 9 (125, .lor, 1) rfl
theorem dX4_fewestSteps_126 : decode cX4_fewestSteps 126 = .ok (.lstore 10, 2) := dTX4_fewestSteps_1_ok 10 (126, .lstore 10, 2) rfl
theorem dX4_fewestSteps_128 : decode cX4_fewestSteps 128 = .ok (.lload 8, 2) := dTX4_fewestSteps_1_ok 11 (128, .lload 8, 2) rfl
theorem dX4_fewestSteps_130 : decode cX4_fewestSteps 130 = .ok (.lload 10, 2) := dTX4_fewestSteps_1_ok 12 (130, .lload 10, 2) rfl
theorem dX4_fewestSteps_132 : decode cX4_fewestSteps 132 = .ok (.lor, 1) := dTX4_fewestSteps_1_ok 13 (132, .lor, 1) rfl
theorem dX4_fewestSteps_133 : decode cX4_fewestSteps 133 = .ok (.aload_n 0, 1) := dTX4_fewestSteps_1_ok 14 (133, .aload_n 0, 1) rfl
theorem dX4_fewestSteps_134 : decode cX4_fewestSteps 134 = .ok (.getfield 15, 3) := dTX4_fewestSteps_1_ok 15 (134, .getfield 15, 3) rfl
theorem dX4_fewestSteps_137 : decode cX4_fewestSteps 137 = .ok (.land, 1) := dTX4_fewestSteps_1_ok 16 (137, .land, 1) rfl
theorem dX4_fewestSteps_138 : decode cX4_fewestSteps 138 = .ok (.lconst 0, 1) := dTX4_fewestSteps_1_ok 17 (138, .lconst 0, 1) rfl
theorem dX4_fewestSteps_139 : decode cX4_fewestSteps 139 = .ok (.lcmp, 1) := dTX4_fewestSteps_1_ok 18 (139, .lcmp, 1) rfl
theorem dX4_fewestSteps_140 : decode cX4_fewestSteps 140 = .ok (.ifCond .eq 6, 3) := dTX4_fewestSteps_1_ok 19 (140, .ifCond .eq 6, 3) rfl
theorem dX4_fewestSteps_143 : decode cX4_fewestSteps 143 = .ok (.iload 7, 2) := dTX4_fewestSteps_1_ok 20 (143, .iload 7, 2) rfl
theorem dX4_fewestSteps_145 : decode cX4_fewestSteps 145 = .ok (.ireturn, 1) := dTX4_fewestSteps_1_ok 21 (145, .ireturn, 1) rfl
theorem dX4_fewestSteps_146 : decode cX4_fewestSteps 146 = .ok (.lload 8, 2) := dTX4_fewestSteps_1_ok 22 (146, .lload 8, 2) rfl
theorem dX4_fewestSteps_148 : decode cX4_fewestSteps 148 = .ok (.aload_n 0, 1) := dTX4_fewestSteps_1_ok 23 (148, .aload_n 0, 1) rfl
theorem dX4_fewestSteps_149 : decode cX4_fewestSteps 149 = .ok (.getfield 32, 3) := dTX4_fewestSteps_1_ok 24 (149, .getfield 32, 3) rfl
theorem dX4_fewestSteps_152 : decode cX4_fewestSteps 152 = .ok (.lcmp, 1) := dTX4_fewestSteps_1_ok 25 (152, .lcmp, 1) rfl
theorem dX4_fewestSteps_153 : decode cX4_fewestSteps 153 = .ok (.ifCond .ne 15, 3) := dTX4_fewestSteps_1_ok 26 (153, .ifCond .ne 15, 3) rfl
theorem dX4_fewestSteps_156 : decode cX4_fewestSteps 156 = .ok (.lload 10, 2) := dTX4_fewestSteps_1_ok 27 (156, .lload 10, 2) rfl
theorem dX4_fewestSteps_158 : decode cX4_fewestSteps 158 = .ok (.aload_n 0, 1) := dTX4_fewestSteps_1_ok 28 (158, .aload_n 0, 1) rfl
theorem dX4_fewestSteps_159 : decode cX4_fewestSteps 159 = .ok (.getfield 35, 3) := dTX4_fewestSteps_1_ok 29 (159, .getfield 35, 3) rfl
theorem dX4_fewestSteps_162 : decode cX4_fewestSteps 162 = .ok (.lcmp, 1) := dTX4_fewestSteps_1_ok 30 (162, .lcmp, 1) rfl
theorem dX4_fewestSteps_163 : decode cX4_fewestSteps 163 = .ok (.ifCond .ne 5, 3) := dTX4_fewestSteps_1_ok 31 (163, .ifCond .ne 5, 3) rfl
theorem dX4_fewestSteps_166 : decode cX4_fewestSteps 166 = .ok (.iconst (-1), 1) := dTX4_fewestSteps_1_ok 32 (166, .iconst (-1), 1) rfl
theorem dX4_fewestSteps_167 : decode cX4_fewestSteps 167 = .ok (.ireturn, 1) := dTX4_fewestSteps_1_ok 33 (167, .ireturn, 1) rfl
theorem dX4_fewestSteps_168 : decode cX4_fewestSteps 168 = .ok (.aload_n 0, 1) := dTX4_fewestSteps_1_ok 34 (168, .aload_n 0, 1) rfl
theorem dX4_fewestSteps_169 : decode cX4_fewestSteps 169 = .ok (.lload 8, 2) := dTX4_fewestSteps_1_ok 35 (169, .lload 8, 2) rfl
theorem dX4_fewestSteps_171 : decode cX4_fewestSteps 171 = .ok (.putfield 32, 3) := dTX4_fewestSteps_1_ok 36 (171, .putfield 32, 3) rfl
theorem dX4_fewestSteps_174 : decode cX4_fewestSteps 174 = .ok (.aload_n 0, 1) := dTX4_fewestSteps_1_ok 37 (174, .aload_n 0, 1) rfl
theorem dX4_fewestSteps_175 : decode cX4_fewestSteps 175 = .ok (.lload 10, 2) := dTX4_fewestSteps_1_ok 38 (175, .lload 10, 2) rfl
theorem dX4_fewestSteps_177 : decode cX4_fewestSteps 177 = .ok (.putfield 35, 3) := dTX4_fewestSteps_1_ok 39 (177, .putfield 35, 3) rfl
theorem dX4_fewestSteps_180 : decode cX4_fewestSteps 180 = .ok (.iinc 7 1, 3) := dTX4_fewestSteps_1_ok 40 (180, .iinc 7 1, 3) rfl
theorem dX4_fewestSteps_183 : decode cX4_fewestSteps 183 = .ok (.goto (-128), 3) := dTX4_fewestSteps_1_ok 41 (183, .goto (-128), 3) rfl
theorem dX4_fewestSteps_186 : decode cX4_fewestSteps 186 = .ok (.iconst (-1), 1) := dTX4_fewestSteps_1_ok 42 (186, .iconst (-1), 1) rfl
theorem dX4_fewestSteps_187 : decode cX4_fewestSteps 187 = .ok (.ireturn, 1) := dTX4_fewestSteps_1_ok 43 (187, .ireturn, 1) rfl
noncomputable def dTX4_firstDirection_0 : List (Nat × Instr × Nat) := [(0, .iconst 0, 1), (1, .istore_n 2, 1), (2, .iload_n 2, 1), (3, .iconst 4, 1), (4, .if_icmp .ge 46, 3), (7, .aload_n 0, 1), (8, .getfield 15, 3), (11, .aload_n 1, 1), (12, .iload_n 2, 1), (13, .invokevirtual 42, 3), (16, .ldc2_w 30, 3), (19, .lxor, 1), (20, .land, 1), (21, .lstore_n 3, 1), (22, .lload_n 3, 1), (23, .iload_n 2, 1), (24, .invokestatic 45, 3), (27, .aload_n 0, 1), (28, .getfield 32, 3), (31, .aload_n 0, 1), (32, .getfield 35, 3), (35, .lor, 1), (36, .land, 1), (37, .lconst 0, 1), (38, .lcmp, 1), (39, .ifCond .eq 5, 3), (42, .iload_n 2, 1), (43, .ireturn, 1), (44, .iinc 2 1, 3), (47, .goto (-45), 3), (50, .iconst 0, 1), (51, .istore_n 2, 1), (52, .iload_n 2, 1), (53, .iconst 4, 1), (54, .if_icmp .ge 44, 3), (57, .aload_n 0, 1), (58, .getfield 15, 3), (61, .aload_n 1, 1), (62, .iload_n 2, 1), (63, .invokevirtual 42, 3), (66, .land, 1), (67, .lstore_n 3, 1), (68, .aload_n 0, 1), (69, .getfield 21, 3), (72, .ifCond .eq 20, 3), (75, .lload_n 3, 1), (76, .iload_n 2, 1), (77, .invokestatic 45, 3), (80, .aload_n 0, 1), (81, .getfield 32, 3), (84, .land, 1), (85, .lconst 0, 1), (86, .lcmp, 1), (87, .ifCond .eq 5, 3), (90, .iload_n 2, 1), (91, .ireturn, 1), (92, .iinc 2 1, 3), (95, .goto (-43), 3), (98, .iconst (-1), 1), (99, .ireturn, 1)]
theorem dTX4_firstDirection_0_ok : ∀ (k : Nat) (q : Nat × Instr × Nat), dTX4_firstDirection_0[k]? = some q → decode cX4_firstDirection q.1 = .ok q.2 := dT_of (by decide +kernel)
theorem dX4_firstDirection_0 : decode cX4_firstDirection 0 = .ok (.iconst 0, 1) := dTX4_firstDirection_0_ok 0 (0, .iconst 0, 1) rfl
theorem dX4_firstDirection_1 : decode cX4_firstDirection 1 = .ok (.istore_n 2, 1) := dTX4_firstDirection_0_ok 1 (1, .istore_n 2, 1) rfl
theorem dX4_firstDirection_2 : decode cX4_firstDirection 2 = .ok (.iload_n 2, 1) := dTX4_firstDirection_0_ok 2 (2, .iload_n 2, 1) rfl
theorem dX4_firstDirection_3 : decode cX4_firstDirection 3 = .ok (.iconst 4, 1) := dTX4_firstDirection_0_ok 3 (3, .iconst 4, 1) rfl
theorem dX4_firstDirection_4 : decode cX4_firstDirection 4 = .ok (.if_icmp .ge 46, 3) := dTX4_firstDirection_0_ok 4 (4, .if_icmp .ge 46, 3) rfl
theorem dX4_firstDirection_7 : decode cX4_firstDirection 7 = .ok (.aload_n 0, 1) := dTX4_firstDirection_0_ok 5 (7, .aload_n 0, 1) rfl
theorem dX4_firstDirection_8 : decode cX4_firstDirection 8 = .ok (.getfield 15, 3) := dTX4_firstDirection_0_ok 6 (8, .getfield 15, 3) rfl
theorem dX4_firstDirection_11 : decode cX4_firstDirection 11 = .ok (.aload_n 1, 1) := dTX4_firstDirection_0_ok 7 (11, .aload_n 1, 1) rfl
theorem dX4_firstDirection_12 : decode cX4_firstDirection 12 = .ok (.iload_n 2, 1) := dTX4_firstDirection_0_ok 8 (12, .iload_n 2, 1) rfl
theorem dX4_firstDirection_13 : decode cX4_firstDirection 13 = .ok (.invokevirtual 42, 3) := dTX4_firstDirection_0_ok 9 (13, .invokevirtual 42, 3) rfl
theorem dX4_firstDirection_16 : decode cX4_firstDirection 16 = .ok (.ldc2_w 30, 3) := dTX4_firstDirection_0_ok 10 (16, .ldc2_w 30, 3) rfl
theorem dX4_firstDirection_19 : decode cX4_firstDirection 19 = .ok (.lxor, 1) := dTX4_firstDirection_0_ok 11 (19, .lxor, 1) rfl
theorem dX4_firstDirection_20 : decode cX4_firstDirection 20 = .ok (.land, 1) := dTX4_firstDirection_0_ok 12 (20, .land, 1) rfl
theorem dX4_firstDirection_21 : decode cX4_firstDirection 21 = .ok (.lstore_n 3, 1) := dTX4_firstDirection_0_ok 13 (21, .lstore_n 3, 1) rfl
theorem dX4_firstDirection_22 : decode cX4_firstDirection 22 = .ok (.lload_n 3, 1) := dTX4_firstDirection_0_ok 14 (22, .lload_n 3, 1) rfl
theorem dX4_firstDirection_23 : decode cX4_firstDirection 23 = .ok (.iload_n 2, 1) := dTX4_firstDirection_0_ok 15 (23, .iload_n 2, 1) rfl
theorem dX4_firstDirection_24 : decode cX4_firstDirection 24 = .ok (.invokestatic 45, 3) := dTX4_firstDirection_0_ok 16 (24, .invokestatic 45, 3) rfl
theorem dX4_firstDirection_27 : decode cX4_firstDirection 27 = .ok (.aload_n 0, 1) := dTX4_firstDirection_0_ok 17 (27, .aload_n 0, 1) rfl
theorem dX4_firstDirection_28 : decode cX4_firstDirection 28 = .ok (.getfield 32, 3) := dTX4_firstDirection_0_ok 18 (28, .getfield 32, 3) rfl
theorem dX4_firstDirection_31 : decode cX4_firstDirection 31 = .ok (.aload_n 0, 1) := dTX4_firstDirection_0_ok 19 (31, .aload_n 0, 1) rfl
theorem dX4_firstDirection_32 : decode cX4_firstDirection 32 = .ok (.getfield 35, 3) := dTX4_firstDirection_0_ok 20 (32, .getfield 35, 3) rfl
theorem dX4_firstDirection_35 : decode cX4_firstDirection 35 = .ok (.lor, 1) := dTX4_firstDirection_0_ok 21 (35, .lor, 1) rfl
theorem dX4_firstDirection_36 : decode cX4_firstDirection 36 = .ok (.land, 1) := dTX4_firstDirection_0_ok 22 (36, .land, 1) rfl
theorem dX4_firstDirection_37 : decode cX4_firstDirection 37 = .ok (.lconst 0, 1) := dTX4_firstDirection_0_ok 23 (37, .lconst 0, 1) rfl
theorem dX4_firstDirection_38 : decode cX4_firstDirection 38 = .ok (.lcmp, 1) := dTX4_firstDirection_0_ok 24 (38, .lcmp, 1) rfl
theorem dX4_firstDirection_39 : decode cX4_firstDirection 39 = .ok (.ifCond .eq 5, 3) := dTX4_firstDirection_0_ok 25 (39, .ifCond .eq 5, 3) rfl
theorem dX4_firstDirection_42 : decode cX4_firstDirection 42 = .ok (.iload_n 2, 1) := dTX4_firstDirection_0_ok 26 (42, .iload_n 2, 1) rfl
theorem dX4_firstDirection_43 : decode cX4_firstDirection 43 = .ok (.ireturn, 1) := dTX4_firstDirection_0_ok 27 (43, .ireturn, 1) rfl
theorem dX4_firstDirection_44 : decode cX4_firstDirection 44 = .ok (.iinc 2 1, 3) := dTX4_firstDirection_0_ok 28 (44, .iinc 2 1, 3) rfl
theorem dX4_firstDirection_47 : decode cX4_firstDirection 47 = .ok (.goto (-45), 3) := dTX4_firstDirection_0_ok 29 (47, .goto (-45), 3) rfl
theorem dX4_firstDirection_50 : decode cX4_firstDirection 50 = .ok (.iconst 0, 1) := dTX4_firstDirection_0_ok 30 (50, .iconst 0, 1) rfl
theorem dX4_firstDirection_51 : decode cX4_firstDirection 51 = .ok (.istore_n 2, 1) := dTX4_firstDirection_0_ok 31 (51, .istore_n 2, 1) rfl
theorem dX4_firstDirection_52 : decode cX4_firstDirection 52 = .ok (.iload_n 2, 1) := dTX4_firstDirection_0_ok 32 (52, .iload_n 2, 1) rfl
theorem dX4_firstDirection_53 : decode cX4_firstDirection 53 = .ok (.iconst 4, 1) := dTX4_firstDirection_0_ok 33 (53, .iconst 4, 1) rfl
theorem dX4_firstDirection_54 : decode cX4_firstDirection 54 = .ok (.if_icmp .ge 44, 3) := dTX4_firstDirection_0_ok 34 (54, .if_icmp .ge 44, 3) rfl
theorem dX4_firstDirection_57 : decode cX4_firstDirection 57 = .ok (.aload_n 0, 1) := dTX4_firstDirection_0_ok 35 (57, .aload_n 0, 1) rfl
theorem dX4_firstDirection_58 : decode cX4_firstDirection 58 = .ok (.getfield 15, 3) := dTX4_firstDirection_0_ok 36 (58, .getfield 15, 3) rfl
theorem dX4_firstDirection_61 : decode cX4_firstDirection 61 = .ok (.aload_n 1, 1) := dTX4_firstDirection_0_ok 37 (61, .aload_n 1, 1) rfl
theorem dX4_firstDirection_62 : decode cX4_firstDirection 62 = .ok (.iload_n 2, 1) := dTX4_firstDirection_0_ok 38 (62, .iload_n 2, 1) rfl
theorem dX4_firstDirection_63 : decode cX4_firstDirection 63 = .ok (.invokevirtual 42, 3) := dTX4_firstDirection_0_ok 39 (63, .invokevirtual 42, 3) rfl
theorem dX4_firstDirection_66 : decode cX4_firstDirection 66 = .ok (.land, 1) := dTX4_firstDirection_0_ok 40 (66, .land, 1) rfl
theorem dX4_firstDirection_67 : decode cX4_firstDirection 67 = .ok (.lstore_n 3, 1) := dTX4_firstDirection_0_ok 41 (67, .lstore_n 3, 1) rfl
theorem dX4_firstDirection_68 : decode cX4_firstDirection 68 = .ok (.aload_n 0, 1) := dTX4_firstDirection_0_ok 42 (68, .aload_n 0, 1) rfl
theorem dX4_firstDirection_69 : decode cX4_firstDirection 69 = .ok (.getfield 21, 3) := dTX4_firstDirection_0_ok 43 (69, .getfield 21, 3) rfl
theorem dX4_firstDirection_72 : decode cX4_firstDirection 72 = .ok (.ifCond .eq 20, 3) := dTX4_firstDirection_0_ok 44 (72, .ifCond .eq 20, 3) rfl
theorem dX4_firstDirection_75 : decode cX4_firstDirection 75 = .ok (.lload_n 3, 1) := dTX4_firstDirection_0_ok 45 (75, .lload_n 3, 1) rfl
theorem dX4_firstDirection_76 : decode cX4_firstDirection 76 = .ok (.iload_n 2, 1) := dTX4_firstDirection_0_ok 46 (76, .iload_n 2, 1) rfl
theorem dX4_firstDirection_77 : decode cX4_firstDirection 77 = .ok (.invokestatic 45, 3) := dTX4_firstDirection_0_ok 47 (77, .invokestatic 45, 3) rfl
theorem dX4_firstDirection_80 : decode cX4_firstDirection 80 = .ok (.aload_n 0, 1) := dTX4_firstDirection_0_ok 48 (80, .aload_n 0, 1) rfl
theorem dX4_firstDirection_81 : decode cX4_firstDirection 81 = .ok (.getfield 32, 3) := dTX4_firstDirection_0_ok 49 (81, .getfield 32, 3) rfl
theorem dX4_firstDirection_84 : decode cX4_firstDirection 84 = .ok (.land, 1) := dTX4_firstDirection_0_ok 50 (84, .land, 1) rfl
theorem dX4_firstDirection_85 : decode cX4_firstDirection 85 = .ok (.lconst 0, 1) := dTX4_firstDirection_0_ok 51 (85, .lconst 0, 1) rfl
theorem dX4_firstDirection_86 : decode cX4_firstDirection 86 = .ok (.lcmp, 1) := dTX4_firstDirection_0_ok 52 (86, .lcmp, 1) rfl
theorem dX4_firstDirection_87 : decode cX4_firstDirection 87 = .ok (.ifCond .eq 5, 3) := dTX4_firstDirection_0_ok 53 (87, .ifCond .eq 5, 3) rfl
theorem dX4_firstDirection_90 : decode cX4_firstDirection 90 = .ok (.iload_n 2, 1) := dTX4_firstDirection_0_ok 54 (90, .iload_n 2, 1) rfl
theorem dX4_firstDirection_91 : decode cX4_firstDirection 91 = .ok (.ireturn, 1) := dTX4_firstDirection_0_ok 55 (91, .ireturn, 1) rfl
theorem dX4_firstDirection_92 : decode cX4_firstDirection 92 = .ok (.iinc 2 1, 3) := dTX4_firstDirection_0_ok 56 (92, .iinc 2 1, 3) rfl
theorem dX4_firstDirection_95 : decode cX4_firstDirection 95 = .ok (.goto (-43), 3) := dTX4_firstDirection_0_ok 57 (95, .goto (-43), 3) rfl
theorem dX4_firstDirection_98 : decode cX4_firstDirection 98 = .ok (.iconst (-1), 1) := dTX4_firstDirection_0_ok 58 (98, .iconst (-1), 1) rfl
theorem dX4_firstDirection_99 : decode cX4_firstDirection 99 = .ok (.ireturn, 1) := dTX4_firstDirection_0_ok 59 (99, .ireturn, 1) rfl
noncomputable def dTX5_init_0 : List (Nat × Instr × Nat) := [(0, .aload_n 0, 1), (1, .invokespecial 1, 3), (4, .aload_n 0, 1), (5, .new 7, 3), (8, .dup, 1), (9, .invokespecial 9, 3), (12, .putfield 10, 3), (15, .aload_n 0, 1), (16, .new 7, 3), (19, .dup, 1), (20, .invokespecial 9, 3), (23, .putfield 16, 3), (26, .return_, 1)]
theorem dTX5_init_0_ok : ∀ (k : Nat) (q : Nat × Instr × Nat), dTX5_init_0[k]? = some q → decode cX5_init q.1 = .ok q.2 := dT_of (by decide +kernel)
theorem dX5_init_0 : decode cX5_init 0 = .ok (.aload_n 0, 1) := dTX5_init_0_ok 0 (0, .aload_n 0, 1) rfl
theorem dX5_init_1 : decode cX5_init 1 = .ok (.invokespecial 1, 3) := dTX5_init_0_ok 1 (1, .invokespecial 1, 3) rfl
theorem dX5_init_4 : decode cX5_init 4 = .ok (.aload_n 0, 1) := dTX5_init_0_ok 2 (4, .aload_n 0, 1) rfl
theorem dX5_init_5 : decode cX5_init 5 = .ok (.new 7, 3) := dTX5_init_0_ok 3 (5, .new 7, 3) rfl
theorem dX5_init_8 : decode cX5_init 8 = .ok (.dup, 1) := dTX5_init_0_ok 4 (8, .dup, 1) rfl
theorem dX5_init_9 : decode cX5_init 9 = .ok (.invokespecial 9, 3) := dTX5_init_0_ok 5 (9, .invokespecial 9, 3) rfl
theorem dX5_init_12 : decode cX5_init 12 = .ok (.putfield 10, 3) := dTX5_init_0_ok 6 (12, .putfield 10, 3) rfl
theorem dX5_init_15 : decode cX5_init 15 = .ok (.aload_n 0, 1) := dTX5_init_0_ok 7 (15, .aload_n 0, 1) rfl
theorem dX5_init_16 : decode cX5_init 16 = .ok (.new 7, 3) := dTX5_init_0_ok 8 (16, .new 7, 3) rfl
theorem dX5_init_19 : decode cX5_init 19 = .ok (.dup, 1) := dTX5_init_0_ok 9 (19, .dup, 1) rfl
theorem dX5_init_20 : decode cX5_init 20 = .ok (.invokespecial 9, 3) := dTX5_init_0_ok 10 (20, .invokespecial 9, 3) rfl
theorem dX5_init_23 : decode cX5_init 23 = .ok (.putfield 16, 3) := dTX5_init_0_ok 11 (23, .putfield 16, 3) rfl
theorem dX5_init_26 : decode cX5_init 26 = .ok (.return_, 1) := dTX5_init_0_ok 12 (26, .return_, 1) rfl
noncomputable def dTX5_wall_0 : List (Nat × Instr × Nat) := [(0, .iload_n 1, 1), (1, .iload_n 2, 1), (2, .invokestatic 19, 3), (5, .istore 4, 2), (7, .iload_n 3, 1), (8, .invokestatic 23, 3), (11, .iload 4, 2), (13, .iload_n 3, 1), (14, .invokestatic 27, 3), (17, .ifCond .eq 13, 3), (20, .new 33, 3), (23, .dup, 1), (24, .ldc 35, 2), (26, .invokespecial 37, 3), (29, .athrow, 1), (30, .aload_n 0, 1), (31, .getfield 10, 3), (34, .getfield 40, 3), (37, .iload 4, 2), (39, .iload_n 3, 1), (40, .invokevirtual 44, 3), (43, .aload_n 0, 1), (44, .getfield 10, 3), (47, .getfield 40, 3), (50, .iload 4, 2), (52, .iload_n 3, 1), (53, .invokevirtual 50, 3), (56, .ireturn, 1)]
theorem dTX5_wall_0_ok : ∀ (k : Nat) (q : Nat × Instr × Nat), dTX5_wall_0[k]? = some q → decode cX5_wall q.1 = .ok q.2 := dT_of (by decide +kernel)
theorem dX5_wall_0 : decode cX5_wall 0 = .ok (.iload_n 1, 1) := dTX5_wall_0_ok 0 (0, .iload_n 1, 1) rfl
theorem dX5_wall_1 : decode cX5_wall 1 = .ok (.iload_n 2, 1) := dTX5_wall_0_ok 1 (1, .iload_n 2, 1) rfl
theorem dX5_wall_2 : decode cX5_wall 2 = .ok (.invokestatic 19, 3) := dTX5_wall_0_ok 2 (2, .invokestatic 19, 3) rfl
theorem dX5_wall_5 : decode cX5_wall 5 = .ok (.istore 4, 2) := dTX5_wall_0_ok 3 (5, .istore 4, 2) rfl
theorem dX5_wall_7 : decode cX5_wall 7 = .ok (.iload_n 3, 1) := dTX5_wall_0_ok 4 (7, .iload_n 3, 1) rfl
theorem dX5_wall_8 : decode cX5_wall 8 = .ok (.invokestatic 23, 3) := dTX5_wall_0_ok 5 (8, .invokestatic 23, 3) rfl
theorem dX5_wall_11 : decode cX5_wall 11 = .ok (.iload 4, 2) := dTX5_wall_0_ok 6 (11, .iload 4, 2) rfl
theorem dX5_wall_13 : decode cX5_wall 13 = .ok (.iload_n 3, 1) := dTX5_wall_0_ok 7 (13, .iload_n 3, 1) rfl
theorem dX5_wall_14 : decode cX5_wall 14 = .ok (.invokestatic 27, 3) := dTX5_wall_0_ok 8 (14, .invokestatic 27, 3) rfl
theorem dX5_wall_17 : decode cX5_wall 17 = .ok (.ifCond .eq 13, 3) := dTX5_wall_0_ok 9 (17, .ifCond .eq 13, 3) rfl
theorem dX5_wall_20 : decode cX5_wall 20 = .ok (.new 33, 3) := dTX5_wall_0_ok 10 (20, .new 33, 3) rfl
theorem dX5_wall_23 : decode cX5_wall 23 = .ok (.dup, 1) := dTX5_wall_0_ok 11 (23, .dup, 1) rfl
theorem dX5_wall_24 : decode cX5_wall 24 = .ok (.ldc 35, 2) := dTX5_wall_0_ok 12 (24, .ldc 35, 2) rfl
theorem dX5_wall_26 : decode cX5_wall 26 = .ok (.invokespecial 37, 3) := dTX5_wall_0_ok 13 (26, .invokespecial 37, 3) rfl
theorem dX5_wall_29 : decode cX5_wall 29 = .ok (.athrow, 1) := dTX5_wall_0_ok 14 (29, .athrow, 1) rfl
theorem dX5_wall_30 : decode cX5_wall 30 = .ok (.aload_n 0, 1) := dTX5_wall_0_ok 15 (30, .aload_n 0, 1) rfl
theorem dX5_wall_31 : decode cX5_wall 31 = .ok (.getfield 10, 3) := dTX5_wall_0_ok 16 (31, .getfield 10, 3) rfl
theorem dX5_wall_34 : decode cX5_wall 34 = .ok (.getfield 40, 3) := dTX5_wall_0_ok 17 (34, .getfield 40, 3) rfl
theorem dX5_wall_37 : decode cX5_wall 37 = .ok (.iload 4, 2) := dTX5_wall_0_ok 18 (37, .iload 4, 2) rfl
theorem dX5_wall_39 : decode cX5_wall 39 = .ok (.iload_n 3, 1) := dTX5_wall_0_ok 19 (39, .iload_n 3, 1) rfl
theorem dX5_wall_40 : decode cX5_wall 40 = .ok (.invokevirtual 44, 3) := dTX5_wall_0_ok 20 (40, .invokevirtual 44, 3) rfl
theorem dX5_wall_43 : decode cX5_wall 43 = .ok (.aload_n 0, 1) := dTX5_wall_0_ok 21 (43, .aload_n 0, 1) rfl
theorem dX5_wall_44 : decode cX5_wall 44 = .ok (.getfield 10, 3) := dTX5_wall_0_ok 22 (44, .getfield 10, 3) rfl
theorem dX5_wall_47 : decode cX5_wall 47 = .ok (.getfield 40, 3) := dTX5_wall_0_ok 23 (47, .getfield 40, 3) rfl
theorem dX5_wall_50 : decode cX5_wall 50 = .ok (.iload 4, 2) := dTX5_wall_0_ok 24 (50, .iload 4, 2) rfl
theorem dX5_wall_52 : decode cX5_wall 52 = .ok (.iload_n 3, 1) := dTX5_wall_0_ok 25 (52, .iload_n 3, 1) rfl
theorem dX5_wall_53 : decode cX5_wall 53 = .ok (.invokevirtual 50, 3) := dTX5_wall_0_ok 26 (53, .invokevirtual 50, 3) rfl
theorem dX5_wall_56 : decode cX5_wall 56 = .ok (.ireturn, 1) := dTX5_wall_0_ok 27 (56, .ireturn, 1) rfl
noncomputable def dTX5_candle_0 : List (Nat × Instr × Nat) := [(0, .iload_n 1, 1), (1, .iload_n 2, 1), (2, .invokestatic 19, 3), (5, .istore 4, 2), (7, .iload_n 3, 1), (8, .iconst 1, 1), (9, .if_icmp .lt 9, 3), (12, .iload_n 3, 1), (13, .bipush 60, 2), (15, .if_icmp .le 13, 3), (18, .new 53, 3), (21, .dup, 1), (22, .ldc 55, 2), (24, .invokespecial 57, 3), (27, .athrow, 1), (28, .aload_n 0, 1), (29, .aload_n 0, 1), (30, .getfield 10, 3), (33, .getfield 40, 3), (36, .invokevirtual 58, 3), (39, .bipush 10, 2), (41, .iload 4, 2), (43, .invokevirtual 62, 3), (46, .aload_n 0, 1), (47, .getfield 10, 3), (50, .getfield 40, 3), (53, .iload 4, 2), (55, .iload_n 3, 1), (56, .invokevirtual 66, 3), (59, .aload_n 0, 1), (60, .getfield 10, 3), (63, .getfield 40, 3), (66, .invokevirtual 58, 3), (69, .ireturn, 1)]
theorem dTX5_candle_0_ok : ∀ (k : Nat) (q : Nat × Instr × Nat), dTX5_candle_0[k]? = some q → decode cX5_candle q.1 = .ok q.2 := dT_of (by decide +kernel)
theorem dX5_candle_0 : decode cX5_candle 0 = .ok (.iload_n 1, 1) := dTX5_candle_0_ok 0 (0, .iload_n 1, 1) rfl
theorem dX5_candle_1 : decode cX5_candle 1 = .ok (.iload_n 2, 1) := dTX5_candle_0_ok 1 (1, .iload_n 2, 1) rfl
theorem dX5_candle_2 : decode cX5_candle 2 = .ok (.invokestatic 19, 3) := dTX5_candle_0_ok 2 (2, .invokestatic 19, 3) rfl
theorem dX5_candle_5 : decode cX5_candle 5 = .ok (.istore 4, 2) := dTX5_candle_0_ok 3 (5, .istore 4, 2) rfl
theorem dX5_candle_7 : decode cX5_candle 7 = .ok (.iload_n 3, 1) := dTX5_candle_0_ok 4 (7, .iload_n 3, 1) rfl
theorem dX5_candle_8 : decode cX5_candle 8 = .ok (.iconst 1, 1) := dTX5_candle_0_ok 5 (8, .iconst 1, 1) rfl
theorem dX5_candle_9 : decode cX5_candle 9 = .ok (.if_icmp .lt 9, 3) := dTX5_candle_0_ok 6 (9, .if_icmp .lt 9, 3) rfl
theorem dX5_candle_12 : decode cX5_candle 12 = .ok (.iload_n 3, 1) := dTX5_candle_0_ok 7 (12, .iload_n 3, 1) rfl
theorem dX5_candle_13 : decode cX5_candle 13 = .ok (.bipush 60, 2) := dTX5_candle_0_ok 8 (13, .bipush 60, 2) rfl
theorem dX5_candle_15 : decode cX5_candle 15 = .ok (.if_icmp .le 13, 3) := dTX5_candle_0_ok 9 (15, .if_icmp .le 13, 3) rfl
theorem dX5_candle_18 : decode cX5_candle 18 = .ok (.new 53, 3) := dTX5_candle_0_ok 10 (18, .new 53, 3) rfl
theorem dX5_candle_21 : decode cX5_candle 21 = .ok (.dup, 1) := dTX5_candle_0_ok 11 (21, .dup, 1) rfl
theorem dX5_candle_22 : decode cX5_candle 22 = .ok (.ldc 55, 2) := dTX5_candle_0_ok 12 (22, .ldc 55, 2) rfl
theorem dX5_candle_24 : decode cX5_candle 24 = .ok (.invokespecial 57, 3) := dTX5_candle_0_ok 13 (24, .invokespecial 57, 3) rfl
theorem dX5_candle_27 : decode cX5_candle 27 = .ok (.athrow, 1) := dTX5_candle_0_ok 14 (27, .athrow, 1) rfl
theorem dX5_candle_28 : decode cX5_candle 28 = .ok (.aload_n 0, 1) := dTX5_candle_0_ok 15 (28, .aload_n 0, 1) rfl
theorem dX5_candle_29 : decode cX5_candle 29 = .ok (.aload_n 0, 1) := dTX5_candle_0_ok 16 (29, .aload_n 0, 1) rfl
theorem dX5_candle_30 : decode cX5_candle 30 = .ok (.getfield 10, 3) := dTX5_candle_0_ok 17 (30, .getfield 10, 3) rfl
theorem dX5_candle_33 : decode cX5_candle 33 = .ok (.getfield 40, 3) := dTX5_candle_0_ok 18 (33, .getfield 40, 3) rfl
theorem dX5_candle_36 : decode cX5_candle 36 = .ok (.invokevirtual 58, 3) := dTX5_candle_0_ok 19 (36, .invokevirtual 58, 3) rfl
theorem dX5_candle_39 : decode cX5_candle 39 = .ok (.bipush 10, 2) := dTX5_candle_0_ok 20 (39, .bipush 10, 2) rfl
theorem dX5_candle_41 : decode cX5_candle 41 = .ok (.iload 4, 2) := dTX5_candle_0_ok 21 (41, .iload 4, 2) rfl
theorem dX5_candle_43 : decode cX5_candle 43 = .ok (.invokevirtual 62, 3) := dTX5_candle_0_ok 22 (43, .invokevirtual 62, 3) rfl
theorem dX5_candle_46 : decode cX5_candle 46 = .ok (.aload_n 0, 1) := dTX5_candle_0_ok 23 (46, .aload_n 0, 1) rfl
theorem dX5_candle_47 : decode cX5_candle 47 = .ok (.getfield 10, 3) := dTX5_candle_0_ok 24 (47, .getfield 10, 3) rfl
theorem dX5_candle_50 : decode cX5_candle 50 = .ok (.getfield 40, 3) := dTX5_candle_0_ok 25 (50, .getfield 40, 3) rfl
theorem dX5_candle_53 : decode cX5_candle 53 = .ok (.iload 4, 2) := dTX5_candle_0_ok 26 (53, .iload 4, 2) rfl
theorem dX5_candle_55 : decode cX5_candle 55 = .ok (.iload_n 3, 1) := dTX5_candle_0_ok 27 (55, .iload_n 3, 1) rfl
theorem dX5_candle_56 : decode cX5_candle 56 = .ok (.invokevirtual 66, 3) := dTX5_candle_0_ok 28 (56, .invokevirtual 66, 3) rfl
theorem dX5_candle_59 : decode cX5_candle 59 = .ok (.aload_n 0, 1) := dTX5_candle_0_ok 29 (59, .aload_n 0, 1) rfl
theorem dX5_candle_60 : decode cX5_candle 60 = .ok (.getfield 10, 3) := dTX5_candle_0_ok 30 (60, .getfield 10, 3) rfl
theorem dX5_candle_63 : decode cX5_candle 63 = .ok (.getfield 40, 3) := dTX5_candle_0_ok 31 (63, .getfield 40, 3) rfl
theorem dX5_candle_66 : decode cX5_candle 66 = .ok (.invokevirtual 58, 3) := dTX5_candle_0_ok 32 (66, .invokevirtual 58, 3) rfl
theorem dX5_candle_69 : decode cX5_candle 69 = .ok (.ireturn, 1) := dTX5_candle_0_ok 33 (69, .ireturn, 1) rfl
noncomputable def dTX5_mirror_0 : List (Nat × Instr × Nat) := [(0, .iload_n 1, 1), (1, .iload_n 2, 1), (2, .invokestatic 19, 3), (5, .istore 4, 2), (7, .aload_n 0, 1), (8, .aload_n 0, 1), (9, .getfield 10, 3), (12, .getfield 40, 3), (15, .invokevirtual 69, 3), (18, .bipush 10, 2), (20, .iload 4, 2), (22, .invokevirtual 62, 3), (25, .aload_n 0, 1), (26, .getfield 10, 3), (29, .getfield 40, 3), (32, .iload 4, 2), (34, .iload_n 3, 1), (35, .invokevirtual 72, 3), (38, .aload_n 0, 1), (39, .getfield 10, 3), (42, .getfield 40, 3), (45, .invokevirtual 69, 3), (48, .ireturn, 1)]
theorem dTX5_mirror_0_ok : ∀ (k : Nat) (q : Nat × Instr × Nat), dTX5_mirror_0[k]? = some q → decode cX5_mirror q.1 = .ok q.2 := dT_of (by decide +kernel)
theorem dX5_mirror_0 : decode cX5_mirror 0 = .ok (.iload_n 1, 1) := dTX5_mirror_0_ok 0 (0, .iload_n 1, 1) rfl
theorem dX5_mirror_1 : decode cX5_mirror 1 = .ok (.iload_n 2, 1) := dTX5_mirror_0_ok 1 (1, .iload_n 2, 1) rfl
theorem dX5_mirror_2 : decode cX5_mirror 2 = .ok (.invokestatic 19, 3) := dTX5_mirror_0_ok 2 (2, .invokestatic 19, 3) rfl
theorem dX5_mirror_5 : decode cX5_mirror 5 = .ok (.istore 4, 2) := dTX5_mirror_0_ok 3 (5, .istore 4, 2) rfl
theorem dX5_mirror_7 : decode cX5_mirror 7 = .ok (.aload_n 0, 1) := dTX5_mirror_0_ok 4 (7, .aload_n 0, 1) rfl
theorem dX5_mirror_8 : decode cX5_mirror 8 = .ok (.aload_n 0, 1) := dTX5_mirror_0_ok 5 (8, .aload_n 0, 1) rfl
theorem dX5_mirror_9 : decode cX5_mirror 9 = .ok (.getfield 10, 3) := dTX5_mirror_0_ok 6 (9, .getfield 10, 3) rfl
theorem dX5_mirror_12 : decode cX5_mirror 12 = .ok (.getfield 40, 3) := dTX5_mirror_0_ok 7 (12, .getfield 40, 3) rfl
theorem dX5_mirror_15 : decode cX5_mirror 15 = .ok (.invokevirtual 69, 3) := dTX5_mirror_0_ok 8 (15, .invokevirtual 69, 3) rfl
theorem dX5_mirror_18 : decode cX5_mirror 18 = .ok (.bipush 10, 2) := dTX5_mirror_0_ok 9 (18, .bipush 10, 2) rfl
theorem dX5_mirror_20 : decode cX5_mirror 20 = .ok (.iload 4, 2) := dTX5_mirror_0_ok 10 (20, .iload 4, 2) rfl
theorem dX5_mirror_22 : decode cX5_mirror 22 = .ok (.invokevirtual 62, 3) := dTX5_mirror_0_ok 11 (22, .invokevirtual 62, 3) rfl
theorem dX5_mirror_25 : decode cX5_mirror 25 = .ok (.aload_n 0, 1) := dTX5_mirror_0_ok 12 (25, .aload_n 0, 1) rfl
theorem dX5_mirror_26 : decode cX5_mirror 26 = .ok (.getfield 10, 3) := dTX5_mirror_0_ok 13 (26, .getfield 10, 3) rfl
theorem dX5_mirror_29 : decode cX5_mirror 29 = .ok (.getfield 40, 3) := dTX5_mirror_0_ok 14 (29, .getfield 40, 3) rfl
theorem dX5_mirror_32 : decode cX5_mirror 32 = .ok (.iload 4, 2) := dTX5_mirror_0_ok 15 (32, .iload 4, 2) rfl
theorem dX5_mirror_34 : decode cX5_mirror 34 = .ok (.iload_n 3, 1) := dTX5_mirror_0_ok 16 (34, .iload_n 3, 1) rfl
theorem dX5_mirror_35 : decode cX5_mirror 35 = .ok (.invokevirtual 72, 3) := dTX5_mirror_0_ok 17 (35, .invokevirtual 72, 3) rfl
theorem dX5_mirror_38 : decode cX5_mirror 38 = .ok (.aload_n 0, 1) := dTX5_mirror_0_ok 18 (38, .aload_n 0, 1) rfl
theorem dX5_mirror_39 : decode cX5_mirror 39 = .ok (.getfield 10, 3) := dTX5_mirror_0_ok 19 (39, .getfield 10, 3) rfl
theorem dX5_mirror_42 : decode cX5_mirror 42 = .ok (.getfield 40, 3) := dTX5_mirror_0_ok 20 (42, .getfield 40, 3) rfl
theorem dX5_mirror_45 : decode cX5_mirror 45 = .ok (.invokevirtual 69, 3) := dTX5_mirror_0_ok 21 (45, .invokevirtual 69, 3) rfl
theorem dX5_mirror_48 : decode cX5_mirror 48 = .ok (.ireturn, 1) := dTX5_mirror_0_ok 22 (48, .ireturn, 1) rfl
noncomputable def dTX5_tally_0 : List (Nat × Instr × Nat) := [(0, .iload_n 1, 1), (1, .iload_n 2, 1), (2, .invokestatic 19, 3), (5, .istore_n 3, 1), (6, .aload_n 0, 1), (7, .aload_n 0, 1), (8, .getfield 10, 3), (11, .getfield 40, 3), (14, .invokevirtual 76, 3), (17, .bipush 6, 2), (19, .iload_n 3, 1), (20, .invokevirtual 62, 3), (23, .aload_n 0, 1), (24, .getfield 10, 3), (27, .getfield 40, 3), (30, .iload_n 3, 1), (31, .invokevirtual 79, 3), (34, .aload_n 0, 1), (35, .getfield 10, 3), (38, .getfield 40, 3), (41, .invokevirtual 76, 3), (44, .ireturn, 1)]
theorem dTX5_tally_0_ok : ∀ (k : Nat) (q : Nat × Instr × Nat), dTX5_tally_0[k]? = some q → decode cX5_tally q.1 = .ok q.2 := dT_of (by decide +kernel)
theorem dX5_tally_0 : decode cX5_tally 0 = .ok (.iload_n 1, 1) := dTX5_tally_0_ok 0 (0, .iload_n 1, 1) rfl
theorem dX5_tally_1 : decode cX5_tally 1 = .ok (.iload_n 2, 1) := dTX5_tally_0_ok 1 (1, .iload_n 2, 1) rfl
theorem dX5_tally_2 : decode cX5_tally 2 = .ok (.invokestatic 19, 3) := dTX5_tally_0_ok 2 (2, .invokestatic 19, 3) rfl
theorem dX5_tally_5 : decode cX5_tally 5 = .ok (.istore_n 3, 1) := dTX5_tally_0_ok 3 (5, .istore_n 3, 1) rfl
theorem dX5_tally_6 : decode cX5_tally 6 = .ok (.aload_n 0, 1) := dTX5_tally_0_ok 4 (6, .aload_n 0, 1) rfl
theorem dX5_tally_7 : decode cX5_tally 7 = .ok (.aload_n 0, 1) := dTX5_tally_0_ok 5 (7, .aload_n 0, 1) rfl
theorem dX5_tally_8 : decode cX5_tally 8 = .ok (.getfield 10, 3) := dTX5_tally_0_ok 6 (8, .getfield 10, 3) rfl
theorem dX5_tally_11 : decode cX5_tally 11 = .ok (.getfield 40, 3) := dTX5_tally_0_ok 7 (11, .getfield 40, 3) rfl
theorem dX5_tally_14 : decode cX5_tally 14 = .ok (.invokevirtual 76, 3) := dTX5_tally_0_ok 8 (14, .invokevirtual 76, 3) rfl
theorem dX5_tally_17 : decode cX5_tally 17 = .ok (.bipush 6, 2) := dTX5_tally_0_ok 9 (17, .bipush 6, 2) rfl
theorem dX5_tally_19 : decode cX5_tally 19 = .ok (.iload_n 3, 1) := dTX5_tally_0_ok 10 (19, .iload_n 3, 1) rfl
theorem dX5_tally_20 : decode cX5_tally 20 = .ok (.invokevirtual 62, 3) := dTX5_tally_0_ok 11 (20, .invokevirtual 62, 3) rfl
theorem dX5_tally_23 : decode cX5_tally 23 = .ok (.aload_n 0, 1) := dTX5_tally_0_ok 12 (23, .aload_n 0, 1) rfl
theorem dX5_tally_24 : decode cX5_tally 24 = .ok (.getfield 10, 3) := dTX5_tally_0_ok 13 (24, .getfield 10, 3) rfl
theorem dX5_tally_27 : decode cX5_tally 27 = .ok (.getfield 40, 3) := dTX5_tally_0_ok 14 (27, .getfield 40, 3) rfl
theorem dX5_tally_30 : decode cX5_tally 30 = .ok (.iload_n 3, 1) := dTX5_tally_0_ok 15 (30, .iload_n 3, 1) rfl
theorem dX5_tally_31 : decode cX5_tally 31 = .ok (.invokevirtual 79, 3) := dTX5_tally_0_ok 16 (31, .invokevirtual 79, 3) rfl
theorem dX5_tally_34 : decode cX5_tally 34 = .ok (.aload_n 0, 1) := dTX5_tally_0_ok 17 (34, .aload_n 0, 1) rfl
theorem dX5_tally_35 : decode cX5_tally 35 = .ok (.getfield 10, 3) := dTX5_tally_0_ok 18 (35, .getfield 10, 3) rfl
theorem dX5_tally_38 : decode cX5_tally 38 = .ok (.getfield 40, 3) := dTX5_tally_0_ok 19 (38, .getfield 40, 3) rfl
theorem dX5_tally_41 : decode cX5_tally 41 = .ok (.invokevirtual 76, 3) := dTX5_tally_0_ok 20 (41, .invokevirtual 76, 3) rfl
theorem dX5_tally_44 : decode cX5_tally 44 = .ok (.ireturn, 1) := dTX5_tally_0_ok 21 (44, .ireturn, 1) rfl
noncomputable def dTX5_remove_0 : List (Nat × Instr × Nat) := [(0, .iload_n 1, 1), (1, .iload_n 2, 1), (2, .invokestatic 19, 3), (5, .istore_n 3, 1), (6, .aload_n 0, 1), (7, .getfield 10, 3), (10, .getfield 40, 3), (13, .iload_n 3, 1), (14, .invokevirtual 82, 3), (17, .istore 4, 2), (19, .iload 4, 2), (21, .ifCond .ne 13, 3), (24, .new 33, 3), (27, .dup, 1), (28, .ldc 86, 2), (30, .invokespecial 37, 3), (33, .athrow, 1), (34, .aload_n 0, 1), (35, .getfield 10, 3), (38, .getfield 40, 3), (41, .iload_n 3, 1), (42, .invokevirtual 88, 3), (45, .iload 4, 2), (47, .ireturn, 1)]
theorem dTX5_remove_0_ok : ∀ (k : Nat) (q : Nat × Instr × Nat), dTX5_remove_0[k]? = some q → decode cX5_remove q.1 = .ok q.2 := dT_of (by decide +kernel)
theorem dX5_remove_0 : decode cX5_remove 0 = .ok (.iload_n 1, 1) := dTX5_remove_0_ok 0 (0, .iload_n 1, 1) rfl
theorem dX5_remove_1 : decode cX5_remove 1 = .ok (.iload_n 2, 1) := dTX5_remove_0_ok 1 (1, .iload_n 2, 1) rfl
theorem dX5_remove_2 : decode cX5_remove 2 = .ok (.invokestatic 19, 3) := dTX5_remove_0_ok 2 (2, .invokestatic 19, 3) rfl
theorem dX5_remove_5 : decode cX5_remove 5 = .ok (.istore_n 3, 1) := dTX5_remove_0_ok 3 (5, .istore_n 3, 1) rfl
theorem dX5_remove_6 : decode cX5_remove 6 = .ok (.aload_n 0, 1) := dTX5_remove_0_ok 4 (6, .aload_n 0, 1) rfl
theorem dX5_remove_7 : decode cX5_remove 7 = .ok (.getfield 10, 3) := dTX5_remove_0_ok 5 (7, .getfield 10, 3) rfl
theorem dX5_remove_10 : decode cX5_remove 10 = .ok (.getfield 40, 3) := dTX5_remove_0_ok 6 (10, .getfield 40, 3) rfl
theorem dX5_remove_13 : decode cX5_remove 13 = .ok (.iload_n 3, 1) := dTX5_remove_0_ok 7 (13, .iload_n 3, 1) rfl
theorem dX5_remove_14 : decode cX5_remove 14 = .ok (.invokevirtual 82, 3) := dTX5_remove_0_ok 8 (14, .invokevirtual 82, 3) rfl
theorem dX5_remove_17 : decode cX5_remove 17 = .ok (.istore 4, 2) := dTX5_remove_0_ok 9 (17, .istore 4, 2) rfl
theorem dX5_remove_19 : decode cX5_remove 19 = .ok (.iload 4, 2) := dTX5_remove_0_ok 10 (19, .iload 4, 2) rfl
theorem dX5_remove_21 : decode cX5_remove 21 = .ok (.ifCond .ne 13, 3) := dTX5_remove_0_ok 11 (21, .ifCond .ne 13, 3) rfl
theorem dX5_remove_24 : decode cX5_remove 24 = .ok (.new 33, 3) := dTX5_remove_0_ok 12 (24, .new 33, 3) rfl
theorem dX5_remove_27 : decode cX5_remove 27 = .ok (.dup, 1) := dTX5_remove_0_ok 13 (27, .dup, 1) rfl
theorem dX5_remove_28 : decode cX5_remove 28 = .ok (.ldc 86, 2) := dTX5_remove_0_ok 14 (28, .ldc 86, 2) rfl
theorem dX5_remove_30 : decode cX5_remove 30 = .ok (.invokespecial 37, 3) := dTX5_remove_0_ok 15 (30, .invokespecial 37, 3) rfl
theorem dX5_remove_33 : decode cX5_remove 33 = .ok (.athrow, 1) := dTX5_remove_0_ok 16 (33, .athrow, 1) rfl
theorem dX5_remove_34 : decode cX5_remove 34 = .ok (.aload_n 0, 1) := dTX5_remove_0_ok 17 (34, .aload_n 0, 1) rfl
theorem dX5_remove_35 : decode cX5_remove 35 = .ok (.getfield 10, 3) := dTX5_remove_0_ok 18 (35, .getfield 10, 3) rfl
theorem dX5_remove_38 : decode cX5_remove 38 = .ok (.getfield 40, 3) := dTX5_remove_0_ok 19 (38, .getfield 40, 3) rfl
theorem dX5_remove_41 : decode cX5_remove 41 = .ok (.iload_n 3, 1) := dTX5_remove_0_ok 20 (41, .iload_n 3, 1) rfl
theorem dX5_remove_42 : decode cX5_remove 42 = .ok (.invokevirtual 88, 3) := dTX5_remove_0_ok 21 (42, .invokevirtual 88, 3) rfl
theorem dX5_remove_45 : decode cX5_remove 45 = .ok (.iload 4, 2) := dTX5_remove_0_ok 22 (45, .iload 4, 2) rfl
theorem dX5_remove_47 : decode cX5_remove 47 = .ok (.ireturn, 1) := dTX5_remove_0_ok 23 (47, .ireturn, 1) rfl
noncomputable def dTX5_light_0 : List (Nat × Instr × Nat) := [(0, .iload_n 1, 1), (1, .iload_n 2, 1), (2, .invokestatic 19, 3), (5, .istore_n 3, 1), (6, .aload_n 0, 1), (7, .getfield 10, 3), (10, .getfield 40, 3), (13, .iload_n 3, 1), (14, .invokevirtual 91, 3), (17, .ifCond .ne 13, 3), (20, .new 33, 3), (23, .dup, 1), (24, .ldc 95, 2), (26, .invokespecial 37, 3), (29, .athrow, 1), (30, .aload_n 0, 1), (31, .getfield 10, 3), (34, .getfield 40, 3), (37, .iload_n 3, 1), (38, .invokevirtual 97, 3), (41, .aload_n 0, 1), (42, .getfield 10, 3), (45, .getfield 40, 3), (48, .iload_n 3, 1), (49, .invokevirtual 100, 3), (52, .ireturn, 1)]
theorem dTX5_light_0_ok : ∀ (k : Nat) (q : Nat × Instr × Nat), dTX5_light_0[k]? = some q → decode cX5_light q.1 = .ok q.2 := dT_of (by decide +kernel)
theorem dX5_light_0 : decode cX5_light 0 = .ok (.iload_n 1, 1) := dTX5_light_0_ok 0 (0, .iload_n 1, 1) rfl
theorem dX5_light_1 : decode cX5_light 1 = .ok (.iload_n 2, 1) := dTX5_light_0_ok 1 (1, .iload_n 2, 1) rfl
theorem dX5_light_2 : decode cX5_light 2 = .ok (.invokestatic 19, 3) := dTX5_light_0_ok 2 (2, .invokestatic 19, 3) rfl
theorem dX5_light_5 : decode cX5_light 5 = .ok (.istore_n 3, 1) := dTX5_light_0_ok 3 (5, .istore_n 3, 1) rfl
theorem dX5_light_6 : decode cX5_light 6 = .ok (.aload_n 0, 1) := dTX5_light_0_ok 4 (6, .aload_n 0, 1) rfl
theorem dX5_light_7 : decode cX5_light 7 = .ok (.getfield 10, 3) := dTX5_light_0_ok 5 (7, .getfield 10, 3) rfl
theorem dX5_light_10 : decode cX5_light 10 = .ok (.getfield 40, 3) := dTX5_light_0_ok 6 (10, .getfield 40, 3) rfl
theorem dX5_light_13 : decode cX5_light 13 = .ok (.iload_n 3, 1) := dTX5_light_0_ok 7 (13, .iload_n 3, 1) rfl
theorem dX5_light_14 : decode cX5_light 14 = .ok (.invokevirtual 91, 3) := dTX5_light_0_ok 8 (14, .invokevirtual 91, 3) rfl
theorem dX5_light_17 : decode cX5_light 17 = .ok (.ifCond .ne 13, 3) := dTX5_light_0_ok 9 (17, .ifCond .ne 13, 3) rfl
theorem dX5_light_20 : decode cX5_light 20 = .ok (.new 33, 3) := dTX5_light_0_ok 10 (20, .new 33, 3) rfl
theorem dX5_light_23 : decode cX5_light 23 = .ok (.dup, 1) := dTX5_light_0_ok 11 (23, .dup, 1) rfl
theorem dX5_light_24 : decode cX5_light 24 = .ok (.ldc 95, 2) := dTX5_light_0_ok 12 (24, .ldc 95, 2) rfl
theorem dX5_light_26 : decode cX5_light 26 = .ok (.invokespecial 37, 3) := dTX5_light_0_ok 13 (26, .invokespecial 37, 3) rfl
theorem dX5_light_29 : decode cX5_light 29 = .ok (.athrow, 1) := dTX5_light_0_ok 14 (29, .athrow, 1) rfl
theorem dX5_light_30 : decode cX5_light 30 = .ok (.aload_n 0, 1) := dTX5_light_0_ok 15 (30, .aload_n 0, 1) rfl
theorem dX5_light_31 : decode cX5_light 31 = .ok (.getfield 10, 3) := dTX5_light_0_ok 16 (31, .getfield 10, 3) rfl
theorem dX5_light_34 : decode cX5_light 34 = .ok (.getfield 40, 3) := dTX5_light_0_ok 17 (34, .getfield 40, 3) rfl
theorem dX5_light_37 : decode cX5_light 37 = .ok (.iload_n 3, 1) := dTX5_light_0_ok 18 (37, .iload_n 3, 1) rfl
theorem dX5_light_38 : decode cX5_light 38 = .ok (.invokevirtual 97, 3) := dTX5_light_0_ok 19 (38, .invokevirtual 97, 3) rfl
theorem dX5_light_41 : decode cX5_light 41 = .ok (.aload_n 0, 1) := dTX5_light_0_ok 20 (41, .aload_n 0, 1) rfl
theorem dX5_light_42 : decode cX5_light 42 = .ok (.getfield 10, 3) := dTX5_light_0_ok 21 (42, .getfield 10, 3) rfl
theorem dX5_light_45 : decode cX5_light 45 = .ok (.getfield 40, 3) := dTX5_light_0_ok 22 (45, .getfield 40, 3) rfl
theorem dX5_light_48 : decode cX5_light 48 = .ok (.iload_n 3, 1) := dTX5_light_0_ok 23 (48, .iload_n 3, 1) rfl
theorem dX5_light_49 : decode cX5_light 49 = .ok (.invokevirtual 100, 3) := dTX5_light_0_ok 24 (49, .invokevirtual 100, 3) rfl
theorem dX5_light_52 : decode cX5_light 52 = .ok (.ireturn, 1) := dTX5_light_0_ok 25 (52, .ireturn, 1) rfl
noncomputable def dTX5_come_0 : List (Nat × Instr × Nat) := [(0, .iload_n 1, 1), (1, .iload_n 2, 1), (2, .invokestatic 19, 3), (5, .istore 4, 2), (7, .iload_n 3, 1), (8, .iconst 1, 1), (9, .if_icmp .lt 8, 3), (12, .iload_n 3, 1), (13, .iconst 3, 1), (14, .if_icmp .le 13, 3), (17, .new 53, 3), (20, .dup, 1), (21, .ldc 103, 2), (23, .invokespecial 57, 3), (26, .athrow, 1), (27, .aload_n 0, 1), (28, .getfield 10, 3), (31, .getfield 105, 3), (34, .bipush 6, 2), (36, .if_icmp .lt 13, 3), (39, .new 33, 3), (42, .dup, 1), (43, .ldc 109, 2), (45, .invokespecial 37, 3), (48, .athrow, 1), (49, .aload_n 0, 1), (50, .getfield 10, 3), (53, .iload 4, 2), (55, .iload_n 3, 1), (56, .invokevirtual 111, 3), (59, .ireturn, 1)]
theorem dTX5_come_0_ok : ∀ (k : Nat) (q : Nat × Instr × Nat), dTX5_come_0[k]? = some q → decode cX5_come q.1 = .ok q.2 := dT_of (by decide +kernel)
theorem dX5_come_0 : decode cX5_come 0 = .ok (.iload_n 1, 1) := dTX5_come_0_ok 0 (0, .iload_n 1, 1) rfl
theorem dX5_come_1 : decode cX5_come 1 = .ok (.iload_n 2, 1) := dTX5_come_0_ok 1 (1, .iload_n 2, 1) rfl
theorem dX5_come_2 : decode cX5_come 2 = .ok (.invokestatic 19, 3) := dTX5_come_0_ok 2 (2, .invokestatic 19, 3) rfl
theorem dX5_come_5 : decode cX5_come 5 = .ok (.istore 4, 2) := dTX5_come_0_ok 3 (5, .istore 4, 2) rfl
theorem dX5_come_7 : decode cX5_come 7 = .ok (.iload_n 3, 1) := dTX5_come_0_ok 4 (7, .iload_n 3, 1) rfl
theorem dX5_come_8 : decode cX5_come 8 = .ok (.iconst 1, 1) := dTX5_come_0_ok 5 (8, .iconst 1, 1) rfl
theorem dX5_come_9 : decode cX5_come 9 = .ok (.if_icmp .lt 8, 3) := dTX5_come_0_ok 6 (9, .if_icmp .lt 8, 3) rfl
theorem dX5_come_12 : decode cX5_come 12 = .ok (.iload_n 3, 1) := dTX5_come_0_ok 7 (12, .iload_n 3, 1) rfl
theorem dX5_come_13 : decode cX5_come 13 = .ok (.iconst 3, 1) := dTX5_come_0_ok 8 (13, .iconst 3, 1) rfl
theorem dX5_come_14 : decode cX5_come 14 = .ok (.if_icmp .le 13, 3) := dTX5_come_0_ok 9 (14, .if_icmp .le 13, 3) rfl
theorem dX5_come_17 : decode cX5_come 17 = .ok (.new 53, 3) := dTX5_come_0_ok 10 (17, .new 53, 3) rfl
theorem dX5_come_20 : decode cX5_come 20 = .ok (.dup, 1) := dTX5_come_0_ok 11 (20, .dup, 1) rfl
theorem dX5_come_21 : decode cX5_come 21 = .ok (.ldc 103, 2) := dTX5_come_0_ok 12 (21, .ldc 103, 2) rfl
theorem dX5_come_23 : decode cX5_come 23 = .ok (.invokespecial 57, 3) := dTX5_come_0_ok 13 (23, .invokespecial 57, 3) rfl
theorem dX5_come_26 : decode cX5_come 26 = .ok (.athrow, 1) := dTX5_come_0_ok 14 (26, .athrow, 1) rfl
theorem dX5_come_27 : decode cX5_come 27 = .ok (.aload_n 0, 1) := dTX5_come_0_ok 15 (27, .aload_n 0, 1) rfl
theorem dX5_come_28 : decode cX5_come 28 = .ok (.getfield 10, 3) := dTX5_come_0_ok 16 (28, .getfield 10, 3) rfl
theorem dX5_come_31 : decode cX5_come 31 = .ok (.getfield 105, 3) := dTX5_come_0_ok 17 (31, .getfield 105, 3) rfl
theorem dX5_come_34 : decode cX5_come 34 = .ok (.bipush 6, 2) := dTX5_come_0_ok 18 (34, .bipush 6, 2) rfl
theorem dX5_come_36 : decode cX5_come 36 = .ok (.if_icmp .lt 13, 3) := dTX5_come_0_ok 19 (36, .if_icmp .lt 13, 3) rfl
theorem dX5_come_39 : decode cX5_come 39 = .ok (.new 33, 3) := dTX5_come_0_ok 20 (39, .new 33, 3) rfl
theorem dX5_come_42 : decode cX5_come 42 = .ok (.dup, 1) := dTX5_come_0_ok 21 (42, .dup, 1) rfl
theorem dX5_come_43 : decode cX5_come 43 = .ok (.ldc 109, 2) := dTX5_come_0_ok 22 (43, .ldc 109, 2) rfl
theorem dX5_come_45 : decode cX5_come 45 = .ok (.invokespecial 37, 3) := dTX5_come_0_ok 23 (45, .invokespecial 37, 3) rfl
theorem dX5_come_48 : decode cX5_come 48 = .ok (.athrow, 1) := dTX5_come_0_ok 24 (48, .athrow, 1) rfl
theorem dX5_come_49 : decode cX5_come 49 = .ok (.aload_n 0, 1) := dTX5_come_0_ok 25 (49, .aload_n 0, 1) rfl
theorem dX5_come_50 : decode cX5_come 50 = .ok (.getfield 10, 3) := dTX5_come_0_ok 26 (50, .getfield 10, 3) rfl
theorem dX5_come_53 : decode cX5_come 53 = .ok (.iload 4, 2) := dTX5_come_0_ok 27 (53, .iload 4, 2) rfl
theorem dX5_come_55 : decode cX5_come 55 = .ok (.iload_n 3, 1) := dTX5_come_0_ok 28 (55, .iload_n 3, 1) rfl
theorem dX5_come_56 : decode cX5_come 56 = .ok (.invokevirtual 111, 3) := dTX5_come_0_ok 29 (56, .invokevirtual 111, 3) rfl
theorem dX5_come_59 : decode cX5_come 59 = .ok (.ireturn, 1) := dTX5_come_0_ok 30 (59, .ireturn, 1) rfl
noncomputable def dTX5_send_0 : List (Nat × Instr × Nat) := [(0, .aload_n 0, 1), (1, .iload_n 1, 1), (2, .invokevirtual 114, 3), (5, .iload_n 2, 1), (6, .iload_n 3, 1), (7, .invokestatic 19, 3), (10, .istore 4, 2), (12, .aload_n 0, 1), (13, .getfield 10, 3), (16, .iload_n 1, 1), (17, .iload 4, 2), (19, .invokevirtual 117, 3), (22, .aload_n 0, 1), (23, .getfield 10, 3), (26, .iload_n 1, 1), (27, .iload 4, 2), (29, .invokevirtual 120, 3), (32, .ireturn, 1)]
theorem dTX5_send_0_ok : ∀ (k : Nat) (q : Nat × Instr × Nat), dTX5_send_0[k]? = some q → decode cX5_send q.1 = .ok q.2 := dT_of (by decide +kernel)
theorem dX5_send_0 : decode cX5_send 0 = .ok (.aload_n 0, 1) := dTX5_send_0_ok 0 (0, .aload_n 0, 1) rfl
theorem dX5_send_1 : decode cX5_send 1 = .ok (.iload_n 1, 1) := dTX5_send_0_ok 1 (1, .iload_n 1, 1) rfl
theorem dX5_send_2 : decode cX5_send 2 = .ok (.invokevirtual 114, 3) := dTX5_send_0_ok 2 (2, .invokevirtual 114, 3) rfl
theorem dX5_send_5 : decode cX5_send 5 = .ok (.iload_n 2, 1) := dTX5_send_0_ok 3 (5, .iload_n 2, 1) rfl
theorem dX5_send_6 : decode cX5_send 6 = .ok (.iload_n 3, 1) := dTX5_send_0_ok 4 (6, .iload_n 3, 1) rfl
theorem dX5_send_7 : decode cX5_send 7 = .ok (.invokestatic 19, 3) := dTX5_send_0_ok 5 (7, .invokestatic 19, 3) rfl
theorem dX5_send_10 : decode cX5_send 10 = .ok (.istore 4, 2) := dTX5_send_0_ok 6 (10, .istore 4, 2) rfl
theorem dX5_send_12 : decode cX5_send 12 = .ok (.aload_n 0, 1) := dTX5_send_0_ok 7 (12, .aload_n 0, 1) rfl
theorem dX5_send_13 : decode cX5_send 13 = .ok (.getfield 10, 3) := dTX5_send_0_ok 8 (13, .getfield 10, 3) rfl
theorem dX5_send_16 : decode cX5_send 16 = .ok (.iload_n 1, 1) := dTX5_send_0_ok 9 (16, .iload_n 1, 1) rfl
theorem dX5_send_17 : decode cX5_send 17 = .ok (.iload 4, 2) := dTX5_send_0_ok 10 (17, .iload 4, 2) rfl
theorem dX5_send_19 : decode cX5_send 19 = .ok (.invokevirtual 117, 3) := dTX5_send_0_ok 11 (19, .invokevirtual 117, 3) rfl
theorem dX5_send_22 : decode cX5_send 22 = .ok (.aload_n 0, 1) := dTX5_send_0_ok 12 (22, .aload_n 0, 1) rfl
theorem dX5_send_23 : decode cX5_send 23 = .ok (.getfield 10, 3) := dTX5_send_0_ok 13 (23, .getfield 10, 3) rfl
theorem dX5_send_26 : decode cX5_send 26 = .ok (.iload_n 1, 1) := dTX5_send_0_ok 14 (26, .iload_n 1, 1) rfl
theorem dX5_send_27 : decode cX5_send 27 = .ok (.iload 4, 2) := dTX5_send_0_ok 15 (27, .iload 4, 2) rfl
theorem dX5_send_29 : decode cX5_send 29 = .ok (.invokevirtual 120, 3) := dTX5_send_0_ok 16 (29, .invokevirtual 120, 3) rfl
theorem dX5_send_32 : decode cX5_send 32 = .ok (.ireturn, 1) := dTX5_send_0_ok 17 (32, .ireturn, 1) rfl
noncomputable def dTX5_rite_0 : List (Nat × Instr × Nat) := [(0, .aload_n 0, 1), (1, .iload_n 1, 1), (2, .invokevirtual 114, 3), (5, .aload_n 0, 1), (6, .getfield 10, 3), (9, .iload_n 1, 1), (10, .invokevirtual 123, 3), (13, .ifCond .eq 13, 3), (16, .new 33, 3), (19, .dup, 1), (20, .ldc 126, 2), (22, .invokespecial 37, 3), (25, .athrow, 1), (26, .aload_n 0, 1), (27, .getfield 10, 3), (30, .iload_n 1, 1), (31, .iconst 5, 1), (32, .iconst 1, 1), (33, .invokevirtual 128, 3), (36, .aload_n 0, 1), (37, .getfield 10, 3), (40, .iconst 5, 1), (41, .invokevirtual 131, 3), (44, .ireturn, 1)]
theorem dTX5_rite_0_ok : ∀ (k : Nat) (q : Nat × Instr × Nat), dTX5_rite_0[k]? = some q → decode cX5_rite q.1 = .ok q.2 := dT_of (by decide +kernel)
theorem dX5_rite_0 : decode cX5_rite 0 = .ok (.aload_n 0, 1) := dTX5_rite_0_ok 0 (0, .aload_n 0, 1) rfl
theorem dX5_rite_1 : decode cX5_rite 1 = .ok (.iload_n 1, 1) := dTX5_rite_0_ok 1 (1, .iload_n 1, 1) rfl
theorem dX5_rite_2 : decode cX5_rite 2 = .ok (.invokevirtual 114, 3) := dTX5_rite_0_ok 2 (2, .invokevirtual 114, 3) rfl
theorem dX5_rite_5 : decode cX5_rite 5 = .ok (.aload_n 0, 1) := dTX5_rite_0_ok 3 (5, .aload_n 0, 1) rfl
theorem dX5_rite_6 : decode cX5_rite 6 = .ok (.getfield 10, 3) := dTX5_rite_0_ok 4 (6, .getfield 10, 3) rfl
theorem dX5_rite_9 : decode cX5_rite 9 = .ok (.iload_n 1, 1) := dTX5_rite_0_ok 5 (9, .iload_n 1, 1) rfl
theorem dX5_rite_10 : decode cX5_rite 10 = .ok (.invokevirtual 123, 3) := dTX5_rite_0_ok 6 (10, .invokevirtual 123, 3) rfl
theorem dX5_rite_13 : decode cX5_rite 13 = .ok (.ifCond .eq 13, 3) := dTX5_rite_0_ok 7 (13, .ifCond .eq 13, 3) rfl
theorem dX5_rite_16 : decode cX5_rite 16 = .ok (.new 33, 3) := dTX5_rite_0_ok 8 (16, .new 33, 3) rfl
theorem dX5_rite_19 : decode cX5_rite 19 = .ok (.dup, 1) := dTX5_rite_0_ok 9 (19, .dup, 1) rfl
theorem dX5_rite_20 : decode cX5_rite 20 = .ok (.ldc 126, 2) := dTX5_rite_0_ok 10 (20, .ldc 126, 2) rfl
theorem dX5_rite_22 : decode cX5_rite 22 = .ok (.invokespecial 37, 3) := dTX5_rite_0_ok 11 (22, .invokespecial 37, 3) rfl
theorem dX5_rite_25 : decode cX5_rite 25 = .ok (.athrow, 1) := dTX5_rite_0_ok 12 (25, .athrow, 1) rfl
theorem dX5_rite_26 : decode cX5_rite 26 = .ok (.aload_n 0, 1) := dTX5_rite_0_ok 13 (26, .aload_n 0, 1) rfl
theorem dX5_rite_27 : decode cX5_rite 27 = .ok (.getfield 10, 3) := dTX5_rite_0_ok 14 (27, .getfield 10, 3) rfl
theorem dX5_rite_30 : decode cX5_rite 30 = .ok (.iload_n 1, 1) := dTX5_rite_0_ok 15 (30, .iload_n 1, 1) rfl
theorem dX5_rite_31 : decode cX5_rite 31 = .ok (.iconst 5, 1) := dTX5_rite_0_ok 16 (31, .iconst 5, 1) rfl
theorem dX5_rite_32 : decode cX5_rite 32 = .ok (.iconst 1, 1) := dTX5_rite_0_ok 17 (32, .iconst 1, 1) rfl
theorem dX5_rite_33 : decode cX5_rite 33 = .ok (.invokevirtual 128, 3) := dTX5_rite_0_ok 18 (33, .invokevirtual 128, 3) rfl
theorem dX5_rite_36 : decode cX5_rite 36 = .ok (.aload_n 0, 1) := dTX5_rite_0_ok 19 (36, .aload_n 0, 1) rfl
theorem dX5_rite_37 : decode cX5_rite 37 = .ok (.getfield 10, 3) := dTX5_rite_0_ok 20 (37, .getfield 10, 3) rfl
theorem dX5_rite_40 : decode cX5_rite 40 = .ok (.iconst 5, 1) := dTX5_rite_0_ok 21 (40, .iconst 5, 1) rfl
theorem dX5_rite_41 : decode cX5_rite 41 = .ok (.invokevirtual 131, 3) := dTX5_rite_0_ok 22 (41, .invokevirtual 131, 3) rfl
theorem dX5_rite_44 : decode cX5_rite 44 = .ok (.ireturn, 1) := dTX5_rite_0_ok 23 (44, .ireturn, 1) rfl
noncomputable def dTX5_cell_0 : List (Nat × Instr × Nat) := [(0, .iload_n 1, 1), (1, .iload_n 2, 1), (2, .invokestatic 19, 3), (5, .istore 4, 2), (7, .iload_n 3, 1), (8, .iconst 5, 1), (9, .invokestatic 134, 3), (12, .aload_n 0, 1), (13, .getfield 10, 3), (16, .iload 4, 2), (18, .iload_n 3, 1), (19, .invokevirtual 137, 3), (22, .ireturn, 1)]
theorem dTX5_cell_0_ok : ∀ (k : Nat) (q : Nat × Instr × Nat), dTX5_cell_0[k]? = some q → decode cX5_cell q.1 = .ok q.2 := dT_of (by decide +kernel)
theorem dX5_cell_0 : decode cX5_cell 0 = .ok (.iload_n 1, 1) := dTX5_cell_0_ok 0 (0, .iload_n 1, 1) rfl
theorem dX5_cell_1 : decode cX5_cell 1 = .ok (.iload_n 2, 1) := dTX5_cell_0_ok 1 (1, .iload_n 2, 1) rfl
theorem dX5_cell_2 : decode cX5_cell 2 = .ok (.invokestatic 19, 3) := dTX5_cell_0_ok 2 (2, .invokestatic 19, 3) rfl
theorem dX5_cell_5 : decode cX5_cell 5 = .ok (.istore 4, 2) := dTX5_cell_0_ok 3 (5, .istore 4, 2) rfl
theorem dX5_cell_7 : decode cX5_cell 7 = .ok (.iload_n 3, 1) := dTX5_cell_0_ok 4 (7, .iload_n 3, 1) rfl
theorem dX5_cell_8 : decode cX5_cell 8 = .ok (.iconst 5, 1) := dTX5_cell_0_ok 5 (8, .iconst 5, 1) rfl
theorem dX5_cell_9 : decode cX5_cell 9 = .ok (.invokestatic 134, 3) := dTX5_cell_0_ok 6 (9, .invokestatic 134, 3) rfl
theorem dX5_cell_12 : decode cX5_cell 12 = .ok (.aload_n 0, 1) := dTX5_cell_0_ok 7 (12, .aload_n 0, 1) rfl
theorem dX5_cell_13 : decode cX5_cell 13 = .ok (.getfield 10, 3) := dTX5_cell_0_ok 8 (13, .getfield 10, 3) rfl
theorem dX5_cell_16 : decode cX5_cell 16 = .ok (.iload 4, 2) := dTX5_cell_0_ok 9 (16, .iload 4, 2) rfl
theorem dX5_cell_18 : decode cX5_cell 18 = .ok (.iload_n 3, 1) := dTX5_cell_0_ok 10 (18, .iload_n 3, 1) rfl
theorem dX5_cell_19 : decode cX5_cell 19 = .ok (.invokevirtual 137, 3) := dTX5_cell_0_ok 11 (19, .invokevirtual 137, 3) rfl
theorem dX5_cell_22 : decode cX5_cell 22 = .ok (.ireturn, 1) := dTX5_cell_0_ok 12 (22, .ireturn, 1) rfl
noncomputable def dTX5_walled_0 : List (Nat × Instr × Nat) := [(0, .iload_n 1, 1), (1, .iload_n 2, 1), (2, .invokestatic 19, 3), (5, .istore 4, 2), (7, .iload_n 3, 1), (8, .invokestatic 23, 3), (11, .iload 4, 2), (13, .iload_n 3, 1), (14, .invokestatic 27, 3), (17, .ifCond .ne 19, 3), (20, .aload_n 0, 1), (21, .getfield 10, 3), (24, .getfield 40, 3), (27, .iload 4, 2), (29, .iload_n 3, 1), (30, .invokevirtual 50, 3), (33, .ifCond .eq 7, 3), (36, .iconst 1, 1), (37, .goto 4, 3), (40, .iconst 0, 1), (41, .ireturn, 1)]
theorem dTX5_walled_0_ok : ∀ (k : Nat) (q : Nat × Instr × Nat), dTX5_walled_0[k]? = some q → decode cX5_walled q.1 = .ok q.2 := dT_of (by decide +kernel)
theorem dX5_walled_0 : decode cX5_walled 0 = .ok (.iload_n 1, 1) := dTX5_walled_0_ok 0 (0, .iload_n 1, 1) rfl
theorem dX5_walled_1 : decode cX5_walled 1 = .ok (.iload_n 2, 1) := dTX5_walled_0_ok 1 (1, .iload_n 2, 1) rfl
theorem dX5_walled_2 : decode cX5_walled 2 = .ok (.invokestatic 19, 3) := dTX5_walled_0_ok 2 (2, .invokestatic 19, 3) rfl
theorem dX5_walled_5 : decode cX5_walled 5 = .ok (.istore 4, 2) := dTX5_walled_0_ok 3 (5, .istore 4, 2) rfl
theorem dX5_walled_7 : decode cX5_walled 7 = .ok (.iload_n 3, 1) := dTX5_walled_0_ok 4 (7, .iload_n 3, 1) rfl
theorem dX5_walled_8 : decode cX5_walled 8 = .ok (.invokestatic 23, 3) := dTX5_walled_0_ok 5 (8, .invokestatic 23, 3) rfl
theorem dX5_walled_11 : decode cX5_walled 11 = .ok (.iload 4, 2) := dTX5_walled_0_ok 6 (11, .iload 4, 2) rfl
theorem dX5_walled_13 : decode cX5_walled 13 = .ok (.iload_n 3, 1) := dTX5_walled_0_ok 7 (13, .iload_n 3, 1) rfl
theorem dX5_walled_14 : decode cX5_walled 14 = .ok (.invokestatic 27, 3) := dTX5_walled_0_ok 8 (14, .invokestatic 27, 3) rfl
theorem dX5_walled_17 : decode cX5_walled 17 = .ok (.ifCond .ne 19, 3) := dTX5_walled_0_ok 9 (17, .ifCond .ne 19, 3) rfl
theorem dX5_walled_20 : decode cX5_walled 20 = .ok (.aload_n 0, 1) := dTX5_walled_0_ok 10 (20, .aload_n 0, 1) rfl
theorem dX5_walled_21 : decode cX5_walled 21 = .ok (.getfield 10, 3) := dTX5_walled_0_ok 11 (21, .getfield 10, 3) rfl
theorem dX5_walled_24 : decode cX5_walled 24 = .ok (.getfield 40, 3) := dTX5_walled_0_ok 12 (24, .getfield 40, 3) rfl
theorem dX5_walled_27 : decode cX5_walled 27 = .ok (.iload 4, 2) := dTX5_walled_0_ok 13 (27, .iload 4, 2) rfl
theorem dX5_walled_29 : decode cX5_walled 29 = .ok (.iload_n 3, 1) := dTX5_walled_0_ok 14 (29, .iload_n 3, 1) rfl
theorem dX5_walled_30 : decode cX5_walled 30 = .ok (.invokevirtual 50, 3) := dTX5_walled_0_ok 15 (30, .invokevirtual 50, 3) rfl
theorem dX5_walled_33 : decode cX5_walled 33 = .ok (.ifCond .eq 7, 3) := dTX5_walled_0_ok 16 (33, .ifCond .eq 7, 3) rfl
theorem dX5_walled_36 : decode cX5_walled 36 = .ok (.iconst 1, 1) := dTX5_walled_0_ok 17 (36, .iconst 1, 1) rfl
theorem dX5_walled_37 : decode cX5_walled 37 = .ok (.goto 4, 3) := dTX5_walled_0_ok 18 (37, .goto 4, 3) rfl
theorem dX5_walled_40 : decode cX5_walled 40 = .ok (.iconst 0, 1) := dTX5_walled_0_ok 19 (40, .iconst 0, 1) rfl
theorem dX5_walled_41 : decode cX5_walled 41 = .ok (.ireturn, 1) := dTX5_walled_0_ok 20 (41, .ireturn, 1) rfl
noncomputable def dTX5_ghost_0 : List (Nat × Instr × Nat) := [(0, .aload_n 0, 1), (1, .iload_n 1, 1), (2, .invokevirtual 114, 3), (5, .iload_n 2, 1), (6, .bipush 8, 2), (8, .invokestatic 134, 3), (11, .aload_n 0, 1), (12, .getfield 10, 3), (15, .iload_n 1, 1), (16, .iload_n 2, 1), (17, .invokevirtual 140, 3), (20, .ireturn, 1)]
theorem dTX5_ghost_0_ok : ∀ (k : Nat) (q : Nat × Instr × Nat), dTX5_ghost_0[k]? = some q → decode cX5_ghost q.1 = .ok q.2 := dT_of (by decide +kernel)
theorem dX5_ghost_0 : decode cX5_ghost 0 = .ok (.aload_n 0, 1) := dTX5_ghost_0_ok 0 (0, .aload_n 0, 1) rfl
theorem dX5_ghost_1 : decode cX5_ghost 1 = .ok (.iload_n 1, 1) := dTX5_ghost_0_ok 1 (1, .iload_n 1, 1) rfl
theorem dX5_ghost_2 : decode cX5_ghost 2 = .ok (.invokevirtual 114, 3) := dTX5_ghost_0_ok 2 (2, .invokevirtual 114, 3) rfl
theorem dX5_ghost_5 : decode cX5_ghost 5 = .ok (.iload_n 2, 1) := dTX5_ghost_0_ok 3 (5, .iload_n 2, 1) rfl
theorem dX5_ghost_6 : decode cX5_ghost 6 = .ok (.bipush 8, 2) := dTX5_ghost_0_ok 4 (6, .bipush 8, 2) rfl
theorem dX5_ghost_8 : decode cX5_ghost 8 = .ok (.invokestatic 134, 3) := dTX5_ghost_0_ok 5 (8, .invokestatic 134, 3) rfl
theorem dX5_ghost_11 : decode cX5_ghost 11 = .ok (.aload_n 0, 1) := dTX5_ghost_0_ok 6 (11, .aload_n 0, 1) rfl
theorem dX5_ghost_12 : decode cX5_ghost 12 = .ok (.getfield 10, 3) := dTX5_ghost_0_ok 7 (12, .getfield 10, 3) rfl
theorem dX5_ghost_15 : decode cX5_ghost 15 = .ok (.iload_n 1, 1) := dTX5_ghost_0_ok 8 (15, .iload_n 1, 1) rfl
theorem dX5_ghost_16 : decode cX5_ghost 16 = .ok (.iload_n 2, 1) := dTX5_ghost_0_ok 9 (16, .iload_n 2, 1) rfl
theorem dX5_ghost_17 : decode cX5_ghost 17 = .ok (.invokevirtual 140, 3) := dTX5_ghost_0_ok 10 (17, .invokevirtual 140, 3) rfl
theorem dX5_ghost_20 : decode cX5_ghost 20 = .ok (.ireturn, 1) := dTX5_ghost_0_ok 11 (20, .ireturn, 1) rfl
noncomputable def dTX5_count_0 : List (Nat × Instr × Nat) := [(0, .iload_n 1, 1), (1, .bipush 10, 2), (3, .invokestatic 134, 3), (6, .aload_n 0, 1), (7, .getfield 10, 3), (10, .iload_n 1, 1), (11, .invokevirtual 143, 3), (14, .ireturn, 1)]
theorem dTX5_count_0_ok : ∀ (k : Nat) (q : Nat × Instr × Nat), dTX5_count_0[k]? = some q → decode cX5_count q.1 = .ok q.2 := dT_of (by decide +kernel)
theorem dX5_count_0 : decode cX5_count 0 = .ok (.iload_n 1, 1) := dTX5_count_0_ok 0 (0, .iload_n 1, 1) rfl
theorem dX5_count_1 : decode cX5_count 1 = .ok (.bipush 10, 2) := dTX5_count_0_ok 1 (1, .bipush 10, 2) rfl
theorem dX5_count_3 : decode cX5_count 3 = .ok (.invokestatic 134, 3) := dTX5_count_0_ok 2 (3, .invokestatic 134, 3) rfl
theorem dX5_count_6 : decode cX5_count 6 = .ok (.aload_n 0, 1) := dTX5_count_0_ok 3 (6, .aload_n 0, 1) rfl
theorem dX5_count_7 : decode cX5_count 7 = .ok (.getfield 10, 3) := dTX5_count_0_ok 4 (7, .getfield 10, 3) rfl
theorem dX5_count_10 : decode cX5_count 10 = .ok (.iload_n 1, 1) := dTX5_count_0_ok 5 (10, .iload_n 1, 1) rfl
theorem dX5_count_11 : decode cX5_count 11 = .ok (.invokevirtual 143, 3) := dTX5_count_0_ok 6 (11, .invokevirtual 143, 3) rfl
theorem dX5_count_14 : decode cX5_count 14 = .ok (.ireturn, 1) := dTX5_count_0_ok 7 (14, .ireturn, 1) rfl
noncomputable def dTX5_way_0 : List (Nat × Instr × Nat) := [(0, .aload_n 0, 1), (1, .iload_n 1, 1), (2, .invokevirtual 114, 3), (5, .iload_n 2, 1), (6, .iload_n 3, 1), (7, .invokestatic 19, 3), (10, .istore 4, 2), (12, .aload_n 0, 1), (13, .getfield 10, 3), (16, .iload_n 1, 1), (17, .iload 4, 2), (19, .invokevirtual 120, 3), (22, .ireturn, 1)]
theorem dTX5_way_0_ok : ∀ (k : Nat) (q : Nat × Instr × Nat), dTX5_way_0[k]? = some q → decode cX5_way q.1 = .ok q.2 := dT_of (by decide +kernel)
theorem dX5_way_0 : decode cX5_way 0 = .ok (.aload_n 0, 1) := dTX5_way_0_ok 0 (0, .aload_n 0, 1) rfl
theorem dX5_way_1 : decode cX5_way 1 = .ok (.iload_n 1, 1) := dTX5_way_0_ok 1 (1, .iload_n 1, 1) rfl
theorem dX5_way_2 : decode cX5_way 2 = .ok (.invokevirtual 114, 3) := dTX5_way_0_ok 2 (2, .invokevirtual 114, 3) rfl
theorem dX5_way_5 : decode cX5_way 5 = .ok (.iload_n 2, 1) := dTX5_way_0_ok 3 (5, .iload_n 2, 1) rfl
theorem dX5_way_6 : decode cX5_way 6 = .ok (.iload_n 3, 1) := dTX5_way_0_ok 4 (6, .iload_n 3, 1) rfl
theorem dX5_way_7 : decode cX5_way 7 = .ok (.invokestatic 19, 3) := dTX5_way_0_ok 5 (7, .invokestatic 19, 3) rfl
theorem dX5_way_10 : decode cX5_way 10 = .ok (.istore 4, 2) := dTX5_way_0_ok 6 (10, .istore 4, 2) rfl
theorem dX5_way_12 : decode cX5_way 12 = .ok (.aload_n 0, 1) := dTX5_way_0_ok 7 (12, .aload_n 0, 1) rfl
theorem dX5_way_13 : decode cX5_way 13 = .ok (.getfield 10, 3) := dTX5_way_0_ok 8 (13, .getfield 10, 3) rfl
theorem dX5_way_16 : decode cX5_way 16 = .ok (.iload_n 1, 1) := dTX5_way_0_ok 9 (16, .iload_n 1, 1) rfl
theorem dX5_way_17 : decode cX5_way 17 = .ok (.iload 4, 2) := dTX5_way_0_ok 10 (17, .iload 4, 2) rfl
theorem dX5_way_19 : decode cX5_way 19 = .ok (.invokevirtual 120, 3) := dTX5_way_0_ok 11 (19, .invokevirtual 120, 3) rfl
theorem dX5_way_22 : decode cX5_way 22 = .ok (.ireturn, 1) := dTX5_way_0_ok 12 (22, .ireturn, 1) rfl
noncomputable def dTX5_next_0 : List (Nat × Instr × Nat) := [(0, .aload_n 0, 1), (1, .iload_n 1, 1), (2, .invokevirtual 114, 3), (5, .aload_n 0, 1), (6, .getfield 10, 3), (9, .iload_n 1, 1), (10, .invokevirtual 156, 3), (13, .ireturn, 1)]
theorem dTX5_next_0_ok : ∀ (k : Nat) (q : Nat × Instr × Nat), dTX5_next_0[k]? = some q → decode cX5_next q.1 = .ok q.2 := dT_of (by decide +kernel)
theorem dX5_next_0 : decode cX5_next 0 = .ok (.aload_n 0, 1) := dTX5_next_0_ok 0 (0, .aload_n 0, 1) rfl
theorem dX5_next_1 : decode cX5_next 1 = .ok (.iload_n 1, 1) := dTX5_next_0_ok 1 (1, .iload_n 1, 1) rfl
theorem dX5_next_2 : decode cX5_next 2 = .ok (.invokevirtual 114, 3) := dTX5_next_0_ok 2 (2, .invokevirtual 114, 3) rfl
theorem dX5_next_5 : decode cX5_next 5 = .ok (.aload_n 0, 1) := dTX5_next_0_ok 3 (5, .aload_n 0, 1) rfl
theorem dX5_next_6 : decode cX5_next 6 = .ok (.getfield 10, 3) := dTX5_next_0_ok 4 (6, .getfield 10, 3) rfl
theorem dX5_next_9 : decode cX5_next 9 = .ok (.iload_n 1, 1) := dTX5_next_0_ok 5 (9, .iload_n 1, 1) rfl
theorem dX5_next_10 : decode cX5_next 10 = .ok (.invokevirtual 156, 3) := dTX5_next_0_ok 6 (10, .invokevirtual 156, 3) rfl
theorem dX5_next_13 : decode cX5_next 13 = .ok (.ireturn, 1) := dTX5_next_0_ok 7 (13, .ireturn, 1) rfl
noncomputable def dTX5_pass_0 : List (Nat × Instr × Nat) := [(0, .iload_n 1, 1), (1, .bipush 40, 2), (3, .invokestatic 159, 3), (6, .iconst 0, 1), (7, .istore_n 2, 1), (8, .iconst 0, 1), (9, .istore_n 3, 1), (10, .iload_n 3, 1), (11, .iload_n 1, 1), (12, .if_icmp .ge 19, 3), (15, .iload_n 2, 1), (16, .aload_n 0, 1), (17, .getfield 10, 3), (20, .invokevirtual 162, 3), (23, .iadd, 1), (24, .istore_n 2, 1), (25, .iinc 3 1, 3), (28, .goto (-18), 3), (31, .iload_n 2, 1), (32, .ireturn, 1)]
theorem dTX5_pass_0_ok : ∀ (k : Nat) (q : Nat × Instr × Nat), dTX5_pass_0[k]? = some q → decode cX5_pass q.1 = .ok q.2 := dT_of (by decide +kernel)
theorem dX5_pass_0 : decode cX5_pass 0 = .ok (.iload_n 1, 1) := dTX5_pass_0_ok 0 (0, .iload_n 1, 1) rfl
theorem dX5_pass_1 : decode cX5_pass 1 = .ok (.bipush 40, 2) := dTX5_pass_0_ok 1 (1, .bipush 40, 2) rfl
theorem dX5_pass_3 : decode cX5_pass 3 = .ok (.invokestatic 159, 3) := dTX5_pass_0_ok 2 (3, .invokestatic 159, 3) rfl
theorem dX5_pass_6 : decode cX5_pass 6 = .ok (.iconst 0, 1) := dTX5_pass_0_ok 3 (6, .iconst 0, 1) rfl
theorem dX5_pass_7 : decode cX5_pass 7 = .ok (.istore_n 2, 1) := dTX5_pass_0_ok 4 (7, .istore_n 2, 1) rfl
theorem dX5_pass_8 : decode cX5_pass 8 = .ok (.iconst 0, 1) := dTX5_pass_0_ok 5 (8, .iconst 0, 1) rfl
theorem dX5_pass_9 : decode cX5_pass 9 = .ok (.istore_n 3, 1) := dTX5_pass_0_ok 6 (9, .istore_n 3, 1) rfl
theorem dX5_pass_10 : decode cX5_pass 10 = .ok (.iload_n 3, 1) := dTX5_pass_0_ok 7 (10, .iload_n 3, 1) rfl
theorem dX5_pass_11 : decode cX5_pass 11 = .ok (.iload_n 1, 1) := dTX5_pass_0_ok 8 (11, .iload_n 1, 1) rfl
theorem dX5_pass_12 : decode cX5_pass 12 = .ok (.if_icmp .ge 19, 3) := dTX5_pass_0_ok 9 (12, .if_icmp .ge 19, 3) rfl
theorem dX5_pass_15 : decode cX5_pass 15 = .ok (.iload_n 2, 1) := dTX5_pass_0_ok 10 (15, .iload_n 2, 1) rfl
theorem dX5_pass_16 : decode cX5_pass 16 = .ok (.aload_n 0, 1) := dTX5_pass_0_ok 11 (16, .aload_n 0, 1) rfl
theorem dX5_pass_17 : decode cX5_pass 17 = .ok (.getfield 10, 3) := dTX5_pass_0_ok 12 (17, .getfield 10, 3) rfl
theorem dX5_pass_20 : decode cX5_pass 20 = .ok (.invokevirtual 162, 3) := dTX5_pass_0_ok 13 (20, .invokevirtual 162, 3) rfl
theorem dX5_pass_23 : decode cX5_pass 23 = .ok (.iadd, 1) := dTX5_pass_0_ok 14 (23, .iadd, 1) rfl
theorem dX5_pass_24 : decode cX5_pass 24 = .ok (.istore_n 2, 1) := dTX5_pass_0_ok 15 (24, .istore_n 2, 1) rfl
theorem dX5_pass_25 : decode cX5_pass 25 = .ok (.iinc 3 1, 3) := dTX5_pass_0_ok 16 (25, .iinc 3 1, 3) rfl
theorem dX5_pass_28 : decode cX5_pass 28 = .ok (.goto (-18), 3) := dTX5_pass_0_ok 17 (28, .goto (-18), 3) rfl
theorem dX5_pass_31 : decode cX5_pass 31 = .ok (.iload_n 2, 1) := dTX5_pass_0_ok 18 (31, .iload_n 2, 1) rfl
theorem dX5_pass_32 : decode cX5_pass 32 = .ok (.ireturn, 1) := dTX5_pass_0_ok 19 (32, .ireturn, 1) rfl
noncomputable def dTX5_foresee_0 : List (Nat × Instr × Nat) := [(0, .iload_n 1, 1), (1, .bipush 40, 2), (3, .invokestatic 159, 3), (6, .iload_n 2, 1), (7, .iconst 4, 1), (8, .invokestatic 134, 3), (11, .aload_n 0, 1), (12, .iload_n 1, 1), (13, .iconst (-1), 1), (14, .invokevirtual 165, 3), (17, .istore_n 3, 1), (18, .iload_n 2, 1), (19, .tableswitch 49 0 2 #[25, 27, 38], 25), (44, .iload_n 3, 1), (45, .ireturn, 1), (46, .aload_n 0, 1), (47, .getfield 16, 3), (50, .getfield 40, 3), (53, .invokevirtual 168, 3), (56, .ireturn, 1), (57, .aload_n 0, 1), (58, .getfield 16, 3), (61, .getfield 40, 3), (64, .invokevirtual 171, 3), (67, .ireturn, 1), (68, .aload_n 0, 1), (69, .getfield 16, 3), (72, .invokevirtual 174, 3), (75, .ireturn, 1)]
theorem dTX5_foresee_0_ok : ∀ (k : Nat) (q : Nat × Instr × Nat), dTX5_foresee_0[k]? = some q → decode cX5_foresee q.1 = .ok q.2 := dT_of (by decide +kernel)
theorem dX5_foresee_0 : decode cX5_foresee 0 = .ok (.iload_n 1, 1) := dTX5_foresee_0_ok 0 (0, .iload_n 1, 1) rfl
theorem dX5_foresee_1 : decode cX5_foresee 1 = .ok (.bipush 40, 2) := dTX5_foresee_0_ok 1 (1, .bipush 40, 2) rfl
theorem dX5_foresee_3 : decode cX5_foresee 3 = .ok (.invokestatic 159, 3) := dTX5_foresee_0_ok 2 (3, .invokestatic 159, 3) rfl
theorem dX5_foresee_6 : decode cX5_foresee 6 = .ok (.iload_n 2, 1) := dTX5_foresee_0_ok 3 (6, .iload_n 2, 1) rfl
theorem dX5_foresee_7 : decode cX5_foresee 7 = .ok (.iconst 4, 1) := dTX5_foresee_0_ok 4 (7, .iconst 4, 1) rfl
theorem dX5_foresee_8 : decode cX5_foresee 8 = .ok (.invokestatic 134, 3) := dTX5_foresee_0_ok 5 (8, .invokestatic 134, 3) rfl
theorem dX5_foresee_11 : decode cX5_foresee 11 = .ok (.aload_n 0, 1) := dTX5_foresee_0_ok 6 (11, .aload_n 0, 1) rfl
theorem dX5_foresee_12 : decode cX5_foresee 12 = .ok (.iload_n 1, 1) := dTX5_foresee_0_ok 7 (12, .iload_n 1, 1) rfl
theorem dX5_foresee_13 : decode cX5_foresee 13 = .ok (.iconst (-1), 1) := dTX5_foresee_0_ok 8 (13, .iconst (-1), 1) rfl
theorem dX5_foresee_14 : decode cX5_foresee 14 = .ok (.invokevirtual 165, 3) := dTX5_foresee_0_ok 9 (14, .invokevirtual 165, 3) rfl
theorem dX5_foresee_17 : decode cX5_foresee 17 = .ok (.istore_n 3, 1) := dTX5_foresee_0_ok 10 (17, .istore_n 3, 1) rfl
theorem dX5_foresee_18 : decode cX5_foresee 18 = .ok (.iload_n 2, 1) := dTX5_foresee_0_ok 11 (18, .iload_n 2, 1) rfl
theorem dX5_foresee_19 : decode cX5_foresee 19 = .ok (.tableswitch 49 0 2 #[25, 27, 38], 25) := dTX5_foresee_0_ok 12 (19, .tableswitch 49 0 2 #[25, 27, 38], 25) rfl
theorem dX5_foresee_44 : decode cX5_foresee 44 = .ok (.iload_n 3, 1) := dTX5_foresee_0_ok 13 (44, .iload_n 3, 1) rfl
theorem dX5_foresee_45 : decode cX5_foresee 45 = .ok (.ireturn, 1) := dTX5_foresee_0_ok 14 (45, .ireturn, 1) rfl
theorem dX5_foresee_46 : decode cX5_foresee 46 = .ok (.aload_n 0, 1) := dTX5_foresee_0_ok 15 (46, .aload_n 0, 1) rfl
theorem dX5_foresee_47 : decode cX5_foresee 47 = .ok (.getfield 16, 3) := dTX5_foresee_0_ok 16 (47, .getfield 16, 3) rfl
theorem dX5_foresee_50 : decode cX5_foresee 50 = .ok (.getfield 40, 3) := dTX5_foresee_0_ok 17 (50, .getfield 40, 3) rfl
theorem dX5_foresee_53 : decode cX5_foresee 53 = .ok (.invokevirtual 168, 3) := dTX5_foresee_0_ok 18 (53, .invokevirtual 168, 3) rfl
theorem dX5_foresee_56 : decode cX5_foresee 56 = .ok (.ireturn, 1) := dTX5_foresee_0_ok 19 (56, .ireturn, 1) rfl
theorem dX5_foresee_57 : decode cX5_foresee 57 = .ok (.aload_n 0, 1) := dTX5_foresee_0_ok 20 (57, .aload_n 0, 1) rfl
theorem dX5_foresee_58 : decode cX5_foresee 58 = .ok (.getfield 16, 3) := dTX5_foresee_0_ok 21 (58, .getfield 16, 3) rfl
theorem dX5_foresee_61 : decode cX5_foresee 61 = .ok (.getfield 40, 3) := dTX5_foresee_0_ok 22 (61, .getfield 40, 3) rfl
theorem dX5_foresee_64 : decode cX5_foresee 64 = .ok (.invokevirtual 171, 3) := dTX5_foresee_0_ok 23 (64, .invokevirtual 171, 3) rfl
theorem dX5_foresee_67 : decode cX5_foresee 67 = .ok (.ireturn, 1) := dTX5_foresee_0_ok 24 (67, .ireturn, 1) rfl
theorem dX5_foresee_68 : decode cX5_foresee 68 = .ok (.aload_n 0, 1) := dTX5_foresee_0_ok 25 (68, .aload_n 0, 1) rfl
theorem dX5_foresee_69 : decode cX5_foresee 69 = .ok (.getfield 16, 3) := dTX5_foresee_0_ok 26 (69, .getfield 16, 3) rfl
theorem dX5_foresee_72 : decode cX5_foresee 72 = .ok (.invokevirtual 174, 3) := dTX5_foresee_0_ok 27 (72, .invokevirtual 174, 3) rfl
theorem dX5_foresee_75 : decode cX5_foresee 75 = .ok (.ireturn, 1) := dTX5_foresee_0_ok 28 (75, .ireturn, 1) rfl
noncomputable def dTX5_mean_0 : List (Nat × Instr × Nat) := [(0, .aload_n 0, 1), (1, .getfield 10, 3), (4, .getfield 40, 3), (7, .invokevirtual 76, 3), (10, .istore_n 1, 1), (11, .iload_n 1, 1), (12, .ifCond .ne 7, 3), (15, .dconst 0, 1), (16, .goto 17, 3), (19, .aload_n 0, 1), (20, .getfield 10, 3), (23, .getfield 40, 3), (26, .invokevirtual 189, 3), (29, .i2d, 1), (30, .iload_n 1, 1), (31, .i2d, 1), (32, .ddiv, 1), (33, .dreturn, 1)]
theorem dTX5_mean_0_ok : ∀ (k : Nat) (q : Nat × Instr × Nat), dTX5_mean_0[k]? = some q → decode cX5_mean q.1 = .ok q.2 := dT_of (by decide +kernel)
theorem dX5_mean_0 : decode cX5_mean 0 = .ok (.aload_n 0, 1) := dTX5_mean_0_ok 0 (0, .aload_n 0, 1) rfl
theorem dX5_mean_1 : decode cX5_mean 1 = .ok (.getfield 10, 3) := dTX5_mean_0_ok 1 (1, .getfield 10, 3) rfl
theorem dX5_mean_4 : decode cX5_mean 4 = .ok (.getfield 40, 3) := dTX5_mean_0_ok 2 (4, .getfield 40, 3) rfl
theorem dX5_mean_7 : decode cX5_mean 7 = .ok (.invokevirtual 76, 3) := dTX5_mean_0_ok 3 (7, .invokevirtual 76, 3) rfl
theorem dX5_mean_10 : decode cX5_mean 10 = .ok (.istore_n 1, 1) := dTX5_mean_0_ok 4 (10, .istore_n 1, 1) rfl
theorem dX5_mean_11 : decode cX5_mean 11 = .ok (.iload_n 1, 1) := dTX5_mean_0_ok 5 (11, .iload_n 1, 1) rfl
theorem dX5_mean_12 : decode cX5_mean 12 = .ok (.ifCond .ne 7, 3) := dTX5_mean_0_ok 6 (12, .ifCond .ne 7, 3) rfl
theorem dX5_mean_15 : decode cX5_mean 15 = .ok (.dconst 0, 1) := dTX5_mean_0_ok 7 (15, .dconst 0, 1) rfl
theorem dX5_mean_16 : decode cX5_mean 16 = .ok (.goto 17, 3) := dTX5_mean_0_ok 8 (16, .goto 17, 3) rfl
theorem dX5_mean_19 : decode cX5_mean 19 = .ok (.aload_n 0, 1) := dTX5_mean_0_ok 9 (19, .aload_n 0, 1) rfl
theorem dX5_mean_20 : decode cX5_mean 20 = .ok (.getfield 10, 3) := dTX5_mean_0_ok 10 (20, .getfield 10, 3) rfl
theorem dX5_mean_23 : decode cX5_mean 23 = .ok (.getfield 40, 3) := dTX5_mean_0_ok 11 (23, .getfield 40, 3) rfl
theorem dX5_mean_26 : decode cX5_mean 26 = .ok (.invokevirtual 189, 3) := dTX5_mean_0_ok 12 (26, .invokevirtual 189, 3) rfl
theorem dX5_mean_29 : decode cX5_mean 29 = .ok (.i2d, 1) := dTX5_mean_0_ok 13 (29, .i2d, 1) rfl
theorem dX5_mean_30 : decode cX5_mean 30 = .ok (.iload_n 1, 1) := dTX5_mean_0_ok 14 (30, .iload_n 1, 1) rfl
theorem dX5_mean_31 : decode cX5_mean 31 = .ok (.i2d, 1) := dTX5_mean_0_ok 15 (31, .i2d, 1) rfl
theorem dX5_mean_32 : decode cX5_mean 32 = .ok (.ddiv, 1) := dTX5_mean_0_ok 16 (32, .ddiv, 1) rfl
theorem dX5_mean_33 : decode cX5_mean 33 = .ok (.dreturn, 1) := dTX5_mean_0_ok 17 (33, .dreturn, 1) rfl
noncomputable def dTX5_hauntsAhead_0 : List (Nat × Instr × Nat) := [(0, .aload_n 0, 1), (1, .getfield 16, 3), (4, .aload_n 0, 1), (5, .getfield 10, 3), (8, .invokevirtual 182, 3), (11, .iload_n 2, 1), (12, .iconst (-1), 1), (13, .if_icmp .eq 14, 3), (16, .aload_n 0, 1), (17, .getfield 16, 3), (20, .getfield 40, 3), (23, .iload_n 2, 1), (24, .invokevirtual 97, 3), (27, .iconst 0, 1), (28, .istore_n 3, 1), (29, .iconst 0, 1), (30, .istore 4, 2), (32, .iload 4, 2), (34, .iload_n 1, 1), (35, .if_icmp .ge 19, 3), (38, .iload_n 3, 1), (39, .aload_n 0, 1), (40, .getfield 16, 3), (43, .invokevirtual 162, 3), (46, .iadd, 1), (47, .istore_n 3, 1), (48, .iinc 4 1, 3), (51, .goto (-19), 3), (54, .iload_n 3, 1), (55, .ireturn, 1)]
theorem dTX5_hauntsAhead_0_ok : ∀ (k : Nat) (q : Nat × Instr × Nat), dTX5_hauntsAhead_0[k]? = some q → decode cX5_hauntsAhead q.1 = .ok q.2 := dT_of (by decide +kernel)
theorem dX5_hauntsAhead_0 : decode cX5_hauntsAhead 0 = .ok (.aload_n 0, 1) := dTX5_hauntsAhead_0_ok 0 (0, .aload_n 0, 1) rfl
theorem dX5_hauntsAhead_1 : decode cX5_hauntsAhead 1 = .ok (.getfield 16, 3) := dTX5_hauntsAhead_0_ok 1 (1, .getfield 16, 3) rfl
theorem dX5_hauntsAhead_4 : decode cX5_hauntsAhead 4 = .ok (.aload_n 0, 1) := dTX5_hauntsAhead_0_ok 2 (4, .aload_n 0, 1) rfl
theorem dX5_hauntsAhead_5 : decode cX5_hauntsAhead 5 = .ok (.getfield 10, 3) := dTX5_hauntsAhead_0_ok 3 (5, .getfield 10, 3) rfl
theorem dX5_hauntsAhead_8 : decode cX5_hauntsAhead 8 = .ok (.invokevirtual 182, 3) := dTX5_hauntsAhead_0_ok 4 (8, .invokevirtual 182, 3) rfl
theorem dX5_hauntsAhead_11 : decode cX5_hauntsAhead 11 = .ok (.iload_n 2, 1) := dTX5_hauntsAhead_0_ok 5 (11, .iload_n 2, 1) rfl
theorem dX5_hauntsAhead_12 : decode cX5_hauntsAhead 12 = .ok (.iconst (-1), 1) := dTX5_hauntsAhead_0_ok 6 (12, .iconst (-1), 1) rfl
theorem dX5_hauntsAhead_13 : decode cX5_hauntsAhead 13 = .ok (.if_icmp .eq 14, 3) := dTX5_hauntsAhead_0_ok 7 (13, .if_icmp .eq 14, 3) rfl
theorem dX5_hauntsAhead_16 : decode cX5_hauntsAhead 16 = .ok (.aload_n 0, 1) := dTX5_hauntsAhead_0_ok 8 (16, .aload_n 0, 1) rfl
theorem dX5_hauntsAhead_17 : decode cX5_hauntsAhead 17 = .ok (.getfield 16, 3) := dTX5_hauntsAhead_0_ok 9 (17, .getfield 16, 3) rfl
theorem dX5_hauntsAhead_20 : decode cX5_hauntsAhead 20 = .ok (.getfield 40, 3) := dTX5_hauntsAhead_0_ok 10 (20, .getfield 40, 3) rfl
theorem dX5_hauntsAhead_23 : decode cX5_hauntsAhead 23 = .ok (.iload_n 2, 1) := dTX5_hauntsAhead_0_ok 11 (23, .iload_n 2, 1) rfl
theorem dX5_hauntsAhead_24 : decode cX5_hauntsAhead 24 = .ok (.invokevirtual 97, 3) := dTX5_hauntsAhead_0_ok 12 (24, .invokevirtual 97, 3) rfl
theorem dX5_hauntsAhead_27 : decode cX5_hauntsAhead 27 = .ok (.iconst 0, 1) := dTX5_hauntsAhead_0_ok 13 (27, .iconst 0, 1) rfl
theorem dX5_hauntsAhead_28 : decode cX5_hauntsAhead 28 = .ok (.istore_n 3, 1) := dTX5_hauntsAhead_0_ok 14 (28, .istore_n 3, 1) rfl
theorem dX5_hauntsAhead_29 : decode cX5_hauntsAhead 29 = .ok (.iconst 0, 1) := dTX5_hauntsAhead_0_ok 15 (29, .iconst 0, 1) rfl
theorem dX5_hauntsAhead_30 : decode cX5_hauntsAhead 30 = .ok (.istore 4, 2) := dTX5_hauntsAhead_0_ok 16 (30, .istore 4, 2) rfl
theorem dX5_hauntsAhead_32 : decode cX5_hauntsAhead 32 = .ok (.iload 4, 2) := dTX5_hauntsAhead_0_ok 17 (32, .iload 4, 2) rfl
theorem dX5_hauntsAhead_34 : decode cX5_hauntsAhead 34 = .ok (.iload_n 1, 1) := dTX5_hauntsAhead_0_ok 18 (34, .iload_n 1, 1) rfl
theorem dX5_hauntsAhead_35 : decode cX5_hauntsAhead 35 = .ok (.if_icmp .ge 19, 3) := dTX5_hauntsAhead_0_ok 19 (35, .if_icmp .ge 19, 3) rfl
theorem dX5_hauntsAhead_38 : decode cX5_hauntsAhead 38 = .ok (.iload_n 3, 1) := dTX5_hauntsAhead_0_ok 20 (38, .iload_n 3, 1) rfl
theorem dX5_hauntsAhead_39 : decode cX5_hauntsAhead 39 = .ok (.aload_n 0, 1) := dTX5_hauntsAhead_0_ok 21 (39, .aload_n 0, 1) rfl
theorem dX5_hauntsAhead_40 : decode cX5_hauntsAhead 40 = .ok (.getfield 16, 3) := dTX5_hauntsAhead_0_ok 22 (40, .getfield 16, 3) rfl
theorem dX5_hauntsAhead_43 : decode cX5_hauntsAhead 43 = .ok (.invokevirtual 162, 3) := dTX5_hauntsAhead_0_ok 23 (43, .invokevirtual 162, 3) rfl
theorem dX5_hauntsAhead_46 : decode cX5_hauntsAhead 46 = .ok (.iadd, 1) := dTX5_hauntsAhead_0_ok 24 (46, .iadd, 1) rfl
theorem dX5_hauntsAhead_47 : decode cX5_hauntsAhead 47 = .ok (.istore_n 3, 1) := dTX5_hauntsAhead_0_ok 25 (47, .istore_n 3, 1) rfl
theorem dX5_hauntsAhead_48 : decode cX5_hauntsAhead 48 = .ok (.iinc 4 1, 3) := dTX5_hauntsAhead_0_ok 26 (48, .iinc 4 1, 3) rfl
theorem dX5_hauntsAhead_51 : decode cX5_hauntsAhead 51 = .ok (.goto (-19), 3) := dTX5_hauntsAhead_0_ok 27 (51, .goto (-19), 3) rfl
theorem dX5_hauntsAhead_54 : decode cX5_hauntsAhead 54 = .ok (.iload_n 3, 1) := dTX5_hauntsAhead_0_ok 28 (54, .iload_n 3, 1) rfl
theorem dX5_hauntsAhead_55 : decode cX5_hauntsAhead 55 = .ok (.ireturn, 1) := dTX5_hauntsAhead_0_ok 29 (55, .ireturn, 1) rfl
noncomputable def dTX5_checkedCell_0 : List (Nat × Instr × Nat) := [(0, .iload_n 0, 1), (1, .ifCond .lt 19, 3), (4, .iload_n 0, 1), (5, .bipush 9, 2), (7, .if_icmp .ge 13, 3), (10, .iload_n 1, 1), (11, .ifCond .lt 9, 3), (14, .iload_n 1, 1), (15, .bipush 7, 2), (17, .if_icmp .lt 13, 3), (20, .new 196, 3), (23, .dup, 1), (24, .ldc 198, 2), (26, .invokespecial 200, 3), (29, .athrow, 1), (30, .bipush 9, 2), (32, .iload_n 1, 1), (33, .imul, 1), (34, .iload_n 0, 1), (35, .iadd, 1), (36, .ireturn, 1)]
theorem dTX5_checkedCell_0_ok : ∀ (k : Nat) (q : Nat × Instr × Nat), dTX5_checkedCell_0[k]? = some q → decode cX5_checkedCell q.1 = .ok q.2 := dT_of (by decide +kernel)
theorem dX5_checkedCell_0 : decode cX5_checkedCell 0 = .ok (.iload_n 0, 1) := dTX5_checkedCell_0_ok 0 (0, .iload_n 0, 1) rfl
theorem dX5_checkedCell_1 : decode cX5_checkedCell 1 = .ok (.ifCond .lt 19, 3) := dTX5_checkedCell_0_ok 1 (1, .ifCond .lt 19, 3) rfl
theorem dX5_checkedCell_4 : decode cX5_checkedCell 4 = .ok (.iload_n 0, 1) := dTX5_checkedCell_0_ok 2 (4, .iload_n 0, 1) rfl
theorem dX5_checkedCell_5 : decode cX5_checkedCell 5 = .ok (.bipush 9, 2) := dTX5_checkedCell_0_ok 3 (5, .bipush 9, 2) rfl
theorem dX5_checkedCell_7 : decode cX5_checkedCell 7 = .ok (.if_icmp .ge 13, 3) := dTX5_checkedCell_0_ok 4 (7, .if_icmp .ge 13, 3) rfl
theorem dX5_checkedCell_10 : decode cX5_checkedCell 10 = .ok (.iload_n 1, 1) := dTX5_checkedCell_0_ok 5 (10, .iload_n 1, 1) rfl
theorem dX5_checkedCell_11 : decode cX5_checkedCell 11 = .ok (.ifCond .lt 9, 3) := dTX5_checkedCell_0_ok 6 (11, .ifCond .lt 9, 3) rfl
theorem dX5_checkedCell_14 : decode cX5_checkedCell 14 = .ok (.iload_n 1, 1) := dTX5_checkedCell_0_ok 7 (14, .iload_n 1, 1) rfl
theorem dX5_checkedCell_15 : decode cX5_checkedCell 15 = .ok (.bipush 7, 2) := dTX5_checkedCell_0_ok 8 (15, .bipush 7, 2) rfl
theorem dX5_checkedCell_17 : decode cX5_checkedCell 17 = .ok (.if_icmp .lt 13, 3) := dTX5_checkedCell_0_ok 9 (17, .if_icmp .lt 13, 3) rfl
theorem dX5_checkedCell_20 : decode cX5_checkedCell 20 = .ok (.new 196, 3) := dTX5_checkedCell_0_ok 10 (20, .new 196, 3) rfl
theorem dX5_checkedCell_23 : decode cX5_checkedCell 23 = .ok (.dup, 1) := dTX5_checkedCell_0_ok 11 (23, .dup, 1) rfl
theorem dX5_checkedCell_24 : decode cX5_checkedCell 24 = .ok (.ldc 198, 2) := dTX5_checkedCell_0_ok 12 (24, .ldc 198, 2) rfl
theorem dX5_checkedCell_26 : decode cX5_checkedCell 26 = .ok (.invokespecial 200, 3) := dTX5_checkedCell_0_ok 13 (26, .invokespecial 200, 3) rfl
theorem dX5_checkedCell_29 : decode cX5_checkedCell 29 = .ok (.athrow, 1) := dTX5_checkedCell_0_ok 14 (29, .athrow, 1) rfl
theorem dX5_checkedCell_30 : decode cX5_checkedCell 30 = .ok (.bipush 9, 2) := dTX5_checkedCell_0_ok 15 (30, .bipush 9, 2) rfl
theorem dX5_checkedCell_32 : decode cX5_checkedCell 32 = .ok (.iload_n 1, 1) := dTX5_checkedCell_0_ok 16 (32, .iload_n 1, 1) rfl
theorem dX5_checkedCell_33 : decode cX5_checkedCell 33 = .ok (.imul, 1) := dTX5_checkedCell_0_ok 17 (33, .imul, 1) rfl
theorem dX5_checkedCell_34 : decode cX5_checkedCell 34 = .ok (.iload_n 0, 1) := dTX5_checkedCell_0_ok 18 (34, .iload_n 0, 1) rfl
theorem dX5_checkedCell_35 : decode cX5_checkedCell 35 = .ok (.iadd, 1) := dTX5_checkedCell_0_ok 19 (35, .iadd, 1) rfl
theorem dX5_checkedCell_36 : decode cX5_checkedCell 36 = .ok (.ireturn, 1) := dTX5_checkedCell_0_ok 20 (36, .ireturn, 1) rfl
noncomputable def dTX5_checkDirection_0 : List (Nat × Instr × Nat) := [(0, .iload_n 0, 1), (1, .ifCond .lt 8, 3), (4, .iload_n 0, 1), (5, .iconst 4, 1), (6, .if_icmp .lt 13, 3), (9, .new 53, 3), (12, .dup, 1), (13, .ldc 201, 2), (15, .invokespecial 57, 3), (18, .athrow, 1), (19, .return_, 1)]
theorem dTX5_checkDirection_0_ok : ∀ (k : Nat) (q : Nat × Instr × Nat), dTX5_checkDirection_0[k]? = some q → decode cX5_checkDirection q.1 = .ok q.2 := dT_of (by decide +kernel)
theorem dX5_checkDirection_0 : decode cX5_checkDirection 0 = .ok (.iload_n 0, 1) := dTX5_checkDirection_0_ok 0 (0, .iload_n 0, 1) rfl
theorem dX5_checkDirection_1 : decode cX5_checkDirection 1 = .ok (.ifCond .lt 8, 3) := dTX5_checkDirection_0_ok 1 (1, .ifCond .lt 8, 3) rfl
theorem dX5_checkDirection_4 : decode cX5_checkDirection 4 = .ok (.iload_n 0, 1) := dTX5_checkDirection_0_ok 2 (4, .iload_n 0, 1) rfl
theorem dX5_checkDirection_5 : decode cX5_checkDirection 5 = .ok (.iconst 4, 1) := dTX5_checkDirection_0_ok 3 (5, .iconst 4, 1) rfl
theorem dX5_checkDirection_6 : decode cX5_checkDirection 6 = .ok (.if_icmp .lt 13, 3) := dTX5_checkDirection_0_ok 4 (6, .if_icmp .lt 13, 3) rfl
theorem dX5_checkDirection_9 : decode cX5_checkDirection 9 = .ok (.new 53, 3) := dTX5_checkDirection_0_ok 5 (9, .new 53, 3) rfl
theorem dX5_checkDirection_12 : decode cX5_checkDirection 12 = .ok (.dup, 1) := dTX5_checkDirection_0_ok 6 (12, .dup, 1) rfl
theorem dX5_checkDirection_13 : decode cX5_checkDirection 13 = .ok (.ldc 201, 2) := dTX5_checkDirection_0_ok 7 (13, .ldc 201, 2) rfl
theorem dX5_checkDirection_15 : decode cX5_checkDirection 15 = .ok (.invokespecial 57, 3) := dTX5_checkDirection_0_ok 8 (15, .invokespecial 57, 3) rfl
theorem dX5_checkDirection_18 : decode cX5_checkDirection 18 = .ok (.athrow, 1) := dTX5_checkDirection_0_ok 9 (18, .athrow, 1) rfl
theorem dX5_checkDirection_19 : decode cX5_checkDirection 19 = .ok (.return_, 1) := dTX5_checkDirection_0_ok 10 (19, .return_, 1) rfl
noncomputable def dTX5_checkWhat_0 : List (Nat × Instr × Nat) := [(0, .iload_n 0, 1), (1, .ifCond .lt 8, 3), (4, .iload_n 0, 1), (5, .iload_n 1, 1), (6, .if_icmp .lt 13, 3), (9, .new 196, 3), (12, .dup, 1), (13, .ldc 203, 2), (15, .invokespecial 200, 3), (18, .athrow, 1), (19, .return_, 1)]
theorem dTX5_checkWhat_0_ok : ∀ (k : Nat) (q : Nat × Instr × Nat), dTX5_checkWhat_0[k]? = some q → decode cX5_checkWhat q.1 = .ok q.2 := dT_of (by decide +kernel)
theorem dX5_checkWhat_0 : decode cX5_checkWhat 0 = .ok (.iload_n 0, 1) := dTX5_checkWhat_0_ok 0 (0, .iload_n 0, 1) rfl
theorem dX5_checkWhat_1 : decode cX5_checkWhat 1 = .ok (.ifCond .lt 8, 3) := dTX5_checkWhat_0_ok 1 (1, .ifCond .lt 8, 3) rfl
theorem dX5_checkWhat_4 : decode cX5_checkWhat 4 = .ok (.iload_n 0, 1) := dTX5_checkWhat_0_ok 2 (4, .iload_n 0, 1) rfl
theorem dX5_checkWhat_5 : decode cX5_checkWhat 5 = .ok (.iload_n 1, 1) := dTX5_checkWhat_0_ok 3 (5, .iload_n 1, 1) rfl
theorem dX5_checkWhat_6 : decode cX5_checkWhat 6 = .ok (.if_icmp .lt 13, 3) := dTX5_checkWhat_0_ok 4 (6, .if_icmp .lt 13, 3) rfl
theorem dX5_checkWhat_9 : decode cX5_checkWhat 9 = .ok (.new 196, 3) := dTX5_checkWhat_0_ok 5 (9, .new 196, 3) rfl
theorem dX5_checkWhat_12 : decode cX5_checkWhat 12 = .ok (.dup, 1) := dTX5_checkWhat_0_ok 6 (12, .dup, 1) rfl
theorem dX5_checkWhat_13 : decode cX5_checkWhat 13 = .ok (.ldc 203, 2) := dTX5_checkWhat_0_ok 7 (13, .ldc 203, 2) rfl
theorem dX5_checkWhat_15 : decode cX5_checkWhat 15 = .ok (.invokespecial 200, 3) := dTX5_checkWhat_0_ok 8 (15, .invokespecial 200, 3) rfl
theorem dX5_checkWhat_18 : decode cX5_checkWhat 18 = .ok (.athrow, 1) := dTX5_checkWhat_0_ok 9 (18, .athrow, 1) rfl
theorem dX5_checkWhat_19 : decode cX5_checkWhat 19 = .ok (.return_, 1) := dTX5_checkWhat_0_ok 10 (19, .return_, 1) rfl
noncomputable def dTX5_checkHours_0 : List (Nat × Instr × Nat) := [(0, .iload_n 0, 1), (1, .iconst 1, 1), (2, .if_icmp .lt 8, 3), (5, .iload_n 0, 1), (6, .iload_n 1, 1), (7, .if_icmp .le 13, 3), (10, .new 53, 3), (13, .dup, 1), (14, .ldc 205, 2), (16, .invokespecial 57, 3), (19, .athrow, 1), (20, .return_, 1)]
theorem dTX5_checkHours_0_ok : ∀ (k : Nat) (q : Nat × Instr × Nat), dTX5_checkHours_0[k]? = some q → decode cX5_checkHours q.1 = .ok q.2 := dT_of (by decide +kernel)
theorem dX5_checkHours_0 : decode cX5_checkHours 0 = .ok (.iload_n 0, 1) := dTX5_checkHours_0_ok 0 (0, .iload_n 0, 1) rfl
theorem dX5_checkHours_1 : decode cX5_checkHours 1 = .ok (.iconst 1, 1) := dTX5_checkHours_0_ok 1 (1, .iconst 1, 1) rfl
theorem dX5_checkHours_2 : decode cX5_checkHours 2 = .ok (.if_icmp .lt 8, 3) := dTX5_checkHours_0_ok 2 (2, .if_icmp .lt 8, 3) rfl
theorem dX5_checkHours_5 : decode cX5_checkHours 5 = .ok (.iload_n 0, 1) := dTX5_checkHours_0_ok 3 (5, .iload_n 0, 1) rfl
theorem dX5_checkHours_6 : decode cX5_checkHours 6 = .ok (.iload_n 1, 1) := dTX5_checkHours_0_ok 4 (6, .iload_n 1, 1) rfl
theorem dX5_checkHours_7 : decode cX5_checkHours 7 = .ok (.if_icmp .le 13, 3) := dTX5_checkHours_0_ok 5 (7, .if_icmp .le 13, 3) rfl
theorem dX5_checkHours_10 : decode cX5_checkHours 10 = .ok (.new 53, 3) := dTX5_checkHours_0_ok 6 (10, .new 53, 3) rfl
theorem dX5_checkHours_13 : decode cX5_checkHours 13 = .ok (.dup, 1) := dTX5_checkHours_0_ok 7 (13, .dup, 1) rfl
theorem dX5_checkHours_14 : decode cX5_checkHours 14 = .ok (.ldc 205, 2) := dTX5_checkHours_0_ok 8 (14, .ldc 205, 2) rfl
theorem dX5_checkHours_16 : decode cX5_checkHours 16 = .ok (.invokespecial 57, 3) := dTX5_checkHours_0_ok 9 (16, .invokespecial 57, 3) rfl
theorem dX5_checkHours_19 : decode cX5_checkHours 19 = .ok (.athrow, 1) := dTX5_checkHours_0_ok 10 (19, .athrow, 1) rfl
theorem dX5_checkHours_20 : decode cX5_checkHours 20 = .ok (.return_, 1) := dTX5_checkHours_0_ok 11 (20, .return_, 1) rfl
noncomputable def dTX5_checkGhost_0 : List (Nat × Instr × Nat) := [(0, .iload_n 1, 1), (1, .ifCond .lt 14, 3), (4, .iload_n 1, 1), (5, .aload_n 0, 1), (6, .getfield 10, 3), (9, .getfield 105, 3), (12, .if_icmp .lt 13, 3), (15, .new 196, 3), (18, .dup, 1), (19, .ldc 207, 2), (21, .invokespecial 200, 3), (24, .athrow, 1), (25, .return_, 1)]
theorem dTX5_checkGhost_0_ok : ∀ (k : Nat) (q : Nat × Instr × Nat), dTX5_checkGhost_0[k]? = some q → decode cX5_checkGhost q.1 = .ok q.2 := dT_of (by decide +kernel)
theorem dX5_checkGhost_0 : decode cX5_checkGhost 0 = .ok (.iload_n 1, 1) := dTX5_checkGhost_0_ok 0 (0, .iload_n 1, 1) rfl
theorem dX5_checkGhost_1 : decode cX5_checkGhost 1 = .ok (.ifCond .lt 14, 3) := dTX5_checkGhost_0_ok 1 (1, .ifCond .lt 14, 3) rfl
theorem dX5_checkGhost_4 : decode cX5_checkGhost 4 = .ok (.iload_n 1, 1) := dTX5_checkGhost_0_ok 2 (4, .iload_n 1, 1) rfl
theorem dX5_checkGhost_5 : decode cX5_checkGhost 5 = .ok (.aload_n 0, 1) := dTX5_checkGhost_0_ok 3 (5, .aload_n 0, 1) rfl
theorem dX5_checkGhost_6 : decode cX5_checkGhost 6 = .ok (.getfield 10, 3) := dTX5_checkGhost_0_ok 4 (6, .getfield 10, 3) rfl
theorem dX5_checkGhost_9 : decode cX5_checkGhost 9 = .ok (.getfield 105, 3) := dTX5_checkGhost_0_ok 5 (9, .getfield 105, 3) rfl
theorem dX5_checkGhost_12 : decode cX5_checkGhost 12 = .ok (.if_icmp .lt 13, 3) := dTX5_checkGhost_0_ok 6 (12, .if_icmp .lt 13, 3) rfl
theorem dX5_checkGhost_15 : decode cX5_checkGhost 15 = .ok (.new 196, 3) := dTX5_checkGhost_0_ok 7 (15, .new 196, 3) rfl
theorem dX5_checkGhost_18 : decode cX5_checkGhost 18 = .ok (.dup, 1) := dTX5_checkGhost_0_ok 8 (18, .dup, 1) rfl
theorem dX5_checkGhost_19 : decode cX5_checkGhost 19 = .ok (.ldc 207, 2) := dTX5_checkGhost_0_ok 9 (19, .ldc 207, 2) rfl
theorem dX5_checkGhost_21 : decode cX5_checkGhost 21 = .ok (.invokespecial 200, 3) := dTX5_checkGhost_0_ok 10 (21, .invokespecial 200, 3) rfl
theorem dX5_checkGhost_24 : decode cX5_checkGhost 24 = .ok (.athrow, 1) := dTX5_checkGhost_0_ok 11 (24, .athrow, 1) rfl
theorem dX5_checkGhost_25 : decode cX5_checkGhost 25 = .ok (.return_, 1) := dTX5_checkGhost_0_ok 12 (25, .return_, 1) rfl
noncomputable def dTX5_checkRoomFor_0 : List (Nat × Instr × Nat) := [(0, .iload_n 1, 1), (1, .iload_n 2, 1), (2, .if_icmp .ge 17, 3), (5, .aload_n 0, 1), (6, .getfield 10, 3), (9, .getfield 40, 3), (12, .iload_n 3, 1), (13, .invokevirtual 82, 3), (16, .ifCond .eq 13, 3), (19, .new 33, 3), (22, .dup, 1), (23, .ldc 209, 2), (25, .invokespecial 37, 3), (28, .athrow, 1), (29, .return_, 1)]
theorem dTX5_checkRoomFor_0_ok : ∀ (k : Nat) (q : Nat × Instr × Nat), dTX5_checkRoomFor_0[k]? = some q → decode cX5_checkRoomFor q.1 = .ok q.2 := dT_of (by decide +kernel)
theorem dX5_checkRoomFor_0 : decode cX5_checkRoomFor 0 = .ok (.iload_n 1, 1) := dTX5_checkRoomFor_0_ok 0 (0, .iload_n 1, 1) rfl
theorem dX5_checkRoomFor_1 : decode cX5_checkRoomFor 1 = .ok (.iload_n 2, 1) := dTX5_checkRoomFor_0_ok 1 (1, .iload_n 2, 1) rfl
theorem dX5_checkRoomFor_2 : decode cX5_checkRoomFor 2 = .ok (.if_icmp .ge 17, 3) := dTX5_checkRoomFor_0_ok 2 (2, .if_icmp .ge 17, 3) rfl
theorem dX5_checkRoomFor_5 : decode cX5_checkRoomFor 5 = .ok (.aload_n 0, 1) := dTX5_checkRoomFor_0_ok 3 (5, .aload_n 0, 1) rfl
theorem dX5_checkRoomFor_6 : decode cX5_checkRoomFor 6 = .ok (.getfield 10, 3) := dTX5_checkRoomFor_0_ok 4 (6, .getfield 10, 3) rfl
theorem dX5_checkRoomFor_9 : decode cX5_checkRoomFor 9 = .ok (.getfield 40, 3) := dTX5_checkRoomFor_0_ok 5 (9, .getfield 40, 3) rfl
theorem dX5_checkRoomFor_12 : decode cX5_checkRoomFor 12 = .ok (.iload_n 3, 1) := dTX5_checkRoomFor_0_ok 6 (12, .iload_n 3, 1) rfl
theorem dX5_checkRoomFor_13 : decode cX5_checkRoomFor 13 = .ok (.invokevirtual 82, 3) := dTX5_checkRoomFor_0_ok 7 (13, .invokevirtual 82, 3) rfl
theorem dX5_checkRoomFor_16 : decode cX5_checkRoomFor 16 = .ok (.ifCond .eq 13, 3) := dTX5_checkRoomFor_0_ok 8 (16, .ifCond .eq 13, 3) rfl
theorem dX5_checkRoomFor_19 : decode cX5_checkRoomFor 19 = .ok (.new 33, 3) := dTX5_checkRoomFor_0_ok 9 (19, .new 33, 3) rfl
theorem dX5_checkRoomFor_22 : decode cX5_checkRoomFor 22 = .ok (.dup, 1) := dTX5_checkRoomFor_0_ok 10 (22, .dup, 1) rfl
theorem dX5_checkRoomFor_23 : decode cX5_checkRoomFor 23 = .ok (.ldc 209, 2) := dTX5_checkRoomFor_0_ok 11 (23, .ldc 209, 2) rfl
theorem dX5_checkRoomFor_25 : decode cX5_checkRoomFor 25 = .ok (.invokespecial 37, 3) := dTX5_checkRoomFor_0_ok 12 (25, .invokespecial 37, 3) rfl
theorem dX5_checkRoomFor_28 : decode cX5_checkRoomFor 28 = .ok (.athrow, 1) := dTX5_checkRoomFor_0_ok 13 (28, .athrow, 1) rfl
theorem dX5_checkRoomFor_29 : decode cX5_checkRoomFor 29 = .ok (.return_, 1) := dTX5_checkRoomFor_0_ok 14 (29, .return_, 1) rfl
noncomputable def dTX6_init_0 : List (Nat × Instr × Nat) := [(0, .aload_n 0, 1), (1, .invokespecial 1, 3), (4, .aload_n 0, 1), (5, .iconst 1, 1), (6, .putfield 7, 3), (9, .return_, 1)]
theorem dTX6_init_0_ok : ∀ (k : Nat) (q : Nat × Instr × Nat), dTX6_init_0[k]? = some q → decode cX6_init q.1 = .ok q.2 := dT_of (by decide +kernel)
theorem dX6_init_0 : decode cX6_init 0 = .ok (.aload_n 0, 1) := dTX6_init_0_ok 0 (0, .aload_n 0, 1) rfl
theorem dX6_init_1 : decode cX6_init 1 = .ok (.invokespecial 1, 3) := dTX6_init_0_ok 1 (1, .invokespecial 1, 3) rfl
theorem dX6_init_4 : decode cX6_init 4 = .ok (.aload_n 0, 1) := dTX6_init_0_ok 2 (4, .aload_n 0, 1) rfl
theorem dX6_init_5 : decode cX6_init 5 = .ok (.iconst 1, 1) := dTX6_init_0_ok 3 (5, .iconst 1, 1) rfl
theorem dX6_init_6 : decode cX6_init 6 = .ok (.putfield 7, 3) := dTX6_init_0_ok 4 (6, .putfield 7, 3) rfl
theorem dX6_init_9 : decode cX6_init 9 = .ok (.return_, 1) := dTX6_init_0_ok 5 (9, .return_, 1) rfl
noncomputable def dTX7_init_0 : List (Nat × Instr × Nat) := [(0, .aload_n 0, 1), (1, .invokespecial 1, 3), (4, .aload_n 0, 1), (5, .bipush 9, 2), (7, .bipush 7, 2), (9, .iconst 4, 1), (10, .multianewarray 7 3, 4), (14, .putfield 9, 3), (17, .aload_n 0, 1), (18, .bipush 9, 2), (20, .bipush 7, 2), (22, .multianewarray 14 2, 4), (26, .putfield 16, 3), (29, .aload_n 0, 1), (30, .bipush 9, 2), (32, .bipush 7, 2), (34, .multianewarray 14 2, 4), (38, .putfield 19, 3), (41, .aload_n 0, 1), (42, .bipush 9, 2), (44, .bipush 7, 2), (46, .multianewarray 22 2, 4), (50, .putfield 24, 3), (53, .aload_n 0, 1), (54, .iconst 0, 1), (55, .anewarray 27, 3), (58, .putfield 29, 3), (61, .aload_n 0, 1), (62, .bipush 126, 2), (64, .newarray .int, 2), (66, .putfield 33, 3), (69, .aload_n 0, 1), (70, .bipush 126, 2), (72, .newarray .int, 2), (74, .putfield 37, 3), (77, .return_, 1)]
theorem dTX7_init_0_ok : ∀ (k : Nat) (q : Nat × Instr × Nat), dTX7_init_0[k]? = some q → decode cX7_init q.1 = .ok q.2 := dT_of (by decide +kernel)
theorem dX7_init_0 : decode cX7_init 0 = .ok (.aload_n 0, 1) := dTX7_init_0_ok 0 (0, .aload_n 0, 1) rfl
theorem dX7_init_1 : decode cX7_init 1 = .ok (.invokespecial 1, 3) := dTX7_init_0_ok 1 (1, .invokespecial 1, 3) rfl
theorem dX7_init_4 : decode cX7_init 4 = .ok (.aload_n 0, 1) := dTX7_init_0_ok 2 (4, .aload_n 0, 1) rfl
theorem dX7_init_5 : decode cX7_init 5 = .ok (.bipush 9, 2) := dTX7_init_0_ok 3 (5, .bipush 9, 2) rfl
theorem dX7_init_7 : decode cX7_init 7 = .ok (.bipush 7, 2) := dTX7_init_0_ok 4 (7, .bipush 7, 2) rfl
theorem dX7_init_9 : decode cX7_init 9 = .ok (.iconst 4, 1) := dTX7_init_0_ok 5 (9, .iconst 4, 1) rfl
theorem dX7_init_10 : decode cX7_init 10 = .ok (.multianewarray 7 3, 4) := dTX7_init_0_ok 6 (10, .multianewarray 7 3, 4) rfl
theorem dX7_init_14 : decode cX7_init 14 = .ok (.putfield 9, 3) := dTX7_init_0_ok 7 (14, .putfield 9, 3) rfl
theorem dX7_init_17 : decode cX7_init 17 = .ok (.aload_n 0, 1) := dTX7_init_0_ok 8 (17, .aload_n 0, 1) rfl
theorem dX7_init_18 : decode cX7_init 18 = .ok (.bipush 9, 2) := dTX7_init_0_ok 9 (18, .bipush 9, 2) rfl
theorem dX7_init_20 : decode cX7_init 20 = .ok (.bipush 7, 2) := dTX7_init_0_ok 10 (20, .bipush 7, 2) rfl
theorem dX7_init_22 : decode cX7_init 22 = .ok (.multianewarray 14 2, 4) := dTX7_init_0_ok 11 (22, .multianewarray 14 2, 4) rfl
theorem dX7_init_26 : decode cX7_init 26 = .ok (.putfield 16, 3) := dTX7_init_0_ok 12 (26, .putfield 16, 3) rfl
theorem dX7_init_29 : decode cX7_init 29 = .ok (.aload_n 0, 1) := dTX7_init_0_ok 13 (29, .aload_n 0, 1) rfl
theorem dX7_init_30 : decode cX7_init 30 = .ok (.bipush 9, 2) := dTX7_init_0_ok 14 (30, .bipush 9, 2) rfl
theorem dX7_init_32 : decode cX7_init 32 = .ok (.bipush 7, 2) := dTX7_init_0_ok 15 (32, .bipush 7, 2) rfl
theorem dX7_init_34 : decode cX7_init 34 = .ok (.multianewarray 14 2, 4) := dTX7_init_0_ok 16 (34, .multianewarray 14 2, 4) rfl
theorem dX7_init_38 : decode cX7_init 38 = .ok (.putfield 19, 3) := dTX7_init_0_ok 17 (38, .putfield 19, 3) rfl
theorem dX7_init_41 : decode cX7_init 41 = .ok (.aload_n 0, 1) := dTX7_init_0_ok 18 (41, .aload_n 0, 1) rfl
theorem dX7_init_42 : decode cX7_init 42 = .ok (.bipush 9, 2) := dTX7_init_0_ok 19 (42, .bipush 9, 2) rfl
theorem dX7_init_44 : decode cX7_init 44 = .ok (.bipush 7, 2) := dTX7_init_0_ok 20 (44, .bipush 7, 2) rfl
theorem dX7_init_46 : decode cX7_init 46 = .ok (.multianewarray 22 2, 4) := dTX7_init_0_ok 21 (46, .multianewarray 22 2, 4) rfl
theorem dX7_init_50 : decode cX7_init 50 = .ok (.putfield 24, 3) := dTX7_init_0_ok 22 (50, .putfield 24, 3) rfl
theorem dX7_init_53 : decode cX7_init 53 = .ok (.aload_n 0, 1) := dTX7_init_0_ok 23 (53, .aload_n 0, 1) rfl
theorem dX7_init_54 : decode cX7_init 54 = .ok (.iconst 0, 1) := dTX7_init_0_ok 24 (54, .iconst 0, 1) rfl
theorem dX7_init_55 : decode cX7_init 55 = .ok (.anewarray 27, 3) := dTX7_init_0_ok 25 (55, .anewarray 27, 3) rfl
theorem dX7_init_58 : decode cX7_init 58 = .ok (.putfield 29, 3) := dTX7_init_0_ok 26 (58, .putfield 29, 3) rfl
theorem dX7_init_61 : decode cX7_init 61 = .ok (.aload_n 0, 1) := dTX7_init_0_ok 27 (61, .aload_n 0, 1) rfl
theorem dX7_init_62 : decode cX7_init 62 = .ok (.bipush 126, 2) := dTX7_init_0_ok 28 (62, .bipush 126, 2) rfl
theorem dX7_init_64 : decode cX7_init 64 = .ok (.newarray .int, 2) := dTX7_init_0_ok 29 (64, .newarray .int, 2) rfl
theorem dX7_init_66 : decode cX7_init 66 = .ok (.putfield 33, 3) := dTX7_init_0_ok 30 (66, .putfield 33, 3) rfl
theorem dX7_init_69 : decode cX7_init 69 = .ok (.aload_n 0, 1) := dTX7_init_0_ok 31 (69, .aload_n 0, 1) rfl
theorem dX7_init_70 : decode cX7_init 70 = .ok (.bipush 126, 2) := dTX7_init_0_ok 32 (70, .bipush 126, 2) rfl
theorem dX7_init_72 : decode cX7_init 72 = .ok (.newarray .int, 2) := dTX7_init_0_ok 33 (72, .newarray .int, 2) rfl
theorem dX7_init_74 : decode cX7_init 74 = .ok (.putfield 37, 3) := dTX7_init_0_ok 34 (74, .putfield 37, 3) rfl
theorem dX7_init_77 : decode cX7_init 77 = .ok (.return_, 1) := dTX7_init_0_ok 35 (77, .return_, 1) rfl
noncomputable def dTX7_goX_0 : List (Nat × Instr × Nat) := [(0, .iload_n 0, 1), (1, .iconst 1, 1), (2, .if_icmp .ne 7, 3), (5, .iconst 1, 1), (6, .goto 13, 3), (9, .iload_n 0, 1), (10, .iconst 3, 1), (11, .if_icmp .ne 7, 3), (14, .iconst (-1), 1), (15, .goto 4, 3), (18, .iconst 0, 1), (19, .ireturn, 1)]
theorem dTX7_goX_0_ok : ∀ (k : Nat) (q : Nat × Instr × Nat), dTX7_goX_0[k]? = some q → decode cX7_goX q.1 = .ok q.2 := dT_of (by decide +kernel)
theorem dX7_goX_0 : decode cX7_goX 0 = .ok (.iload_n 0, 1) := dTX7_goX_0_ok 0 (0, .iload_n 0, 1) rfl
theorem dX7_goX_1 : decode cX7_goX 1 = .ok (.iconst 1, 1) := dTX7_goX_0_ok 1 (1, .iconst 1, 1) rfl
theorem dX7_goX_2 : decode cX7_goX 2 = .ok (.if_icmp .ne 7, 3) := dTX7_goX_0_ok 2 (2, .if_icmp .ne 7, 3) rfl
theorem dX7_goX_5 : decode cX7_goX 5 = .ok (.iconst 1, 1) := dTX7_goX_0_ok 3 (5, .iconst 1, 1) rfl
theorem dX7_goX_6 : decode cX7_goX 6 = .ok (.goto 13, 3) := dTX7_goX_0_ok 4 (6, .goto 13, 3) rfl
theorem dX7_goX_9 : decode cX7_goX 9 = .ok (.iload_n 0, 1) := dTX7_goX_0_ok 5 (9, .iload_n 0, 1) rfl
theorem dX7_goX_10 : decode cX7_goX 10 = .ok (.iconst 3, 1) := dTX7_goX_0_ok 6 (10, .iconst 3, 1) rfl
theorem dX7_goX_11 : decode cX7_goX 11 = .ok (.if_icmp .ne 7, 3) := dTX7_goX_0_ok 7 (11, .if_icmp .ne 7, 3) rfl
theorem dX7_goX_14 : decode cX7_goX 14 = .ok (.iconst (-1), 1) := dTX7_goX_0_ok 8 (14, .iconst (-1), 1) rfl
theorem dX7_goX_15 : decode cX7_goX 15 = .ok (.goto 4, 3) := dTX7_goX_0_ok 9 (15, .goto 4, 3) rfl
theorem dX7_goX_18 : decode cX7_goX 18 = .ok (.iconst 0, 1) := dTX7_goX_0_ok 10 (18, .iconst 0, 1) rfl
theorem dX7_goX_19 : decode cX7_goX 19 = .ok (.ireturn, 1) := dTX7_goX_0_ok 11 (19, .ireturn, 1) rfl
noncomputable def dTX7_goY_0 : List (Nat × Instr × Nat) := [(0, .iload_n 0, 1), (1, .iconst 2, 1), (2, .if_icmp .ne 7, 3), (5, .iconst 1, 1), (6, .goto 12, 3), (9, .iload_n 0, 1), (10, .ifCond .ne 7, 3), (13, .iconst (-1), 1), (14, .goto 4, 3), (17, .iconst 0, 1), (18, .ireturn, 1)]
theorem dTX7_goY_0_ok : ∀ (k : Nat) (q : Nat × Instr × Nat), dTX7_goY_0[k]? = some q → decode cX7_goY q.1 = .ok q.2 := dT_of (by decide +kernel)
theorem dX7_goY_0 : decode cX7_goY 0 = .ok (.iload_n 0, 1) := dTX7_goY_0_ok 0 (0, .iload_n 0, 1) rfl
theorem dX7_goY_1 : decode cX7_goY 1 = .ok (.iconst 2, 1) := dTX7_goY_0_ok 1 (1, .iconst 2, 1) rfl
theorem dX7_goY_2 : decode cX7_goY 2 = .ok (.if_icmp .ne 7, 3) := dTX7_goY_0_ok 2 (2, .if_icmp .ne 7, 3) rfl
theorem dX7_goY_5 : decode cX7_goY 5 = .ok (.iconst 1, 1) := dTX7_goY_0_ok 3 (5, .iconst 1, 1) rfl
theorem dX7_goY_6 : decode cX7_goY 6 = .ok (.goto 12, 3) := dTX7_goY_0_ok 4 (6, .goto 12, 3) rfl
theorem dX7_goY_9 : decode cX7_goY 9 = .ok (.iload_n 0, 1) := dTX7_goY_0_ok 5 (9, .iload_n 0, 1) rfl
theorem dX7_goY_10 : decode cX7_goY 10 = .ok (.ifCond .ne 7, 3) := dTX7_goY_0_ok 6 (10, .ifCond .ne 7, 3) rfl
theorem dX7_goY_13 : decode cX7_goY 13 = .ok (.iconst (-1), 1) := dTX7_goY_0_ok 7 (13, .iconst (-1), 1) rfl
theorem dX7_goY_14 : decode cX7_goY 14 = .ok (.goto 4, 3) := dTX7_goY_0_ok 8 (14, .goto 4, 3) rfl
theorem dX7_goY_17 : decode cX7_goY 17 = .ok (.iconst 0, 1) := dTX7_goY_0_ok 9 (17, .iconst 0, 1) rfl
theorem dX7_goY_18 : decode cX7_goY 18 = .ok (.ireturn, 1) := dTX7_goY_0_ok 10 (18, .ireturn, 1) rfl
noncomputable def dTX7_isIn_0 : List (Nat × Instr × Nat) := [(0, .iload_n 0, 1), (1, .ifCond .lt 23, 3), (4, .iload_n 0, 1), (5, .bipush 9, 2), (7, .if_icmp .ge 17, 3), (10, .iload_n 1, 1), (11, .ifCond .lt 13, 3), (14, .iload_n 1, 1), (15, .bipush 7, 2), (17, .if_icmp .ge 7, 3), (20, .iconst 1, 1), (21, .goto 4, 3), (24, .iconst 0, 1), (25, .ireturn, 1)]
theorem dTX7_isIn_0_ok : ∀ (k : Nat) (q : Nat × Instr × Nat), dTX7_isIn_0[k]? = some q → decode cX7_isIn q.1 = .ok q.2 := dT_of (by decide +kernel)
theorem dX7_isIn_0 : decode cX7_isIn 0 = .ok (.iload_n 0, 1) := dTX7_isIn_0_ok 0 (0, .iload_n 0, 1) rfl
theorem dX7_isIn_1 : decode cX7_isIn 1 = .ok (.ifCond .lt 23, 3) := dTX7_isIn_0_ok 1 (1, .ifCond .lt 23, 3) rfl
theorem dX7_isIn_4 : decode cX7_isIn 4 = .ok (.iload_n 0, 1) := dTX7_isIn_0_ok 2 (4, .iload_n 0, 1) rfl
theorem dX7_isIn_5 : decode cX7_isIn 5 = .ok (.bipush 9, 2) := dTX7_isIn_0_ok 3 (5, .bipush 9, 2) rfl
theorem dX7_isIn_7 : decode cX7_isIn 7 = .ok (.if_icmp .ge 17, 3) := dTX7_isIn_0_ok 4 (7, .if_icmp .ge 17, 3) rfl
theorem dX7_isIn_10 : decode cX7_isIn 10 = .ok (.iload_n 1, 1) := dTX7_isIn_0_ok 5 (10, .iload_n 1, 1) rfl
theorem dX7_isIn_11 : decode cX7_isIn 11 = .ok (.ifCond .lt 13, 3) := dTX7_isIn_0_ok 6 (11, .ifCond .lt 13, 3) rfl
theorem dX7_isIn_14 : decode cX7_isIn 14 = .ok (.iload_n 1, 1) := dTX7_isIn_0_ok 7 (14, .iload_n 1, 1) rfl
theorem dX7_isIn_15 : decode cX7_isIn 15 = .ok (.bipush 7, 2) := dTX7_isIn_0_ok 8 (15, .bipush 7, 2) rfl
theorem dX7_isIn_17 : decode cX7_isIn 17 = .ok (.if_icmp .ge 7, 3) := dTX7_isIn_0_ok 9 (17, .if_icmp .ge 7, 3) rfl
theorem dX7_isIn_20 : decode cX7_isIn 20 = .ok (.iconst 1, 1) := dTX7_isIn_0_ok 10 (20, .iconst 1, 1) rfl
theorem dX7_isIn_21 : decode cX7_isIn 21 = .ok (.goto 4, 3) := dTX7_isIn_0_ok 11 (21, .goto 4, 3) rfl
theorem dX7_isIn_24 : decode cX7_isIn 24 = .ok (.iconst 0, 1) := dTX7_isIn_0_ok 12 (24, .iconst 0, 1) rfl
theorem dX7_isIn_25 : decode cX7_isIn 25 = .ok (.ireturn, 1) := dTX7_isIn_0_ok 13 (25, .ireturn, 1) rfl
noncomputable def dTX7_turnWall_0 : List (Nat × Instr × Nat) := [(0, .aload_n 0, 1), (1, .getfield 9, 3), (4, .iload_n 1, 1), (5, .aaload, 1), (6, .iload_n 2, 1), (7, .aaload, 1), (8, .iload_n 3, 1), (9, .aload_n 0, 1), (10, .getfield 9, 3), (13, .iload_n 1, 1), (14, .aaload, 1), (15, .iload_n 2, 1), (16, .aaload, 1), (17, .iload_n 3, 1), (18, .baload, 1), (19, .ifCond .ne 7, 3), (22, .iconst 1, 1), (23, .goto 4, 3), (26, .iconst 0, 1), (27, .bastore, 1), (28, .aload_n 0, 1), (29, .getfield 9, 3), (32, .iload_n 1, 1), (33, .iload_n 3, 1), (34, .invokestatic 49, 3), (37, .iadd, 1), (38, .aaload, 1), (39, .iload_n 2, 1), (40, .iload_n 3, 1), (41, .invokestatic 53, 3), (44, .iadd, 1), (45, .aaload, 1), (46, .iload_n 3, 1), (47, .iconst 2, 1), (48, .iadd, 1), (49, .iconst 4, 1), (50, .irem, 1), (51, .aload_n 0, 1), (52, .getfield 9, 3), (55, .iload_n 1, 1), (56, .aaload, 1), (57, .iload_n 2, 1), (58, .aaload, 1), (59, .iload_n 3, 1), (60, .baload, 1), (61, .bastore, 1), (62, .return_, 1)]
theorem dTX7_turnWall_0_ok : ∀ (k : Nat) (q : Nat × Instr × Nat), dTX7_turnWall_0[k]? = some q → decode cX7_turnWall q.1 = .ok q.2 := dT_of (by decide +kernel)
theorem dX7_turnWall_0 : decode cX7_turnWall 0 = .ok (.aload_n 0, 1) := dTX7_turnWall_0_ok 0 (0, .aload_n 0, 1) rfl
theorem dX7_turnWall_1 : decode cX7_turnWall 1 = .ok (.getfield 9, 3) := dTX7_turnWall_0_ok 1 (1, .getfield 9, 3) rfl
theorem dX7_turnWall_4 : decode cX7_turnWall 4 = .ok (.iload_n 1, 1) := dTX7_turnWall_0_ok 2 (4, .iload_n 1, 1) rfl
theorem dX7_turnWall_5 : decode cX7_turnWall 5 = .ok (.aaload, 1) := dTX7_turnWall_0_ok 3 (5, .aaload, 1) rfl
theorem dX7_turnWall_6 : decode cX7_turnWall 6 = .ok (.iload_n 2, 1) := dTX7_turnWall_0_ok 4 (6, .iload_n 2, 1) rfl
theorem dX7_turnWall_7 : decode cX7_turnWall 7 = .ok (.aaload, 1) := dTX7_turnWall_0_ok 5 (7, .aaload, 1) rfl
theorem dX7_turnWall_8 : decode cX7_turnWall 8 = .ok (.iload_n 3, 1) := dTX7_turnWall_0_ok 6 (8, .iload_n 3, 1) rfl
theorem dX7_turnWall_9 : decode cX7_turnWall 9 = .ok (.aload_n 0, 1) := dTX7_turnWall_0_ok 7 (9, .aload_n 0, 1) rfl
theorem dX7_turnWall_10 : decode cX7_turnWall 10 = .ok (.getfield 9, 3) := dTX7_turnWall_0_ok 8 (10, .getfield 9, 3) rfl
theorem dX7_turnWall_13 : decode cX7_turnWall 13 = .ok (.iload_n 1, 1) := dTX7_turnWall_0_ok 9 (13, .iload_n 1, 1) rfl
theorem dX7_turnWall_14 : decode cX7_turnWall 14 = .ok (.aaload, 1) := dTX7_turnWall_0_ok 10 (14, .aaload, 1) rfl
theorem dX7_turnWall_15 : decode cX7_turnWall 15 = .ok (.iload_n 2, 1) := dTX7_turnWall_0_ok 11 (15, .iload_n 2, 1) rfl
theorem dX7_turnWall_16 : decode cX7_turnWall 16 = .ok (.aaload, 1) := dTX7_turnWall_0_ok 12 (16, .aaload, 1) rfl
theorem dX7_turnWall_17 : decode cX7_turnWall 17 = .ok (.iload_n 3, 1) := dTX7_turnWall_0_ok 13 (17, .iload_n 3, 1) rfl
theorem dX7_turnWall_18 : decode cX7_turnWall 18 = .ok (.baload, 1) := dTX7_turnWall_0_ok 14 (18, .baload, 1) rfl
theorem dX7_turnWall_19 : decode cX7_turnWall 19 = .ok (.ifCond .ne 7, 3) := dTX7_turnWall_0_ok 15 (19, .ifCond .ne 7, 3) rfl
theorem dX7_turnWall_22 : decode cX7_turnWall 22 = .ok (.iconst 1, 1) := dTX7_turnWall_0_ok 16 (22, .iconst 1, 1) rfl
theorem dX7_turnWall_23 : decode cX7_turnWall 23 = .ok (.goto 4, 3) := dTX7_turnWall_0_ok 17 (23, .goto 4, 3) rfl
theorem dX7_turnWall_26 : decode cX7_turnWall 26 = .ok (.iconst 0, 1) := dTX7_turnWall_0_ok 18 (26, .iconst 0, 1) rfl
theorem dX7_turnWall_27 : decode cX7_turnWall 27 = .ok (.bastore, 1) := dTX7_turnWall_0_ok 19 (27, .bastore, 1) rfl
theorem dX7_turnWall_28 : decode cX7_turnWall 28 = .ok (.aload_n 0, 1) := dTX7_turnWall_0_ok 20 (28, .aload_n 0, 1) rfl
theorem dX7_turnWall_29 : decode cX7_turnWall 29 = .ok (.getfield 9, 3) := dTX7_turnWall_0_ok 21 (29, .getfield 9, 3) rfl
theorem dX7_turnWall_32 : decode cX7_turnWall 32 = .ok (.iload_n 1, 1) := dTX7_turnWall_0_ok 22 (32, .iload_n 1, 1) rfl
theorem dX7_turnWall_33 : decode cX7_turnWall 33 = .ok (.iload_n 3, 1) := dTX7_turnWall_0_ok 23 (33, .iload_n 3, 1) rfl
theorem dX7_turnWall_34 : decode cX7_turnWall 34 = .ok (.invokestatic 49, 3) := dTX7_turnWall_0_ok 24 (34, .invokestatic 49, 3) rfl
theorem dX7_turnWall_37 : decode cX7_turnWall 37 = .ok (.iadd, 1) := dTX7_turnWall_0_ok 25 (37, .iadd, 1) rfl
theorem dX7_turnWall_38 : decode cX7_turnWall 38 = .ok (.aaload, 1) := dTX7_turnWall_0_ok 26 (38, .aaload, 1) rfl
theorem dX7_turnWall_39 : decode cX7_turnWall 39 = .ok (.iload_n 2, 1) := dTX7_turnWall_0_ok 27 (39, .iload_n 2, 1) rfl
theorem dX7_turnWall_40 : decode cX7_turnWall 40 = .ok (.iload_n 3, 1) := dTX7_turnWall_0_ok 28 (40, .iload_n 3, 1) rfl
theorem dX7_turnWall_41 : decode cX7_turnWall 41 = .ok (.invokestatic 53, 3) := dTX7_turnWall_0_ok 29 (41, .invokestatic 53, 3) rfl
theorem dX7_turnWall_44 : decode cX7_turnWall 44 = .ok (.iadd, 1) := dTX7_turnWall_0_ok 30 (44, .iadd, 1) rfl
theorem dX7_turnWall_45 : decode cX7_turnWall 45 = .ok (.aaload, 1) := dTX7_turnWall_0_ok 31 (45, .aaload, 1) rfl
theorem dX7_turnWall_46 : decode cX7_turnWall 46 = .ok (.iload_n 3, 1) := dTX7_turnWall_0_ok 32 (46, .iload_n 3, 1) rfl
theorem dX7_turnWall_47 : decode cX7_turnWall 47 = .ok (.iconst 2, 1) := dTX7_turnWall_0_ok 33 (47, .iconst 2, 1) rfl
theorem dX7_turnWall_48 : decode cX7_turnWall 48 = .ok (.iadd, 1) := dTX7_turnWall_0_ok 34 (48, .iadd, 1) rfl
theorem dX7_turnWall_49 : decode cX7_turnWall 49 = .ok (.iconst 4, 1) := dTX7_turnWall_0_ok 35 (49, .iconst 4, 1) rfl
theorem dX7_turnWall_50 : decode cX7_turnWall 50 = .ok (.irem, 1) := dTX7_turnWall_0_ok 36 (50, .irem, 1) rfl
theorem dX7_turnWall_51 : decode cX7_turnWall 51 = .ok (.aload_n 0, 1) := dTX7_turnWall_0_ok 37 (51, .aload_n 0, 1) rfl
theorem dX7_turnWall_52 : decode cX7_turnWall 52 = .ok (.getfield 9, 3) := dTX7_turnWall_0_ok 38 (52, .getfield 9, 3) rfl
theorem dX7_turnWall_55 : decode cX7_turnWall 55 = .ok (.iload_n 1, 1) := dTX7_turnWall_0_ok 39 (55, .iload_n 1, 1) rfl
theorem dX7_turnWall_56 : decode cX7_turnWall 56 = .ok (.aaload, 1) := dTX7_turnWall_0_ok 40 (56, .aaload, 1) rfl
theorem dX7_turnWall_57 : decode cX7_turnWall 57 = .ok (.iload_n 2, 1) := dTX7_turnWall_0_ok 41 (57, .iload_n 2, 1) rfl
theorem dX7_turnWall_58 : decode cX7_turnWall 58 = .ok (.aaload, 1) := dTX7_turnWall_0_ok 42 (58, .aaload, 1) rfl
theorem dX7_turnWall_59 : decode cX7_turnWall 59 = .ok (.iload_n 3, 1) := dTX7_turnWall_0_ok 43 (59, .iload_n 3, 1) rfl
theorem dX7_turnWall_60 : decode cX7_turnWall 60 = .ok (.baload, 1) := dTX7_turnWall_0_ok 44 (60, .baload, 1) rfl
theorem dX7_turnWall_61 : decode cX7_turnWall 61 = .ok (.bastore, 1) := dTX7_turnWall_0_ok 45 (61, .bastore, 1) rfl
theorem dX7_turnWall_62 : decode cX7_turnWall 62 = .ok (.return_, 1) := dTX7_turnWall_0_ok 46 (62, .return_, 1) rfl
noncomputable def dTX7_things_0 : List (Nat × Instr × Nat) := [(0, .iconst 0, 1), (1, .istore_n 2, 1), (2, .iconst 0, 1), (3, .istore_n 3, 1), (4, .iload_n 3, 1), (5, .bipush 9, 2), (7, .if_icmp .ge 46, 3), (10, .iconst 0, 1), (11, .istore 4, 2), (13, .iload 4, 2), (15, .bipush 7, 2), (17, .if_icmp .ge 30, 3), (20, .iload_n 2, 1), (21, .aload_n 0, 1), (22, .getfield 16, 3), (25, .iload_n 3, 1), (26, .aaload, 1), (27, .iload 4, 2), (29, .iaload, 1), (30, .iload_n 1, 1), (31, .if_icmp .ne 7, 3), (34, .iconst 1, 1), (35, .goto 4, 3), (38, .iconst 0, 1), (39, .iadd, 1), (40, .istore_n 2, 1), (41, .iinc 4 1, 3), (44, .goto (-31), 3), (47, .iinc 3 1, 3), (50, .goto (-46), 3), (53, .iload_n 2, 1), (54, .ireturn, 1)]
theorem dTX7_things_0_ok : ∀ (k : Nat) (q : Nat × Instr × Nat), dTX7_things_0[k]? = some q → decode cX7_things q.1 = .ok q.2 := dT_of (by decide +kernel)
theorem dX7_things_0 : decode cX7_things 0 = .ok (.iconst 0, 1) := dTX7_things_0_ok 0 (0, .iconst 0, 1) rfl
theorem dX7_things_1 : decode cX7_things 1 = .ok (.istore_n 2, 1) := dTX7_things_0_ok 1 (1, .istore_n 2, 1) rfl
theorem dX7_things_2 : decode cX7_things 2 = .ok (.iconst 0, 1) := dTX7_things_0_ok 2 (2, .iconst 0, 1) rfl
theorem dX7_things_3 : decode cX7_things 3 = .ok (.istore_n 3, 1) := dTX7_things_0_ok 3 (3, .istore_n 3, 1) rfl
theorem dX7_things_4 : decode cX7_things 4 = .ok (.iload_n 3, 1) := dTX7_things_0_ok 4 (4, .iload_n 3, 1) rfl
theorem dX7_things_5 : decode cX7_things 5 = .ok (.bipush 9, 2) := dTX7_things_0_ok 5 (5, .bipush 9, 2) rfl
theorem dX7_things_7 : decode cX7_things 7 = .ok (.if_icmp .ge 46, 3) := dTX7_things_0_ok 6 (7, .if_icmp .ge 46, 3) rfl
theorem dX7_things_10 : decode cX7_things 10 = .ok (.iconst 0, 1) := dTX7_things_0_ok 7 (10, .iconst 0, 1) rfl
theorem dX7_things_11 : decode cX7_things 11 = .ok (.istore 4, 2) := dTX7_things_0_ok 8 (11, .istore 4, 2) rfl
theorem dX7_things_13 : decode cX7_things 13 = .ok (.iload 4, 2) := dTX7_things_0_ok 9 (13, .iload 4, 2) rfl
theorem dX7_things_15 : decode cX7_things 15 = .ok (.bipush 7, 2) := dTX7_things_0_ok 10 (15, .bipush 7, 2) rfl
theorem dX7_things_17 : decode cX7_things 17 = .ok (.if_icmp .ge 30, 3) := dTX7_things_0_ok 11 (17, .if_icmp .ge 30, 3) rfl
theorem dX7_things_20 : decode cX7_things 20 = .ok (.iload_n 2, 1) := dTX7_things_0_ok 12 (20, .iload_n 2, 1) rfl
theorem dX7_things_21 : decode cX7_things 21 = .ok (.aload_n 0, 1) := dTX7_things_0_ok 13 (21, .aload_n 0, 1) rfl
theorem dX7_things_22 : decode cX7_things 22 = .ok (.getfield 16, 3) := dTX7_things_0_ok 14 (22, .getfield 16, 3) rfl
theorem dX7_things_25 : decode cX7_things 25 = .ok (.iload_n 3, 1) := dTX7_things_0_ok 15 (25, .iload_n 3, 1) rfl
theorem dX7_things_26 : decode cX7_things 26 = .ok (.aaload, 1) := dTX7_things_0_ok 16 (26, .aaload, 1) rfl
theorem dX7_things_27 : decode cX7_things 27 = .ok (.iload 4, 2) := dTX7_things_0_ok 17 (27, .iload 4, 2) rfl
theorem dX7_things_29 : decode cX7_things 29 = .ok (.iaload, 1) := dTX7_things_0_ok 18 (29, .iaload, 1) rfl
theorem dX7_things_30 : decode cX7_things 30 = .ok (.iload_n 1, 1) := dTX7_things_0_ok 19 (30, .iload_n 1, 1) rfl
theorem dX7_things_31 : decode cX7_things 31 = .ok (.if_icmp .ne 7, 3) := dTX7_things_0_ok 20 (31, .if_icmp .ne 7, 3) rfl
theorem dX7_things_34 : decode cX7_things 34 = .ok (.iconst 1, 1) := dTX7_things_0_ok 21 (34, .iconst 1, 1) rfl
theorem dX7_things_35 : decode cX7_things 35 = .ok (.goto 4, 3) := dTX7_things_0_ok 22 (35, .goto 4, 3) rfl
theorem dX7_things_38 : decode cX7_things 38 = .ok (.iconst 0, 1) := dTX7_things_0_ok 23 (38, .iconst 0, 1) rfl
theorem dX7_things_39 : decode cX7_things 39 = .ok (.iadd, 1) := dTX7_things_0_ok 24 (39, .iadd, 1) rfl
theorem dX7_things_40 : decode cX7_things 40 = .ok (.istore_n 2, 1) := dTX7_things_0_ok 25 (40, .istore_n 2, 1) rfl
theorem dX7_things_41 : decode cX7_things 41 = .ok (.iinc 4 1, 3) := dTX7_things_0_ok 26 (41, .iinc 4 1, 3) rfl
theorem dX7_things_44 : decode cX7_things 44 = .ok (.goto (-31), 3) := dTX7_things_0_ok 27 (44, .goto (-31), 3) rfl
theorem dX7_things_47 : decode cX7_things 47 = .ok (.iinc 3 1, 3) := dTX7_things_0_ok 28 (47, .iinc 3 1, 3) rfl
theorem dX7_things_50 : decode cX7_things 50 = .ok (.goto (-46), 3) := dTX7_things_0_ok 29 (50, .goto (-46), 3) rfl
theorem dX7_things_53 : decode cX7_things 53 = .ok (.iload_n 2, 1) := dTX7_things_0_ok 30 (53, .iload_n 2, 1) rfl
theorem dX7_things_54 : decode cX7_things 54 = .ok (.ireturn, 1) := dTX7_things_0_ok 31 (54, .ireturn, 1) rfl
noncomputable def dTX7_shine_0 : List (Nat × Instr × Nat) := [(0, .aload_n 1, 1), (1, .iload_n 2, 1), (2, .aaload, 1), (3, .iload_n 3, 1), (4, .iconst 1, 1), (5, .bastore, 1), (6, .iconst 0, 1), (7, .istore 4, 2), (9, .iload 4, 2), (11, .iconst 4, 1), (12, .if_icmp .ge 201, 3), (15, .iload_n 2, 1), (16, .istore 5, 2), (18, .iload_n 3, 1), (19, .istore 6, 2), (21, .iload 4, 2), (23, .istore 7, 2), (25, .iconst 0, 1), (26, .istore 8, 2), (28, .iload 8, 2), (30, .bipush 6, 2), (32, .if_icmp .ge 175, 3), (35, .aload_n 0, 1), (36, .getfield 9, 3), (39, .iload 5, 2), (41, .aaload, 1), (42, .iload 6, 2), (44, .aaload, 1), (45, .iload 7, 2), (47, .baload, 1), (48, .ifCond .ne 159, 3), (51, .iload 5, 2), (53, .iload 7, 2), (55, .invokestatic 49, 3), (58, .iadd, 1), (59, .iload 6, 2), (61, .iload 7, 2), (63, .invokestatic 53, 3), (66, .iadd, 1), (67, .invokestatic 56, 3), (70, .ifCond .eq 137, 3), (73, .iload 7, 2), (75, .istore 9, 2), (77, .iload 5, 2), (79, .iload 9, 2), (81, .invokestatic 49, 3), (84, .iadd, 1), (85, .istore 5, 2), (87, .iload 6, 2), (89, .iload 9, 2), (91, .invokestatic 53, 3), (94, .iadd, 1), (95, .istore 6, 2), (97, .aload_n 1, 1), (98, .iload 5, 2), (100, .aaload, 1), (101, .iload 6, 2), (103, .iconst 1, 1), (104, .bastore, 1), (105, .iload 5, 2)]
theorem dTX7_shine_0_ok : ∀ (k : Nat) (q : Nat × Instr × Nat), dTX7_shine_0[k]? = some q → decode cX7_shine q.1 = .ok q.2 := dT_of (by decide +kernel)
theorem dX7_shine_0 : decode cX7_shine 0 = .ok (.aload_n 1, 1) := dTX7_shine_0_ok 0 (0, .aload_n 1, 1) rfl
theorem dX7_shine_1 : decode cX7_shine 1 = .ok (.iload_n 2, 1) := dTX7_shine_0_ok 1 (1, .iload_n 2, 1) rfl
theorem dX7_shine_2 : decode cX7_shine 2 = .ok (.aaload, 1) := dTX7_shine_0_ok 2 (2, .aaload, 1) rfl
theorem dX7_shine_3 : decode cX7_shine 3 = .ok (.iload_n 3, 1) := dTX7_shine_0_ok 3 (3, .iload_n 3, 1) rfl
theorem dX7_shine_4 : decode cX7_shine 4 = .ok (.iconst 1, 1) := dTX7_shine_0_ok 4 (4, .iconst 1, 1) rfl
theorem dX7_shine_5 : decode cX7_shine 5 = .ok (.bastore, 1) := dTX7_shine_0_ok 5 (5, .bastore, 1) rfl
theorem dX7_shine_6 : decode cX7_shine 6 = .ok (.iconst 0, 1) := dTX7_shine_0_ok 6 (6, .iconst 0, 1) rfl
theorem dX7_shine_7 : decode cX7_shine 7 = .ok (.istore 4, 2) := dTX7_shine_0_ok 7 (7, .istore 4, 2) rfl
theorem dX7_shine_9 : decode cX7_shine 9 = .ok (.iload 4, 2) := dTX7_shine_0_ok 8 (9, .iload 4, 2) rfl
theorem dX7_shine_11 : decode cX7_shine 11 = .ok (.iconst 4, 1) := dTX7_shine_0_ok 9 (11, .iconst 4, 1) rfl
theorem dX7_shine_12 : decode cX7_shine 12 = .ok (.if_icmp .ge 201, 3) := dTX7_shine_0_ok 10 (12, .if_icmp .ge 201, 3) rfl
theorem dX7_shine_15 : decode cX7_shine 15 = .ok (.iload_n 2, 1) := dTX7_shine_0_ok 11 (15, .iload_n 2, 1) rfl
theorem dX7_shine_16 : decode cX7_shine 16 = .ok (.istore 5, 2) := dTX7_shine_0_ok 12 (16, .istore 5, 2) rfl
theorem dX7_shine_18 : decode cX7_shine 18 = .ok (.iload_n 3, 1) := dTX7_shine_0_ok 13 (18, .iload_n 3, 1) rfl
theorem dX7_shine_19 : decode cX7_shine 19 = .ok (.istore 6, 2) := dTX7_shine_0_ok 14 (19, .istore 6, 2) rfl
theorem dX7_shine_21 : decode cX7_shine 21 = .ok (.iload 4, 2) := dTX7_shine_0_ok 15 (21, .iload 4, 2) rfl
theorem dX7_shine_23 : decode cX7_shine 23 = .ok (.istore 7, 2) := dTX7_shine_0_ok 16 (23, .istore 7, 2) rfl
theorem dX7_shine_25 : decode cX7_shine 25 = .ok (.iconst 0, 1) := dTX7_shine_0_ok 17 (25, .iconst 0, 1) rfl
theorem dX7_shine_26 : decode cX7_shine 26 = .ok (.istore 8, 2) := dTX7_shine_0_ok 18 (26, .istore 8, 2) rfl
theorem dX7_shine_28 : decode cX7_shine 28 = .ok (.iload 8, 2) := dTX7_shine_0_ok 19 (28, .iload 8, 2) rfl
theorem dX7_shine_30 : decode cX7_shine 30 = .ok (.bipush 6, 2) := dTX7_shine_0_ok 20 (30, .bipush 6, 2) rfl
theorem dX7_shine_32 : decode cX7_shine 32 = .ok (.if_icmp .ge 175, 3) := dTX7_shine_0_ok 21 (32, .if_icmp .ge 175, 3) rfl
theorem dX7_shine_35 : decode cX7_shine 35 = .ok (.aload_n 0, 1) := dTX7_shine_0_ok 22 (35, .aload_n 0, 1) rfl
theorem dX7_shine_36 : decode cX7_shine 36 = .ok (.getfield 9, 3) := dTX7_shine_0_ok 23 (36, .getfield 9, 3) rfl
theorem dX7_shine_39 : decode cX7_shine 39 = .ok (.iload 5, 2) := dTX7_shine_0_ok 24 (39, .iload 5, 2) rfl
theorem dX7_shine_41 : decode cX7_shine 41 = .ok (.aaload, 1) := dTX7_shine_0_ok 25 (41, .aaload, 1) rfl
theorem dX7_shine_42 : decode cX7_shine 42 = .ok (.iload 6, 2) := dTX7_shine_0_ok 26 (42, .iload 6, 2) rfl
theorem dX7_shine_44 : decode cX7_shine 44 = .ok (.aaload, 1) := dTX7_shine_0_ok 27 (44, .aaload, 1) rfl
theorem dX7_shine_45 : decode cX7_shine 45 = .ok (.iload 7, 2) := dTX7_shine_0_ok 28 (45, .iload 7, 2) rfl
theorem dX7_shine_47 : decode cX7_shine 47 = .ok (.baload, 1) := dTX7_shine_0_ok 29 (47, .baload, 1) rfl
theorem dX7_shine_48 : decode cX7_shine 48 = .ok (.ifCond .ne 159, 3) := dTX7_shine_0_ok 30 (48, .ifCond .ne 159, 3) rfl
theorem dX7_shine_51 : decode cX7_shine 51 = .ok (.iload 5, 2) := dTX7_shine_0_ok 31 (51, .iload 5, 2) rfl
theorem dX7_shine_53 : decode cX7_shine 53 = .ok (.iload 7, 2) := dTX7_shine_0_ok 32 (53, .iload 7, 2) rfl
theorem dX7_shine_55 : decode cX7_shine 55 = .ok (.invokestatic 49, 3) := dTX7_shine_0_ok 33 (55, .invokestatic 49, 3) rfl
theorem dX7_shine_58 : decode cX7_shine 58 = .ok (.iadd, 1) := dTX7_shine_0_ok 34 (58, .iadd, 1) rfl
theorem dX7_shine_59 : decode cX7_shine 59 = .ok (.iload 6, 2) := dTX7_shine_0_ok 35 (59, .iload 6, 2) rfl
theorem dX7_shine_61 : decode cX7_shine 61 = .ok (.iload 7, 2) := dTX7_shine_0_ok 36 (61, .iload 7, 2) rfl
theorem dX7_shine_63 : decode cX7_shine 63 = .ok (.invokestatic 53, 3) := dTX7_shine_0_ok 37 (63, .invokestatic 53, 3) rfl
theorem dX7_shine_66 : decode cX7_shine 66 = .ok (.iadd, 1) := dTX7_shine_0_ok 38 (66, .iadd, 1) rfl
theorem dX7_shine_67 : decode cX7_shine 67 = .ok (.invokestatic 56, 3) := dTX7_shine_0_ok 39 (67, .invokestatic 56, 3) rfl
theorem dX7_shine_70 : decode cX7_shine 70 = .ok (.ifCond .eq 137, 3) := dTX7_shine_0_ok 40 (70, .ifCond .eq 137, 3) rfl
theorem dX7_shine_73 : decode cX7_shine 73 = .ok (.iload 7, 2) := dTX7_shine_0_ok 41 (73, .iload 7, 2) rfl
theorem dX7_shine_75 : decode cX7_shine 75 = .ok (.istore 9, 2) := dTX7_shine_0_ok 42 (75, .istore 9, 2) rfl
theorem dX7_shine_77 : decode cX7_shine 77 = .ok (.iload 5, 2) := dTX7_shine_0_ok 43 (77, .iload 5, 2) rfl
theorem dX7_shine_79 : decode cX7_shine 79 = .ok (.iload 9, 2) := dTX7_shine_0_ok 44 (79, .iload 9, 2) rfl
theorem dX7_shine_81 : decode cX7_shine 81 = .ok (.invokestatic 49, 3) := dTX7_shine_0_ok 45 (81, .invokestatic 49, 3) rfl
theorem dX7_shine_84 : decode cX7_shine 84 = .ok (.iadd, 1) := dTX7_shine_0_ok 46 (84, .iadd, 1) rfl
theorem dX7_shine_85 : decode cX7_shine 85 = .ok (.istore 5, 2) := dTX7_shine_0_ok 47 (85, .istore 5, 2) rfl
theorem dX7_shine_87 : decode cX7_shine 87 = .ok (.iload 6, 2) := dTX7_shine_0_ok 48 (87, .iload 6, 2) rfl
theorem dX7_shine_89 : decode cX7_shine 89 = .ok (.iload 9, 2) := dTX7_shine_0_ok 49 (89, .iload 9, 2) rfl
theorem dX7_shine_91 : decode cX7_shine 91 = .ok (.invokestatic 53, 3) := dTX7_shine_0_ok 50 (91, .invokestatic 53, 3) rfl
theorem dX7_shine_94 : decode cX7_shine 94 = .ok (.iadd, 1) := dTX7_shine_0_ok 51 (94, .iadd, 1) rfl
theorem dX7_shine_95 : decode cX7_shine 95 = .ok (.istore 6, 2) := dTX7_shine_0_ok 52 (95, .istore 6, 2) rfl
theorem dX7_shine_97 : decode cX7_shine 97 = .ok (.aload_n 1, 1) := dTX7_shine_0_ok 53 (97, .aload_n 1, 1) rfl
theorem dX7_shine_98 : decode cX7_shine 98 = .ok (.iload 5, 2) := dTX7_shine_0_ok 54 (98, .iload 5, 2) rfl
theorem dX7_shine_100 : decode cX7_shine 100 = .ok (.aaload, 1) := dTX7_shine_0_ok 55 (100, .aaload, 1) rfl
theorem dX7_shine_101 : decode cX7_shine 101 = .ok (.iload 6, 2) := dTX7_shine_0_ok 56 (101, .iload 6, 2) rfl
theorem dX7_shine_103 : decode cX7_shine 103 = .ok (.iconst 1, 1) := dTX7_shine_0_ok 57 (103, .iconst 1, 1) rfl
theorem dX7_shine_104 : decode cX7_shine 104 = .ok (.bastore, 1) := dTX7_shine_0_ok 58 (104, .bastore, 1) rfl
theorem dX7_shine_105 : decode cX7_shine 105 = .ok (.iload 5, 2) := dTX7_shine_0_ok 59 (105, .iload 5, 2) rfl
noncomputable def dTX7_shine_1 : List (Nat × Instr × Nat) := [(107, .iload_n 2, 1), (108, .if_icmp .ne 9, 3), (111, .iload 6, 2), (113, .iload_n 3, 1), (114, .if_icmp .eq 35, 3), (117, .aload_n 0, 1), (118, .getfield 16, 3), (121, .iload 5, 2), (123, .aaload, 1), (124, .iload 6, 2), (126, .iaload, 1), (127, .iconst 2, 1), (128, .if_icmp .eq 17, 3), (131, .aload_n 0, 1), (132, .getfield 16, 3), (135, .iload 5, 2), (137, .aaload, 1), (138, .iload 6, 2), (140, .iaload, 1), (141, .iconst 3, 1), (142, .if_icmp .ne 7, 3), (145, .iconst 1, 1), (146, .goto 4, 3), (149, .iconst 0, 1), (150, .istore 10, 2), (152, .iload 10, 2), (154, .ifCond .ne 6, 3), (157, .goto 44, 3), (160, .aload_n 0, 1), (161, .getfield 16, 3), (164, .iload 5, 2), (166, .aaload, 1), (167, .iload 6, 2), (169, .iaload, 1), (170, .iconst 3, 1), (171, .if_icmp .ne 10, 3), (174, .iconst 3, 1), (175, .iload 9, 2), (177, .isub, 1), (178, .goto 21, 3), (181, .iload 9, 2), (183, .iconst 2, 1), (184, .irem, 1), (185, .ifCond .ne 10, 3), (188, .iload 9, 2), (190, .iconst 1, 1), (191, .iadd, 1), (192, .goto 7, 3), (195, .iload 9, 2), (197, .iconst 1, 1), (198, .isub, 1), (199, .istore 7, 2), (201, .iinc 8 1, 3), (204, .goto (-176), 3), (207, .iinc 4 1, 3), (210, .goto (-201), 3), (213, .return_, 1)]
theorem dTX7_shine_1_ok : ∀ (k : Nat) (q : Nat × Instr × Nat), dTX7_shine_1[k]? = some q → decode cX7_shine q.1 = .ok q.2 := dT_of (by decide +kernel)
theorem dX7_shine_107 : decode cX7_shine 107 = .ok (.iload_n 2, 1) := dTX7_shine_1_ok 0 (107, .iload_n 2, 1) rfl
theorem dX7_shine_108 : decode cX7_shine 108 = .ok (.if_icmp .ne 9, 3) := dTX7_shine_1_ok 1 (108, .if_icmp .ne 9, 3) rfl
theorem dX7_shine_111 : decode cX7_shine 111 = .ok (.iload 6, 2) := dTX7_shine_1_ok 2 (111, .iload 6, 2) rfl
theorem dX7_shine_113 : decode cX7_shine 113 = .ok (.iload_n 3, 1) := dTX7_shine_1_ok 3 (113, .iload_n 3, 1) rfl
theorem dX7_shine_114 : decode cX7_shine 114 = .ok (.if_icmp .eq 35, 3) := dTX7_shine_1_ok 4 (114, .if_icmp .eq 35, 3) rfl
theorem dX7_shine_117 : decode cX7_shine 117 = .ok (.aload_n 0, 1) := dTX7_shine_1_ok 5 (117, .aload_n 0, 1) rfl
theorem dX7_shine_118 : decode cX7_shine 118 = .ok (.getfield 16, 3) := dTX7_shine_1_ok 6 (118, .getfield 16, 3) rfl
theorem dX7_shine_121 : decode cX7_shine 121 = .ok (.iload 5, 2) := dTX7_shine_1_ok 7 (121, .iload 5, 2) rfl
theorem dX7_shine_123 : decode cX7_shine 123 = .ok (.aaload, 1) := dTX7_shine_1_ok 8 (123, .aaload, 1) rfl
theorem dX7_shine_124 : decode cX7_shine 124 = .ok (.iload 6, 2) := dTX7_shine_1_ok 9 (124, .iload 6, 2) rfl
theorem dX7_shine_126 : decode cX7_shine 126 = .ok (.iaload, 1) := dTX7_shine_1_ok 10 (126, .iaload, 1) rfl
theorem dX7_shine_127 : decode cX7_shine 127 = .ok (.iconst 2, 1) := dTX7_shine_1_ok 11 (127, .iconst 2, 1) rfl
theorem dX7_shine_128 : decode cX7_shine 128 = .ok (.if_icmp .eq 17, 3) := dTX7_shine_1_ok 12 (128, .if_icmp .eq 17, 3) rfl
theorem dX7_shine_131 : decode cX7_shine 131 = .ok (.aload_n 0, 1) := dTX7_shine_1_ok 13 (131, .aload_n 0, 1) rfl
theorem dX7_shine_132 : decode cX7_shine 132 = .ok (.getfield 16, 3) := dTX7_shine_1_ok 14 (132, .getfield 16, 3) rfl
theorem dX7_shine_135 : decode cX7_shine 135 = .ok (.iload 5, 2) := dTX7_shine_1_ok 15 (135, .iload 5, 2) rfl
theorem dX7_shine_137 : decode cX7_shine 137 = .ok (.aaload, 1) := dTX7_shine_1_ok 16 (137, .aaload, 1) rfl
theorem dX7_shine_138 : decode cX7_shine 138 = .ok (.iload 6, 2) := dTX7_shine_1_ok 17 (138, .iload 6, 2) rfl
theorem dX7_shine_140 : decode cX7_shine 140 = .ok (.iaload, 1) := dTX7_shine_1_ok 18 (140, .iaload, 1) rfl
theorem dX7_shine_141 : decode cX7_shine 141 = .ok (.iconst 3, 1) := dTX7_shine_1_ok 19 (141, .iconst 3, 1) rfl
theorem dX7_shine_142 : decode cX7_shine 142 = .ok (.if_icmp .ne 7, 3) := dTX7_shine_1_ok 20 (142, .if_icmp .ne 7, 3) rfl
theorem dX7_shine_145 : decode cX7_shine 145 = .ok (.iconst 1, 1) := dTX7_shine_1_ok 21 (145, .iconst 1, 1) rfl
theorem dX7_shine_146 : decode cX7_shine 146 = .ok (.goto 4, 3) := dTX7_shine_1_ok 22 (146, .goto 4, 3) rfl
theorem dX7_shine_149 : decode cX7_shine 149 = .ok (.iconst 0, 1) := dTX7_shine_1_ok 23 (149, .iconst 0, 1) rfl
theorem dX7_shine_150 : decode cX7_shine 150 = .ok (.istore 10, 2) := dTX7_shine_1_ok 24 (150, .istore 10, 2) rfl
theorem dX7_shine_152 : decode cX7_shine 152 = .ok (.iload 10, 2) := dTX7_shine_1_ok 25 (152, .iload 10, 2) rfl
theorem dX7_shine_154 : decode cX7_shine 154 = .ok (.ifCond .ne 6, 3) := dTX7_shine_1_ok 26 (154, .ifCond .ne 6, 3) rfl
theorem dX7_shine_157 : decode cX7_shine 157 = .ok (.goto 44, 3) := dTX7_shine_1_ok 27 (157, .goto 44, 3) rfl
theorem dX7_shine_160 : decode cX7_shine 160 = .ok (.aload_n 0, 1) := dTX7_shine_1_ok 28 (160, .aload_n 0, 1) rfl
theorem dX7_shine_161 : decode cX7_shine 161 = .ok (.getfield 16, 3) := dTX7_shine_1_ok 29 (161, .getfield 16, 3) rfl
theorem dX7_shine_164 : decode cX7_shine 164 = .ok (.iload 5, 2) := dTX7_shine_1_ok 30 (164, .iload 5, 2) rfl
theorem dX7_shine_166 : decode cX7_shine 166 = .ok (.aaload, 1) := dTX7_shine_1_ok 31 (166, .aaload, 1) rfl
theorem dX7_shine_167 : decode cX7_shine 167 = .ok (.iload 6, 2) := dTX7_shine_1_ok 32 (167, .iload 6, 2) rfl
theorem dX7_shine_169 : decode cX7_shine 169 = .ok (.iaload, 1) := dTX7_shine_1_ok 33 (169, .iaload, 1) rfl
theorem dX7_shine_170 : decode cX7_shine 170 = .ok (.iconst 3, 1) := dTX7_shine_1_ok 34 (170, .iconst 3, 1) rfl
theorem dX7_shine_171 : decode cX7_shine 171 = .ok (.if_icmp .ne 10, 3) := dTX7_shine_1_ok 35 (171, .if_icmp .ne 10, 3) rfl
theorem dX7_shine_174 : decode cX7_shine 174 = .ok (.iconst 3, 1) := dTX7_shine_1_ok 36 (174, .iconst 3, 1) rfl
theorem dX7_shine_175 : decode cX7_shine 175 = .ok (.iload 9, 2) := dTX7_shine_1_ok 37 (175, .iload 9, 2) rfl
theorem dX7_shine_177 : decode cX7_shine 177 = .ok (.isub, 1) := dTX7_shine_1_ok 38 (177, .isub, 1) rfl
theorem dX7_shine_178 : decode cX7_shine 178 = .ok (.goto 21, 3) := dTX7_shine_1_ok 39 (178, .goto 21, 3) rfl
theorem dX7_shine_181 : decode cX7_shine 181 = .ok (.iload 9, 2) := dTX7_shine_1_ok 40 (181, .iload 9, 2) rfl
theorem dX7_shine_183 : decode cX7_shine 183 = .ok (.iconst 2, 1) := dTX7_shine_1_ok 41 (183, .iconst 2, 1) rfl
theorem dX7_shine_184 : decode cX7_shine 184 = .ok (.irem, 1) := dTX7_shine_1_ok 42 (184, .irem, 1) rfl
theorem dX7_shine_185 : decode cX7_shine 185 = .ok (.ifCond .ne 10, 3) := dTX7_shine_1_ok 43 (185, .ifCond .ne 10, 3) rfl
theorem dX7_shine_188 : decode cX7_shine 188 = .ok (.iload 9, 2) := dTX7_shine_1_ok 44 (188, .iload 9, 2) rfl
theorem dX7_shine_190 : decode cX7_shine 190 = .ok (.iconst 1, 1) := dTX7_shine_1_ok 45 (190, .iconst 1, 1) rfl
theorem dX7_shine_191 : decode cX7_shine 191 = .ok (.iadd, 1) := dTX7_shine_1_ok 46 (191, .iadd, 1) rfl
theorem dX7_shine_192 : decode cX7_shine 192 = .ok (.goto 7, 3) := dTX7_shine_1_ok 47 (192, .goto 7, 3) rfl
theorem dX7_shine_195 : decode cX7_shine 195 = .ok (.iload 9, 2) := dTX7_shine_1_ok 48 (195, .iload 9, 2) rfl
theorem dX7_shine_197 : decode cX7_shine 197 = .ok (.iconst 1, 1) := dTX7_shine_1_ok 49 (197, .iconst 1, 1) rfl
theorem dX7_shine_198 : decode cX7_shine 198 = .ok (.isub, 1) := dTX7_shine_1_ok 50 (198, .isub, 1) rfl
theorem dX7_shine_199 : decode cX7_shine 199 = .ok (.istore 7, 2) := dTX7_shine_1_ok 51 (199, .istore 7, 2) rfl
theorem dX7_shine_201 : decode cX7_shine 201 = .ok (.iinc 8 1, 3) := dTX7_shine_1_ok 52 (201, .iinc 8 1, 3) rfl
theorem dX7_shine_204 : decode cX7_shine 204 = .ok (.goto (-176), 3) := dTX7_shine_1_ok 53 (204, .goto (-176), 3) rfl
theorem dX7_shine_207 : decode cX7_shine 207 = .ok (.iinc 4 1, 3) := dTX7_shine_1_ok 54 (207, .iinc 4 1, 3) rfl
theorem dX7_shine_210 : decode cX7_shine 210 = .ok (.goto (-201), 3) := dTX7_shine_1_ok 55 (210, .goto (-201), 3) rfl
theorem dX7_shine_213 : decode cX7_shine 213 = .ok (.return_, 1) := dTX7_shine_1_ok 56 (213, .return_, 1) rfl
noncomputable def dTX7_lit_0 : List (Nat × Instr × Nat) := [(0, .bipush 9, 2), (2, .bipush 7, 2), (4, .multianewarray 22 2, 4), (8, .astore_n 1, 1), (9, .iconst 0, 1), (10, .istore_n 2, 1), (11, .iload_n 2, 1), (12, .bipush 9, 2), (14, .if_icmp .ge 41, 3), (17, .iconst 0, 1), (18, .istore_n 3, 1), (19, .iload_n 3, 1), (20, .bipush 7, 2), (22, .if_icmp .ge 27, 3), (25, .aload_n 0, 1), (26, .getfield 24, 3), (29, .iload_n 2, 1), (30, .aaload, 1), (31, .iload_n 3, 1), (32, .baload, 1), (33, .ifCond .eq 10, 3), (36, .aload_n 0, 1), (37, .aload_n 1, 1), (38, .iload_n 2, 1), (39, .iload_n 3, 1), (40, .invokevirtual 60, 3), (43, .iinc 3 1, 3), (46, .goto (-27), 3), (49, .iinc 2 1, 3), (52, .goto (-41), 3), (55, .aload_n 1, 1), (56, .areturn, 1)]
theorem dTX7_lit_0_ok : ∀ (k : Nat) (q : Nat × Instr × Nat), dTX7_lit_0[k]? = some q → decode cX7_lit q.1 = .ok q.2 := dT_of (by decide +kernel)
theorem dX7_lit_0 : decode cX7_lit 0 = .ok (.bipush 9, 2) := dTX7_lit_0_ok 0 (0, .bipush 9, 2) rfl
theorem dX7_lit_2 : decode cX7_lit 2 = .ok (.bipush 7, 2) := dTX7_lit_0_ok 1 (2, .bipush 7, 2) rfl
theorem dX7_lit_4 : decode cX7_lit 4 = .ok (.multianewarray 22 2, 4) := dTX7_lit_0_ok 2 (4, .multianewarray 22 2, 4) rfl
theorem dX7_lit_8 : decode cX7_lit 8 = .ok (.astore_n 1, 1) := dTX7_lit_0_ok 3 (8, .astore_n 1, 1) rfl
theorem dX7_lit_9 : decode cX7_lit 9 = .ok (.iconst 0, 1) := dTX7_lit_0_ok 4 (9, .iconst 0, 1) rfl
theorem dX7_lit_10 : decode cX7_lit 10 = .ok (.istore_n 2, 1) := dTX7_lit_0_ok 5 (10, .istore_n 2, 1) rfl
theorem dX7_lit_11 : decode cX7_lit 11 = .ok (.iload_n 2, 1) := dTX7_lit_0_ok 6 (11, .iload_n 2, 1) rfl
theorem dX7_lit_12 : decode cX7_lit 12 = .ok (.bipush 9, 2) := dTX7_lit_0_ok 7 (12, .bipush 9, 2) rfl
theorem dX7_lit_14 : decode cX7_lit 14 = .ok (.if_icmp .ge 41, 3) := dTX7_lit_0_ok 8 (14, .if_icmp .ge 41, 3) rfl
theorem dX7_lit_17 : decode cX7_lit 17 = .ok (.iconst 0, 1) := dTX7_lit_0_ok 9 (17, .iconst 0, 1) rfl
theorem dX7_lit_18 : decode cX7_lit 18 = .ok (.istore_n 3, 1) := dTX7_lit_0_ok 10 (18, .istore_n 3, 1) rfl
theorem dX7_lit_19 : decode cX7_lit 19 = .ok (.iload_n 3, 1) := dTX7_lit_0_ok 11 (19, .iload_n 3, 1) rfl
theorem dX7_lit_20 : decode cX7_lit 20 = .ok (.bipush 7, 2) := dTX7_lit_0_ok 12 (20, .bipush 7, 2) rfl
theorem dX7_lit_22 : decode cX7_lit 22 = .ok (.if_icmp .ge 27, 3) := dTX7_lit_0_ok 13 (22, .if_icmp .ge 27, 3) rfl
theorem dX7_lit_25 : decode cX7_lit 25 = .ok (.aload_n 0, 1) := dTX7_lit_0_ok 14 (25, .aload_n 0, 1) rfl
theorem dX7_lit_26 : decode cX7_lit 26 = .ok (.getfield 24, 3) := dTX7_lit_0_ok 15 (26, .getfield 24, 3) rfl
theorem dX7_lit_29 : decode cX7_lit 29 = .ok (.iload_n 2, 1) := dTX7_lit_0_ok 16 (29, .iload_n 2, 1) rfl
theorem dX7_lit_30 : decode cX7_lit 30 = .ok (.aaload, 1) := dTX7_lit_0_ok 17 (30, .aaload, 1) rfl
theorem dX7_lit_31 : decode cX7_lit 31 = .ok (.iload_n 3, 1) := dTX7_lit_0_ok 18 (31, .iload_n 3, 1) rfl
theorem dX7_lit_32 : decode cX7_lit 32 = .ok (.baload, 1) := dTX7_lit_0_ok 19 (32, .baload, 1) rfl
theorem dX7_lit_33 : decode cX7_lit 33 = .ok (.ifCond .eq 10, 3) := dTX7_lit_0_ok 20 (33, .ifCond .eq 10, 3) rfl
theorem dX7_lit_36 : decode cX7_lit 36 = .ok (.aload_n 0, 1) := dTX7_lit_0_ok 21 (36, .aload_n 0, 1) rfl
theorem dX7_lit_37 : decode cX7_lit 37 = .ok (.aload_n 1, 1) := dTX7_lit_0_ok 22 (37, .aload_n 1, 1) rfl
theorem dX7_lit_38 : decode cX7_lit 38 = .ok (.iload_n 2, 1) := dTX7_lit_0_ok 23 (38, .iload_n 2, 1) rfl
theorem dX7_lit_39 : decode cX7_lit 39 = .ok (.iload_n 3, 1) := dTX7_lit_0_ok 24 (39, .iload_n 3, 1) rfl
theorem dX7_lit_40 : decode cX7_lit 40 = .ok (.invokevirtual 60, 3) := dTX7_lit_0_ok 25 (40, .invokevirtual 60, 3) rfl
theorem dX7_lit_43 : decode cX7_lit 43 = .ok (.iinc 3 1, 3) := dTX7_lit_0_ok 26 (43, .iinc 3 1, 3) rfl
theorem dX7_lit_46 : decode cX7_lit 46 = .ok (.goto (-27), 3) := dTX7_lit_0_ok 27 (46, .goto (-27), 3) rfl
theorem dX7_lit_49 : decode cX7_lit 49 = .ok (.iinc 2 1, 3) := dTX7_lit_0_ok 28 (49, .iinc 2 1, 3) rfl
theorem dX7_lit_52 : decode cX7_lit 52 = .ok (.goto (-41), 3) := dTX7_lit_0_ok 29 (52, .goto (-41), 3) rfl
theorem dX7_lit_55 : decode cX7_lit 55 = .ok (.aload_n 1, 1) := dTX7_lit_0_ok 30 (55, .aload_n 1, 1) rfl
theorem dX7_lit_56 : decode cX7_lit 56 = .ok (.areturn, 1) := dTX7_lit_0_ok 31 (56, .areturn, 1) rfl
noncomputable def dTX7_many_0 : List (Nat × Instr × Nat) := [(0, .iconst 0, 1), (1, .istore_n 1, 1), (2, .aload_n 0, 1), (3, .astore_n 2, 1), (4, .aload_n 2, 1), (5, .arraylength, 1), (6, .istore_n 3, 1), (7, .iconst 0, 1), (8, .istore 4, 2), (10, .iload 4, 2), (12, .iload_n 3, 1), (13, .if_icmp .ge 60, 3), (16, .aload_n 2, 1), (17, .iload 4, 2), (19, .aaload, 1), (20, .astore 5, 2), (22, .aload 5, 2), (24, .astore 6, 2), (26, .aload 6, 2), (28, .arraylength, 1), (29, .istore 7, 2), (31, .iconst 0, 1), (32, .istore 8, 2), (34, .iload 8, 2), (36, .iload 7, 2), (38, .if_icmp .ge 29, 3), (41, .aload 6, 2), (43, .iload 8, 2), (45, .baload, 1), (46, .istore 9, 2), (48, .iload_n 1, 1), (49, .iload 9, 2), (51, .ifCond .eq 7, 3), (54, .iconst 1, 1), (55, .goto 4, 3), (58, .iconst 0, 1), (59, .iadd, 1), (60, .istore_n 1, 1), (61, .iinc 8 1, 3), (64, .goto (-30), 3), (67, .iinc 4 1, 3), (70, .goto (-60), 3), (73, .iload_n 1, 1), (74, .ireturn, 1)]
theorem dTX7_many_0_ok : ∀ (k : Nat) (q : Nat × Instr × Nat), dTX7_many_0[k]? = some q → decode cX7_many q.1 = .ok q.2 := dT_of (by decide +kernel)
theorem dX7_many_0 : decode cX7_many 0 = .ok (.iconst 0, 1) := dTX7_many_0_ok 0 (0, .iconst 0, 1) rfl
theorem dX7_many_1 : decode cX7_many 1 = .ok (.istore_n 1, 1) := dTX7_many_0_ok 1 (1, .istore_n 1, 1) rfl
theorem dX7_many_2 : decode cX7_many 2 = .ok (.aload_n 0, 1) := dTX7_many_0_ok 2 (2, .aload_n 0, 1) rfl
theorem dX7_many_3 : decode cX7_many 3 = .ok (.astore_n 2, 1) := dTX7_many_0_ok 3 (3, .astore_n 2, 1) rfl
theorem dX7_many_4 : decode cX7_many 4 = .ok (.aload_n 2, 1) := dTX7_many_0_ok 4 (4, .aload_n 2, 1) rfl
theorem dX7_many_5 : decode cX7_many 5 = .ok (.arraylength, 1) := dTX7_many_0_ok 5 (5, .arraylength, 1) rfl
theorem dX7_many_6 : decode cX7_many 6 = .ok (.istore_n 3, 1) := dTX7_many_0_ok 6 (6, .istore_n 3, 1) rfl
theorem dX7_many_7 : decode cX7_many 7 = .ok (.iconst 0, 1) := dTX7_many_0_ok 7 (7, .iconst 0, 1) rfl
theorem dX7_many_8 : decode cX7_many 8 = .ok (.istore 4, 2) := dTX7_many_0_ok 8 (8, .istore 4, 2) rfl
theorem dX7_many_10 : decode cX7_many 10 = .ok (.iload 4, 2) := dTX7_many_0_ok 9 (10, .iload 4, 2) rfl
theorem dX7_many_12 : decode cX7_many 12 = .ok (.iload_n 3, 1) := dTX7_many_0_ok 10 (12, .iload_n 3, 1) rfl
theorem dX7_many_13 : decode cX7_many 13 = .ok (.if_icmp .ge 60, 3) := dTX7_many_0_ok 11 (13, .if_icmp .ge 60, 3) rfl
theorem dX7_many_16 : decode cX7_many 16 = .ok (.aload_n 2, 1) := dTX7_many_0_ok 12 (16, .aload_n 2, 1) rfl
theorem dX7_many_17 : decode cX7_many 17 = .ok (.iload 4, 2) := dTX7_many_0_ok 13 (17, .iload 4, 2) rfl
theorem dX7_many_19 : decode cX7_many 19 = .ok (.aaload, 1) := dTX7_many_0_ok 14 (19, .aaload, 1) rfl
theorem dX7_many_20 : decode cX7_many 20 = .ok (.astore 5, 2) := dTX7_many_0_ok 15 (20, .astore 5, 2) rfl
theorem dX7_many_22 : decode cX7_many 22 = .ok (.aload 5, 2) := dTX7_many_0_ok 16 (22, .aload 5, 2) rfl
theorem dX7_many_24 : decode cX7_many 24 = .ok (.astore 6, 2) := dTX7_many_0_ok 17 (24, .astore 6, 2) rfl
theorem dX7_many_26 : decode cX7_many 26 = .ok (.aload 6, 2) := dTX7_many_0_ok 18 (26, .aload 6, 2) rfl
theorem dX7_many_28 : decode cX7_many 28 = .ok (.arraylength, 1) := dTX7_many_0_ok 19 (28, .arraylength, 1) rfl
theorem dX7_many_29 : decode cX7_many 29 = .ok (.istore 7, 2) := dTX7_many_0_ok 20 (29, .istore 7, 2) rfl
theorem dX7_many_31 : decode cX7_many 31 = .ok (.iconst 0, 1) := dTX7_many_0_ok 21 (31, .iconst 0, 1) rfl
theorem dX7_many_32 : decode cX7_many 32 = .ok (.istore 8, 2) := dTX7_many_0_ok 22 (32, .istore 8, 2) rfl
theorem dX7_many_34 : decode cX7_many 34 = .ok (.iload 8, 2) := dTX7_many_0_ok 23 (34, .iload 8, 2) rfl
theorem dX7_many_36 : decode cX7_many 36 = .ok (.iload 7, 2) := dTX7_many_0_ok 24 (36, .iload 7, 2) rfl
theorem dX7_many_38 : decode cX7_many 38 = .ok (.if_icmp .ge 29, 3) := dTX7_many_0_ok 25 (38, .if_icmp .ge 29, 3) rfl
theorem dX7_many_41 : decode cX7_many 41 = .ok (.aload 6, 2) := dTX7_many_0_ok 26 (41, .aload 6, 2) rfl
theorem dX7_many_43 : decode cX7_many 43 = .ok (.iload 8, 2) := dTX7_many_0_ok 27 (43, .iload 8, 2) rfl
theorem dX7_many_45 : decode cX7_many 45 = .ok (.baload, 1) := dTX7_many_0_ok 28 (45, .baload, 1) rfl
theorem dX7_many_46 : decode cX7_many 46 = .ok (.istore 9, 2) := dTX7_many_0_ok 29 (46, .istore 9, 2) rfl
theorem dX7_many_48 : decode cX7_many 48 = .ok (.iload_n 1, 1) := dTX7_many_0_ok 30 (48, .iload_n 1, 1) rfl
theorem dX7_many_49 : decode cX7_many 49 = .ok (.iload 9, 2) := dTX7_many_0_ok 31 (49, .iload 9, 2) rfl
theorem dX7_many_51 : decode cX7_many 51 = .ok (.ifCond .eq 7, 3) := dTX7_many_0_ok 32 (51, .ifCond .eq 7, 3) rfl
theorem dX7_many_54 : decode cX7_many 54 = .ok (.iconst 1, 1) := dTX7_many_0_ok 33 (54, .iconst 1, 1) rfl
theorem dX7_many_55 : decode cX7_many 55 = .ok (.goto 4, 3) := dTX7_many_0_ok 34 (55, .goto 4, 3) rfl
theorem dX7_many_58 : decode cX7_many 58 = .ok (.iconst 0, 1) := dTX7_many_0_ok 35 (58, .iconst 0, 1) rfl
theorem dX7_many_59 : decode cX7_many 59 = .ok (.iadd, 1) := dTX7_many_0_ok 36 (59, .iadd, 1) rfl
theorem dX7_many_60 : decode cX7_many 60 = .ok (.istore_n 1, 1) := dTX7_many_0_ok 37 (60, .istore_n 1, 1) rfl
theorem dX7_many_61 : decode cX7_many 61 = .ok (.iinc 8 1, 3) := dTX7_many_0_ok 38 (61, .iinc 8 1, 3) rfl
theorem dX7_many_64 : decode cX7_many 64 = .ok (.goto (-30), 3) := dTX7_many_0_ok 39 (64, .goto (-30), 3) rfl
theorem dX7_many_67 : decode cX7_many 67 = .ok (.iinc 4 1, 3) := dTX7_many_0_ok 40 (67, .iinc 4 1, 3) rfl
theorem dX7_many_70 : decode cX7_many 70 = .ok (.goto (-60), 3) := dTX7_many_0_ok 41 (70, .goto (-60), 3) rfl
theorem dX7_many_73 : decode cX7_many 73 = .ok (.iload_n 1, 1) := dTX7_many_0_ok 42 (73, .iload_n 1, 1) rfl
theorem dX7_many_74 : decode cX7_many 74 = .ok (.ireturn, 1) := dTX7_many_0_ok 43 (74, .ireturn, 1) rfl
noncomputable def dTX7_way_0 : List (Nat × Instr × Nat) := [(0, .iload_n 2, 1), (1, .iload 5, 2), (3, .if_icmp .ne 11, 3), (6, .iload_n 3, 1), (7, .iload 6, 2), (9, .if_icmp .ne 5, 3), (12, .iconst 0, 1), (13, .ireturn, 1), (14, .iconst 0, 1), (15, .istore 7, 2), (17, .iload 7, 2), (19, .bipush 126, 2), (21, .if_icmp .ge 19, 3), (24, .aload_n 0, 1), (25, .getfield 33, 3), (28, .iload 7, 2), (30, .sipush 1000, 3), (33, .iastore, 1), (34, .iinc 7 1, 3), (37, .goto (-20), 3), (40, .aload_n 0, 1), (41, .getfield 37, 3), (44, .iconst 0, 1), (45, .iload 4, 2), (47, .ifCond .eq 7, 3), (50, .iconst 0, 1), (51, .goto 5, 3), (54, .bipush 63, 2), (56, .bipush 7, 2), (58, .iload_n 2, 1), (59, .imul, 1), (60, .iadd, 1), (61, .iload_n 3, 1), (62, .iadd, 1), (63, .iastore, 1), (64, .aload_n 0, 1), (65, .getfield 33, 3), (68, .aload_n 0, 1), (69, .getfield 37, 3), (72, .iconst 0, 1), (73, .iaload, 1), (74, .iconst 0, 1), (75, .iastore, 1), (76, .iconst 1, 1), (77, .istore 7, 2), (79, .iconst 0, 1), (80, .istore 8, 2), (82, .iload 8, 2), (84, .iload 7, 2), (86, .if_icmp .ge 236, 3), (89, .aload_n 0, 1), (90, .getfield 37, 3), (93, .iload 8, 2), (95, .iaload, 1), (96, .bipush 63, 2), (98, .idiv, 1), (99, .istore 9, 2), (101, .aload_n 0, 1), (102, .getfield 37, 3), (105, .iload 8, 2)]
theorem dTX7_way_0_ok : ∀ (k : Nat) (q : Nat × Instr × Nat), dTX7_way_0[k]? = some q → decode cX7_way q.1 = .ok q.2 := dT_of (by decide +kernel)
theorem dX7_way_0 : decode cX7_way 0 = .ok (.iload_n 2, 1) := dTX7_way_0_ok 0 (0, .iload_n 2, 1) rfl
theorem dX7_way_1 : decode cX7_way 1 = .ok (.iload 5, 2) := dTX7_way_0_ok 1 (1, .iload 5, 2) rfl
theorem dX7_way_3 : decode cX7_way 3 = .ok (.if_icmp .ne 11, 3) := dTX7_way_0_ok 2 (3, .if_icmp .ne 11, 3) rfl
theorem dX7_way_6 : decode cX7_way 6 = .ok (.iload_n 3, 1) := dTX7_way_0_ok 3 (6, .iload_n 3, 1) rfl
theorem dX7_way_7 : decode cX7_way 7 = .ok (.iload 6, 2) := dTX7_way_0_ok 4 (7, .iload 6, 2) rfl
theorem dX7_way_9 : decode cX7_way 9 = .ok (.if_icmp .ne 5, 3) := dTX7_way_0_ok 5 (9, .if_icmp .ne 5, 3) rfl
theorem dX7_way_12 : decode cX7_way 12 = .ok (.iconst 0, 1) := dTX7_way_0_ok 6 (12, .iconst 0, 1) rfl
theorem dX7_way_13 : decode cX7_way 13 = .ok (.ireturn, 1) := dTX7_way_0_ok 7 (13, .ireturn, 1) rfl
theorem dX7_way_14 : decode cX7_way 14 = .ok (.iconst 0, 1) := dTX7_way_0_ok 8 (14, .iconst 0, 1) rfl
theorem dX7_way_15 : decode cX7_way 15 = .ok (.istore 7, 2) := dTX7_way_0_ok 9 (15, .istore 7, 2) rfl
theorem dX7_way_17 : decode cX7_way 17 = .ok (.iload 7, 2) := dTX7_way_0_ok 10 (17, .iload 7, 2) rfl
theorem dX7_way_19 : decode cX7_way 19 = .ok (.bipush 126, 2) := dTX7_way_0_ok 11 (19, .bipush 126, 2) rfl
theorem dX7_way_21 : decode cX7_way 21 = .ok (.if_icmp .ge 19, 3) := dTX7_way_0_ok 12 (21, .if_icmp .ge 19, 3) rfl
theorem dX7_way_24 : decode cX7_way 24 = .ok (.aload_n 0, 1) := dTX7_way_0_ok 13 (24, .aload_n 0, 1) rfl
theorem dX7_way_25 : decode cX7_way 25 = .ok (.getfield 33, 3) := dTX7_way_0_ok 14 (25, .getfield 33, 3) rfl
theorem dX7_way_28 : decode cX7_way 28 = .ok (.iload 7, 2) := dTX7_way_0_ok 15 (28, .iload 7, 2) rfl
theorem dX7_way_30 : decode cX7_way 30 = .ok (.sipush 1000, 3) := dTX7_way_0_ok 16 (30, .sipush 1000, 3) rfl
theorem dX7_way_33 : decode cX7_way 33 = .ok (.iastore, 1) := dTX7_way_0_ok 17 (33, .iastore, 1) rfl
theorem dX7_way_34 : decode cX7_way 34 = .ok (.iinc 7 1, 3) := dTX7_way_0_ok 18 (34, .iinc 7 1, 3) rfl
theorem dX7_way_37 : decode cX7_way 37 = .ok (.goto (-20), 3) := dTX7_way_0_ok 19 (37, .goto (-20), 3) rfl
theorem dX7_way_40 : decode cX7_way 40 = .ok (.aload_n 0, 1) := dTX7_way_0_ok 20 (40, .aload_n 0, 1) rfl
theorem dX7_way_41 : decode cX7_way 41 = .ok (.getfield 37, 3) := dTX7_way_0_ok 21 (41, .getfield 37, 3) rfl
theorem dX7_way_44 : decode cX7_way 44 = .ok (.iconst 0, 1) := dTX7_way_0_ok 22 (44, .iconst 0, 1) rfl
theorem dX7_way_45 : decode cX7_way 45 = .ok (.iload 4, 2) := dTX7_way_0_ok 23 (45, .iload 4, 2) rfl
theorem dX7_way_47 : decode cX7_way 47 = .ok (.ifCond .eq 7, 3) := dTX7_way_0_ok 24 (47, .ifCond .eq 7, 3) rfl
theorem dX7_way_50 : decode cX7_way 50 = .ok (.iconst 0, 1) := dTX7_way_0_ok 25 (50, .iconst 0, 1) rfl
theorem dX7_way_51 : decode cX7_way 51 = .ok (.goto 5, 3) := dTX7_way_0_ok 26 (51, .goto 5, 3) rfl
theorem dX7_way_54 : decode cX7_way 54 = .ok (.bipush 63, 2) := dTX7_way_0_ok 27 (54, .bipush 63, 2) rfl
theorem dX7_way_56 : decode cX7_way 56 = .ok (.bipush 7, 2) := dTX7_way_0_ok 28 (56, .bipush 7, 2) rfl
theorem dX7_way_58 : decode cX7_way 58 = .ok (.iload_n 2, 1) := dTX7_way_0_ok 29 (58, .iload_n 2, 1) rfl
theorem dX7_way_59 : decode cX7_way 59 = .ok (.imul, 1) := dTX7_way_0_ok 30 (59, .imul, 1) rfl
theorem dX7_way_60 : decode cX7_way 60 = .ok (.iadd, 1) := dTX7_way_0_ok 31 (60, .iadd, 1) rfl
theorem dX7_way_61 : decode cX7_way 61 = .ok (.iload_n 3, 1) := dTX7_way_0_ok 32 (61, .iload_n 3, 1) rfl
theorem dX7_way_62 : decode cX7_way 62 = .ok (.iadd, 1) := dTX7_way_0_ok 33 (62, .iadd, 1) rfl
theorem dX7_way_63 : decode cX7_way 63 = .ok (.iastore, 1) := dTX7_way_0_ok 34 (63, .iastore, 1) rfl
theorem dX7_way_64 : decode cX7_way 64 = .ok (.aload_n 0, 1) := dTX7_way_0_ok 35 (64, .aload_n 0, 1) rfl
theorem dX7_way_65 : decode cX7_way 65 = .ok (.getfield 33, 3) := dTX7_way_0_ok 36 (65, .getfield 33, 3) rfl
theorem dX7_way_68 : decode cX7_way 68 = .ok (.aload_n 0, 1) := dTX7_way_0_ok 37 (68, .aload_n 0, 1) rfl
theorem dX7_way_69 : decode cX7_way 69 = .ok (.getfield 37, 3) := dTX7_way_0_ok 38 (69, .getfield 37, 3) rfl
theorem dX7_way_72 : decode cX7_way 72 = .ok (.iconst 0, 1) := dTX7_way_0_ok 39 (72, .iconst 0, 1) rfl
theorem dX7_way_73 : decode cX7_way 73 = .ok (.iaload, 1) := dTX7_way_0_ok 40 (73, .iaload, 1) rfl
theorem dX7_way_74 : decode cX7_way 74 = .ok (.iconst 0, 1) := dTX7_way_0_ok 41 (74, .iconst 0, 1) rfl
theorem dX7_way_75 : decode cX7_way 75 = .ok (.iastore, 1) := dTX7_way_0_ok 42 (75, .iastore, 1) rfl
theorem dX7_way_76 : decode cX7_way 76 = .ok (.iconst 1, 1) := dTX7_way_0_ok 43 (76, .iconst 1, 1) rfl
theorem dX7_way_77 : decode cX7_way 77 = .ok (.istore 7, 2) := dTX7_way_0_ok 44 (77, .istore 7, 2) rfl
theorem dX7_way_79 : decode cX7_way 79 = .ok (.iconst 0, 1) := dTX7_way_0_ok 45 (79, .iconst 0, 1) rfl
theorem dX7_way_80 : decode cX7_way 80 = .ok (.istore 8, 2) := dTX7_way_0_ok 46 (80, .istore 8, 2) rfl
theorem dX7_way_82 : decode cX7_way 82 = .ok (.iload 8, 2) := dTX7_way_0_ok 47 (82, .iload 8, 2) rfl
theorem dX7_way_84 : decode cX7_way 84 = .ok (.iload 7, 2) := dTX7_way_0_ok 48 (84, .iload 7, 2) rfl
theorem dX7_way_86 : decode cX7_way 86 = .ok (.if_icmp .ge 236, 3) := dTX7_way_0_ok 49 (86, .if_icmp .ge 236, 3) rfl
theorem dX7_way_89 : decode cX7_way 89 = .ok (.aload_n 0, 1) := dTX7_way_0_ok 50 (89, .aload_n 0, 1) rfl
theorem dX7_way_90 : decode cX7_way 90 = .ok (.getfield 37, 3) := dTX7_way_0_ok 51 (90, .getfield 37, 3) rfl
theorem dX7_way_93 : decode cX7_way 93 = .ok (.iload 8, 2) := dTX7_way_0_ok 52 (93, .iload 8, 2) rfl
theorem dX7_way_95 : decode cX7_way 95 = .ok (.iaload, 1) := dTX7_way_0_ok 53 (95, .iaload, 1) rfl
theorem dX7_way_96 : decode cX7_way 96 = .ok (.bipush 63, 2) := dTX7_way_0_ok 54 (96, .bipush 63, 2) rfl
theorem dX7_way_98 : decode cX7_way 98 = .ok (.idiv, 1) := dTX7_way_0_ok 55 (98, .idiv, 1) rfl
theorem dX7_way_99 : decode cX7_way 99 = .ok (.istore 9, 2) := dTX7_way_0_ok 56 (99, .istore 9, 2) rfl
theorem dX7_way_101 : decode cX7_way 101 = .ok (.aload_n 0, 1) := dTX7_way_0_ok 57 (101, .aload_n 0, 1) rfl
theorem dX7_way_102 : decode cX7_way 102 = .ok (.getfield 37, 3) := dTX7_way_0_ok 58 (102, .getfield 37, 3) rfl
theorem dX7_way_105 : decode cX7_way 105 = .ok (.iload 8, 2) := dTX7_way_0_ok 59 (105, .iload 8, 2) rfl
noncomputable def dTX7_way_1 : List (Nat × Instr × Nat) := [(107, .iaload, 1), (108, .bipush 63, 2), (110, .irem, 1), (111, .bipush 7, 2), (113, .idiv, 1), (114, .istore 10, 2), (116, .aload_n 0, 1), (117, .getfield 37, 3), (120, .iload 8, 2), (122, .iaload, 1), (123, .bipush 7, 2), (125, .irem, 1), (126, .istore 11, 2), (128, .iconst 0, 1), (129, .istore 12, 2), (131, .iload 12, 2), (133, .iconst 4, 1), (134, .if_icmp .ge 182, 3), (137, .iload 10, 2), (139, .iload 12, 2), (141, .invokestatic 49, 3), (144, .iadd, 1), (145, .istore 13, 2), (147, .iload 11, 2), (149, .iload 12, 2), (151, .invokestatic 53, 3), (154, .iadd, 1), (155, .istore 14, 2), (157, .iload 13, 2), (159, .iload 14, 2), (161, .invokestatic 56, 3), (164, .ifCond .eq 146, 3), (167, .aload_n 1, 1), (168, .iload 13, 2), (170, .aaload, 1), (171, .iload 14, 2), (173, .baload, 1), (174, .ifCond .ne 136, 3), (177, .aload_n 0, 1), (178, .getfield 9, 3), (181, .iload 10, 2), (183, .aaload, 1), (184, .iload 11, 2), (186, .aaload, 1), (187, .iload 12, 2), (189, .baload, 1), (190, .ifCond .eq 12, 3), (193, .iload 9, 2), (195, .iconst 1, 1), (196, .if_icmp .ne 6, 3), (199, .goto 111, 3), (202, .aload_n 0, 1), (203, .getfield 9, 3), (206, .iload 10, 2), (208, .aaload, 1), (209, .iload 11, 2), (211, .aaload, 1), (212, .iload 12, 2), (214, .baload, 1), (215, .ifCond .eq 8, 3)]
theorem dTX7_way_1_ok : ∀ (k : Nat) (q : Nat × Instr × Nat), dTX7_way_1[k]? = some q → decode cX7_way q.1 = .ok q.2 := dT_of (by decide +kernel)
theorem dX7_way_107 : decode cX7_way 107 = .ok (.iaload, 1) := dTX7_way_1_ok 0 (107, .iaload, 1) rfl
theorem dX7_way_108 : decode cX7_way 108 = .ok (.bipush 63, 2) := dTX7_way_1_ok 1 (108, .bipush 63, 2) rfl
theorem dX7_way_110 : decode cX7_way 110 = .ok (.irem, 1) := dTX7_way_1_ok 2 (110, .irem, 1) rfl
theorem dX7_way_111 : decode cX7_way 111 = .ok (.bipush 7, 2) := dTX7_way_1_ok 3 (111, .bipush 7, 2) rfl
theorem dX7_way_113 : decode cX7_way 113 = .ok (.idiv, 1) := dTX7_way_1_ok 4 (113, .idiv, 1) rfl
theorem dX7_way_114 : decode cX7_way 114 = .ok (.istore 10, 2) := dTX7_way_1_ok 5 (114, .istore 10, 2) rfl
theorem dX7_way_116 : decode cX7_way 116 = .ok (.aload_n 0, 1) := dTX7_way_1_ok 6 (116, .aload_n 0, 1) rfl
theorem dX7_way_117 : decode cX7_way 117 = .ok (.getfield 37, 3) := dTX7_way_1_ok 7 (117, .getfield 37, 3) rfl
theorem dX7_way_120 : decode cX7_way 120 = .ok (.iload 8, 2) := dTX7_way_1_ok 8 (120, .iload 8, 2) rfl
theorem dX7_way_122 : decode cX7_way 122 = .ok (.iaload, 1) := dTX7_way_1_ok 9 (122, .iaload, 1) rfl
theorem dX7_way_123 : decode cX7_way 123 = .ok (.bipush 7, 2) := dTX7_way_1_ok 10 (123, .bipush 7, 2) rfl
theorem dX7_way_125 : decode cX7_way 125 = .ok (.irem, 1) := dTX7_way_1_ok 11 (125, .irem, 1) rfl
theorem dX7_way_126 : decode cX7_way 126 = .ok (.istore 11, 2) := dTX7_way_1_ok 12 (126, .istore 11, 2) rfl
theorem dX7_way_128 : decode cX7_way 128 = .ok (.iconst 0, 1) := dTX7_way_1_ok 13 (128, .iconst 0, 1) rfl
theorem dX7_way_129 : decode cX7_way 129 = .ok (.istore 12, 2) := dTX7_way_1_ok 14 (129, .istore 12, 2) rfl
theorem dX7_way_131 : decode cX7_way 131 = .ok (.iload 12, 2) := dTX7_way_1_ok 15 (131, .iload 12, 2) rfl
theorem dX7_way_133 : decode cX7_way 133 = .ok (.iconst 4, 1) := dTX7_way_1_ok 16 (133, .iconst 4, 1) rfl
theorem dX7_way_134 : decode cX7_way 134 = .ok (.if_icmp .ge 182, 3) := dTX7_way_1_ok 17 (134, .if_icmp .ge 182, 3) rfl
theorem dX7_way_137 : decode cX7_way 137 = .ok (.iload 10, 2) := dTX7_way_1_ok 18 (137, .iload 10, 2) rfl
theorem dX7_way_139 : decode cX7_way 139 = .ok (.iload 12, 2) := dTX7_way_1_ok 19 (139, .iload 12, 2) rfl
theorem dX7_way_141 : decode cX7_way 141 = .ok (.invokestatic 49, 3) := dTX7_way_1_ok 20 (141, .invokestatic 49, 3) rfl
theorem dX7_way_144 : decode cX7_way 144 = .ok (.iadd, 1) := dTX7_way_1_ok 21 (144, .iadd, 1) rfl
theorem dX7_way_145 : decode cX7_way 145 = .ok (.istore 13, 2) := dTX7_way_1_ok 22 (145, .istore 13, 2) rfl
theorem dX7_way_147 : decode cX7_way 147 = .ok (.iload 11, 2) := dTX7_way_1_ok 23 (147, .iload 11, 2) rfl
theorem dX7_way_149 : decode cX7_way 149 = .ok (.iload 12, 2) := dTX7_way_1_ok 24 (149, .iload 12, 2) rfl
theorem dX7_way_151 : decode cX7_way 151 = .ok (.invokestatic 53, 3) := dTX7_way_1_ok 25 (151, .invokestatic 53, 3) rfl
theorem dX7_way_154 : decode cX7_way 154 = .ok (.iadd, 1) := dTX7_way_1_ok 26 (154, .iadd, 1) rfl
theorem dX7_way_155 : decode cX7_way 155 = .ok (.istore 14, 2) := dTX7_way_1_ok 27 (155, .istore 14, 2) rfl
theorem dX7_way_157 : decode cX7_way 157 = .ok (.iload 13, 2) := dTX7_way_1_ok 28 (157, .iload 13, 2) rfl
theorem dX7_way_159 : decode cX7_way 159 = .ok (.iload 14, 2) := dTX7_way_1_ok 29 (159, .iload 14, 2) rfl
theorem dX7_way_161 : decode cX7_way 161 = .ok (.invokestatic 56, 3) := dTX7_way_1_ok 30 (161, .invokestatic 56, 3) rfl
theorem dX7_way_164 : decode cX7_way 164 = .ok (.ifCond .eq 146, 3) := dTX7_way_1_ok 31 (164, .ifCond .eq 146, 3) rfl
theorem dX7_way_167 : decode cX7_way 167 = .ok (.aload_n 1, 1) := dTX7_way_1_ok 32 (167, .aload_n 1, 1) rfl
theorem dX7_way_168 : decode cX7_way 168 = .ok (.iload 13, 2) := dTX7_way_1_ok 33 (168, .iload 13, 2) rfl
theorem dX7_way_170 : decode cX7_way 170 = .ok (.aaload, 1) := dTX7_way_1_ok 34 (170, .aaload, 1) rfl
theorem dX7_way_171 : decode cX7_way 171 = .ok (.iload 14, 2) := dTX7_way_1_ok 35 (171, .iload 14, 2) rfl
theorem dX7_way_173 : decode cX7_way 173 = .ok (.baload, 1) := dTX7_way_1_ok 36 (173, .baload, 1) rfl
theorem dX7_way_174 : decode cX7_way 174 = .ok (.ifCond .ne 136, 3) := dTX7_way_1_ok 37 (174, .ifCond .ne 136, 3) rfl
theorem dX7_way_177 : decode cX7_way 177 = .ok (.aload_n 0, 1) := dTX7_way_1_ok 38 (177, .aload_n 0, 1) rfl
theorem dX7_way_178 : decode cX7_way 178 = .ok (.getfield 9, 3) := dTX7_way_1_ok 39 (178, .getfield 9, 3) rfl
theorem dX7_way_181 : decode cX7_way 181 = .ok (.iload 10, 2) := dTX7_way_1_ok 40 (181, .iload 10, 2) rfl
theorem dX7_way_183 : decode cX7_way 183 = .ok (.aaload, 1) := dTX7_way_1_ok 41 (183, .aaload, 1) rfl
theorem dX7_way_184 : decode cX7_way 184 = .ok (.iload 11, 2) := dTX7_way_1_ok 42 (184, .iload 11, 2) rfl
theorem dX7_way_186 : decode cX7_way 186 = .ok (.aaload, 1) := dTX7_way_1_ok 43 (186, .aaload, 1) rfl
theorem dX7_way_187 : decode cX7_way 187 = .ok (.iload 12, 2) := dTX7_way_1_ok 44 (187, .iload 12, 2) rfl
theorem dX7_way_189 : decode cX7_way 189 = .ok (.baload, 1) := dTX7_way_1_ok 45 (189, .baload, 1) rfl
theorem dX7_way_190 : decode cX7_way 190 = .ok (.ifCond .eq 12, 3) := dTX7_way_1_ok 46 (190, .ifCond .eq 12, 3) rfl
theorem dX7_way_193 : decode cX7_way 193 = .ok (.iload 9, 2) := dTX7_way_1_ok 47 (193, .iload 9, 2) rfl
theorem dX7_way_195 : decode cX7_way 195 = .ok (.iconst 1, 1) := dTX7_way_1_ok 48 (195, .iconst 1, 1) rfl
theorem dX7_way_196 : decode cX7_way 196 = .ok (.if_icmp .ne 6, 3) := dTX7_way_1_ok 49 (196, .if_icmp .ne 6, 3) rfl
theorem dX7_way_199 : decode cX7_way 199 = .ok (.goto 111, 3) := dTX7_way_1_ok 50 (199, .goto 111, 3) rfl
theorem dX7_way_202 : decode cX7_way 202 = .ok (.aload_n 0, 1) := dTX7_way_1_ok 51 (202, .aload_n 0, 1) rfl
theorem dX7_way_203 : decode cX7_way 203 = .ok (.getfield 9, 3) := dTX7_way_1_ok 52 (203, .getfield 9, 3) rfl
theorem dX7_way_206 : decode cX7_way 206 = .ok (.iload 10, 2) := dTX7_way_1_ok 53 (206, .iload 10, 2) rfl
theorem dX7_way_208 : decode cX7_way 208 = .ok (.aaload, 1) := dTX7_way_1_ok 54 (208, .aaload, 1) rfl
theorem dX7_way_209 : decode cX7_way 209 = .ok (.iload 11, 2) := dTX7_way_1_ok 55 (209, .iload 11, 2) rfl
theorem dX7_way_211 : decode cX7_way 211 = .ok (.aaload, 1) := dTX7_way_1_ok 56 (211, .aaload, 1) rfl
theorem dX7_way_212 : decode cX7_way 212 = .ok (.iload 12, 2) := dTX7_way_1_ok 57 (212, .iload 12, 2) rfl
theorem dX7_way_214 : decode cX7_way 214 = .ok (.baload, 1) := dTX7_way_1_ok 58 (214, .baload, 1) rfl
theorem dX7_way_215 : decode cX7_way 215 = .ok (.ifCond .eq 8, 3) := dTX7_way_1_ok 59 (215, .ifCond .eq 8, 3) rfl
noncomputable def dTX7_way_2 : List (Nat × Instr × Nat) := [(218, .bipush 63, 2), (220, .goto 8, 3), (223, .bipush 63, 2), (225, .iload 9, 2), (227, .imul, 1), (228, .bipush 7, 2), (230, .iload 13, 2), (232, .imul, 1), (233, .iadd, 1), (234, .iload 14, 2), (236, .iadd, 1), (237, .istore 15, 2), (239, .aload_n 0, 1), (240, .getfield 33, 3), (243, .iload 15, 2), (245, .iaload, 1), (246, .sipush 1000, 3), (249, .if_icmp .ge 6, 3), (252, .goto 58, 3), (255, .aload_n 0, 1), (256, .getfield 33, 3), (259, .iload 15, 2), (261, .aload_n 0, 1), (262, .getfield 33, 3), (265, .aload_n 0, 1), (266, .getfield 37, 3), (269, .iload 8, 2), (271, .iaload, 1), (272, .iaload, 1), (273, .iconst 1, 1), (274, .iadd, 1), (275, .iastore, 1), (276, .iload 13, 2), (278, .iload 5, 2), (280, .if_icmp .ne 18, 3), (283, .iload 14, 2), (285, .iload 6, 2), (287, .if_icmp .ne 11, 3), (290, .aload_n 0, 1), (291, .getfield 33, 3), (294, .iload 15, 2), (296, .iaload, 1), (297, .ireturn, 1), (298, .aload_n 0, 1), (299, .getfield 37, 3), (302, .iload 7, 2), (304, .iload 15, 2), (306, .iastore, 1), (307, .iinc 7 1, 3), (310, .iinc 12 1, 3), (313, .goto (-182), 3), (316, .iinc 8 1, 3), (319, .goto (-237), 3), (322, .sipush 1000, 3), (325, .ireturn, 1)]
theorem dTX7_way_2_ok : ∀ (k : Nat) (q : Nat × Instr × Nat), dTX7_way_2[k]? = some q → decode cX7_way q.1 = .ok q.2 := dT_of (by decide +kernel)
theorem dX7_way_218 : decode cX7_way 218 = .ok (.bipush 63, 2) := dTX7_way_2_ok 0 (218, .bipush 63, 2) rfl
theorem dX7_way_220 : decode cX7_way 220 = .ok (.goto 8, 3) := dTX7_way_2_ok 1 (220, .goto 8, 3) rfl
theorem dX7_way_223 : decode cX7_way 223 = .ok (.bipush 63, 2) := dTX7_way_2_ok 2 (223, .bipush 63, 2) rfl
theorem dX7_way_225 : decode cX7_way 225 = .ok (.iload 9, 2) := dTX7_way_2_ok 3 (225, .iload 9, 2) rfl
theorem dX7_way_227 : decode cX7_way 227 = .ok (.imul, 1) := dTX7_way_2_ok 4 (227, .imul, 1) rfl
theorem dX7_way_228 : decode cX7_way 228 = .ok (.bipush 7, 2) := dTX7_way_2_ok 5 (228, .bipush 7, 2) rfl
theorem dX7_way_230 : decode cX7_way 230 = .ok (.iload 13, 2) := dTX7_way_2_ok 6 (230, .iload 13, 2) rfl
theorem dX7_way_232 : decode cX7_way 232 = .ok (.imul, 1) := dTX7_way_2_ok 7 (232, .imul, 1) rfl
theorem dX7_way_233 : decode cX7_way 233 = .ok (.iadd, 1) := dTX7_way_2_ok 8 (233, .iadd, 1) rfl
theorem dX7_way_234 : decode cX7_way 234 = .ok (.iload 14, 2) := dTX7_way_2_ok 9 (234, .iload 14, 2) rfl
theorem dX7_way_236 : decode cX7_way 236 = .ok (.iadd, 1) := dTX7_way_2_ok 10 (236, .iadd, 1) rfl
theorem dX7_way_237 : decode cX7_way 237 = .ok (.istore 15, 2) := dTX7_way_2_ok 11 (237, .istore 15, 2) rfl
theorem dX7_way_239 : decode cX7_way 239 = .ok (.aload_n 0, 1) := dTX7_way_2_ok 12 (239, .aload_n 0, 1) rfl
theorem dX7_way_240 : decode cX7_way 240 = .ok (.getfield 33, 3) := dTX7_way_2_ok 13 (240, .getfield 33, 3) rfl
theorem dX7_way_243 : decode cX7_way 243 = .ok (.iload 15, 2) := dTX7_way_2_ok 14 (243, .iload 15, 2) rfl
theorem dX7_way_245 : decode cX7_way 245 = .ok (.iaload, 1) := dTX7_way_2_ok 15 (245, .iaload, 1) rfl
theorem dX7_way_246 : decode cX7_way 246 = .ok (.sipush 1000, 3) := dTX7_way_2_ok 16 (246, .sipush 1000, 3) rfl
theorem dX7_way_249 : decode cX7_way 249 = .ok (.if_icmp .ge 6, 3) := dTX7_way_2_ok 17 (249, .if_icmp .ge 6, 3) rfl
theorem dX7_way_252 : decode cX7_way 252 = .ok (.goto 58, 3) := dTX7_way_2_ok 18 (252, .goto 58, 3) rfl
theorem dX7_way_255 : decode cX7_way 255 = .ok (.aload_n 0, 1) := dTX7_way_2_ok 19 (255, .aload_n 0, 1) rfl
theorem dX7_way_256 : decode cX7_way 256 = .ok (.getfield 33, 3) := dTX7_way_2_ok 20 (256, .getfield 33, 3) rfl
theorem dX7_way_259 : decode cX7_way 259 = .ok (.iload 15, 2) := dTX7_way_2_ok 21 (259, .iload 15, 2) rfl
theorem dX7_way_261 : decode cX7_way 261 = .ok (.aload_n 0, 1) := dTX7_way_2_ok 22 (261, .aload_n 0, 1) rfl
theorem dX7_way_262 : decode cX7_way 262 = .ok (.getfield 33, 3) := dTX7_way_2_ok 23 (262, .getfield 33, 3) rfl
theorem dX7_way_265 : decode cX7_way 265 = .ok (.aload_n 0, 1) := dTX7_way_2_ok 24 (265, .aload_n 0, 1) rfl
theorem dX7_way_266 : decode cX7_way 266 = .ok (.getfield 37, 3) := dTX7_way_2_ok 25 (266, .getfield 37, 3) rfl
theorem dX7_way_269 : decode cX7_way 269 = .ok (.iload 8, 2) := dTX7_way_2_ok 26 (269, .iload 8, 2) rfl
theorem dX7_way_271 : decode cX7_way 271 = .ok (.iaload, 1) := dTX7_way_2_ok 27 (271, .iaload, 1) rfl
theorem dX7_way_272 : decode cX7_way 272 = .ok (.iaload, 1) := dTX7_way_2_ok 28 (272, .iaload, 1) rfl
theorem dX7_way_273 : decode cX7_way 273 = .ok (.iconst 1, 1) := dTX7_way_2_ok 29 (273, .iconst 1, 1) rfl
theorem dX7_way_274 : decode cX7_way 274 = .ok (.iadd, 1) := dTX7_way_2_ok 30 (274, .iadd, 1) rfl
theorem dX7_way_275 : decode cX7_way 275 = .ok (.iastore, 1) := dTX7_way_2_ok 31 (275, .iastore, 1) rfl
theorem dX7_way_276 : decode cX7_way 276 = .ok (.iload 13, 2) := dTX7_way_2_ok 32 (276, .iload 13, 2) rfl
theorem dX7_way_278 : decode cX7_way 278 = .ok (.iload 5, 2) := dTX7_way_2_ok 33 (278, .iload 5, 2) rfl
theorem dX7_way_280 : decode cX7_way 280 = .ok (.if_icmp .ne 18, 3) := dTX7_way_2_ok 34 (280, .if_icmp .ne 18, 3) rfl
theorem dX7_way_283 : decode cX7_way 283 = .ok (.iload 14, 2) := dTX7_way_2_ok 35 (283, .iload 14, 2) rfl
theorem dX7_way_285 : decode cX7_way 285 = .ok (.iload 6, 2) := dTX7_way_2_ok 36 (285, .iload 6, 2) rfl
theorem dX7_way_287 : decode cX7_way 287 = .ok (.if_icmp .ne 11, 3) := dTX7_way_2_ok 37 (287, .if_icmp .ne 11, 3) rfl
theorem dX7_way_290 : decode cX7_way 290 = .ok (.aload_n 0, 1) := dTX7_way_2_ok 38 (290, .aload_n 0, 1) rfl
theorem dX7_way_291 : decode cX7_way 291 = .ok (.getfield 33, 3) := dTX7_way_2_ok 39 (291, .getfield 33, 3) rfl
theorem dX7_way_294 : decode cX7_way 294 = .ok (.iload 15, 2) := dTX7_way_2_ok 40 (294, .iload 15, 2) rfl
theorem dX7_way_296 : decode cX7_way 296 = .ok (.iaload, 1) := dTX7_way_2_ok 41 (296, .iaload, 1) rfl
theorem dX7_way_297 : decode cX7_way 297 = .ok (.ireturn, 1) := dTX7_way_2_ok 42 (297, .ireturn, 1) rfl
theorem dX7_way_298 : decode cX7_way 298 = .ok (.aload_n 0, 1) := dTX7_way_2_ok 43 (298, .aload_n 0, 1) rfl
theorem dX7_way_299 : decode cX7_way 299 = .ok (.getfield 37, 3) := dTX7_way_2_ok 44 (299, .getfield 37, 3) rfl
theorem dX7_way_302 : decode cX7_way 302 = .ok (.iload 7, 2) := dTX7_way_2_ok 45 (302, .iload 7, 2) rfl
theorem dX7_way_304 : decode cX7_way 304 = .ok (.iload 15, 2) := dTX7_way_2_ok 46 (304, .iload 15, 2) rfl
theorem dX7_way_306 : decode cX7_way 306 = .ok (.iastore, 1) := dTX7_way_2_ok 47 (306, .iastore, 1) rfl
theorem dX7_way_307 : decode cX7_way 307 = .ok (.iinc 7 1, 3) := dTX7_way_2_ok 48 (307, .iinc 7 1, 3) rfl
theorem dX7_way_310 : decode cX7_way 310 = .ok (.iinc 12 1, 3) := dTX7_way_2_ok 49 (310, .iinc 12 1, 3) rfl
theorem dX7_way_313 : decode cX7_way 313 = .ok (.goto (-182), 3) := dTX7_way_2_ok 50 (313, .goto (-182), 3) rfl
theorem dX7_way_316 : decode cX7_way 316 = .ok (.iinc 8 1, 3) := dTX7_way_2_ok 51 (316, .iinc 8 1, 3) rfl
theorem dX7_way_319 : decode cX7_way 319 = .ok (.goto (-237), 3) := dTX7_way_2_ok 52 (319, .goto (-237), 3) rfl
theorem dX7_way_322 : decode cX7_way 322 = .ok (.sipush 1000, 3) := dTX7_way_2_ok 53 (322, .sipush 1000, 3) rfl
theorem dX7_way_325 : decode cX7_way 325 = .ok (.ireturn, 1) := dTX7_way_2_ok 54 (325, .ireturn, 1) rfl
noncomputable def dTX7_next_0 : List (Nat × Instr × Nat) := [(0, .aload_n 0, 1), (1, .invokevirtual 64, 3), (4, .astore_n 2, 1), (5, .aload_n 0, 1), (6, .aload_n 2, 1), (7, .aload_n 1, 1), (8, .getfield 68, 3), (11, .aload_n 1, 1), (12, .getfield 71, 3), (15, .aload_n 1, 1), (16, .getfield 74, 3), (19, .aload_n 1, 1), (20, .getfield 78, 3), (23, .aload_n 1, 1), (24, .getfield 81, 3), (27, .invokevirtual 84, 3), (30, .istore_n 3, 1), (31, .iload_n 3, 1), (32, .ifCond .eq 10, 3), (35, .iload_n 3, 1), (36, .sipush 1000, 3), (39, .if_icmp .ne 5, 3), (42, .iconst (-1), 1), (43, .ireturn, 1), (44, .iconst (-1), 1), (45, .istore 4, 2), (47, .iconst 3, 1), (48, .istore 5, 2), (50, .iload 5, 2), (52, .ifCond .lt 164, 3), (55, .aload_n 1, 1), (56, .getfield 68, 3), (59, .iload 5, 2), (61, .invokestatic 49, 3), (64, .iadd, 1), (65, .istore 6, 2), (67, .aload_n 1, 1), (68, .getfield 71, 3), (71, .iload 5, 2), (73, .invokestatic 53, 3), (76, .iadd, 1), (77, .istore 7, 2), (79, .iload 6, 2), (81, .iload 7, 2), (83, .invokestatic 56, 3), (86, .ifCond .eq 124, 3), (89, .aload_n 2, 1), (90, .iload 6, 2), (92, .aaload, 1), (93, .iload 7, 2), (95, .baload, 1), (96, .ifCond .eq 6, 3), (99, .goto 111, 3), (102, .aload_n 0, 1), (103, .getfield 9, 3), (106, .aload_n 1, 1), (107, .getfield 68, 3), (110, .aaload, 1), (111, .aload_n 1, 1), (112, .getfield 71, 3)]
theorem dTX7_next_0_ok : ∀ (k : Nat) (q : Nat × Instr × Nat), dTX7_next_0[k]? = some q → decode cX7_next q.1 = .ok q.2 := dT_of (by decide +kernel)
theorem dX7_next_0 : decode cX7_next 0 = .ok (.aload_n 0, 1) := dTX7_next_0_ok 0 (0, .aload_n 0, 1) rfl
theorem dX7_next_1 : decode cX7_next 1 = .ok (.invokevirtual 64, 3) := dTX7_next_0_ok 1 (1, .invokevirtual 64, 3) rfl
theorem dX7_next_4 : decode cX7_next 4 = .ok (.astore_n 2, 1) := dTX7_next_0_ok 2 (4, .astore_n 2, 1) rfl
theorem dX7_next_5 : decode cX7_next 5 = .ok (.aload_n 0, 1) := dTX7_next_0_ok 3 (5, .aload_n 0, 1) rfl
theorem dX7_next_6 : decode cX7_next 6 = .ok (.aload_n 2, 1) := dTX7_next_0_ok 4 (6, .aload_n 2, 1) rfl
theorem dX7_next_7 : decode cX7_next 7 = .ok (.aload_n 1, 1) := dTX7_next_0_ok 5 (7, .aload_n 1, 1) rfl
theorem dX7_next_8 : decode cX7_next 8 = .ok (.getfield 68, 3) := dTX7_next_0_ok 6 (8, .getfield 68, 3) rfl
theorem dX7_next_11 : decode cX7_next 11 = .ok (.aload_n 1, 1) := dTX7_next_0_ok 7 (11, .aload_n 1, 1) rfl
theorem dX7_next_12 : decode cX7_next 12 = .ok (.getfield 71, 3) := dTX7_next_0_ok 8 (12, .getfield 71, 3) rfl
theorem dX7_next_15 : decode cX7_next 15 = .ok (.aload_n 1, 1) := dTX7_next_0_ok 9 (15, .aload_n 1, 1) rfl
theorem dX7_next_16 : decode cX7_next 16 = .ok (.getfield 74, 3) := dTX7_next_0_ok 10 (16, .getfield 74, 3) rfl
theorem dX7_next_19 : decode cX7_next 19 = .ok (.aload_n 1, 1) := dTX7_next_0_ok 11 (19, .aload_n 1, 1) rfl
theorem dX7_next_20 : decode cX7_next 20 = .ok (.getfield 78, 3) := dTX7_next_0_ok 12 (20, .getfield 78, 3) rfl
theorem dX7_next_23 : decode cX7_next 23 = .ok (.aload_n 1, 1) := dTX7_next_0_ok 13 (23, .aload_n 1, 1) rfl
theorem dX7_next_24 : decode cX7_next 24 = .ok (.getfield 81, 3) := dTX7_next_0_ok 14 (24, .getfield 81, 3) rfl
theorem dX7_next_27 : decode cX7_next 27 = .ok (.invokevirtual 84, 3) := dTX7_next_0_ok 15 (27, .invokevirtual 84, 3) rfl
theorem dX7_next_30 : decode cX7_next 30 = .ok (.istore_n 3, 1) := dTX7_next_0_ok 16 (30, .istore_n 3, 1) rfl
theorem dX7_next_31 : decode cX7_next 31 = .ok (.iload_n 3, 1) := dTX7_next_0_ok 17 (31, .iload_n 3, 1) rfl
theorem dX7_next_32 : decode cX7_next 32 = .ok (.ifCond .eq 10, 3) := dTX7_next_0_ok 18 (32, .ifCond .eq 10, 3) rfl
theorem dX7_next_35 : decode cX7_next 35 = .ok (.iload_n 3, 1) := dTX7_next_0_ok 19 (35, .iload_n 3, 1) rfl
theorem dX7_next_36 : decode cX7_next 36 = .ok (.sipush 1000, 3) := dTX7_next_0_ok 20 (36, .sipush 1000, 3) rfl
theorem dX7_next_39 : decode cX7_next 39 = .ok (.if_icmp .ne 5, 3) := dTX7_next_0_ok 21 (39, .if_icmp .ne 5, 3) rfl
theorem dX7_next_42 : decode cX7_next 42 = .ok (.iconst (-1), 1) := dTX7_next_0_ok 22 (42, .iconst (-1), 1) rfl
theorem dX7_next_43 : decode cX7_next 43 = .ok (.ireturn, 1) := dTX7_next_0_ok 23 (43, .ireturn, 1) rfl
theorem dX7_next_44 : decode cX7_next 44 = .ok (.iconst (-1), 1) := dTX7_next_0_ok 24 (44, .iconst (-1), 1) rfl
theorem dX7_next_45 : decode cX7_next 45 = .ok (.istore 4, 2) := dTX7_next_0_ok 25 (45, .istore 4, 2) rfl
theorem dX7_next_47 : decode cX7_next 47 = .ok (.iconst 3, 1) := dTX7_next_0_ok 26 (47, .iconst 3, 1) rfl
theorem dX7_next_48 : decode cX7_next 48 = .ok (.istore 5, 2) := dTX7_next_0_ok 27 (48, .istore 5, 2) rfl
theorem dX7_next_50 : decode cX7_next 50 = .ok (.iload 5, 2) := dTX7_next_0_ok 28 (50, .iload 5, 2) rfl
theorem dX7_next_52 : decode cX7_next 52 = .ok (.ifCond .lt 164, 3) := dTX7_next_0_ok 29 (52, .ifCond .lt 164, 3) rfl
theorem dX7_next_55 : decode cX7_next 55 = .ok (.aload_n 1, 1) := dTX7_next_0_ok 30 (55, .aload_n 1, 1) rfl
theorem dX7_next_56 : decode cX7_next 56 = .ok (.getfield 68, 3) := dTX7_next_0_ok 31 (56, .getfield 68, 3) rfl
theorem dX7_next_59 : decode cX7_next 59 = .ok (.iload 5, 2) := dTX7_next_0_ok 32 (59, .iload 5, 2) rfl
theorem dX7_next_61 : decode cX7_next 61 = .ok (.invokestatic 49, 3) := dTX7_next_0_ok 33 (61, .invokestatic 49, 3) rfl
theorem dX7_next_64 : decode cX7_next 64 = .ok (.iadd, 1) := dTX7_next_0_ok 34 (64, .iadd, 1) rfl
theorem dX7_next_65 : decode cX7_next 65 = .ok (.istore 6, 2) := dTX7_next_0_ok 35 (65, .istore 6, 2) rfl
theorem dX7_next_67 : decode cX7_next 67 = .ok (.aload_n 1, 1) := dTX7_next_0_ok 36 (67, .aload_n 1, 1) rfl
theorem dX7_next_68 : decode cX7_next 68 = .ok (.getfield 71, 3) := dTX7_next_0_ok 37 (68, .getfield 71, 3) rfl
theorem dX7_next_71 : decode cX7_next 71 = .ok (.iload 5, 2) := dTX7_next_0_ok 38 (71, .iload 5, 2) rfl
theorem dX7_next_73 : decode cX7_next 73 = .ok (.invokestatic 53, 3) := dTX7_next_0_ok 39 (73, .invokestatic 53, 3) rfl
theorem dX7_next_76 : decode cX7_next 76 = .ok (.iadd, 1) := dTX7_next_0_ok 40 (76, .iadd, 1) rfl
theorem dX7_next_77 : decode cX7_next 77 = .ok (.istore 7, 2) := dTX7_next_0_ok 41 (77, .istore 7, 2) rfl
theorem dX7_next_79 : decode cX7_next 79 = .ok (.iload 6, 2) := dTX7_next_0_ok 42 (79, .iload 6, 2) rfl
theorem dX7_next_81 : decode cX7_next 81 = .ok (.iload 7, 2) := dTX7_next_0_ok 43 (81, .iload 7, 2) rfl
theorem dX7_next_83 : decode cX7_next 83 = .ok (.invokestatic 56, 3) := dTX7_next_0_ok 44 (83, .invokestatic 56, 3) rfl
theorem dX7_next_86 : decode cX7_next 86 = .ok (.ifCond .eq 124, 3) := dTX7_next_0_ok 45 (86, .ifCond .eq 124, 3) rfl
theorem dX7_next_89 : decode cX7_next 89 = .ok (.aload_n 2, 1) := dTX7_next_0_ok 46 (89, .aload_n 2, 1) rfl
theorem dX7_next_90 : decode cX7_next 90 = .ok (.iload 6, 2) := dTX7_next_0_ok 47 (90, .iload 6, 2) rfl
theorem dX7_next_92 : decode cX7_next 92 = .ok (.aaload, 1) := dTX7_next_0_ok 48 (92, .aaload, 1) rfl
theorem dX7_next_93 : decode cX7_next 93 = .ok (.iload 7, 2) := dTX7_next_0_ok 49 (93, .iload 7, 2) rfl
theorem dX7_next_95 : decode cX7_next 95 = .ok (.baload, 1) := dTX7_next_0_ok 50 (95, .baload, 1) rfl
theorem dX7_next_96 : decode cX7_next 96 = .ok (.ifCond .eq 6, 3) := dTX7_next_0_ok 51 (96, .ifCond .eq 6, 3) rfl
theorem dX7_next_99 : decode cX7_next 99 = .ok (.goto 111, 3) := dTX7_next_0_ok 52 (99, .goto 111, 3) rfl
theorem dX7_next_102 : decode cX7_next 102 = .ok (.aload_n 0, 1) := dTX7_next_0_ok 53 (102, .aload_n 0, 1) rfl
theorem dX7_next_103 : decode cX7_next 103 = .ok (.getfield 9, 3) := dTX7_next_0_ok 54 (103, .getfield 9, 3) rfl
theorem dX7_next_106 : decode cX7_next 106 = .ok (.aload_n 1, 1) := dTX7_next_0_ok 55 (106, .aload_n 1, 1) rfl
theorem dX7_next_107 : decode cX7_next 107 = .ok (.getfield 68, 3) := dTX7_next_0_ok 56 (107, .getfield 68, 3) rfl
theorem dX7_next_110 : decode cX7_next 110 = .ok (.aaload, 1) := dTX7_next_0_ok 57 (110, .aaload, 1) rfl
theorem dX7_next_111 : decode cX7_next 111 = .ok (.aload_n 1, 1) := dTX7_next_0_ok 58 (111, .aload_n 1, 1) rfl
theorem dX7_next_112 : decode cX7_next 112 = .ok (.getfield 71, 3) := dTX7_next_0_ok 59 (112, .getfield 71, 3) rfl
noncomputable def dTX7_next_1 : List (Nat × Instr × Nat) := [(115, .aaload, 1), (116, .iload 5, 2), (118, .baload, 1), (119, .istore 8, 2), (121, .iload 8, 2), (123, .ifCond .eq 10, 3), (126, .aload_n 1, 1), (127, .getfield 74, 3), (130, .ifCond .eq 80, 3), (133, .iconst 1, 1), (134, .aload_n 0, 1), (135, .aload_n 2, 1), (136, .iload 6, 2), (138, .iload 7, 2), (140, .aload_n 1, 1), (141, .getfield 74, 3), (144, .ifCond .eq 12, 3), (147, .iload 8, 2), (149, .ifCond .ne 7, 3), (152, .iconst 1, 1), (153, .goto 4, 3), (156, .iconst 0, 1), (157, .aload_n 1, 1), (158, .getfield 78, 3), (161, .aload_n 1, 1), (162, .getfield 81, 3), (165, .invokevirtual 84, 3), (168, .iadd, 1), (169, .iload_n 3, 1), (170, .if_icmp .eq 6, 3), (173, .goto 37, 3), (176, .iload 4, 2), (178, .ifCond .lt 28, 3), (181, .iload 8, 2), (183, .ifCond .eq 23, 3), (186, .aload_n 0, 1), (187, .getfield 9, 3), (190, .aload_n 1, 1), (191, .getfield 68, 3), (194, .aaload, 1), (195, .aload_n 1, 1), (196, .getfield 71, 3), (199, .aaload, 1), (200, .iload 4, 2), (202, .baload, 1), (203, .ifCond .eq 7, 3), (206, .iload 5, 2), (208, .istore 4, 2), (210, .iinc 5 (-1), 3), (213, .goto (-163), 3), (216, .iload 4, 2), (218, .ireturn, 1)]
theorem dTX7_next_1_ok : ∀ (k : Nat) (q : Nat × Instr × Nat), dTX7_next_1[k]? = some q → decode cX7_next q.1 = .ok q.2 := dT_of (by decide +kernel)
theorem dX7_next_115 : decode cX7_next 115 = .ok (.aaload, 1) := dTX7_next_1_ok 0 (115, .aaload, 1) rfl
theorem dX7_next_116 : decode cX7_next 116 = .ok (.iload 5, 2) := dTX7_next_1_ok 1 (116, .iload 5, 2) rfl
theorem dX7_next_118 : decode cX7_next 118 = .ok (.baload, 1) := dTX7_next_1_ok 2 (118, .baload, 1) rfl
theorem dX7_next_119 : decode cX7_next 119 = .ok (.istore 8, 2) := dTX7_next_1_ok 3 (119, .istore 8, 2) rfl
theorem dX7_next_121 : decode cX7_next 121 = .ok (.iload 8, 2) := dTX7_next_1_ok 4 (121, .iload 8, 2) rfl
theorem dX7_next_123 : decode cX7_next 123 = .ok (.ifCond .eq 10, 3) := dTX7_next_1_ok 5 (123, .ifCond .eq 10, 3) rfl
theorem dX7_next_126 : decode cX7_next 126 = .ok (.aload_n 1, 1) := dTX7_next_1_ok 6 (126, .aload_n 1, 1) rfl
theorem dX7_next_127 : decode cX7_next 127 = .ok (.getfield 74, 3) := dTX7_next_1_ok 7 (127, .getfield 74, 3) rfl
theorem dX7_next_130 : decode cX7_next 130 = .ok (.ifCond .eq 80, 3) := dTX7_next_1_ok 8 (130, .ifCond .eq 80, 3) rfl
theorem dX7_next_133 : decode cX7_next 133 = .ok (.iconst 1, 1) := dTX7_next_1_ok 9 (133, .iconst 1, 1) rfl
theorem dX7_next_134 : decode cX7_next 134 = .ok (.aload_n 0, 1) := dTX7_next_1_ok 10 (134, .aload_n 0, 1) rfl
theorem dX7_next_135 : decode cX7_next 135 = .ok (.aload_n 2, 1) := dTX7_next_1_ok 11 (135, .aload_n 2, 1) rfl
theorem dX7_next_136 : decode cX7_next 136 = .ok (.iload 6, 2) := dTX7_next_1_ok 12 (136, .iload 6, 2) rfl
theorem dX7_next_138 : decode cX7_next 138 = .ok (.iload 7, 2) := dTX7_next_1_ok 13 (138, .iload 7, 2) rfl
theorem dX7_next_140 : decode cX7_next 140 = .ok (.aload_n 1, 1) := dTX7_next_1_ok 14 (140, .aload_n 1, 1) rfl
theorem dX7_next_141 : decode cX7_next 141 = .ok (.getfield 74, 3) := dTX7_next_1_ok 15 (141, .getfield 74, 3) rfl
theorem dX7_next_144 : decode cX7_next 144 = .ok (.ifCond .eq 12, 3) := dTX7_next_1_ok 16 (144, .ifCond .eq 12, 3) rfl
theorem dX7_next_147 : decode cX7_next 147 = .ok (.iload 8, 2) := dTX7_next_1_ok 17 (147, .iload 8, 2) rfl
theorem dX7_next_149 : decode cX7_next 149 = .ok (.ifCond .ne 7, 3) := dTX7_next_1_ok 18 (149, .ifCond .ne 7, 3) rfl
theorem dX7_next_152 : decode cX7_next 152 = .ok (.iconst 1, 1) := dTX7_next_1_ok 19 (152, .iconst 1, 1) rfl
theorem dX7_next_153 : decode cX7_next 153 = .ok (.goto 4, 3) := dTX7_next_1_ok 20 (153, .goto 4, 3) rfl
theorem dX7_next_156 : decode cX7_next 156 = .ok (.iconst 0, 1) := dTX7_next_1_ok 21 (156, .iconst 0, 1) rfl
theorem dX7_next_157 : decode cX7_next 157 = .ok (.aload_n 1, 1) := dTX7_next_1_ok 22 (157, .aload_n 1, 1) rfl
theorem dX7_next_158 : decode cX7_next 158 = .ok (.getfield 78, 3) := dTX7_next_1_ok 23 (158, .getfield 78, 3) rfl
theorem dX7_next_161 : decode cX7_next 161 = .ok (.aload_n 1, 1) := dTX7_next_1_ok 24 (161, .aload_n 1, 1) rfl
theorem dX7_next_162 : decode cX7_next 162 = .ok (.getfield 81, 3) := dTX7_next_1_ok 25 (162, .getfield 81, 3) rfl
theorem dX7_next_165 : decode cX7_next 165 = .ok (.invokevirtual 84, 3) := dTX7_next_1_ok 26 (165, .invokevirtual 84, 3) rfl
theorem dX7_next_168 : decode cX7_next 168 = .ok (.iadd, 1) := dTX7_next_1_ok 27 (168, .iadd, 1) rfl
theorem dX7_next_169 : decode cX7_next 169 = .ok (.iload_n 3, 1) := dTX7_next_1_ok 28 (169, .iload_n 3, 1) rfl
theorem dX7_next_170 : decode cX7_next 170 = .ok (.if_icmp .eq 6, 3) := dTX7_next_1_ok 29 (170, .if_icmp .eq 6, 3) rfl
theorem dX7_next_173 : decode cX7_next 173 = .ok (.goto 37, 3) := dTX7_next_1_ok 30 (173, .goto 37, 3) rfl
theorem dX7_next_176 : decode cX7_next 176 = .ok (.iload 4, 2) := dTX7_next_1_ok 31 (176, .iload 4, 2) rfl
theorem dX7_next_178 : decode cX7_next 178 = .ok (.ifCond .lt 28, 3) := dTX7_next_1_ok 32 (178, .ifCond .lt 28, 3) rfl
theorem dX7_next_181 : decode cX7_next 181 = .ok (.iload 8, 2) := dTX7_next_1_ok 33 (181, .iload 8, 2) rfl
theorem dX7_next_183 : decode cX7_next 183 = .ok (.ifCond .eq 23, 3) := dTX7_next_1_ok 34 (183, .ifCond .eq 23, 3) rfl
theorem dX7_next_186 : decode cX7_next 186 = .ok (.aload_n 0, 1) := dTX7_next_1_ok 35 (186, .aload_n 0, 1) rfl
theorem dX7_next_187 : decode cX7_next 187 = .ok (.getfield 9, 3) := dTX7_next_1_ok 36 (187, .getfield 9, 3) rfl
theorem dX7_next_190 : decode cX7_next 190 = .ok (.aload_n 1, 1) := dTX7_next_1_ok 37 (190, .aload_n 1, 1) rfl
theorem dX7_next_191 : decode cX7_next 191 = .ok (.getfield 68, 3) := dTX7_next_1_ok 38 (191, .getfield 68, 3) rfl
theorem dX7_next_194 : decode cX7_next 194 = .ok (.aaload, 1) := dTX7_next_1_ok 39 (194, .aaload, 1) rfl
theorem dX7_next_195 : decode cX7_next 195 = .ok (.aload_n 1, 1) := dTX7_next_1_ok 40 (195, .aload_n 1, 1) rfl
theorem dX7_next_196 : decode cX7_next 196 = .ok (.getfield 71, 3) := dTX7_next_1_ok 41 (196, .getfield 71, 3) rfl
theorem dX7_next_199 : decode cX7_next 199 = .ok (.aaload, 1) := dTX7_next_1_ok 42 (199, .aaload, 1) rfl
theorem dX7_next_200 : decode cX7_next 200 = .ok (.iload 4, 2) := dTX7_next_1_ok 43 (200, .iload 4, 2) rfl
theorem dX7_next_202 : decode cX7_next 202 = .ok (.baload, 1) := dTX7_next_1_ok 44 (202, .baload, 1) rfl
theorem dX7_next_203 : decode cX7_next 203 = .ok (.ifCond .eq 7, 3) := dTX7_next_1_ok 45 (203, .ifCond .eq 7, 3) rfl
theorem dX7_next_206 : decode cX7_next 206 = .ok (.iload 5, 2) := dTX7_next_1_ok 46 (206, .iload 5, 2) rfl
theorem dX7_next_208 : decode cX7_next 208 = .ok (.istore 4, 2) := dTX7_next_1_ok 47 (208, .istore 4, 2) rfl
theorem dX7_next_210 : decode cX7_next 210 = .ok (.iinc 5 (-1), 3) := dTX7_next_1_ok 48 (210, .iinc 5 (-1), 3) rfl
theorem dX7_next_213 : decode cX7_next 213 = .ok (.goto (-163), 3) := dTX7_next_1_ok 49 (213, .goto (-163), 3) rfl
theorem dX7_next_216 : decode cX7_next 216 = .ok (.iload 4, 2) := dTX7_next_1_ok 50 (216, .iload 4, 2) rfl
theorem dX7_next_218 : decode cX7_next 218 = .ok (.ireturn, 1) := dTX7_next_1_ok 51 (218, .ireturn, 1) rfl
noncomputable def dTX7_pass_0 : List (Nat × Instr × Nat) := [(0, .aload_n 0, 1), (1, .getfield 88, 3), (4, .istore_n 1, 1), (5, .iconst 0, 1), (6, .istore_n 2, 1), (7, .iload_n 2, 1), (8, .bipush 9, 2), (10, .if_icmp .ge 73, 3), (13, .iconst 0, 1), (14, .istore_n 3, 1), (15, .iload_n 3, 1), (16, .bipush 7, 2), (18, .if_icmp .ge 59, 3), (21, .aload_n 0, 1), (22, .getfield 24, 3), (25, .iload_n 2, 1), (26, .aaload, 1), (27, .iload_n 3, 1), (28, .baload, 1), (29, .ifCond .ne 6, 3), (32, .goto 39, 3), (35, .aload_n 0, 1), (36, .getfield 19, 3), (39, .iload_n 2, 1), (40, .aaload, 1), (41, .iload_n 3, 1), (42, .dup2, 1), (43, .iaload, 1), (44, .iconst 1, 1), (45, .isub, 1), (46, .iastore, 1), (47, .aload_n 0, 1), (48, .getfield 24, 3), (51, .iload_n 2, 1), (52, .aaload, 1), (53, .iload_n 3, 1), (54, .aload_n 0, 1), (55, .getfield 19, 3), (58, .iload_n 2, 1), (59, .aaload, 1), (60, .iload_n 3, 1), (61, .iaload, 1), (62, .ifCond .le 7, 3), (65, .iconst 1, 1), (66, .goto 4, 3), (69, .iconst 0, 1), (70, .bastore, 1), (71, .iinc 3 1, 3), (74, .goto (-59), 3), (77, .iinc 2 1, 3), (80, .goto (-73), 3), (83, .aload_n 0, 1), (84, .getfield 29, 3), (87, .astore_n 2, 1), (88, .aload_n 2, 1), (89, .arraylength, 1), (90, .istore_n 3, 1), (91, .iconst 0, 1), (92, .istore 4, 2), (94, .iload 4, 2)]
theorem dTX7_pass_0_ok : ∀ (k : Nat) (q : Nat × Instr × Nat), dTX7_pass_0[k]? = some q → decode cX7_pass q.1 = .ok q.2 := dT_of (by decide +kernel)
theorem dX7_pass_0 : decode cX7_pass 0 = .ok (.aload_n 0, 1) := dTX7_pass_0_ok 0 (0, .aload_n 0, 1) rfl
theorem dX7_pass_1 : decode cX7_pass 1 = .ok (.getfield 88, 3) := dTX7_pass_0_ok 1 (1, .getfield 88, 3) rfl
theorem dX7_pass_4 : decode cX7_pass 4 = .ok (.istore_n 1, 1) := dTX7_pass_0_ok 2 (4, .istore_n 1, 1) rfl
theorem dX7_pass_5 : decode cX7_pass 5 = .ok (.iconst 0, 1) := dTX7_pass_0_ok 3 (5, .iconst 0, 1) rfl
theorem dX7_pass_6 : decode cX7_pass 6 = .ok (.istore_n 2, 1) := dTX7_pass_0_ok 4 (6, .istore_n 2, 1) rfl
theorem dX7_pass_7 : decode cX7_pass 7 = .ok (.iload_n 2, 1) := dTX7_pass_0_ok 5 (7, .iload_n 2, 1) rfl
theorem dX7_pass_8 : decode cX7_pass 8 = .ok (.bipush 9, 2) := dTX7_pass_0_ok 6 (8, .bipush 9, 2) rfl
theorem dX7_pass_10 : decode cX7_pass 10 = .ok (.if_icmp .ge 73, 3) := dTX7_pass_0_ok 7 (10, .if_icmp .ge 73, 3) rfl
theorem dX7_pass_13 : decode cX7_pass 13 = .ok (.iconst 0, 1) := dTX7_pass_0_ok 8 (13, .iconst 0, 1) rfl
theorem dX7_pass_14 : decode cX7_pass 14 = .ok (.istore_n 3, 1) := dTX7_pass_0_ok 9 (14, .istore_n 3, 1) rfl
theorem dX7_pass_15 : decode cX7_pass 15 = .ok (.iload_n 3, 1) := dTX7_pass_0_ok 10 (15, .iload_n 3, 1) rfl
theorem dX7_pass_16 : decode cX7_pass 16 = .ok (.bipush 7, 2) := dTX7_pass_0_ok 11 (16, .bipush 7, 2) rfl
theorem dX7_pass_18 : decode cX7_pass 18 = .ok (.if_icmp .ge 59, 3) := dTX7_pass_0_ok 12 (18, .if_icmp .ge 59, 3) rfl
theorem dX7_pass_21 : decode cX7_pass 21 = .ok (.aload_n 0, 1) := dTX7_pass_0_ok 13 (21, .aload_n 0, 1) rfl
theorem dX7_pass_22 : decode cX7_pass 22 = .ok (.getfield 24, 3) := dTX7_pass_0_ok 14 (22, .getfield 24, 3) rfl
theorem dX7_pass_25 : decode cX7_pass 25 = .ok (.iload_n 2, 1) := dTX7_pass_0_ok 15 (25, .iload_n 2, 1) rfl
theorem dX7_pass_26 : decode cX7_pass 26 = .ok (.aaload, 1) := dTX7_pass_0_ok 16 (26, .aaload, 1) rfl
theorem dX7_pass_27 : decode cX7_pass 27 = .ok (.iload_n 3, 1) := dTX7_pass_0_ok 17 (27, .iload_n 3, 1) rfl
theorem dX7_pass_28 : decode cX7_pass 28 = .ok (.baload, 1) := dTX7_pass_0_ok 18 (28, .baload, 1) rfl
theorem dX7_pass_29 : decode cX7_pass 29 = .ok (.ifCond .ne 6, 3) := dTX7_pass_0_ok 19 (29, .ifCond .ne 6, 3) rfl
theorem dX7_pass_32 : decode cX7_pass 32 = .ok (.goto 39, 3) := dTX7_pass_0_ok 20 (32, .goto 39, 3) rfl
theorem dX7_pass_35 : decode cX7_pass 35 = .ok (.aload_n 0, 1) := dTX7_pass_0_ok 21 (35, .aload_n 0, 1) rfl
theorem dX7_pass_36 : decode cX7_pass 36 = .ok (.getfield 19, 3) := dTX7_pass_0_ok 22 (36, .getfield 19, 3) rfl
theorem dX7_pass_39 : decode cX7_pass 39 = .ok (.iload_n 2, 1) := dTX7_pass_0_ok 23 (39, .iload_n 2, 1) rfl
theorem dX7_pass_40 : decode cX7_pass 40 = .ok (.aaload, 1) := dTX7_pass_0_ok 24 (40, .aaload, 1) rfl
theorem dX7_pass_41 : decode cX7_pass 41 = .ok (.iload_n 3, 1) := dTX7_pass_0_ok 25 (41, .iload_n 3, 1) rfl
theorem dX7_pass_42 : decode cX7_pass 42 = .ok (.dup2, 1) := dTX7_pass_0_ok 26 (42, .dup2, 1) rfl
theorem dX7_pass_43 : decode cX7_pass 43 = .ok (.iaload, 1) := dTX7_pass_0_ok 27 (43, .iaload, 1) rfl
theorem dX7_pass_44 : decode cX7_pass 44 = .ok (.iconst 1, 1) := dTX7_pass_0_ok 28 (44, .iconst 1, 1) rfl
theorem dX7_pass_45 : decode cX7_pass 45 = .ok (.isub, 1) := dTX7_pass_0_ok 29 (45, .isub, 1) rfl
theorem dX7_pass_46 : decode cX7_pass 46 = .ok (.iastore, 1) := dTX7_pass_0_ok 30 (46, .iastore, 1) rfl
theorem dX7_pass_47 : decode cX7_pass 47 = .ok (.aload_n 0, 1) := dTX7_pass_0_ok 31 (47, .aload_n 0, 1) rfl
theorem dX7_pass_48 : decode cX7_pass 48 = .ok (.getfield 24, 3) := dTX7_pass_0_ok 32 (48, .getfield 24, 3) rfl
theorem dX7_pass_51 : decode cX7_pass 51 = .ok (.iload_n 2, 1) := dTX7_pass_0_ok 33 (51, .iload_n 2, 1) rfl
theorem dX7_pass_52 : decode cX7_pass 52 = .ok (.aaload, 1) := dTX7_pass_0_ok 34 (52, .aaload, 1) rfl
theorem dX7_pass_53 : decode cX7_pass 53 = .ok (.iload_n 3, 1) := dTX7_pass_0_ok 35 (53, .iload_n 3, 1) rfl
theorem dX7_pass_54 : decode cX7_pass 54 = .ok (.aload_n 0, 1) := dTX7_pass_0_ok 36 (54, .aload_n 0, 1) rfl
theorem dX7_pass_55 : decode cX7_pass 55 = .ok (.getfield 19, 3) := dTX7_pass_0_ok 37 (55, .getfield 19, 3) rfl
theorem dX7_pass_58 : decode cX7_pass 58 = .ok (.iload_n 2, 1) := dTX7_pass_0_ok 38 (58, .iload_n 2, 1) rfl
theorem dX7_pass_59 : decode cX7_pass 59 = .ok (.aaload, 1) := dTX7_pass_0_ok 39 (59, .aaload, 1) rfl
theorem dX7_pass_60 : decode cX7_pass 60 = .ok (.iload_n 3, 1) := dTX7_pass_0_ok 40 (60, .iload_n 3, 1) rfl
theorem dX7_pass_61 : decode cX7_pass 61 = .ok (.iaload, 1) := dTX7_pass_0_ok 41 (61, .iaload, 1) rfl
theorem dX7_pass_62 : decode cX7_pass 62 = .ok (.ifCond .le 7, 3) := dTX7_pass_0_ok 42 (62, .ifCond .le 7, 3) rfl
theorem dX7_pass_65 : decode cX7_pass 65 = .ok (.iconst 1, 1) := dTX7_pass_0_ok 43 (65, .iconst 1, 1) rfl
theorem dX7_pass_66 : decode cX7_pass 66 = .ok (.goto 4, 3) := dTX7_pass_0_ok 44 (66, .goto 4, 3) rfl
theorem dX7_pass_69 : decode cX7_pass 69 = .ok (.iconst 0, 1) := dTX7_pass_0_ok 45 (69, .iconst 0, 1) rfl
theorem dX7_pass_70 : decode cX7_pass 70 = .ok (.bastore, 1) := dTX7_pass_0_ok 46 (70, .bastore, 1) rfl
theorem dX7_pass_71 : decode cX7_pass 71 = .ok (.iinc 3 1, 3) := dTX7_pass_0_ok 47 (71, .iinc 3 1, 3) rfl
theorem dX7_pass_74 : decode cX7_pass 74 = .ok (.goto (-59), 3) := dTX7_pass_0_ok 48 (74, .goto (-59), 3) rfl
theorem dX7_pass_77 : decode cX7_pass 77 = .ok (.iinc 2 1, 3) := dTX7_pass_0_ok 49 (77, .iinc 2 1, 3) rfl
theorem dX7_pass_80 : decode cX7_pass 80 = .ok (.goto (-73), 3) := dTX7_pass_0_ok 50 (80, .goto (-73), 3) rfl
theorem dX7_pass_83 : decode cX7_pass 83 = .ok (.aload_n 0, 1) := dTX7_pass_0_ok 51 (83, .aload_n 0, 1) rfl
theorem dX7_pass_84 : decode cX7_pass 84 = .ok (.getfield 29, 3) := dTX7_pass_0_ok 52 (84, .getfield 29, 3) rfl
theorem dX7_pass_87 : decode cX7_pass 87 = .ok (.astore_n 2, 1) := dTX7_pass_0_ok 53 (87, .astore_n 2, 1) rfl
theorem dX7_pass_88 : decode cX7_pass 88 = .ok (.aload_n 2, 1) := dTX7_pass_0_ok 54 (88, .aload_n 2, 1) rfl
theorem dX7_pass_89 : decode cX7_pass 89 = .ok (.arraylength, 1) := dTX7_pass_0_ok 55 (89, .arraylength, 1) rfl
theorem dX7_pass_90 : decode cX7_pass 90 = .ok (.istore_n 3, 1) := dTX7_pass_0_ok 56 (90, .istore_n 3, 1) rfl
theorem dX7_pass_91 : decode cX7_pass 91 = .ok (.iconst 0, 1) := dTX7_pass_0_ok 57 (91, .iconst 0, 1) rfl
theorem dX7_pass_92 : decode cX7_pass 92 = .ok (.istore 4, 2) := dTX7_pass_0_ok 58 (92, .istore 4, 2) rfl
theorem dX7_pass_94 : decode cX7_pass 94 = .ok (.iload 4, 2) := dTX7_pass_0_ok 59 (94, .iload 4, 2) rfl
noncomputable def dTX7_pass_1 : List (Nat × Instr × Nat) := [(96, .iload_n 3, 1), (97, .if_icmp .ge 187, 3), (100, .aload_n 2, 1), (101, .iload 4, 2), (103, .aaload, 1), (104, .astore 5, 2), (106, .iconst 0, 1), (107, .istore 6, 2), (109, .iload 6, 2), (111, .aload 5, 2), (113, .getfield 91, 3), (116, .if_icmp .ge 162, 3), (119, .aload_n 0, 1), (120, .aload 5, 2), (122, .invokevirtual 94, 3), (125, .istore 7, 2), (127, .iload 7, 2), (129, .ifCond .ge 6, 3), (132, .goto 146, 3), (135, .aload_n 0, 1), (136, .getfield 9, 3), (139, .aload 5, 2), (141, .getfield 68, 3), (144, .aaload, 1), (145, .aload 5, 2), (147, .getfield 71, 3), (150, .aaload, 1), (151, .iload 7, 2), (153, .baload, 1), (154, .istore 8, 2), (156, .aload 5, 2), (158, .dup, 1), (159, .getfield 68, 3), (162, .iload 7, 2), (164, .invokestatic 49, 3), (167, .iadd, 1), (168, .putfield 68, 3), (171, .aload 5, 2), (173, .dup, 1), (174, .getfield 71, 3), (177, .iload 7, 2), (179, .invokestatic 53, 3), (182, .iadd, 1), (183, .putfield 71, 3), (186, .iload 8, 2), (188, .ifCond .ne 6, 3), (191, .goto 81, 3), (194, .aload 5, 2), (196, .iconst 0, 1), (197, .putfield 74, 3), (200, .iconst 0, 1), (201, .istore 9, 2), (203, .iload 9, 2), (205, .iconst 4, 1), (206, .if_icmp .ge 66, 3), (209, .aload 5, 2), (211, .getfield 68, 3), (214, .iload 9, 2), (216, .invokestatic 49, 3), (219, .iadd, 1)]
theorem dTX7_pass_1_ok : ∀ (k : Nat) (q : Nat × Instr × Nat), dTX7_pass_1[k]? = some q → decode cX7_pass q.1 = .ok q.2 := dT_of (by decide +kernel)
theorem dX7_pass_96 : decode cX7_pass 96 = .ok (.iload_n 3, 1) := dTX7_pass_1_ok 0 (96, .iload_n 3, 1) rfl
theorem dX7_pass_97 : decode cX7_pass 97 = .ok (.if_icmp .ge 187, 3) := dTX7_pass_1_ok 1 (97, .if_icmp .ge 187, 3) rfl
theorem dX7_pass_100 : decode cX7_pass 100 = .ok (.aload_n 2, 1) := dTX7_pass_1_ok 2 (100, .aload_n 2, 1) rfl
theorem dX7_pass_101 : decode cX7_pass 101 = .ok (.iload 4, 2) := dTX7_pass_1_ok 3 (101, .iload 4, 2) rfl
theorem dX7_pass_103 : decode cX7_pass 103 = .ok (.aaload, 1) := dTX7_pass_1_ok 4 (103, .aaload, 1) rfl
theorem dX7_pass_104 : decode cX7_pass 104 = .ok (.astore 5, 2) := dTX7_pass_1_ok 5 (104, .astore 5, 2) rfl
theorem dX7_pass_106 : decode cX7_pass 106 = .ok (.iconst 0, 1) := dTX7_pass_1_ok 6 (106, .iconst 0, 1) rfl
theorem dX7_pass_107 : decode cX7_pass 107 = .ok (.istore 6, 2) := dTX7_pass_1_ok 7 (107, .istore 6, 2) rfl
theorem dX7_pass_109 : decode cX7_pass 109 = .ok (.iload 6, 2) := dTX7_pass_1_ok 8 (109, .iload 6, 2) rfl
theorem dX7_pass_111 : decode cX7_pass 111 = .ok (.aload 5, 2) := dTX7_pass_1_ok 9 (111, .aload 5, 2) rfl
theorem dX7_pass_113 : decode cX7_pass 113 = .ok (.getfield 91, 3) := dTX7_pass_1_ok 10 (113, .getfield 91, 3) rfl
theorem dX7_pass_116 : decode cX7_pass 116 = .ok (.if_icmp .ge 162, 3) := dTX7_pass_1_ok 11 (116, .if_icmp .ge 162, 3) rfl
theorem dX7_pass_119 : decode cX7_pass 119 = .ok (.aload_n 0, 1) := dTX7_pass_1_ok 12 (119, .aload_n 0, 1) rfl
theorem dX7_pass_120 : decode cX7_pass 120 = .ok (.aload 5, 2) := dTX7_pass_1_ok 13 (120, .aload 5, 2) rfl
theorem dX7_pass_122 : decode cX7_pass 122 = .ok (.invokevirtual 94, 3) := dTX7_pass_1_ok 14 (122, .invokevirtual 94, 3) rfl
theorem dX7_pass_125 : decode cX7_pass 125 = .ok (.istore 7, 2) := dTX7_pass_1_ok 15 (125, .istore 7, 2) rfl
theorem dX7_pass_127 : decode cX7_pass 127 = .ok (.iload 7, 2) := dTX7_pass_1_ok 16 (127, .iload 7, 2) rfl
theorem dX7_pass_129 : decode cX7_pass 129 = .ok (.ifCond .ge 6, 3) := dTX7_pass_1_ok 17 (129, .ifCond .ge 6, 3) rfl
theorem dX7_pass_132 : decode cX7_pass 132 = .ok (.goto 146, 3) := dTX7_pass_1_ok 18 (132, .goto 146, 3) rfl
theorem dX7_pass_135 : decode cX7_pass 135 = .ok (.aload_n 0, 1) := dTX7_pass_1_ok 19 (135, .aload_n 0, 1) rfl
theorem dX7_pass_136 : decode cX7_pass 136 = .ok (.getfield 9, 3) := dTX7_pass_1_ok 20 (136, .getfield 9, 3) rfl
theorem dX7_pass_139 : decode cX7_pass 139 = .ok (.aload 5, 2) := dTX7_pass_1_ok 21 (139, .aload 5, 2) rfl
theorem dX7_pass_141 : decode cX7_pass 141 = .ok (.getfield 68, 3) := dTX7_pass_1_ok 22 (141, .getfield 68, 3) rfl
theorem dX7_pass_144 : decode cX7_pass 144 = .ok (.aaload, 1) := dTX7_pass_1_ok 23 (144, .aaload, 1) rfl
theorem dX7_pass_145 : decode cX7_pass 145 = .ok (.aload 5, 2) := dTX7_pass_1_ok 24 (145, .aload 5, 2) rfl
theorem dX7_pass_147 : decode cX7_pass 147 = .ok (.getfield 71, 3) := dTX7_pass_1_ok 25 (147, .getfield 71, 3) rfl
theorem dX7_pass_150 : decode cX7_pass 150 = .ok (.aaload, 1) := dTX7_pass_1_ok 26 (150, .aaload, 1) rfl
theorem dX7_pass_151 : decode cX7_pass 151 = .ok (.iload 7, 2) := dTX7_pass_1_ok 27 (151, .iload 7, 2) rfl
theorem dX7_pass_153 : decode cX7_pass 153 = .ok (.baload, 1) := dTX7_pass_1_ok 28 (153, .baload, 1) rfl
theorem dX7_pass_154 : decode cX7_pass 154 = .ok (.istore 8, 2) := dTX7_pass_1_ok 29 (154, .istore 8, 2) rfl
theorem dX7_pass_156 : decode cX7_pass 156 = .ok (.aload 5, 2) := dTX7_pass_1_ok 30 (156, .aload 5, 2) rfl
theorem dX7_pass_158 : decode cX7_pass 158 = .ok (.dup, 1) := dTX7_pass_1_ok 31 (158, .dup, 1) rfl
theorem dX7_pass_159 : decode cX7_pass 159 = .ok (.getfield 68, 3) := dTX7_pass_1_ok 32 (159, .getfield 68, 3) rfl
theorem dX7_pass_162 : decode cX7_pass 162 = .ok (.iload 7, 2) := dTX7_pass_1_ok 33 (162, .iload 7, 2) rfl
theorem dX7_pass_164 : decode cX7_pass 164 = .ok (.invokestatic 49, 3) := dTX7_pass_1_ok 34 (164, .invokestatic 49, 3) rfl
theorem dX7_pass_167 : decode cX7_pass 167 = .ok (.iadd, 1) := dTX7_pass_1_ok 35 (167, .iadd, 1) rfl
theorem dX7_pass_168 : decode cX7_pass 168 = .ok (.putfield 68, 3) := dTX7_pass_1_ok 36 (168, .putfield 68, 3) rfl
theorem dX7_pass_171 : decode cX7_pass 171 = .ok (.aload 5, 2) := dTX7_pass_1_ok 37 (171, .aload 5, 2) rfl
theorem dX7_pass_173 : decode cX7_pass 173 = .ok (.dup, 1) := dTX7_pass_1_ok 38 (173, .dup, 1) rfl
theorem dX7_pass_174 : decode cX7_pass 174 = .ok (.getfield 71, 3) := dTX7_pass_1_ok 39 (174, .getfield 71, 3) rfl
theorem dX7_pass_177 : decode cX7_pass 177 = .ok (.iload 7, 2) := dTX7_pass_1_ok 40 (177, .iload 7, 2) rfl
theorem dX7_pass_179 : decode cX7_pass 179 = .ok (.invokestatic 53, 3) := dTX7_pass_1_ok 41 (179, .invokestatic 53, 3) rfl
theorem dX7_pass_182 : decode cX7_pass 182 = .ok (.iadd, 1) := dTX7_pass_1_ok 42 (182, .iadd, 1) rfl
theorem dX7_pass_183 : decode cX7_pass 183 = .ok (.putfield 71, 3) := dTX7_pass_1_ok 43 (183, .putfield 71, 3) rfl
theorem dX7_pass_186 : decode cX7_pass 186 = .ok (.iload 8, 2) := dTX7_pass_1_ok 44 (186, .iload 8, 2) rfl
theorem dX7_pass_188 : decode cX7_pass 188 = .ok (.ifCond .ne 6, 3) := dTX7_pass_1_ok 45 (188, .ifCond .ne 6, 3) rfl
theorem dX7_pass_191 : decode cX7_pass 191 = .ok (.goto 81, 3) := dTX7_pass_1_ok 46 (191, .goto 81, 3) rfl
theorem dX7_pass_194 : decode cX7_pass 194 = .ok (.aload 5, 2) := dTX7_pass_1_ok 47 (194, .aload 5, 2) rfl
theorem dX7_pass_196 : decode cX7_pass 196 = .ok (.iconst 0, 1) := dTX7_pass_1_ok 48 (196, .iconst 0, 1) rfl
theorem dX7_pass_197 : decode cX7_pass 197 = .ok (.putfield 74, 3) := dTX7_pass_1_ok 49 (197, .putfield 74, 3) rfl
theorem dX7_pass_200 : decode cX7_pass 200 = .ok (.iconst 0, 1) := dTX7_pass_1_ok 50 (200, .iconst 0, 1) rfl
theorem dX7_pass_201 : decode cX7_pass 201 = .ok (.istore 9, 2) := dTX7_pass_1_ok 51 (201, .istore 9, 2) rfl
theorem dX7_pass_203 : decode cX7_pass 203 = .ok (.iload 9, 2) := dTX7_pass_1_ok 52 (203, .iload 9, 2) rfl
theorem dX7_pass_205 : decode cX7_pass 205 = .ok (.iconst 4, 1) := dTX7_pass_1_ok 53 (205, .iconst 4, 1) rfl
theorem dX7_pass_206 : decode cX7_pass 206 = .ok (.if_icmp .ge 66, 3) := dTX7_pass_1_ok 54 (206, .if_icmp .ge 66, 3) rfl
theorem dX7_pass_209 : decode cX7_pass 209 = .ok (.aload 5, 2) := dTX7_pass_1_ok 55 (209, .aload 5, 2) rfl
theorem dX7_pass_211 : decode cX7_pass 211 = .ok (.getfield 68, 3) := dTX7_pass_1_ok 56 (211, .getfield 68, 3) rfl
theorem dX7_pass_214 : decode cX7_pass 214 = .ok (.iload 9, 2) := dTX7_pass_1_ok 57 (214, .iload 9, 2) rfl
theorem dX7_pass_216 : decode cX7_pass 216 = .ok (.invokestatic 49, 3) := dTX7_pass_1_ok 58 (216, .invokestatic 49, 3) rfl
theorem dX7_pass_219 : decode cX7_pass 219 = .ok (.iadd, 1) := dTX7_pass_1_ok 59 (219, .iadd, 1) rfl
noncomputable def dTX7_pass_2 : List (Nat × Instr × Nat) := [(220, .aload 5, 2), (222, .getfield 71, 3), (225, .iload 9, 2), (227, .invokestatic 53, 3), (230, .iadd, 1), (231, .invokestatic 56, 3), (234, .ifCond .eq 32, 3), (237, .aload_n 0, 1), (238, .getfield 24, 3), (241, .aload 5, 2), (243, .getfield 68, 3), (246, .iload 9, 2), (248, .invokestatic 49, 3), (251, .iadd, 1), (252, .aaload, 1), (253, .aload 5, 2), (255, .getfield 71, 3), (258, .iload 9, 2), (260, .invokestatic 53, 3), (263, .iadd, 1), (264, .iconst 0, 1), (265, .bastore, 1), (266, .iinc 9 1, 3), (269, .goto (-66), 3), (272, .iinc 6 1, 3), (275, .goto (-166), 3), (278, .iinc 4 1, 3), (281, .goto (-187), 3), (284, .aload_n 0, 1), (285, .invokevirtual 64, 3), (288, .astore_n 2, 1), (289, .aload_n 0, 1), (290, .getfield 29, 3), (293, .astore_n 3, 1), (294, .aload_n 3, 1), (295, .arraylength, 1), (296, .istore 4, 2), (298, .iconst 0, 1), (299, .istore 5, 2), (301, .iload 5, 2), (303, .iload 4, 2), (305, .if_icmp .ge 174, 3), (308, .aload_n 3, 1), (309, .iload 5, 2), (311, .aaload, 1), (312, .astore 6, 2), (314, .aload_n 2, 1), (315, .aload 6, 2), (317, .getfield 68, 3), (320, .aaload, 1), (321, .aload 6, 2), (323, .getfield 71, 3), (326, .baload, 1), (327, .ifCond .eq 14, 3), (330, .aload 6, 2), (332, .dup, 1), (333, .getfield 98, 3), (336, .iconst 1, 1), (337, .iadd, 1), (338, .putfield 98, 3)]
theorem dTX7_pass_2_ok : ∀ (k : Nat) (q : Nat × Instr × Nat), dTX7_pass_2[k]? = some q → decode cX7_pass q.1 = .ok q.2 := dT_of (by decide +kernel)
theorem dX7_pass_220 : decode cX7_pass 220 = .ok (.aload 5, 2) := dTX7_pass_2_ok 0 (220, .aload 5, 2) rfl
theorem dX7_pass_222 : decode cX7_pass 222 = .ok (.getfield 71, 3) := dTX7_pass_2_ok 1 (222, .getfield 71, 3) rfl
theorem dX7_pass_225 : decode cX7_pass 225 = .ok (.iload 9, 2) := dTX7_pass_2_ok 2 (225, .iload 9, 2) rfl
theorem dX7_pass_227 : decode cX7_pass 227 = .ok (.invokestatic 53, 3) := dTX7_pass_2_ok 3 (227, .invokestatic 53, 3) rfl
theorem dX7_pass_230 : decode cX7_pass 230 = .ok (.iadd, 1) := dTX7_pass_2_ok 4 (230, .iadd, 1) rfl
theorem dX7_pass_231 : decode cX7_pass 231 = .ok (.invokestatic 56, 3) := dTX7_pass_2_ok 5 (231, .invokestatic 56, 3) rfl
theorem dX7_pass_234 : decode cX7_pass 234 = .ok (.ifCond .eq 32, 3) := dTX7_pass_2_ok 6 (234, .ifCond .eq 32, 3) rfl
theorem dX7_pass_237 : decode cX7_pass 237 = .ok (.aload_n 0, 1) := dTX7_pass_2_ok 7 (237, .aload_n 0, 1) rfl
theorem dX7_pass_238 : decode cX7_pass 238 = .ok (.getfield 24, 3) := dTX7_pass_2_ok 8 (238, .getfield 24, 3) rfl
theorem dX7_pass_241 : decode cX7_pass 241 = .ok (.aload 5, 2) := dTX7_pass_2_ok 9 (241, .aload 5, 2) rfl
theorem dX7_pass_243 : decode cX7_pass 243 = .ok (.getfield 68, 3) := dTX7_pass_2_ok 10 (243, .getfield 68, 3) rfl
theorem dX7_pass_246 : decode cX7_pass 246 = .ok (.iload 9, 2) := dTX7_pass_2_ok 11 (246, .iload 9, 2) rfl
theorem dX7_pass_248 : decode cX7_pass 248 = .ok (.invokestatic 49, 3) := dTX7_pass_2_ok 12 (248, .invokestatic 49, 3) rfl
theorem dX7_pass_251 : decode cX7_pass 251 = .ok (.iadd, 1) := dTX7_pass_2_ok 13 (251, .iadd, 1) rfl
theorem dX7_pass_252 : decode cX7_pass 252 = .ok (.aaload, 1) := dTX7_pass_2_ok 14 (252, .aaload, 1) rfl
theorem dX7_pass_253 : decode cX7_pass 253 = .ok (.aload 5, 2) := dTX7_pass_2_ok 15 (253, .aload 5, 2) rfl
theorem dX7_pass_255 : decode cX7_pass 255 = .ok (.getfield 71, 3) := dTX7_pass_2_ok 16 (255, .getfield 71, 3) rfl
theorem dX7_pass_258 : decode cX7_pass 258 = .ok (.iload 9, 2) := dTX7_pass_2_ok 17 (258, .iload 9, 2) rfl
theorem dX7_pass_260 : decode cX7_pass 260 = .ok (.invokestatic 53, 3) := dTX7_pass_2_ok 18 (260, .invokestatic 53, 3) rfl
theorem dX7_pass_263 : decode cX7_pass 263 = .ok (.iadd, 1) := dTX7_pass_2_ok 19 (263, .iadd, 1) rfl
theorem dX7_pass_264 : decode cX7_pass 264 = .ok (.iconst 0, 1) := dTX7_pass_2_ok 20 (264, .iconst 0, 1) rfl
theorem dX7_pass_265 : decode cX7_pass 265 = .ok (.bastore, 1) := dTX7_pass_2_ok 21 (265, .bastore, 1) rfl
theorem dX7_pass_266 : decode cX7_pass 266 = .ok (.iinc 9 1, 3) := dTX7_pass_2_ok 22 (266, .iinc 9 1, 3) rfl
theorem dX7_pass_269 : decode cX7_pass 269 = .ok (.goto (-66), 3) := dTX7_pass_2_ok 23 (269, .goto (-66), 3) rfl
theorem dX7_pass_272 : decode cX7_pass 272 = .ok (.iinc 6 1, 3) := dTX7_pass_2_ok 24 (272, .iinc 6 1, 3) rfl
theorem dX7_pass_275 : decode cX7_pass 275 = .ok (.goto (-166), 3) := dTX7_pass_2_ok 25 (275, .goto (-166), 3) rfl
theorem dX7_pass_278 : decode cX7_pass 278 = .ok (.iinc 4 1, 3) := dTX7_pass_2_ok 26 (278, .iinc 4 1, 3) rfl
theorem dX7_pass_281 : decode cX7_pass 281 = .ok (.goto (-187), 3) := dTX7_pass_2_ok 27 (281, .goto (-187), 3) rfl
theorem dX7_pass_284 : decode cX7_pass 284 = .ok (.aload_n 0, 1) := dTX7_pass_2_ok 28 (284, .aload_n 0, 1) rfl
theorem dX7_pass_285 : decode cX7_pass 285 = .ok (.invokevirtual 64, 3) := dTX7_pass_2_ok 29 (285, .invokevirtual 64, 3) rfl
theorem dX7_pass_288 : decode cX7_pass 288 = .ok (.astore_n 2, 1) := dTX7_pass_2_ok 30 (288, .astore_n 2, 1) rfl
theorem dX7_pass_289 : decode cX7_pass 289 = .ok (.aload_n 0, 1) := dTX7_pass_2_ok 31 (289, .aload_n 0, 1) rfl
theorem dX7_pass_290 : decode cX7_pass 290 = .ok (.getfield 29, 3) := dTX7_pass_2_ok 32 (290, .getfield 29, 3) rfl
theorem dX7_pass_293 : decode cX7_pass 293 = .ok (.astore_n 3, 1) := dTX7_pass_2_ok 33 (293, .astore_n 3, 1) rfl
theorem dX7_pass_294 : decode cX7_pass 294 = .ok (.aload_n 3, 1) := dTX7_pass_2_ok 34 (294, .aload_n 3, 1) rfl
theorem dX7_pass_295 : decode cX7_pass 295 = .ok (.arraylength, 1) := dTX7_pass_2_ok 35 (295, .arraylength, 1) rfl
theorem dX7_pass_296 : decode cX7_pass 296 = .ok (.istore 4, 2) := dTX7_pass_2_ok 36 (296, .istore 4, 2) rfl
theorem dX7_pass_298 : decode cX7_pass 298 = .ok (.iconst 0, 1) := dTX7_pass_2_ok 37 (298, .iconst 0, 1) rfl
theorem dX7_pass_299 : decode cX7_pass 299 = .ok (.istore 5, 2) := dTX7_pass_2_ok 38 (299, .istore 5, 2) rfl
theorem dX7_pass_301 : decode cX7_pass 301 = .ok (.iload 5, 2) := dTX7_pass_2_ok 39 (301, .iload 5, 2) rfl
theorem dX7_pass_303 : decode cX7_pass 303 = .ok (.iload 4, 2) := dTX7_pass_2_ok 40 (303, .iload 4, 2) rfl
theorem dX7_pass_305 : decode cX7_pass 305 = .ok (.if_icmp .ge 174, 3) := dTX7_pass_2_ok 41 (305, .if_icmp .ge 174, 3) rfl
theorem dX7_pass_308 : decode cX7_pass 308 = .ok (.aload_n 3, 1) := dTX7_pass_2_ok 42 (308, .aload_n 3, 1) rfl
theorem dX7_pass_309 : decode cX7_pass 309 = .ok (.iload 5, 2) := dTX7_pass_2_ok 43 (309, .iload 5, 2) rfl
theorem dX7_pass_311 : decode cX7_pass 311 = .ok (.aaload, 1) := dTX7_pass_2_ok 44 (311, .aaload, 1) rfl
theorem dX7_pass_312 : decode cX7_pass 312 = .ok (.astore 6, 2) := dTX7_pass_2_ok 45 (312, .astore 6, 2) rfl
theorem dX7_pass_314 : decode cX7_pass 314 = .ok (.aload_n 2, 1) := dTX7_pass_2_ok 46 (314, .aload_n 2, 1) rfl
theorem dX7_pass_315 : decode cX7_pass 315 = .ok (.aload 6, 2) := dTX7_pass_2_ok 47 (315, .aload 6, 2) rfl
theorem dX7_pass_317 : decode cX7_pass 317 = .ok (.getfield 68, 3) := dTX7_pass_2_ok 48 (317, .getfield 68, 3) rfl
theorem dX7_pass_320 : decode cX7_pass 320 = .ok (.aaload, 1) := dTX7_pass_2_ok 49 (320, .aaload, 1) rfl
theorem dX7_pass_321 : decode cX7_pass 321 = .ok (.aload 6, 2) := dTX7_pass_2_ok 50 (321, .aload 6, 2) rfl
theorem dX7_pass_323 : decode cX7_pass 323 = .ok (.getfield 71, 3) := dTX7_pass_2_ok 51 (323, .getfield 71, 3) rfl
theorem dX7_pass_326 : decode cX7_pass 326 = .ok (.baload, 1) := dTX7_pass_2_ok 52 (326, .baload, 1) rfl
theorem dX7_pass_327 : decode cX7_pass 327 = .ok (.ifCond .eq 14, 3) := dTX7_pass_2_ok 53 (327, .ifCond .eq 14, 3) rfl
theorem dX7_pass_330 : decode cX7_pass 330 = .ok (.aload 6, 2) := dTX7_pass_2_ok 54 (330, .aload 6, 2) rfl
theorem dX7_pass_332 : decode cX7_pass 332 = .ok (.dup, 1) := dTX7_pass_2_ok 55 (332, .dup, 1) rfl
theorem dX7_pass_333 : decode cX7_pass 333 = .ok (.getfield 98, 3) := dTX7_pass_2_ok 56 (333, .getfield 98, 3) rfl
theorem dX7_pass_336 : decode cX7_pass 336 = .ok (.iconst 1, 1) := dTX7_pass_2_ok 57 (336, .iconst 1, 1) rfl
theorem dX7_pass_337 : decode cX7_pass 337 = .ok (.iadd, 1) := dTX7_pass_2_ok 58 (337, .iadd, 1) rfl
theorem dX7_pass_338 : decode cX7_pass 338 = .ok (.putfield 98, 3) := dTX7_pass_2_ok 59 (338, .putfield 98, 3) rfl
noncomputable def dTX7_pass_3 : List (Nat × Instr × Nat) := [(341, .aload_n 2, 1), (342, .aload 6, 2), (344, .getfield 68, 3), (347, .aaload, 1), (348, .aload 6, 2), (350, .getfield 71, 3), (353, .baload, 1), (354, .ifCond .ne 119, 3), (357, .aload_n 0, 1), (358, .getfield 16, 3), (361, .aload 6, 2), (363, .getfield 68, 3), (366, .aaload, 1), (367, .aload 6, 2), (369, .getfield 71, 3), (372, .iaload, 1), (373, .iconst 4, 1), (374, .if_icmp .eq 6, 3), (377, .goto 96, 3), (380, .aload_n 0, 1), (381, .getfield 19, 3), (384, .aload 6, 2), (386, .getfield 68, 3), (389, .aaload, 1), (390, .aload 6, 2), (392, .getfield 71, 3), (395, .iaload, 1), (396, .iconst 1, 1), (397, .iadd, 1), (398, .istore 7, 2), (400, .iload 7, 2), (402, .bipush 100, 2), (404, .if_icmp .ne 6, 3), (407, .iconst 0, 1), (408, .istore 7, 2), (410, .iload 7, 2), (412, .bipush 13, 2), (414, .irem, 1), (415, .ifCond .ne 19, 3), (418, .iload 7, 2), (420, .bipush 10, 2), (422, .idiv, 1), (423, .bipush 10, 2), (425, .iload 7, 2), (427, .bipush 10, 2), (429, .irem, 1), (430, .imul, 1), (431, .iadd, 1), (432, .istore 7, 2), (434, .aload_n 0, 1), (435, .getfield 19, 3), (438, .aload 6, 2), (440, .getfield 68, 3), (443, .aaload, 1), (444, .aload 6, 2), (446, .getfield 71, 3), (449, .iload 7, 2), (451, .iastore, 1), (452, .aload 6, 2), (454, .dup, 1)]
theorem dTX7_pass_3_ok : ∀ (k : Nat) (q : Nat × Instr × Nat), dTX7_pass_3[k]? = some q → decode cX7_pass q.1 = .ok q.2 := dT_of (by decide +kernel)
theorem dX7_pass_341 : decode cX7_pass 341 = .ok (.aload_n 2, 1) := dTX7_pass_3_ok 0 (341, .aload_n 2, 1) rfl
theorem dX7_pass_342 : decode cX7_pass 342 = .ok (.aload 6, 2) := dTX7_pass_3_ok 1 (342, .aload 6, 2) rfl
theorem dX7_pass_344 : decode cX7_pass 344 = .ok (.getfield 68, 3) := dTX7_pass_3_ok 2 (344, .getfield 68, 3) rfl
theorem dX7_pass_347 : decode cX7_pass 347 = .ok (.aaload, 1) := dTX7_pass_3_ok 3 (347, .aaload, 1) rfl
theorem dX7_pass_348 : decode cX7_pass 348 = .ok (.aload 6, 2) := dTX7_pass_3_ok 4 (348, .aload 6, 2) rfl
theorem dX7_pass_350 : decode cX7_pass 350 = .ok (.getfield 71, 3) := dTX7_pass_3_ok 5 (350, .getfield 71, 3) rfl
theorem dX7_pass_353 : decode cX7_pass 353 = .ok (.baload, 1) := dTX7_pass_3_ok 6 (353, .baload, 1) rfl
theorem dX7_pass_354 : decode cX7_pass 354 = .ok (.ifCond .ne 119, 3) := dTX7_pass_3_ok 7 (354, .ifCond .ne 119, 3) rfl
theorem dX7_pass_357 : decode cX7_pass 357 = .ok (.aload_n 0, 1) := dTX7_pass_3_ok 8 (357, .aload_n 0, 1) rfl
theorem dX7_pass_358 : decode cX7_pass 358 = .ok (.getfield 16, 3) := dTX7_pass_3_ok 9 (358, .getfield 16, 3) rfl
theorem dX7_pass_361 : decode cX7_pass 361 = .ok (.aload 6, 2) := dTX7_pass_3_ok 10 (361, .aload 6, 2) rfl
theorem dX7_pass_363 : decode cX7_pass 363 = .ok (.getfield 68, 3) := dTX7_pass_3_ok 11 (363, .getfield 68, 3) rfl
theorem dX7_pass_366 : decode cX7_pass 366 = .ok (.aaload, 1) := dTX7_pass_3_ok 12 (366, .aaload, 1) rfl
theorem dX7_pass_367 : decode cX7_pass 367 = .ok (.aload 6, 2) := dTX7_pass_3_ok 13 (367, .aload 6, 2) rfl
theorem dX7_pass_369 : decode cX7_pass 369 = .ok (.getfield 71, 3) := dTX7_pass_3_ok 14 (369, .getfield 71, 3) rfl
theorem dX7_pass_372 : decode cX7_pass 372 = .ok (.iaload, 1) := dTX7_pass_3_ok 15 (372, .iaload, 1) rfl
theorem dX7_pass_373 : decode cX7_pass 373 = .ok (.iconst 4, 1) := dTX7_pass_3_ok 16 (373, .iconst 4, 1) rfl
theorem dX7_pass_374 : decode cX7_pass 374 = .ok (.if_icmp .eq 6, 3) := dTX7_pass_3_ok 17 (374, .if_icmp .eq 6, 3) rfl
theorem dX7_pass_377 : decode cX7_pass 377 = .ok (.goto 96, 3) := dTX7_pass_3_ok 18 (377, .goto 96, 3) rfl
theorem dX7_pass_380 : decode cX7_pass 380 = .ok (.aload_n 0, 1) := dTX7_pass_3_ok 19 (380, .aload_n 0, 1) rfl
theorem dX7_pass_381 : decode cX7_pass 381 = .ok (.getfield 19, 3) := dTX7_pass_3_ok 20 (381, .getfield 19, 3) rfl
theorem dX7_pass_384 : decode cX7_pass 384 = .ok (.aload 6, 2) := dTX7_pass_3_ok 21 (384, .aload 6, 2) rfl
theorem dX7_pass_386 : decode cX7_pass 386 = .ok (.getfield 68, 3) := dTX7_pass_3_ok 22 (386, .getfield 68, 3) rfl
theorem dX7_pass_389 : decode cX7_pass 389 = .ok (.aaload, 1) := dTX7_pass_3_ok 23 (389, .aaload, 1) rfl
theorem dX7_pass_390 : decode cX7_pass 390 = .ok (.aload 6, 2) := dTX7_pass_3_ok 24 (390, .aload 6, 2) rfl
theorem dX7_pass_392 : decode cX7_pass 392 = .ok (.getfield 71, 3) := dTX7_pass_3_ok 25 (392, .getfield 71, 3) rfl
theorem dX7_pass_395 : decode cX7_pass 395 = .ok (.iaload, 1) := dTX7_pass_3_ok 26 (395, .iaload, 1) rfl
theorem dX7_pass_396 : decode cX7_pass 396 = .ok (.iconst 1, 1) := dTX7_pass_3_ok 27 (396, .iconst 1, 1) rfl
theorem dX7_pass_397 : decode cX7_pass 397 = .ok (.iadd, 1) := dTX7_pass_3_ok 28 (397, .iadd, 1) rfl
theorem dX7_pass_398 : decode cX7_pass 398 = .ok (.istore 7, 2) := dTX7_pass_3_ok 29 (398, .istore 7, 2) rfl
theorem dX7_pass_400 : decode cX7_pass 400 = .ok (.iload 7, 2) := dTX7_pass_3_ok 30 (400, .iload 7, 2) rfl
theorem dX7_pass_402 : decode cX7_pass 402 = .ok (.bipush 100, 2) := dTX7_pass_3_ok 31 (402, .bipush 100, 2) rfl
theorem dX7_pass_404 : decode cX7_pass 404 = .ok (.if_icmp .ne 6, 3) := dTX7_pass_3_ok 32 (404, .if_icmp .ne 6, 3) rfl
theorem dX7_pass_407 : decode cX7_pass 407 = .ok (.iconst 0, 1) := dTX7_pass_3_ok 33 (407, .iconst 0, 1) rfl
theorem dX7_pass_408 : decode cX7_pass 408 = .ok (.istore 7, 2) := dTX7_pass_3_ok 34 (408, .istore 7, 2) rfl
theorem dX7_pass_410 : decode cX7_pass 410 = .ok (.iload 7, 2) := dTX7_pass_3_ok 35 (410, .iload 7, 2) rfl
theorem dX7_pass_412 : decode cX7_pass 412 = .ok (.bipush 13, 2) := dTX7_pass_3_ok 36 (412, .bipush 13, 2) rfl
theorem dX7_pass_414 : decode cX7_pass 414 = .ok (.irem, 1) := dTX7_pass_3_ok 37 (414, .irem, 1) rfl
theorem dX7_pass_415 : decode cX7_pass 415 = .ok (.ifCond .ne 19, 3) := dTX7_pass_3_ok 38 (415, .ifCond .ne 19, 3) rfl
theorem dX7_pass_418 : decode cX7_pass 418 = .ok (.iload 7, 2) := dTX7_pass_3_ok 39 (418, .iload 7, 2) rfl
theorem dX7_pass_420 : decode cX7_pass 420 = .ok (.bipush 10, 2) := dTX7_pass_3_ok 40 (420, .bipush 10, 2) rfl
theorem dX7_pass_422 : decode cX7_pass 422 = .ok (.idiv, 1) := dTX7_pass_3_ok 41 (422, .idiv, 1) rfl
theorem dX7_pass_423 : decode cX7_pass 423 = .ok (.bipush 10, 2) := dTX7_pass_3_ok 42 (423, .bipush 10, 2) rfl
theorem dX7_pass_425 : decode cX7_pass 425 = .ok (.iload 7, 2) := dTX7_pass_3_ok 43 (425, .iload 7, 2) rfl
theorem dX7_pass_427 : decode cX7_pass 427 = .ok (.bipush 10, 2) := dTX7_pass_3_ok 44 (427, .bipush 10, 2) rfl
theorem dX7_pass_429 : decode cX7_pass 429 = .ok (.irem, 1) := dTX7_pass_3_ok 45 (429, .irem, 1) rfl
theorem dX7_pass_430 : decode cX7_pass 430 = .ok (.imul, 1) := dTX7_pass_3_ok 46 (430, .imul, 1) rfl
theorem dX7_pass_431 : decode cX7_pass 431 = .ok (.iadd, 1) := dTX7_pass_3_ok 47 (431, .iadd, 1) rfl
theorem dX7_pass_432 : decode cX7_pass 432 = .ok (.istore 7, 2) := dTX7_pass_3_ok 48 (432, .istore 7, 2) rfl
theorem dX7_pass_434 : decode cX7_pass 434 = .ok (.aload_n 0, 1) := dTX7_pass_3_ok 49 (434, .aload_n 0, 1) rfl
theorem dX7_pass_435 : decode cX7_pass 435 = .ok (.getfield 19, 3) := dTX7_pass_3_ok 50 (435, .getfield 19, 3) rfl
theorem dX7_pass_438 : decode cX7_pass 438 = .ok (.aload 6, 2) := dTX7_pass_3_ok 51 (438, .aload 6, 2) rfl
theorem dX7_pass_440 : decode cX7_pass 440 = .ok (.getfield 68, 3) := dTX7_pass_3_ok 52 (440, .getfield 68, 3) rfl
theorem dX7_pass_443 : decode cX7_pass 443 = .ok (.aaload, 1) := dTX7_pass_3_ok 53 (443, .aaload, 1) rfl
theorem dX7_pass_444 : decode cX7_pass 444 = .ok (.aload 6, 2) := dTX7_pass_3_ok 54 (444, .aload 6, 2) rfl
theorem dX7_pass_446 : decode cX7_pass 446 = .ok (.getfield 71, 3) := dTX7_pass_3_ok 55 (446, .getfield 71, 3) rfl
theorem dX7_pass_449 : decode cX7_pass 449 = .ok (.iload 7, 2) := dTX7_pass_3_ok 56 (449, .iload 7, 2) rfl
theorem dX7_pass_451 : decode cX7_pass 451 = .ok (.iastore, 1) := dTX7_pass_3_ok 57 (451, .iastore, 1) rfl
theorem dX7_pass_452 : decode cX7_pass 452 = .ok (.aload 6, 2) := dTX7_pass_3_ok 58 (452, .aload 6, 2) rfl
theorem dX7_pass_454 : decode cX7_pass 454 = .ok (.dup, 1) := dTX7_pass_3_ok 59 (454, .dup, 1) rfl
noncomputable def dTX7_pass_4 : List (Nat × Instr × Nat) := [(455, .getfield 101, 3), (458, .iconst 1, 1), (459, .iadd, 1), (460, .putfield 101, 3), (463, .aload_n 0, 1), (464, .dup, 1), (465, .getfield 88, 3), (468, .iconst 1, 1), (469, .iadd, 1), (470, .putfield 88, 3), (473, .iinc 5 1, 3), (476, .goto (-175), 3), (479, .aload_n 0, 1), (480, .dup, 1), (481, .getfield 45, 3), (484, .iconst 1, 1), (485, .iadd, 1), (486, .putfield 45, 3), (489, .aload_n 0, 1), (490, .getfield 88, 3), (493, .iload_n 1, 1), (494, .isub, 1), (495, .ireturn, 1)]
theorem dTX7_pass_4_ok : ∀ (k : Nat) (q : Nat × Instr × Nat), dTX7_pass_4[k]? = some q → decode cX7_pass q.1 = .ok q.2 := dT_of (by decide +kernel)
theorem dX7_pass_455 : decode cX7_pass 455 = .ok (.getfield 101, 3) := dTX7_pass_4_ok 0 (455, .getfield 101, 3) rfl
theorem dX7_pass_458 : decode cX7_pass 458 = .ok (.iconst 1, 1) := dTX7_pass_4_ok 1 (458, .iconst 1, 1) rfl
theorem dX7_pass_459 : decode cX7_pass 459 = .ok (.iadd, 1) := dTX7_pass_4_ok 2 (459, .iadd, 1) rfl
theorem dX7_pass_460 : decode cX7_pass 460 = .ok (.putfield 101, 3) := dTX7_pass_4_ok 3 (460, .putfield 101, 3) rfl
theorem dX7_pass_463 : decode cX7_pass 463 = .ok (.aload_n 0, 1) := dTX7_pass_4_ok 4 (463, .aload_n 0, 1) rfl
theorem dX7_pass_464 : decode cX7_pass 464 = .ok (.dup, 1) := dTX7_pass_4_ok 5 (464, .dup, 1) rfl
theorem dX7_pass_465 : decode cX7_pass 465 = .ok (.getfield 88, 3) := dTX7_pass_4_ok 6 (465, .getfield 88, 3) rfl
theorem dX7_pass_468 : decode cX7_pass 468 = .ok (.iconst 1, 1) := dTX7_pass_4_ok 7 (468, .iconst 1, 1) rfl
theorem dX7_pass_469 : decode cX7_pass 469 = .ok (.iadd, 1) := dTX7_pass_4_ok 8 (469, .iadd, 1) rfl
theorem dX7_pass_470 : decode cX7_pass 470 = .ok (.putfield 88, 3) := dTX7_pass_4_ok 9 (470, .putfield 88, 3) rfl
theorem dX7_pass_473 : decode cX7_pass 473 = .ok (.iinc 5 1, 3) := dTX7_pass_4_ok 10 (473, .iinc 5 1, 3) rfl
theorem dX7_pass_476 : decode cX7_pass 476 = .ok (.goto (-175), 3) := dTX7_pass_4_ok 11 (476, .goto (-175), 3) rfl
theorem dX7_pass_479 : decode cX7_pass 479 = .ok (.aload_n 0, 1) := dTX7_pass_4_ok 12 (479, .aload_n 0, 1) rfl
theorem dX7_pass_480 : decode cX7_pass 480 = .ok (.dup, 1) := dTX7_pass_4_ok 13 (480, .dup, 1) rfl
theorem dX7_pass_481 : decode cX7_pass 481 = .ok (.getfield 45, 3) := dTX7_pass_4_ok 14 (481, .getfield 45, 3) rfl
theorem dX7_pass_484 : decode cX7_pass 484 = .ok (.iconst 1, 1) := dTX7_pass_4_ok 15 (484, .iconst 1, 1) rfl
theorem dX7_pass_485 : decode cX7_pass 485 = .ok (.iadd, 1) := dTX7_pass_4_ok 16 (485, .iadd, 1) rfl
theorem dX7_pass_486 : decode cX7_pass 486 = .ok (.putfield 45, 3) := dTX7_pass_4_ok 17 (486, .putfield 45, 3) rfl
theorem dX7_pass_489 : decode cX7_pass 489 = .ok (.aload_n 0, 1) := dTX7_pass_4_ok 18 (489, .aload_n 0, 1) rfl
theorem dX7_pass_490 : decode cX7_pass 490 = .ok (.getfield 88, 3) := dTX7_pass_4_ok 19 (490, .getfield 88, 3) rfl
theorem dX7_pass_493 : decode cX7_pass 493 = .ok (.iload_n 1, 1) := dTX7_pass_4_ok 20 (493, .iload_n 1, 1) rfl
theorem dX7_pass_494 : decode cX7_pass 494 = .ok (.isub, 1) := dTX7_pass_4_ok 21 (494, .isub, 1) rfl
theorem dX7_pass_495 : decode cX7_pass 495 = .ok (.ireturn, 1) := dTX7_pass_4_ok 22 (495, .ireturn, 1) rfl
noncomputable def dTX7_burning_0 : List (Nat × Instr × Nat) := [(0, .iconst 0, 1), (1, .istore_n 1, 1), (2, .iconst 0, 1), (3, .istore_n 2, 1), (4, .iload_n 2, 1), (5, .bipush 9, 2), (7, .if_icmp .ge 42, 3), (10, .iconst 0, 1), (11, .istore_n 3, 1), (12, .iload_n 3, 1), (13, .bipush 7, 2), (15, .if_icmp .ge 28, 3), (18, .iload_n 1, 1), (19, .aload_n 0, 1), (20, .getfield 24, 3), (23, .iload_n 2, 1), (24, .aaload, 1), (25, .iload_n 3, 1), (26, .baload, 1), (27, .ifCond .eq 7, 3), (30, .iconst 1, 1), (31, .goto 4, 3), (34, .iconst 0, 1), (35, .iadd, 1), (36, .istore_n 1, 1), (37, .iinc 3 1, 3), (40, .goto (-28), 3), (43, .iinc 2 1, 3), (46, .goto (-42), 3), (49, .iload_n 1, 1), (50, .ireturn, 1)]
theorem dTX7_burning_0_ok : ∀ (k : Nat) (q : Nat × Instr × Nat), dTX7_burning_0[k]? = some q → decode cX7_burning q.1 = .ok q.2 := dT_of (by decide +kernel)
theorem dX7_burning_0 : decode cX7_burning 0 = .ok (.iconst 0, 1) := dTX7_burning_0_ok 0 (0, .iconst 0, 1) rfl
theorem dX7_burning_1 : decode cX7_burning 1 = .ok (.istore_n 1, 1) := dTX7_burning_0_ok 1 (1, .istore_n 1, 1) rfl
theorem dX7_burning_2 : decode cX7_burning 2 = .ok (.iconst 0, 1) := dTX7_burning_0_ok 2 (2, .iconst 0, 1) rfl
theorem dX7_burning_3 : decode cX7_burning 3 = .ok (.istore_n 2, 1) := dTX7_burning_0_ok 3 (3, .istore_n 2, 1) rfl
theorem dX7_burning_4 : decode cX7_burning 4 = .ok (.iload_n 2, 1) := dTX7_burning_0_ok 4 (4, .iload_n 2, 1) rfl
theorem dX7_burning_5 : decode cX7_burning 5 = .ok (.bipush 9, 2) := dTX7_burning_0_ok 5 (5, .bipush 9, 2) rfl
theorem dX7_burning_7 : decode cX7_burning 7 = .ok (.if_icmp .ge 42, 3) := dTX7_burning_0_ok 6 (7, .if_icmp .ge 42, 3) rfl
theorem dX7_burning_10 : decode cX7_burning 10 = .ok (.iconst 0, 1) := dTX7_burning_0_ok 7 (10, .iconst 0, 1) rfl
theorem dX7_burning_11 : decode cX7_burning 11 = .ok (.istore_n 3, 1) := dTX7_burning_0_ok 8 (11, .istore_n 3, 1) rfl
theorem dX7_burning_12 : decode cX7_burning 12 = .ok (.iload_n 3, 1) := dTX7_burning_0_ok 9 (12, .iload_n 3, 1) rfl
theorem dX7_burning_13 : decode cX7_burning 13 = .ok (.bipush 7, 2) := dTX7_burning_0_ok 10 (13, .bipush 7, 2) rfl
theorem dX7_burning_15 : decode cX7_burning 15 = .ok (.if_icmp .ge 28, 3) := dTX7_burning_0_ok 11 (15, .if_icmp .ge 28, 3) rfl
theorem dX7_burning_18 : decode cX7_burning 18 = .ok (.iload_n 1, 1) := dTX7_burning_0_ok 12 (18, .iload_n 1, 1) rfl
theorem dX7_burning_19 : decode cX7_burning 19 = .ok (.aload_n 0, 1) := dTX7_burning_0_ok 13 (19, .aload_n 0, 1) rfl
theorem dX7_burning_20 : decode cX7_burning 20 = .ok (.getfield 24, 3) := dTX7_burning_0_ok 14 (20, .getfield 24, 3) rfl
theorem dX7_burning_23 : decode cX7_burning 23 = .ok (.iload_n 2, 1) := dTX7_burning_0_ok 15 (23, .iload_n 2, 1) rfl
theorem dX7_burning_24 : decode cX7_burning 24 = .ok (.aaload, 1) := dTX7_burning_0_ok 16 (24, .aaload, 1) rfl
theorem dX7_burning_25 : decode cX7_burning 25 = .ok (.iload_n 3, 1) := dTX7_burning_0_ok 17 (25, .iload_n 3, 1) rfl
theorem dX7_burning_26 : decode cX7_burning 26 = .ok (.baload, 1) := dTX7_burning_0_ok 18 (26, .baload, 1) rfl
theorem dX7_burning_27 : decode cX7_burning 27 = .ok (.ifCond .eq 7, 3) := dTX7_burning_0_ok 19 (27, .ifCond .eq 7, 3) rfl
theorem dX7_burning_30 : decode cX7_burning 30 = .ok (.iconst 1, 1) := dTX7_burning_0_ok 20 (30, .iconst 1, 1) rfl
theorem dX7_burning_31 : decode cX7_burning 31 = .ok (.goto 4, 3) := dTX7_burning_0_ok 21 (31, .goto 4, 3) rfl
theorem dX7_burning_34 : decode cX7_burning 34 = .ok (.iconst 0, 1) := dTX7_burning_0_ok 22 (34, .iconst 0, 1) rfl
theorem dX7_burning_35 : decode cX7_burning 35 = .ok (.iadd, 1) := dTX7_burning_0_ok 23 (35, .iadd, 1) rfl
theorem dX7_burning_36 : decode cX7_burning 36 = .ok (.istore_n 1, 1) := dTX7_burning_0_ok 24 (36, .istore_n 1, 1) rfl
theorem dX7_burning_37 : decode cX7_burning 37 = .ok (.iinc 3 1, 3) := dTX7_burning_0_ok 25 (37, .iinc 3 1, 3) rfl
theorem dX7_burning_40 : decode cX7_burning 40 = .ok (.goto (-28), 3) := dTX7_burning_0_ok 26 (40, .goto (-28), 3) rfl
theorem dX7_burning_43 : decode cX7_burning 43 = .ok (.iinc 2 1, 3) := dTX7_burning_0_ok 27 (43, .iinc 2 1, 3) rfl
theorem dX7_burning_46 : decode cX7_burning 46 = .ok (.goto (-42), 3) := dTX7_burning_0_ok 28 (46, .goto (-42), 3) rfl
theorem dX7_burning_49 : decode cX7_burning 49 = .ok (.iload_n 1, 1) := dTX7_burning_0_ok 29 (49, .iload_n 1, 1) rfl
theorem dX7_burning_50 : decode cX7_burning 50 = .ok (.ireturn, 1) := dTX7_burning_0_ok 30 (50, .ireturn, 1) rfl
noncomputable def dTX7_isSame_0 : List (Nat × Instr × Nat) := [(0, .aload_n 0, 1), (1, .invokevirtual 64, 3), (4, .astore_n 2, 1), (5, .iconst 0, 1), (6, .istore_n 3, 1), (7, .iconst 0, 1), (8, .istore 4, 2), (10, .iconst 0, 1), (11, .istore 5, 2), (13, .iload 5, 2), (15, .bipush 9, 2), (17, .if_icmp .ge 332, 3), (20, .iconst 0, 1), (21, .istore 6, 2), (23, .iload 6, 2), (25, .bipush 7, 2), (27, .if_icmp .ge 316, 3), (30, .iconst 0, 1), (31, .istore 7, 2), (33, .aload_n 0, 1), (34, .getfield 29, 3), (37, .astore 8, 2), (39, .aload 8, 2), (41, .arraylength, 1), (42, .istore 9, 2), (44, .iconst 0, 1), (45, .istore 10, 2), (47, .iload 10, 2), (49, .iload 9, 2), (51, .if_icmp .ge 46, 3), (54, .aload 8, 2), (56, .iload 10, 2), (58, .aaload, 1), (59, .astore 11, 2), (61, .iload 7, 2), (63, .aload 11, 2), (65, .getfield 68, 3), (68, .iload 5, 2), (70, .if_icmp .ne 17, 3), (73, .aload 11, 2), (75, .getfield 71, 3), (78, .iload 6, 2), (80, .if_icmp .ne 7, 3), (83, .iconst 1, 1), (84, .goto 4, 3), (87, .iconst 0, 1), (88, .iadd, 1), (89, .istore 7, 2), (91, .iinc 10 1, 3), (94, .goto (-47), 3), (97, .iconst 5, 1), (98, .newarray .int, 2), (100, .dup, 1), (101, .iconst 0, 1), (102, .aload_n 0, 1), (103, .getfield 16, 3), (106, .iload 5, 2), (108, .aaload, 1), (109, .iload 6, 2), (111, .iaload, 1)]
theorem dTX7_isSame_0_ok : ∀ (k : Nat) (q : Nat × Instr × Nat), dTX7_isSame_0[k]? = some q → decode cX7_isSame q.1 = .ok q.2 := dT_of (by decide +kernel)
theorem dX7_isSame_0 : decode cX7_isSame 0 = .ok (.aload_n 0, 1) := dTX7_isSame_0_ok 0 (0, .aload_n 0, 1) rfl
theorem dX7_isSame_1 : decode cX7_isSame 1 = .ok (.invokevirtual 64, 3) := dTX7_isSame_0_ok 1 (1, .invokevirtual 64, 3) rfl
theorem dX7_isSame_4 : decode cX7_isSame 4 = .ok (.astore_n 2, 1) := dTX7_isSame_0_ok 2 (4, .astore_n 2, 1) rfl
theorem dX7_isSame_5 : decode cX7_isSame 5 = .ok (.iconst 0, 1) := dTX7_isSame_0_ok 3 (5, .iconst 0, 1) rfl
theorem dX7_isSame_6 : decode cX7_isSame 6 = .ok (.istore_n 3, 1) := dTX7_isSame_0_ok 4 (6, .istore_n 3, 1) rfl
theorem dX7_isSame_7 : decode cX7_isSame 7 = .ok (.iconst 0, 1) := dTX7_isSame_0_ok 5 (7, .iconst 0, 1) rfl
theorem dX7_isSame_8 : decode cX7_isSame 8 = .ok (.istore 4, 2) := dTX7_isSame_0_ok 6 (8, .istore 4, 2) rfl
theorem dX7_isSame_10 : decode cX7_isSame 10 = .ok (.iconst 0, 1) := dTX7_isSame_0_ok 7 (10, .iconst 0, 1) rfl
theorem dX7_isSame_11 : decode cX7_isSame 11 = .ok (.istore 5, 2) := dTX7_isSame_0_ok 8 (11, .istore 5, 2) rfl
theorem dX7_isSame_13 : decode cX7_isSame 13 = .ok (.iload 5, 2) := dTX7_isSame_0_ok 9 (13, .iload 5, 2) rfl
theorem dX7_isSame_15 : decode cX7_isSame 15 = .ok (.bipush 9, 2) := dTX7_isSame_0_ok 10 (15, .bipush 9, 2) rfl
theorem dX7_isSame_17 : decode cX7_isSame 17 = .ok (.if_icmp .ge 332, 3) := dTX7_isSame_0_ok 11 (17, .if_icmp .ge 332, 3) rfl
theorem dX7_isSame_20 : decode cX7_isSame 20 = .ok (.iconst 0, 1) := dTX7_isSame_0_ok 12 (20, .iconst 0, 1) rfl
theorem dX7_isSame_21 : decode cX7_isSame 21 = .ok (.istore 6, 2) := dTX7_isSame_0_ok 13 (21, .istore 6, 2) rfl
theorem dX7_isSame_23 : decode cX7_isSame 23 = .ok (.iload 6, 2) := dTX7_isSame_0_ok 14 (23, .iload 6, 2) rfl
theorem dX7_isSame_25 : decode cX7_isSame 25 = .ok (.bipush 7, 2) := dTX7_isSame_0_ok 15 (25, .bipush 7, 2) rfl
theorem dX7_isSame_27 : decode cX7_isSame 27 = .ok (.if_icmp .ge 316, 3) := dTX7_isSame_0_ok 16 (27, .if_icmp .ge 316, 3) rfl
theorem dX7_isSame_30 : decode cX7_isSame 30 = .ok (.iconst 0, 1) := dTX7_isSame_0_ok 17 (30, .iconst 0, 1) rfl
theorem dX7_isSame_31 : decode cX7_isSame 31 = .ok (.istore 7, 2) := dTX7_isSame_0_ok 18 (31, .istore 7, 2) rfl
theorem dX7_isSame_33 : decode cX7_isSame 33 = .ok (.aload_n 0, 1) := dTX7_isSame_0_ok 19 (33, .aload_n 0, 1) rfl
theorem dX7_isSame_34 : decode cX7_isSame 34 = .ok (.getfield 29, 3) := dTX7_isSame_0_ok 20 (34, .getfield 29, 3) rfl
theorem dX7_isSame_37 : decode cX7_isSame 37 = .ok (.astore 8, 2) := dTX7_isSame_0_ok 21 (37, .astore 8, 2) rfl
theorem dX7_isSame_39 : decode cX7_isSame 39 = .ok (.aload 8, 2) := dTX7_isSame_0_ok 22 (39, .aload 8, 2) rfl
theorem dX7_isSame_41 : decode cX7_isSame 41 = .ok (.arraylength, 1) := dTX7_isSame_0_ok 23 (41, .arraylength, 1) rfl
theorem dX7_isSame_42 : decode cX7_isSame 42 = .ok (.istore 9, 2) := dTX7_isSame_0_ok 24 (42, .istore 9, 2) rfl
theorem dX7_isSame_44 : decode cX7_isSame 44 = .ok (.iconst 0, 1) := dTX7_isSame_0_ok 25 (44, .iconst 0, 1) rfl
theorem dX7_isSame_45 : decode cX7_isSame 45 = .ok (.istore 10, 2) := dTX7_isSame_0_ok 26 (45, .istore 10, 2) rfl
theorem dX7_isSame_47 : decode cX7_isSame 47 = .ok (.iload 10, 2) := dTX7_isSame_0_ok 27 (47, .iload 10, 2) rfl
theorem dX7_isSame_49 : decode cX7_isSame 49 = .ok (.iload 9, 2) := dTX7_isSame_0_ok 28 (49, .iload 9, 2) rfl
theorem dX7_isSame_51 : decode cX7_isSame 51 = .ok (.if_icmp .ge 46, 3) := dTX7_isSame_0_ok 29 (51, .if_icmp .ge 46, 3) rfl
theorem dX7_isSame_54 : decode cX7_isSame 54 = .ok (.aload 8, 2) := dTX7_isSame_0_ok 30 (54, .aload 8, 2) rfl
theorem dX7_isSame_56 : decode cX7_isSame 56 = .ok (.iload 10, 2) := dTX7_isSame_0_ok 31 (56, .iload 10, 2) rfl
theorem dX7_isSame_58 : decode cX7_isSame 58 = .ok (.aaload, 1) := dTX7_isSame_0_ok 32 (58, .aaload, 1) rfl
theorem dX7_isSame_59 : decode cX7_isSame 59 = .ok (.astore 11, 2) := dTX7_isSame_0_ok 33 (59, .astore 11, 2) rfl
theorem dX7_isSame_61 : decode cX7_isSame 61 = .ok (.iload 7, 2) := dTX7_isSame_0_ok 34 (61, .iload 7, 2) rfl
theorem dX7_isSame_63 : decode cX7_isSame 63 = .ok (.aload 11, 2) := dTX7_isSame_0_ok 35 (63, .aload 11, 2) rfl
theorem dX7_isSame_65 : decode cX7_isSame 65 = .ok (.getfield 68, 3) := dTX7_isSame_0_ok 36 (65, .getfield 68, 3) rfl
theorem dX7_isSame_68 : decode cX7_isSame 68 = .ok (.iload 5, 2) := dTX7_isSame_0_ok 37 (68, .iload 5, 2) rfl
theorem dX7_isSame_70 : decode cX7_isSame 70 = .ok (.if_icmp .ne 17, 3) := dTX7_isSame_0_ok 38 (70, .if_icmp .ne 17, 3) rfl
theorem dX7_isSame_73 : decode cX7_isSame 73 = .ok (.aload 11, 2) := dTX7_isSame_0_ok 39 (73, .aload 11, 2) rfl
theorem dX7_isSame_75 : decode cX7_isSame 75 = .ok (.getfield 71, 3) := dTX7_isSame_0_ok 40 (75, .getfield 71, 3) rfl
theorem dX7_isSame_78 : decode cX7_isSame 78 = .ok (.iload 6, 2) := dTX7_isSame_0_ok 41 (78, .iload 6, 2) rfl
theorem dX7_isSame_80 : decode cX7_isSame 80 = .ok (.if_icmp .ne 7, 3) := dTX7_isSame_0_ok 42 (80, .if_icmp .ne 7, 3) rfl
theorem dX7_isSame_83 : decode cX7_isSame 83 = .ok (.iconst 1, 1) := dTX7_isSame_0_ok 43 (83, .iconst 1, 1) rfl
theorem dX7_isSame_84 : decode cX7_isSame 84 = .ok (.goto 4, 3) := dTX7_isSame_0_ok 44 (84, .goto 4, 3) rfl
theorem dX7_isSame_87 : decode cX7_isSame 87 = .ok (.iconst 0, 1) := dTX7_isSame_0_ok 45 (87, .iconst 0, 1) rfl
theorem dX7_isSame_88 : decode cX7_isSame 88 = .ok (.iadd, 1) := dTX7_isSame_0_ok 46 (88, .iadd, 1) rfl
theorem dX7_isSame_89 : decode cX7_isSame 89 = .ok (.istore 7, 2) := dTX7_isSame_0_ok 47 (89, .istore 7, 2) rfl
theorem dX7_isSame_91 : decode cX7_isSame 91 = .ok (.iinc 10 1, 3) := dTX7_isSame_0_ok 48 (91, .iinc 10 1, 3) rfl
theorem dX7_isSame_94 : decode cX7_isSame 94 = .ok (.goto (-47), 3) := dTX7_isSame_0_ok 49 (94, .goto (-47), 3) rfl
theorem dX7_isSame_97 : decode cX7_isSame 97 = .ok (.iconst 5, 1) := dTX7_isSame_0_ok 50 (97, .iconst 5, 1) rfl
theorem dX7_isSame_98 : decode cX7_isSame 98 = .ok (.newarray .int, 2) := dTX7_isSame_0_ok 51 (98, .newarray .int, 2) rfl
theorem dX7_isSame_100 : decode cX7_isSame 100 = .ok (.dup, 1) := dTX7_isSame_0_ok 52 (100, .dup, 1) rfl
theorem dX7_isSame_101 : decode cX7_isSame 101 = .ok (.iconst 0, 1) := dTX7_isSame_0_ok 53 (101, .iconst 0, 1) rfl
theorem dX7_isSame_102 : decode cX7_isSame 102 = .ok (.aload_n 0, 1) := dTX7_isSame_0_ok 54 (102, .aload_n 0, 1) rfl
theorem dX7_isSame_103 : decode cX7_isSame 103 = .ok (.getfield 16, 3) := dTX7_isSame_0_ok 55 (103, .getfield 16, 3) rfl
theorem dX7_isSame_106 : decode cX7_isSame 106 = .ok (.iload 5, 2) := dTX7_isSame_0_ok 56 (106, .iload 5, 2) rfl
theorem dX7_isSame_108 : decode cX7_isSame 108 = .ok (.aaload, 1) := dTX7_isSame_0_ok 57 (108, .aaload, 1) rfl
theorem dX7_isSame_109 : decode cX7_isSame 109 = .ok (.iload 6, 2) := dTX7_isSame_0_ok 58 (109, .iload 6, 2) rfl
theorem dX7_isSame_111 : decode cX7_isSame 111 = .ok (.iaload, 1) := dTX7_isSame_0_ok 59 (111, .iaload, 1) rfl
noncomputable def dTX7_isSame_1 : List (Nat × Instr × Nat) := [(112, .iastore, 1), (113, .dup, 1), (114, .iconst 1, 1), (115, .aload_n 0, 1), (116, .getfield 19, 3), (119, .iload 5, 2), (121, .aaload, 1), (122, .iload 6, 2), (124, .iaload, 1), (125, .iastore, 1), (126, .dup, 1), (127, .iconst 2, 1), (128, .aload_n 0, 1), (129, .getfield 24, 3), (132, .iload 5, 2), (134, .aaload, 1), (135, .iload 6, 2), (137, .baload, 1), (138, .ifCond .eq 7, 3), (141, .iconst 1, 1), (142, .goto 4, 3), (145, .iconst 0, 1), (146, .iastore, 1), (147, .dup, 1), (148, .iconst 3, 1), (149, .aload_n 2, 1), (150, .iload 5, 2), (152, .aaload, 1), (153, .iload 6, 2), (155, .baload, 1), (156, .ifCond .eq 7, 3), (159, .iconst 1, 1), (160, .goto 4, 3), (163, .iconst 0, 1), (164, .iastore, 1), (165, .dup, 1), (166, .iconst 4, 1), (167, .iload 7, 2), (169, .iastore, 1), (170, .astore 8, 2), (172, .iconst 0, 1), (173, .istore 9, 2), (175, .iload 9, 2), (177, .iconst 5, 1), (178, .if_icmp .ge 29, 3), (181, .aload_n 1, 1), (182, .iload 5, 2), (184, .iload 6, 2), (186, .iload 9, 2), (188, .invokevirtual 104, 3), (191, .aload 8, 2), (193, .iload 9, 2), (195, .iaload, 1), (196, .if_icmp .eq 5, 3), (199, .iconst 0, 1), (200, .ireturn, 1), (201, .iinc 9 1, 3), (204, .goto (-29), 3), (207, .iconst 0, 1), (208, .istore 9, 2)]
theorem dTX7_isSame_1_ok : ∀ (k : Nat) (q : Nat × Instr × Nat), dTX7_isSame_1[k]? = some q → decode cX7_isSame q.1 = .ok q.2 := dT_of (by decide +kernel)
theorem dX7_isSame_112 : decode cX7_isSame 112 = .ok (.iastore, 1) := dTX7_isSame_1_ok 0 (112, .iastore, 1) rfl
theorem dX7_isSame_113 : decode cX7_isSame 113 = .ok (.dup, 1) := dTX7_isSame_1_ok 1 (113, .dup, 1) rfl
theorem dX7_isSame_114 : decode cX7_isSame 114 = .ok (.iconst 1, 1) := dTX7_isSame_1_ok 2 (114, .iconst 1, 1) rfl
theorem dX7_isSame_115 : decode cX7_isSame 115 = .ok (.aload_n 0, 1) := dTX7_isSame_1_ok 3 (115, .aload_n 0, 1) rfl
theorem dX7_isSame_116 : decode cX7_isSame 116 = .ok (.getfield 19, 3) := dTX7_isSame_1_ok 4 (116, .getfield 19, 3) rfl
theorem dX7_isSame_119 : decode cX7_isSame 119 = .ok (.iload 5, 2) := dTX7_isSame_1_ok 5 (119, .iload 5, 2) rfl
theorem dX7_isSame_121 : decode cX7_isSame 121 = .ok (.aaload, 1) := dTX7_isSame_1_ok 6 (121, .aaload, 1) rfl
theorem dX7_isSame_122 : decode cX7_isSame 122 = .ok (.iload 6, 2) := dTX7_isSame_1_ok 7 (122, .iload 6, 2) rfl
theorem dX7_isSame_124 : decode cX7_isSame 124 = .ok (.iaload, 1) := dTX7_isSame_1_ok 8 (124, .iaload, 1) rfl
theorem dX7_isSame_125 : decode cX7_isSame 125 = .ok (.iastore, 1) := dTX7_isSame_1_ok 9 (125, .iastore, 1) rfl
theorem dX7_isSame_126 : decode cX7_isSame 126 = .ok (.dup, 1) := dTX7_isSame_1_ok 10 (126, .dup, 1) rfl
theorem dX7_isSame_127 : decode cX7_isSame 127 = .ok (.iconst 2, 1) := dTX7_isSame_1_ok 11 (127, .iconst 2, 1) rfl
theorem dX7_isSame_128 : decode cX7_isSame 128 = .ok (.aload_n 0, 1) := dTX7_isSame_1_ok 12 (128, .aload_n 0, 1) rfl
theorem dX7_isSame_129 : decode cX7_isSame 129 = .ok (.getfield 24, 3) := dTX7_isSame_1_ok 13 (129, .getfield 24, 3) rfl
theorem dX7_isSame_132 : decode cX7_isSame 132 = .ok (.iload 5, 2) := dTX7_isSame_1_ok 14 (132, .iload 5, 2) rfl
theorem dX7_isSame_134 : decode cX7_isSame 134 = .ok (.aaload, 1) := dTX7_isSame_1_ok 15 (134, .aaload, 1) rfl
theorem dX7_isSame_135 : decode cX7_isSame 135 = .ok (.iload 6, 2) := dTX7_isSame_1_ok 16 (135, .iload 6, 2) rfl
theorem dX7_isSame_137 : decode cX7_isSame 137 = .ok (.baload, 1) := dTX7_isSame_1_ok 17 (137, .baload, 1) rfl
theorem dX7_isSame_138 : decode cX7_isSame 138 = .ok (.ifCond .eq 7, 3) := dTX7_isSame_1_ok 18 (138, .ifCond .eq 7, 3) rfl
theorem dX7_isSame_141 : decode cX7_isSame 141 = .ok (.iconst 1, 1) := dTX7_isSame_1_ok 19 (141, .iconst 1, 1) rfl
theorem dX7_isSame_142 : decode cX7_isSame 142 = .ok (.goto 4, 3) := dTX7_isSame_1_ok 20 (142, .goto 4, 3) rfl
theorem dX7_isSame_145 : decode cX7_isSame 145 = .ok (.iconst 0, 1) := dTX7_isSame_1_ok 21 (145, .iconst 0, 1) rfl
theorem dX7_isSame_146 : decode cX7_isSame 146 = .ok (.iastore, 1) := dTX7_isSame_1_ok 22 (146, .iastore, 1) rfl
theorem dX7_isSame_147 : decode cX7_isSame 147 = .ok (.dup, 1) := dTX7_isSame_1_ok 23 (147, .dup, 1) rfl
theorem dX7_isSame_148 : decode cX7_isSame 148 = .ok (.iconst 3, 1) := dTX7_isSame_1_ok 24 (148, .iconst 3, 1) rfl
theorem dX7_isSame_149 : decode cX7_isSame 149 = .ok (.aload_n 2, 1) := dTX7_isSame_1_ok 25 (149, .aload_n 2, 1) rfl
theorem dX7_isSame_150 : decode cX7_isSame 150 = .ok (.iload 5, 2) := dTX7_isSame_1_ok 26 (150, .iload 5, 2) rfl
theorem dX7_isSame_152 : decode cX7_isSame 152 = .ok (.aaload, 1) := dTX7_isSame_1_ok 27 (152, .aaload, 1) rfl
theorem dX7_isSame_153 : decode cX7_isSame 153 = .ok (.iload 6, 2) := dTX7_isSame_1_ok 28 (153, .iload 6, 2) rfl
theorem dX7_isSame_155 : decode cX7_isSame 155 = .ok (.baload, 1) := dTX7_isSame_1_ok 29 (155, .baload, 1) rfl
theorem dX7_isSame_156 : decode cX7_isSame 156 = .ok (.ifCond .eq 7, 3) := dTX7_isSame_1_ok 30 (156, .ifCond .eq 7, 3) rfl
theorem dX7_isSame_159 : decode cX7_isSame 159 = .ok (.iconst 1, 1) := dTX7_isSame_1_ok 31 (159, .iconst 1, 1) rfl
theorem dX7_isSame_160 : decode cX7_isSame 160 = .ok (.goto 4, 3) := dTX7_isSame_1_ok 32 (160, .goto 4, 3) rfl
theorem dX7_isSame_163 : decode cX7_isSame 163 = .ok (.iconst 0, 1) := dTX7_isSame_1_ok 33 (163, .iconst 0, 1) rfl
theorem dX7_isSame_164 : decode cX7_isSame 164 = .ok (.iastore, 1) := dTX7_isSame_1_ok 34 (164, .iastore, 1) rfl
theorem dX7_isSame_165 : decode cX7_isSame 165 = .ok (.dup, 1) := dTX7_isSame_1_ok 35 (165, .dup, 1) rfl
theorem dX7_isSame_166 : decode cX7_isSame 166 = .ok (.iconst 4, 1) := dTX7_isSame_1_ok 36 (166, .iconst 4, 1) rfl
theorem dX7_isSame_167 : decode cX7_isSame 167 = .ok (.iload 7, 2) := dTX7_isSame_1_ok 37 (167, .iload 7, 2) rfl
theorem dX7_isSame_169 : decode cX7_isSame 169 = .ok (.iastore, 1) := dTX7_isSame_1_ok 38 (169, .iastore, 1) rfl
theorem dX7_isSame_170 : decode cX7_isSame 170 = .ok (.astore 8, 2) := dTX7_isSame_1_ok 39 (170, .astore 8, 2) rfl
theorem dX7_isSame_172 : decode cX7_isSame 172 = .ok (.iconst 0, 1) := dTX7_isSame_1_ok 40 (172, .iconst 0, 1) rfl
theorem dX7_isSame_173 : decode cX7_isSame 173 = .ok (.istore 9, 2) := dTX7_isSame_1_ok 41 (173, .istore 9, 2) rfl
theorem dX7_isSame_175 : decode cX7_isSame 175 = .ok (.iload 9, 2) := dTX7_isSame_1_ok 42 (175, .iload 9, 2) rfl
theorem dX7_isSame_177 : decode cX7_isSame 177 = .ok (.iconst 5, 1) := dTX7_isSame_1_ok 43 (177, .iconst 5, 1) rfl
theorem dX7_isSame_178 : decode cX7_isSame 178 = .ok (.if_icmp .ge 29, 3) := dTX7_isSame_1_ok 44 (178, .if_icmp .ge 29, 3) rfl
theorem dX7_isSame_181 : decode cX7_isSame 181 = .ok (.aload_n 1, 1) := dTX7_isSame_1_ok 45 (181, .aload_n 1, 1) rfl
theorem dX7_isSame_182 : decode cX7_isSame 182 = .ok (.iload 5, 2) := dTX7_isSame_1_ok 46 (182, .iload 5, 2) rfl
theorem dX7_isSame_184 : decode cX7_isSame 184 = .ok (.iload 6, 2) := dTX7_isSame_1_ok 47 (184, .iload 6, 2) rfl
theorem dX7_isSame_186 : decode cX7_isSame 186 = .ok (.iload 9, 2) := dTX7_isSame_1_ok 48 (186, .iload 9, 2) rfl
theorem dX7_isSame_188 : decode cX7_isSame 188 = .ok (.invokevirtual 104, 3) := dTX7_isSame_1_ok 49 (188, .invokevirtual 104, 3) rfl
theorem dX7_isSame_191 : decode cX7_isSame 191 = .ok (.aload 8, 2) := dTX7_isSame_1_ok 50 (191, .aload 8, 2) rfl
theorem dX7_isSame_193 : decode cX7_isSame 193 = .ok (.iload 9, 2) := dTX7_isSame_1_ok 51 (193, .iload 9, 2) rfl
theorem dX7_isSame_195 : decode cX7_isSame 195 = .ok (.iaload, 1) := dTX7_isSame_1_ok 52 (195, .iaload, 1) rfl
theorem dX7_isSame_196 : decode cX7_isSame 196 = .ok (.if_icmp .eq 5, 3) := dTX7_isSame_1_ok 53 (196, .if_icmp .eq 5, 3) rfl
theorem dX7_isSame_199 : decode cX7_isSame 199 = .ok (.iconst 0, 1) := dTX7_isSame_1_ok 54 (199, .iconst 0, 1) rfl
theorem dX7_isSame_200 : decode cX7_isSame 200 = .ok (.ireturn, 1) := dTX7_isSame_1_ok 55 (200, .ireturn, 1) rfl
theorem dX7_isSame_201 : decode cX7_isSame 201 = .ok (.iinc 9 1, 3) := dTX7_isSame_1_ok 56 (201, .iinc 9 1, 3) rfl
theorem dX7_isSame_204 : decode cX7_isSame 204 = .ok (.goto (-29), 3) := dTX7_isSame_1_ok 57 (204, .goto (-29), 3) rfl
theorem dX7_isSame_207 : decode cX7_isSame 207 = .ok (.iconst 0, 1) := dTX7_isSame_1_ok 58 (207, .iconst 0, 1) rfl
theorem dX7_isSame_208 : decode cX7_isSame 208 = .ok (.istore 9, 2) := dTX7_isSame_1_ok 59 (208, .istore 9, 2) rfl
noncomputable def dTX7_isSame_2 : List (Nat × Instr × Nat) := [(210, .iload 9, 2), (212, .iconst 4, 1), (213, .if_icmp .ge 91, 3), (216, .iload_n 3, 1), (217, .aload_n 0, 1), (218, .getfield 9, 3), (221, .iload 5, 2), (223, .aaload, 1), (224, .iload 6, 2), (226, .aaload, 1), (227, .iload 9, 2), (229, .baload, 1), (230, .ifCond .eq 7, 3), (233, .iconst 1, 1), (234, .goto 4, 3), (237, .iconst 0, 1), (238, .iadd, 1), (239, .istore_n 3, 1), (240, .aload_n 1, 1), (241, .iload 5, 2), (243, .iload 6, 2), (245, .iload 9, 2), (247, .invokevirtual 110, 3), (250, .aload_n 0, 1), (251, .getfield 9, 3), (254, .iload 5, 2), (256, .aaload, 1), (257, .iload 6, 2), (259, .aaload, 1), (260, .iload 9, 2), (262, .baload, 1), (263, .ifCond .ne 25, 3), (266, .iload 5, 2), (268, .iload 9, 2), (270, .invokestatic 49, 3), (273, .iadd, 1), (274, .iload 6, 2), (276, .iload 9, 2), (278, .invokestatic 53, 3), (281, .iadd, 1), (282, .invokestatic 56, 3), (285, .ifCond .ne 7, 3), (288, .iconst 1, 1), (289, .goto 4, 3), (292, .iconst 0, 1), (293, .if_icmp .eq 5, 3), (296, .iconst 0, 1), (297, .ireturn, 1), (298, .iinc 9 1, 3), (301, .goto (-91), 3), (304, .iload 4, 2), (306, .aload_n 0, 1), (307, .getfield 16, 3), (310, .iload 5, 2), (312, .aaload, 1), (313, .iload 6, 2), (315, .iaload, 1), (316, .iconst 4, 1), (317, .if_icmp .ne 16, 3), (320, .aload_n 0, 1)]
theorem dTX7_isSame_2_ok : ∀ (k : Nat) (q : Nat × Instr × Nat), dTX7_isSame_2[k]? = some q → decode cX7_isSame q.1 = .ok q.2 := dT_of (by decide +kernel)
theorem dX7_isSame_210 : decode cX7_isSame 210 = .ok (.iload 9, 2) := dTX7_isSame_2_ok 0 (210, .iload 9, 2) rfl
theorem dX7_isSame_212 : decode cX7_isSame 212 = .ok (.iconst 4, 1) := dTX7_isSame_2_ok 1 (212, .iconst 4, 1) rfl
theorem dX7_isSame_213 : decode cX7_isSame 213 = .ok (.if_icmp .ge 91, 3) := dTX7_isSame_2_ok 2 (213, .if_icmp .ge 91, 3) rfl
theorem dX7_isSame_216 : decode cX7_isSame 216 = .ok (.iload_n 3, 1) := dTX7_isSame_2_ok 3 (216, .iload_n 3, 1) rfl
theorem dX7_isSame_217 : decode cX7_isSame 217 = .ok (.aload_n 0, 1) := dTX7_isSame_2_ok 4 (217, .aload_n 0, 1) rfl
theorem dX7_isSame_218 : decode cX7_isSame 218 = .ok (.getfield 9, 3) := dTX7_isSame_2_ok 5 (218, .getfield 9, 3) rfl
theorem dX7_isSame_221 : decode cX7_isSame 221 = .ok (.iload 5, 2) := dTX7_isSame_2_ok 6 (221, .iload 5, 2) rfl
theorem dX7_isSame_223 : decode cX7_isSame 223 = .ok (.aaload, 1) := dTX7_isSame_2_ok 7 (223, .aaload, 1) rfl
theorem dX7_isSame_224 : decode cX7_isSame 224 = .ok (.iload 6, 2) := dTX7_isSame_2_ok 8 (224, .iload 6, 2) rfl
theorem dX7_isSame_226 : decode cX7_isSame 226 = .ok (.aaload, 1) := dTX7_isSame_2_ok 9 (226, .aaload, 1) rfl
theorem dX7_isSame_227 : decode cX7_isSame 227 = .ok (.iload 9, 2) := dTX7_isSame_2_ok 10 (227, .iload 9, 2) rfl
theorem dX7_isSame_229 : decode cX7_isSame 229 = .ok (.baload, 1) := dTX7_isSame_2_ok 11 (229, .baload, 1) rfl
theorem dX7_isSame_230 : decode cX7_isSame 230 = .ok (.ifCond .eq 7, 3) := dTX7_isSame_2_ok 12 (230, .ifCond .eq 7, 3) rfl
theorem dX7_isSame_233 : decode cX7_isSame 233 = .ok (.iconst 1, 1) := dTX7_isSame_2_ok 13 (233, .iconst 1, 1) rfl
theorem dX7_isSame_234 : decode cX7_isSame 234 = .ok (.goto 4, 3) := dTX7_isSame_2_ok 14 (234, .goto 4, 3) rfl
theorem dX7_isSame_237 : decode cX7_isSame 237 = .ok (.iconst 0, 1) := dTX7_isSame_2_ok 15 (237, .iconst 0, 1) rfl
theorem dX7_isSame_238 : decode cX7_isSame 238 = .ok (.iadd, 1) := dTX7_isSame_2_ok 16 (238, .iadd, 1) rfl
theorem dX7_isSame_239 : decode cX7_isSame 239 = .ok (.istore_n 3, 1) := dTX7_isSame_2_ok 17 (239, .istore_n 3, 1) rfl
theorem dX7_isSame_240 : decode cX7_isSame 240 = .ok (.aload_n 1, 1) := dTX7_isSame_2_ok 18 (240, .aload_n 1, 1) rfl
theorem dX7_isSame_241 : decode cX7_isSame 241 = .ok (.iload 5, 2) := dTX7_isSame_2_ok 19 (241, .iload 5, 2) rfl
theorem dX7_isSame_243 : decode cX7_isSame 243 = .ok (.iload 6, 2) := dTX7_isSame_2_ok 20 (243, .iload 6, 2) rfl
theorem dX7_isSame_245 : decode cX7_isSame 245 = .ok (.iload 9, 2) := dTX7_isSame_2_ok 21 (245, .iload 9, 2) rfl
theorem dX7_isSame_247 : decode cX7_isSame 247 = .ok (.invokevirtual 110, 3) := dTX7_isSame_2_ok 22 (247, .invokevirtual 110, 3) rfl
theorem dX7_isSame_250 : decode cX7_isSame 250 = .ok (.aload_n 0, 1) := dTX7_isSame_2_ok 23 (250, .aload_n 0, 1) rfl
theorem dX7_isSame_251 : decode cX7_isSame 251 = .ok (.getfield 9, 3) := dTX7_isSame_2_ok 24 (251, .getfield 9, 3) rfl
theorem dX7_isSame_254 : decode cX7_isSame 254 = .ok (.iload 5, 2) := dTX7_isSame_2_ok 25 (254, .iload 5, 2) rfl
theorem dX7_isSame_256 : decode cX7_isSame 256 = .ok (.aaload, 1) := dTX7_isSame_2_ok 26 (256, .aaload, 1) rfl
theorem dX7_isSame_257 : decode cX7_isSame 257 = .ok (.iload 6, 2) := dTX7_isSame_2_ok 27 (257, .iload 6, 2) rfl
theorem dX7_isSame_259 : decode cX7_isSame 259 = .ok (.aaload, 1) := dTX7_isSame_2_ok 28 (259, .aaload, 1) rfl
theorem dX7_isSame_260 : decode cX7_isSame 260 = .ok (.iload 9, 2) := dTX7_isSame_2_ok 29 (260, .iload 9, 2) rfl
theorem dX7_isSame_262 : decode cX7_isSame 262 = .ok (.baload, 1) := dTX7_isSame_2_ok 30 (262, .baload, 1) rfl
theorem dX7_isSame_263 : decode cX7_isSame 263 = .ok (.ifCond .ne 25, 3) := dTX7_isSame_2_ok 31 (263, .ifCond .ne 25, 3) rfl
theorem dX7_isSame_266 : decode cX7_isSame 266 = .ok (.iload 5, 2) := dTX7_isSame_2_ok 32 (266, .iload 5, 2) rfl
theorem dX7_isSame_268 : decode cX7_isSame 268 = .ok (.iload 9, 2) := dTX7_isSame_2_ok 33 (268, .iload 9, 2) rfl
theorem dX7_isSame_270 : decode cX7_isSame 270 = .ok (.invokestatic 49, 3) := dTX7_isSame_2_ok 34 (270, .invokestatic 49, 3) rfl
theorem dX7_isSame_273 : decode cX7_isSame 273 = .ok (.iadd, 1) := dTX7_isSame_2_ok 35 (273, .iadd, 1) rfl
theorem dX7_isSame_274 : decode cX7_isSame 274 = .ok (.iload 6, 2) := dTX7_isSame_2_ok 36 (274, .iload 6, 2) rfl
theorem dX7_isSame_276 : decode cX7_isSame 276 = .ok (.iload 9, 2) := dTX7_isSame_2_ok 37 (276, .iload 9, 2) rfl
theorem dX7_isSame_278 : decode cX7_isSame 278 = .ok (.invokestatic 53, 3) := dTX7_isSame_2_ok 38 (278, .invokestatic 53, 3) rfl
theorem dX7_isSame_281 : decode cX7_isSame 281 = .ok (.iadd, 1) := dTX7_isSame_2_ok 39 (281, .iadd, 1) rfl
theorem dX7_isSame_282 : decode cX7_isSame 282 = .ok (.invokestatic 56, 3) := dTX7_isSame_2_ok 40 (282, .invokestatic 56, 3) rfl
theorem dX7_isSame_285 : decode cX7_isSame 285 = .ok (.ifCond .ne 7, 3) := dTX7_isSame_2_ok 41 (285, .ifCond .ne 7, 3) rfl
theorem dX7_isSame_288 : decode cX7_isSame 288 = .ok (.iconst 1, 1) := dTX7_isSame_2_ok 42 (288, .iconst 1, 1) rfl
theorem dX7_isSame_289 : decode cX7_isSame 289 = .ok (.goto 4, 3) := dTX7_isSame_2_ok 43 (289, .goto 4, 3) rfl
theorem dX7_isSame_292 : decode cX7_isSame 292 = .ok (.iconst 0, 1) := dTX7_isSame_2_ok 44 (292, .iconst 0, 1) rfl
theorem dX7_isSame_293 : decode cX7_isSame 293 = .ok (.if_icmp .eq 5, 3) := dTX7_isSame_2_ok 45 (293, .if_icmp .eq 5, 3) rfl
theorem dX7_isSame_296 : decode cX7_isSame 296 = .ok (.iconst 0, 1) := dTX7_isSame_2_ok 46 (296, .iconst 0, 1) rfl
theorem dX7_isSame_297 : decode cX7_isSame 297 = .ok (.ireturn, 1) := dTX7_isSame_2_ok 47 (297, .ireturn, 1) rfl
theorem dX7_isSame_298 : decode cX7_isSame 298 = .ok (.iinc 9 1, 3) := dTX7_isSame_2_ok 48 (298, .iinc 9 1, 3) rfl
theorem dX7_isSame_301 : decode cX7_isSame 301 = .ok (.goto (-91), 3) := dTX7_isSame_2_ok 49 (301, .goto (-91), 3) rfl
theorem dX7_isSame_304 : decode cX7_isSame 304 = .ok (.iload 4, 2) := dTX7_isSame_2_ok 50 (304, .iload 4, 2) rfl
theorem dX7_isSame_306 : decode cX7_isSame 306 = .ok (.aload_n 0, 1) := dTX7_isSame_2_ok 51 (306, .aload_n 0, 1) rfl
theorem dX7_isSame_307 : decode cX7_isSame 307 = .ok (.getfield 16, 3) := dTX7_isSame_2_ok 52 (307, .getfield 16, 3) rfl
theorem dX7_isSame_310 : decode cX7_isSame 310 = .ok (.iload 5, 2) := dTX7_isSame_2_ok 53 (310, .iload 5, 2) rfl
theorem dX7_isSame_312 : decode cX7_isSame 312 = .ok (.aaload, 1) := dTX7_isSame_2_ok 54 (312, .aaload, 1) rfl
theorem dX7_isSame_313 : decode cX7_isSame 313 = .ok (.iload 6, 2) := dTX7_isSame_2_ok 55 (313, .iload 6, 2) rfl
theorem dX7_isSame_315 : decode cX7_isSame 315 = .ok (.iaload, 1) := dTX7_isSame_2_ok 56 (315, .iaload, 1) rfl
theorem dX7_isSame_316 : decode cX7_isSame 316 = .ok (.iconst 4, 1) := dTX7_isSame_2_ok 57 (316, .iconst 4, 1) rfl
theorem dX7_isSame_317 : decode cX7_isSame 317 = .ok (.if_icmp .ne 16, 3) := dTX7_isSame_2_ok 58 (317, .if_icmp .ne 16, 3) rfl
theorem dX7_isSame_320 : decode cX7_isSame 320 = .ok (.aload_n 0, 1) := dTX7_isSame_2_ok 59 (320, .aload_n 0, 1) rfl
noncomputable def dTX7_isSame_3 : List (Nat × Instr × Nat) := [(321, .getfield 19, 3), (324, .iload 5, 2), (326, .aaload, 1), (327, .iload 6, 2), (329, .iaload, 1), (330, .goto 4, 3), (333, .iconst 0, 1), (334, .iadd, 1), (335, .istore 4, 2), (337, .iinc 6 1, 3), (340, .goto (-317), 3), (343, .iinc 5 1, 3), (346, .goto (-333), 3), (349, .iconst 0, 1), (350, .istore 5, 2), (352, .iload 5, 2), (354, .aload_n 0, 1), (355, .getfield 29, 3), (358, .arraylength, 1), (359, .if_icmp .ge 132, 3), (362, .aload_n 0, 1), (363, .getfield 29, 3), (366, .iload 5, 2), (368, .aaload, 1), (369, .astore 6, 2), (371, .bipush 8, 2), (373, .newarray .int, 2), (375, .dup, 1), (376, .iconst 0, 1), (377, .aload 6, 2), (379, .getfield 68, 3), (382, .iastore, 1), (383, .dup, 1), (384, .iconst 1, 1), (385, .aload 6, 2), (387, .getfield 71, 3), (390, .iastore, 1), (391, .dup, 1), (392, .iconst 2, 1), (393, .aload 6, 2), (395, .getfield 91, 3), (398, .iastore, 1), (399, .dup, 1), (400, .iconst 3, 1), (401, .aload 6, 2), (403, .getfield 78, 3), (406, .iastore, 1), (407, .dup, 1), (408, .iconst 4, 1), (409, .aload 6, 2), (411, .getfield 81, 3), (414, .iastore, 1), (415, .dup, 1), (416, .iconst 5, 1), (417, .aload 6, 2), (419, .getfield 74, 3), (422, .ifCond .eq 7, 3), (425, .iconst 1, 1), (426, .goto 4, 3), (429, .iconst 0, 1)]
theorem dTX7_isSame_3_ok : ∀ (k : Nat) (q : Nat × Instr × Nat), dTX7_isSame_3[k]? = some q → decode cX7_isSame q.1 = .ok q.2 := dT_of (by decide +kernel)
theorem dX7_isSame_321 : decode cX7_isSame 321 = .ok (.getfield 19, 3) := dTX7_isSame_3_ok 0 (321, .getfield 19, 3) rfl
theorem dX7_isSame_324 : decode cX7_isSame 324 = .ok (.iload 5, 2) := dTX7_isSame_3_ok 1 (324, .iload 5, 2) rfl
theorem dX7_isSame_326 : decode cX7_isSame 326 = .ok (.aaload, 1) := dTX7_isSame_3_ok 2 (326, .aaload, 1) rfl
theorem dX7_isSame_327 : decode cX7_isSame 327 = .ok (.iload 6, 2) := dTX7_isSame_3_ok 3 (327, .iload 6, 2) rfl
theorem dX7_isSame_329 : decode cX7_isSame 329 = .ok (.iaload, 1) := dTX7_isSame_3_ok 4 (329, .iaload, 1) rfl
theorem dX7_isSame_330 : decode cX7_isSame 330 = .ok (.goto 4, 3) := dTX7_isSame_3_ok 5 (330, .goto 4, 3) rfl
theorem dX7_isSame_333 : decode cX7_isSame 333 = .ok (.iconst 0, 1) := dTX7_isSame_3_ok 6 (333, .iconst 0, 1) rfl
theorem dX7_isSame_334 : decode cX7_isSame 334 = .ok (.iadd, 1) := dTX7_isSame_3_ok 7 (334, .iadd, 1) rfl
theorem dX7_isSame_335 : decode cX7_isSame 335 = .ok (.istore 4, 2) := dTX7_isSame_3_ok 8 (335, .istore 4, 2) rfl
theorem dX7_isSame_337 : decode cX7_isSame 337 = .ok (.iinc 6 1, 3) := dTX7_isSame_3_ok 9 (337, .iinc 6 1, 3) rfl
theorem dX7_isSame_340 : decode cX7_isSame 340 = .ok (.goto (-317), 3) := dTX7_isSame_3_ok 10 (340, .goto (-317), 3) rfl
theorem dX7_isSame_343 : decode cX7_isSame 343 = .ok (.iinc 5 1, 3) := dTX7_isSame_3_ok 11 (343, .iinc 5 1, 3) rfl
theorem dX7_isSame_346 : decode cX7_isSame 346 = .ok (.goto (-333), 3) := dTX7_isSame_3_ok 12 (346, .goto (-333), 3) rfl
theorem dX7_isSame_349 : decode cX7_isSame 349 = .ok (.iconst 0, 1) := dTX7_isSame_3_ok 13 (349, .iconst 0, 1) rfl
theorem dX7_isSame_350 : decode cX7_isSame 350 = .ok (.istore 5, 2) := dTX7_isSame_3_ok 14 (350, .istore 5, 2) rfl
theorem dX7_isSame_352 : decode cX7_isSame 352 = .ok (.iload 5, 2) := dTX7_isSame_3_ok 15 (352, .iload 5, 2) rfl
theorem dX7_isSame_354 : decode cX7_isSame 354 = .ok (.aload_n 0, 1) := dTX7_isSame_3_ok 16 (354, .aload_n 0, 1) rfl
theorem dX7_isSame_355 : decode cX7_isSame 355 = .ok (.getfield 29, 3) := dTX7_isSame_3_ok 17 (355, .getfield 29, 3) rfl
theorem dX7_isSame_358 : decode cX7_isSame 358 = .ok (.arraylength, 1) := dTX7_isSame_3_ok 18 (358, .arraylength, 1) rfl
theorem dX7_isSame_359 : decode cX7_isSame 359 = .ok (.if_icmp .ge 132, 3) := dTX7_isSame_3_ok 19 (359, .if_icmp .ge 132, 3) rfl
theorem dX7_isSame_362 : decode cX7_isSame 362 = .ok (.aload_n 0, 1) := dTX7_isSame_3_ok 20 (362, .aload_n 0, 1) rfl
theorem dX7_isSame_363 : decode cX7_isSame 363 = .ok (.getfield 29, 3) := dTX7_isSame_3_ok 21 (363, .getfield 29, 3) rfl
theorem dX7_isSame_366 : decode cX7_isSame 366 = .ok (.iload 5, 2) := dTX7_isSame_3_ok 22 (366, .iload 5, 2) rfl
theorem dX7_isSame_368 : decode cX7_isSame 368 = .ok (.aaload, 1) := dTX7_isSame_3_ok 23 (368, .aaload, 1) rfl
theorem dX7_isSame_369 : decode cX7_isSame 369 = .ok (.astore 6, 2) := dTX7_isSame_3_ok 24 (369, .astore 6, 2) rfl
theorem dX7_isSame_371 : decode cX7_isSame 371 = .ok (.bipush 8, 2) := dTX7_isSame_3_ok 25 (371, .bipush 8, 2) rfl
theorem dX7_isSame_373 : decode cX7_isSame 373 = .ok (.newarray .int, 2) := dTX7_isSame_3_ok 26 (373, .newarray .int, 2) rfl
theorem dX7_isSame_375 : decode cX7_isSame 375 = .ok (.dup, 1) := dTX7_isSame_3_ok 27 (375, .dup, 1) rfl
theorem dX7_isSame_376 : decode cX7_isSame 376 = .ok (.iconst 0, 1) := dTX7_isSame_3_ok 28 (376, .iconst 0, 1) rfl
theorem dX7_isSame_377 : decode cX7_isSame 377 = .ok (.aload 6, 2) := dTX7_isSame_3_ok 29 (377, .aload 6, 2) rfl
theorem dX7_isSame_379 : decode cX7_isSame 379 = .ok (.getfield 68, 3) := dTX7_isSame_3_ok 30 (379, .getfield 68, 3) rfl
theorem dX7_isSame_382 : decode cX7_isSame 382 = .ok (.iastore, 1) := dTX7_isSame_3_ok 31 (382, .iastore, 1) rfl
theorem dX7_isSame_383 : decode cX7_isSame 383 = .ok (.dup, 1) := dTX7_isSame_3_ok 32 (383, .dup, 1) rfl
theorem dX7_isSame_384 : decode cX7_isSame 384 = .ok (.iconst 1, 1) := dTX7_isSame_3_ok 33 (384, .iconst 1, 1) rfl
theorem dX7_isSame_385 : decode cX7_isSame 385 = .ok (.aload 6, 2) := dTX7_isSame_3_ok 34 (385, .aload 6, 2) rfl
theorem dX7_isSame_387 : decode cX7_isSame 387 = .ok (.getfield 71, 3) := dTX7_isSame_3_ok 35 (387, .getfield 71, 3) rfl
theorem dX7_isSame_390 : decode cX7_isSame 390 = .ok (.iastore, 1) := dTX7_isSame_3_ok 36 (390, .iastore, 1) rfl
theorem dX7_isSame_391 : decode cX7_isSame 391 = .ok (.dup, 1) := dTX7_isSame_3_ok 37 (391, .dup, 1) rfl
theorem dX7_isSame_392 : decode cX7_isSame 392 = .ok (.iconst 2, 1) := dTX7_isSame_3_ok 38 (392, .iconst 2, 1) rfl
theorem dX7_isSame_393 : decode cX7_isSame 393 = .ok (.aload 6, 2) := dTX7_isSame_3_ok 39 (393, .aload 6, 2) rfl
theorem dX7_isSame_395 : decode cX7_isSame 395 = .ok (.getfield 91, 3) := dTX7_isSame_3_ok 40 (395, .getfield 91, 3) rfl
theorem dX7_isSame_398 : decode cX7_isSame 398 = .ok (.iastore, 1) := dTX7_isSame_3_ok 41 (398, .iastore, 1) rfl
theorem dX7_isSame_399 : decode cX7_isSame 399 = .ok (.dup, 1) := dTX7_isSame_3_ok 42 (399, .dup, 1) rfl
theorem dX7_isSame_400 : decode cX7_isSame 400 = .ok (.iconst 3, 1) := dTX7_isSame_3_ok 43 (400, .iconst 3, 1) rfl
theorem dX7_isSame_401 : decode cX7_isSame 401 = .ok (.aload 6, 2) := dTX7_isSame_3_ok 44 (401, .aload 6, 2) rfl
theorem dX7_isSame_403 : decode cX7_isSame 403 = .ok (.getfield 78, 3) := dTX7_isSame_3_ok 45 (403, .getfield 78, 3) rfl
theorem dX7_isSame_406 : decode cX7_isSame 406 = .ok (.iastore, 1) := dTX7_isSame_3_ok 46 (406, .iastore, 1) rfl
theorem dX7_isSame_407 : decode cX7_isSame 407 = .ok (.dup, 1) := dTX7_isSame_3_ok 47 (407, .dup, 1) rfl
theorem dX7_isSame_408 : decode cX7_isSame 408 = .ok (.iconst 4, 1) := dTX7_isSame_3_ok 48 (408, .iconst 4, 1) rfl
theorem dX7_isSame_409 : decode cX7_isSame 409 = .ok (.aload 6, 2) := dTX7_isSame_3_ok 49 (409, .aload 6, 2) rfl
theorem dX7_isSame_411 : decode cX7_isSame 411 = .ok (.getfield 81, 3) := dTX7_isSame_3_ok 50 (411, .getfield 81, 3) rfl
theorem dX7_isSame_414 : decode cX7_isSame 414 = .ok (.iastore, 1) := dTX7_isSame_3_ok 51 (414, .iastore, 1) rfl
theorem dX7_isSame_415 : decode cX7_isSame 415 = .ok (.dup, 1) := dTX7_isSame_3_ok 52 (415, .dup, 1) rfl
theorem dX7_isSame_416 : decode cX7_isSame 416 = .ok (.iconst 5, 1) := dTX7_isSame_3_ok 53 (416, .iconst 5, 1) rfl
theorem dX7_isSame_417 : decode cX7_isSame 417 = .ok (.aload 6, 2) := dTX7_isSame_3_ok 54 (417, .aload 6, 2) rfl
theorem dX7_isSame_419 : decode cX7_isSame 419 = .ok (.getfield 74, 3) := dTX7_isSame_3_ok 55 (419, .getfield 74, 3) rfl
theorem dX7_isSame_422 : decode cX7_isSame 422 = .ok (.ifCond .eq 7, 3) := dTX7_isSame_3_ok 56 (422, .ifCond .eq 7, 3) rfl
theorem dX7_isSame_425 : decode cX7_isSame 425 = .ok (.iconst 1, 1) := dTX7_isSame_3_ok 57 (425, .iconst 1, 1) rfl
theorem dX7_isSame_426 : decode cX7_isSame 426 = .ok (.goto 4, 3) := dTX7_isSame_3_ok 58 (426, .goto 4, 3) rfl
theorem dX7_isSame_429 : decode cX7_isSame 429 = .ok (.iconst 0, 1) := dTX7_isSame_3_ok 59 (429, .iconst 0, 1) rfl
noncomputable def dTX7_isSame_4 : List (Nat × Instr × Nat) := [(430, .iastore, 1), (431, .dup, 1), (432, .bipush 6, 2), (434, .aload 6, 2), (436, .getfield 101, 3), (439, .iastore, 1), (440, .dup, 1), (441, .bipush 7, 2), (443, .aload 6, 2), (445, .getfield 98, 3), (448, .iastore, 1), (449, .astore 7, 2), (451, .iconst 0, 1), (452, .istore 8, 2), (454, .iload 8, 2), (456, .bipush 8, 2), (458, .if_icmp .ge 27, 3), (461, .aload_n 1, 1), (462, .iload 5, 2), (464, .iload 8, 2), (466, .invokevirtual 114, 3), (469, .aload 7, 2), (471, .iload 8, 2), (473, .iaload, 1), (474, .if_icmp .eq 5, 3), (477, .iconst 0, 1), (478, .ireturn, 1), (479, .iinc 8 1, 3), (482, .goto (-28), 3), (485, .iinc 5 1, 3), (488, .goto (-136), 3), (491, .bipush 10, 2), (493, .newarray .int, 2), (495, .dup, 1), (496, .iconst 0, 1), (497, .aload_n 0, 1), (498, .getfield 45, 3), (501, .iastore, 1), (502, .dup, 1), (503, .iconst 1, 1), (504, .aload_n 0, 1), (505, .getfield 29, 3), (508, .arraylength, 1), (509, .iastore, 1), (510, .dup, 1), (511, .iconst 2, 1), (512, .aload_n 0, 1), (513, .iconst 1, 1), (514, .invokevirtual 118, 3), (517, .iastore, 1), (518, .dup, 1), (519, .iconst 3, 1), (520, .aload_n 0, 1), (521, .invokevirtual 121, 3), (524, .iastore, 1), (525, .dup, 1), (526, .iconst 4, 1), (527, .aload_n 0, 1), (528, .iconst 2, 1), (529, .invokevirtual 118, 3)]
theorem dTX7_isSame_4_ok : ∀ (k : Nat) (q : Nat × Instr × Nat), dTX7_isSame_4[k]? = some q → decode cX7_isSame q.1 = .ok q.2 := dT_of (by decide +kernel)
theorem dX7_isSame_430 : decode cX7_isSame 430 = .ok (.iastore, 1) := dTX7_isSame_4_ok 0 (430, .iastore, 1) rfl
theorem dX7_isSame_431 : decode cX7_isSame 431 = .ok (.dup, 1) := dTX7_isSame_4_ok 1 (431, .dup, 1) rfl
theorem dX7_isSame_432 : decode cX7_isSame 432 = .ok (.bipush 6, 2) := dTX7_isSame_4_ok 2 (432, .bipush 6, 2) rfl
theorem dX7_isSame_434 : decode cX7_isSame 434 = .ok (.aload 6, 2) := dTX7_isSame_4_ok 3 (434, .aload 6, 2) rfl
theorem dX7_isSame_436 : decode cX7_isSame 436 = .ok (.getfield 101, 3) := dTX7_isSame_4_ok 4 (436, .getfield 101, 3) rfl
theorem dX7_isSame_439 : decode cX7_isSame 439 = .ok (.iastore, 1) := dTX7_isSame_4_ok 5 (439, .iastore, 1) rfl
theorem dX7_isSame_440 : decode cX7_isSame 440 = .ok (.dup, 1) := dTX7_isSame_4_ok 6 (440, .dup, 1) rfl
theorem dX7_isSame_441 : decode cX7_isSame 441 = .ok (.bipush 7, 2) := dTX7_isSame_4_ok 7 (441, .bipush 7, 2) rfl
theorem dX7_isSame_443 : decode cX7_isSame 443 = .ok (.aload 6, 2) := dTX7_isSame_4_ok 8 (443, .aload 6, 2) rfl
theorem dX7_isSame_445 : decode cX7_isSame 445 = .ok (.getfield 98, 3) := dTX7_isSame_4_ok 9 (445, .getfield 98, 3) rfl
theorem dX7_isSame_448 : decode cX7_isSame 448 = .ok (.iastore, 1) := dTX7_isSame_4_ok 10 (448, .iastore, 1) rfl
theorem dX7_isSame_449 : decode cX7_isSame 449 = .ok (.astore 7, 2) := dTX7_isSame_4_ok 11 (449, .astore 7, 2) rfl
theorem dX7_isSame_451 : decode cX7_isSame 451 = .ok (.iconst 0, 1) := dTX7_isSame_4_ok 12 (451, .iconst 0, 1) rfl
theorem dX7_isSame_452 : decode cX7_isSame 452 = .ok (.istore 8, 2) := dTX7_isSame_4_ok 13 (452, .istore 8, 2) rfl
theorem dX7_isSame_454 : decode cX7_isSame 454 = .ok (.iload 8, 2) := dTX7_isSame_4_ok 14 (454, .iload 8, 2) rfl
theorem dX7_isSame_456 : decode cX7_isSame 456 = .ok (.bipush 8, 2) := dTX7_isSame_4_ok 15 (456, .bipush 8, 2) rfl
theorem dX7_isSame_458 : decode cX7_isSame 458 = .ok (.if_icmp .ge 27, 3) := dTX7_isSame_4_ok 16 (458, .if_icmp .ge 27, 3) rfl
theorem dX7_isSame_461 : decode cX7_isSame 461 = .ok (.aload_n 1, 1) := dTX7_isSame_4_ok 17 (461, .aload_n 1, 1) rfl
theorem dX7_isSame_462 : decode cX7_isSame 462 = .ok (.iload 5, 2) := dTX7_isSame_4_ok 18 (462, .iload 5, 2) rfl
theorem dX7_isSame_464 : decode cX7_isSame 464 = .ok (.iload 8, 2) := dTX7_isSame_4_ok 19 (464, .iload 8, 2) rfl
theorem dX7_isSame_466 : decode cX7_isSame 466 = .ok (.invokevirtual 114, 3) := dTX7_isSame_4_ok 20 (466, .invokevirtual 114, 3) rfl
theorem dX7_isSame_469 : decode cX7_isSame 469 = .ok (.aload 7, 2) := dTX7_isSame_4_ok 21 (469, .aload 7, 2) rfl
theorem dX7_isSame_471 : decode cX7_isSame 471 = .ok (.iload 8, 2) := dTX7_isSame_4_ok 22 (471, .iload 8, 2) rfl
theorem dX7_isSame_473 : decode cX7_isSame 473 = .ok (.iaload, 1) := dTX7_isSame_4_ok 23 (473, .iaload, 1) rfl
theorem dX7_isSame_474 : decode cX7_isSame 474 = .ok (.if_icmp .eq 5, 3) := dTX7_isSame_4_ok 24 (474, .if_icmp .eq 5, 3) rfl
theorem dX7_isSame_477 : decode cX7_isSame 477 = .ok (.iconst 0, 1) := dTX7_isSame_4_ok 25 (477, .iconst 0, 1) rfl
theorem dX7_isSame_478 : decode cX7_isSame 478 = .ok (.ireturn, 1) := dTX7_isSame_4_ok 26 (478, .ireturn, 1) rfl
theorem dX7_isSame_479 : decode cX7_isSame 479 = .ok (.iinc 8 1, 3) := dTX7_isSame_4_ok 27 (479, .iinc 8 1, 3) rfl
theorem dX7_isSame_482 : decode cX7_isSame 482 = .ok (.goto (-28), 3) := dTX7_isSame_4_ok 28 (482, .goto (-28), 3) rfl
theorem dX7_isSame_485 : decode cX7_isSame 485 = .ok (.iinc 5 1, 3) := dTX7_isSame_4_ok 29 (485, .iinc 5 1, 3) rfl
theorem dX7_isSame_488 : decode cX7_isSame 488 = .ok (.goto (-136), 3) := dTX7_isSame_4_ok 30 (488, .goto (-136), 3) rfl
theorem dX7_isSame_491 : decode cX7_isSame 491 = .ok (.bipush 10, 2) := dTX7_isSame_4_ok 31 (491, .bipush 10, 2) rfl
theorem dX7_isSame_493 : decode cX7_isSame 493 = .ok (.newarray .int, 2) := dTX7_isSame_4_ok 32 (493, .newarray .int, 2) rfl
theorem dX7_isSame_495 : decode cX7_isSame 495 = .ok (.dup, 1) := dTX7_isSame_4_ok 33 (495, .dup, 1) rfl
theorem dX7_isSame_496 : decode cX7_isSame 496 = .ok (.iconst 0, 1) := dTX7_isSame_4_ok 34 (496, .iconst 0, 1) rfl
theorem dX7_isSame_497 : decode cX7_isSame 497 = .ok (.aload_n 0, 1) := dTX7_isSame_4_ok 35 (497, .aload_n 0, 1) rfl
theorem dX7_isSame_498 : decode cX7_isSame 498 = .ok (.getfield 45, 3) := dTX7_isSame_4_ok 36 (498, .getfield 45, 3) rfl
theorem dX7_isSame_501 : decode cX7_isSame 501 = .ok (.iastore, 1) := dTX7_isSame_4_ok 37 (501, .iastore, 1) rfl
theorem dX7_isSame_502 : decode cX7_isSame 502 = .ok (.dup, 1) := dTX7_isSame_4_ok 38 (502, .dup, 1) rfl
theorem dX7_isSame_503 : decode cX7_isSame 503 = .ok (.iconst 1, 1) := dTX7_isSame_4_ok 39 (503, .iconst 1, 1) rfl
theorem dX7_isSame_504 : decode cX7_isSame 504 = .ok (.aload_n 0, 1) := dTX7_isSame_4_ok 40 (504, .aload_n 0, 1) rfl
theorem dX7_isSame_505 : decode cX7_isSame 505 = .ok (.getfield 29, 3) := dTX7_isSame_4_ok 41 (505, .getfield 29, 3) rfl
theorem dX7_isSame_508 : decode cX7_isSame 508 = .ok (.arraylength, 1) := dTX7_isSame_4_ok 42 (508, .arraylength, 1) rfl
theorem dX7_isSame_509 : decode cX7_isSame 509 = .ok (.iastore, 1) := dTX7_isSame_4_ok 43 (509, .iastore, 1) rfl
theorem dX7_isSame_510 : decode cX7_isSame 510 = .ok (.dup, 1) := dTX7_isSame_4_ok 44 (510, .dup, 1) rfl
theorem dX7_isSame_511 : decode cX7_isSame 511 = .ok (.iconst 2, 1) := dTX7_isSame_4_ok 45 (511, .iconst 2, 1) rfl
theorem dX7_isSame_512 : decode cX7_isSame 512 = .ok (.aload_n 0, 1) := dTX7_isSame_4_ok 46 (512, .aload_n 0, 1) rfl
theorem dX7_isSame_513 : decode cX7_isSame 513 = .ok (.iconst 1, 1) := dTX7_isSame_4_ok 47 (513, .iconst 1, 1) rfl
theorem dX7_isSame_514 : decode cX7_isSame 514 = .ok (.invokevirtual 118, 3) := dTX7_isSame_4_ok 48 (514, .invokevirtual 118, 3) rfl
theorem dX7_isSame_517 : decode cX7_isSame 517 = .ok (.iastore, 1) := dTX7_isSame_4_ok 49 (517, .iastore, 1) rfl
theorem dX7_isSame_518 : decode cX7_isSame 518 = .ok (.dup, 1) := dTX7_isSame_4_ok 50 (518, .dup, 1) rfl
theorem dX7_isSame_519 : decode cX7_isSame 519 = .ok (.iconst 3, 1) := dTX7_isSame_4_ok 51 (519, .iconst 3, 1) rfl
theorem dX7_isSame_520 : decode cX7_isSame 520 = .ok (.aload_n 0, 1) := dTX7_isSame_4_ok 52 (520, .aload_n 0, 1) rfl
theorem dX7_isSame_521 : decode cX7_isSame 521 = .ok (.invokevirtual 121, 3) := dTX7_isSame_4_ok 53 (521, .invokevirtual 121, 3) rfl
theorem dX7_isSame_524 : decode cX7_isSame 524 = .ok (.iastore, 1) := dTX7_isSame_4_ok 54 (524, .iastore, 1) rfl
theorem dX7_isSame_525 : decode cX7_isSame 525 = .ok (.dup, 1) := dTX7_isSame_4_ok 55 (525, .dup, 1) rfl
theorem dX7_isSame_526 : decode cX7_isSame 526 = .ok (.iconst 4, 1) := dTX7_isSame_4_ok 56 (526, .iconst 4, 1) rfl
theorem dX7_isSame_527 : decode cX7_isSame 527 = .ok (.aload_n 0, 1) := dTX7_isSame_4_ok 57 (527, .aload_n 0, 1) rfl
theorem dX7_isSame_528 : decode cX7_isSame 528 = .ok (.iconst 2, 1) := dTX7_isSame_4_ok 58 (528, .iconst 2, 1) rfl
theorem dX7_isSame_529 : decode cX7_isSame 529 = .ok (.invokevirtual 118, 3) := dTX7_isSame_4_ok 59 (529, .invokevirtual 118, 3) rfl
noncomputable def dTX7_isSame_5 : List (Nat × Instr × Nat) := [(532, .aload_n 0, 1), (533, .iconst 3, 1), (534, .invokevirtual 118, 3), (537, .iadd, 1), (538, .iastore, 1), (539, .dup, 1), (540, .iconst 5, 1), (541, .aload_n 0, 1), (542, .iconst 4, 1), (543, .invokevirtual 118, 3), (546, .iastore, 1), (547, .dup, 1), (548, .bipush 6, 2), (550, .iload_n 3, 1), (551, .iconst 2, 1), (552, .idiv, 1), (553, .iastore, 1), (554, .dup, 1), (555, .bipush 7, 2), (557, .aload_n 2, 1), (558, .invokestatic 125, 3), (561, .iastore, 1), (562, .dup, 1), (563, .bipush 8, 2), (565, .aload_n 0, 1), (566, .getfield 88, 3), (569, .iastore, 1), (570, .dup, 1), (571, .bipush 9, 2), (573, .iload 4, 2), (575, .iastore, 1), (576, .astore 5, 2), (578, .iconst 0, 1), (579, .istore 6, 2), (581, .iload 6, 2), (583, .bipush 10, 2), (585, .if_icmp .ge 25, 3), (588, .aload_n 1, 1), (589, .iload 6, 2), (591, .invokevirtual 129, 3), (594, .aload 5, 2), (596, .iload 6, 2), (598, .iaload, 1), (599, .if_icmp .eq 5, 3), (602, .iconst 0, 1), (603, .ireturn, 1), (604, .iinc 6 1, 3), (607, .goto (-26), 3), (610, .aload_n 1, 1), (611, .invokevirtual 132, 3), (614, .aload_n 0, 1), (615, .iconst 4, 1), (616, .invokevirtual 118, 3), (619, .ifCond .ne 7, 3), (622, .dconst 0, 1), (623, .goto 13, 3), (626, .iload 4, 2), (628, .i2d, 1), (629, .aload_n 0, 1), (630, .iconst 4, 1)]
theorem dTX7_isSame_5_ok : ∀ (k : Nat) (q : Nat × Instr × Nat), dTX7_isSame_5[k]? = some q → decode cX7_isSame q.1 = .ok q.2 := dT_of (by decide +kernel)
theorem dX7_isSame_532 : decode cX7_isSame 532 = .ok (.aload_n 0, 1) := dTX7_isSame_5_ok 0 (532, .aload_n 0, 1) rfl
theorem dX7_isSame_533 : decode cX7_isSame 533 = .ok (.iconst 3, 1) := dTX7_isSame_5_ok 1 (533, .iconst 3, 1) rfl
theorem dX7_isSame_534 : decode cX7_isSame 534 = .ok (.invokevirtual 118, 3) := dTX7_isSame_5_ok 2 (534, .invokevirtual 118, 3) rfl
theorem dX7_isSame_537 : decode cX7_isSame 537 = .ok (.iadd, 1) := dTX7_isSame_5_ok 3 (537, .iadd, 1) rfl
theorem dX7_isSame_538 : decode cX7_isSame 538 = .ok (.iastore, 1) := dTX7_isSame_5_ok 4 (538, .iastore, 1) rfl
theorem dX7_isSame_539 : decode cX7_isSame 539 = .ok (.dup, 1) := dTX7_isSame_5_ok 5 (539, .dup, 1) rfl
theorem dX7_isSame_540 : decode cX7_isSame 540 = .ok (.iconst 5, 1) := dTX7_isSame_5_ok 6 (540, .iconst 5, 1) rfl
theorem dX7_isSame_541 : decode cX7_isSame 541 = .ok (.aload_n 0, 1) := dTX7_isSame_5_ok 7 (541, .aload_n 0, 1) rfl
theorem dX7_isSame_542 : decode cX7_isSame 542 = .ok (.iconst 4, 1) := dTX7_isSame_5_ok 8 (542, .iconst 4, 1) rfl
theorem dX7_isSame_543 : decode cX7_isSame 543 = .ok (.invokevirtual 118, 3) := dTX7_isSame_5_ok 9 (543, .invokevirtual 118, 3) rfl
theorem dX7_isSame_546 : decode cX7_isSame 546 = .ok (.iastore, 1) := dTX7_isSame_5_ok 10 (546, .iastore, 1) rfl
theorem dX7_isSame_547 : decode cX7_isSame 547 = .ok (.dup, 1) := dTX7_isSame_5_ok 11 (547, .dup, 1) rfl
theorem dX7_isSame_548 : decode cX7_isSame 548 = .ok (.bipush 6, 2) := dTX7_isSame_5_ok 12 (548, .bipush 6, 2) rfl
theorem dX7_isSame_550 : decode cX7_isSame 550 = .ok (.iload_n 3, 1) := dTX7_isSame_5_ok 13 (550, .iload_n 3, 1) rfl
theorem dX7_isSame_551 : decode cX7_isSame 551 = .ok (.iconst 2, 1) := dTX7_isSame_5_ok 14 (551, .iconst 2, 1) rfl
theorem dX7_isSame_552 : decode cX7_isSame 552 = .ok (.idiv, 1) := dTX7_isSame_5_ok 15 (552, .idiv, 1) rfl
theorem dX7_isSame_553 : decode cX7_isSame 553 = .ok (.iastore, 1) := dTX7_isSame_5_ok 16 (553, .iastore, 1) rfl
theorem dX7_isSame_554 : decode cX7_isSame 554 = .ok (.dup, 1) := dTX7_isSame_5_ok 17 (554, .dup, 1) rfl
theorem dX7_isSame_555 : decode cX7_isSame 555 = .ok (.bipush 7, 2) := dTX7_isSame_5_ok 18 (555, .bipush 7, 2) rfl
theorem dX7_isSame_557 : decode cX7_isSame 557 = .ok (.aload_n 2, 1) := dTX7_isSame_5_ok 19 (557, .aload_n 2, 1) rfl
theorem dX7_isSame_558 : decode cX7_isSame 558 = .ok (.invokestatic 125, 3) := dTX7_isSame_5_ok 20 (558, .invokestatic 125, 3) rfl
theorem dX7_isSame_561 : decode cX7_isSame 561 = .ok (.iastore, 1) := dTX7_isSame_5_ok 21 (561, .iastore, 1) rfl
theorem dX7_isSame_562 : decode cX7_isSame 562 = .ok (.dup, 1) := dTX7_isSame_5_ok 22 (562, .dup, 1) rfl
theorem dX7_isSame_563 : decode cX7_isSame 563 = .ok (.bipush 8, 2) := dTX7_isSame_5_ok 23 (563, .bipush 8, 2) rfl
theorem dX7_isSame_565 : decode cX7_isSame 565 = .ok (.aload_n 0, 1) := dTX7_isSame_5_ok 24 (565, .aload_n 0, 1) rfl
theorem dX7_isSame_566 : decode cX7_isSame 566 = .ok (.getfield 88, 3) := dTX7_isSame_5_ok 25 (566, .getfield 88, 3) rfl
theorem dX7_isSame_569 : decode cX7_isSame 569 = .ok (.iastore, 1) := dTX7_isSame_5_ok 26 (569, .iastore, 1) rfl
theorem dX7_isSame_570 : decode cX7_isSame 570 = .ok (.dup, 1) := dTX7_isSame_5_ok 27 (570, .dup, 1) rfl
theorem dX7_isSame_571 : decode cX7_isSame 571 = .ok (.bipush 9, 2) := dTX7_isSame_5_ok 28 (571, .bipush 9, 2) rfl
theorem dX7_isSame_573 : decode cX7_isSame 573 = .ok (.iload 4, 2) := dTX7_isSame_5_ok 29 (573, .iload 4, 2) rfl
theorem dX7_isSame_575 : decode cX7_isSame 575 = .ok (.iastore, 1) := dTX7_isSame_5_ok 30 (575, .iastore, 1) rfl
theorem dX7_isSame_576 : decode cX7_isSame 576 = .ok (.astore 5, 2) := dTX7_isSame_5_ok 31 (576, .astore 5, 2) rfl
theorem dX7_isSame_578 : decode cX7_isSame 578 = .ok (.iconst 0, 1) := dTX7_isSame_5_ok 32 (578, .iconst 0, 1) rfl
theorem dX7_isSame_579 : decode cX7_isSame 579 = .ok (.istore 6, 2) := dTX7_isSame_5_ok 33 (579, .istore 6, 2) rfl
theorem dX7_isSame_581 : decode cX7_isSame 581 = .ok (.iload 6, 2) := dTX7_isSame_5_ok 34 (581, .iload 6, 2) rfl
theorem dX7_isSame_583 : decode cX7_isSame 583 = .ok (.bipush 10, 2) := dTX7_isSame_5_ok 35 (583, .bipush 10, 2) rfl
theorem dX7_isSame_585 : decode cX7_isSame 585 = .ok (.if_icmp .ge 25, 3) := dTX7_isSame_5_ok 36 (585, .if_icmp .ge 25, 3) rfl
theorem dX7_isSame_588 : decode cX7_isSame 588 = .ok (.aload_n 1, 1) := dTX7_isSame_5_ok 37 (588, .aload_n 1, 1) rfl
theorem dX7_isSame_589 : decode cX7_isSame 589 = .ok (.iload 6, 2) := dTX7_isSame_5_ok 38 (589, .iload 6, 2) rfl
theorem dX7_isSame_591 : decode cX7_isSame 591 = .ok (.invokevirtual 129, 3) := dTX7_isSame_5_ok 39 (591, .invokevirtual 129, 3) rfl
theorem dX7_isSame_594 : decode cX7_isSame 594 = .ok (.aload 5, 2) := dTX7_isSame_5_ok 40 (594, .aload 5, 2) rfl
theorem dX7_isSame_596 : decode cX7_isSame 596 = .ok (.iload 6, 2) := dTX7_isSame_5_ok 41 (596, .iload 6, 2) rfl
theorem dX7_isSame_598 : decode cX7_isSame 598 = .ok (.iaload, 1) := dTX7_isSame_5_ok 42 (598, .iaload, 1) rfl
theorem dX7_isSame_599 : decode cX7_isSame 599 = .ok (.if_icmp .eq 5, 3) := dTX7_isSame_5_ok 43 (599, .if_icmp .eq 5, 3) rfl
theorem dX7_isSame_602 : decode cX7_isSame 602 = .ok (.iconst 0, 1) := dTX7_isSame_5_ok 44 (602, .iconst 0, 1) rfl
theorem dX7_isSame_603 : decode cX7_isSame 603 = .ok (.ireturn, 1) := dTX7_isSame_5_ok 45 (603, .ireturn, 1) rfl
theorem dX7_isSame_604 : decode cX7_isSame 604 = .ok (.iinc 6 1, 3) := dTX7_isSame_5_ok 46 (604, .iinc 6 1, 3) rfl
theorem dX7_isSame_607 : decode cX7_isSame 607 = .ok (.goto (-26), 3) := dTX7_isSame_5_ok 47 (607, .goto (-26), 3) rfl
theorem dX7_isSame_610 : decode cX7_isSame 610 = .ok (.aload_n 1, 1) := dTX7_isSame_5_ok 48 (610, .aload_n 1, 1) rfl
theorem dX7_isSame_611 : decode cX7_isSame 611 = .ok (.invokevirtual 132, 3) := dTX7_isSame_5_ok 49 (611, .invokevirtual 132, 3) rfl
theorem dX7_isSame_614 : decode cX7_isSame 614 = .ok (.aload_n 0, 1) := dTX7_isSame_5_ok 50 (614, .aload_n 0, 1) rfl
theorem dX7_isSame_615 : decode cX7_isSame 615 = .ok (.iconst 4, 1) := dTX7_isSame_5_ok 51 (615, .iconst 4, 1) rfl
theorem dX7_isSame_616 : decode cX7_isSame 616 = .ok (.invokevirtual 118, 3) := dTX7_isSame_5_ok 52 (616, .invokevirtual 118, 3) rfl
theorem dX7_isSame_619 : decode cX7_isSame 619 = .ok (.ifCond .ne 7, 3) := dTX7_isSame_5_ok 53 (619, .ifCond .ne 7, 3) rfl
theorem dX7_isSame_622 : decode cX7_isSame 622 = .ok (.dconst 0, 1) := dTX7_isSame_5_ok 54 (622, .dconst 0, 1) rfl
theorem dX7_isSame_623 : decode cX7_isSame 623 = .ok (.goto 13, 3) := dTX7_isSame_5_ok 55 (623, .goto 13, 3) rfl
theorem dX7_isSame_626 : decode cX7_isSame 626 = .ok (.iload 4, 2) := dTX7_isSame_5_ok 56 (626, .iload 4, 2) rfl
theorem dX7_isSame_628 : decode cX7_isSame 628 = .ok (.i2d, 1) := dTX7_isSame_5_ok 57 (628, .i2d, 1) rfl
theorem dX7_isSame_629 : decode cX7_isSame 629 = .ok (.aload_n 0, 1) := dTX7_isSame_5_ok 58 (629, .aload_n 0, 1) rfl
theorem dX7_isSame_630 : decode cX7_isSame 630 = .ok (.iconst 4, 1) := dTX7_isSame_5_ok 59 (630, .iconst 4, 1) rfl
noncomputable def dTX7_isSame_6 : List (Nat × Instr × Nat) := [(631, .invokevirtual 118, 3), (634, .i2d, 1), (635, .ddiv, 1), (636, .dcmp .l, 1), (637, .ifCond .ne 7, 3), (640, .iconst 1, 1), (641, .goto 4, 3), (644, .iconst 0, 1), (645, .ireturn, 1)]
theorem dTX7_isSame_6_ok : ∀ (k : Nat) (q : Nat × Instr × Nat), dTX7_isSame_6[k]? = some q → decode cX7_isSame q.1 = .ok q.2 := dT_of (by decide +kernel)
theorem dX7_isSame_631 : decode cX7_isSame 631 = .ok (.invokevirtual 118, 3) := dTX7_isSame_6_ok 0 (631, .invokevirtual 118, 3) rfl
theorem dX7_isSame_634 : decode cX7_isSame 634 = .ok (.i2d, 1) := dTX7_isSame_6_ok 1 (634, .i2d, 1) rfl
theorem dX7_isSame_635 : decode cX7_isSame 635 = .ok (.ddiv, 1) := dTX7_isSame_6_ok 2 (635, .ddiv, 1) rfl
theorem dX7_isSame_636 : decode cX7_isSame 636 = .ok (.dcmp .l, 1) := dTX7_isSame_6_ok 3 (636, .dcmp .l, 1) rfl
theorem dX7_isSame_637 : decode cX7_isSame 637 = .ok (.ifCond .ne 7, 3) := dTX7_isSame_6_ok 4 (637, .ifCond .ne 7, 3) rfl
theorem dX7_isSame_640 : decode cX7_isSame 640 = .ok (.iconst 1, 1) := dTX7_isSame_6_ok 5 (640, .iconst 1, 1) rfl
theorem dX7_isSame_641 : decode cX7_isSame 641 = .ok (.goto 4, 3) := dTX7_isSame_6_ok 6 (641, .goto 4, 3) rfl
theorem dX7_isSame_644 : decode cX7_isSame 644 = .ok (.iconst 0, 1) := dTX7_isSame_6_ok 7 (644, .iconst 0, 1) rfl
theorem dX7_isSame_645 : decode cX7_isSame 645 = .ok (.ireturn, 1) := dTX7_isSame_6_ok 8 (645, .ireturn, 1) rfl
noncomputable def dTJ13_bitCount_95d88_0 : List (Nat × Instr × Nat) := [(0, .lload_n 0, 1), (1, .lload_n 0, 1), (2, .iconst 1, 1), (3, .lushr, 1), (4, .ldc2_w 314, 3), (7, .land, 1), (8, .lsub, 1), (9, .lstore_n 0, 1), (10, .lload_n 0, 1), (11, .ldc2_w 316, 3), (14, .land, 1), (15, .lload_n 0, 1), (16, .iconst 2, 1), (17, .lushr, 1), (18, .ldc2_w 316, 3), (21, .land, 1), (22, .ladd, 1), (23, .lstore_n 0, 1), (24, .lload_n 0, 1), (25, .lload_n 0, 1), (26, .iconst 4, 1), (27, .lushr, 1), (28, .ladd, 1), (29, .ldc2_w 318, 3), (32, .land, 1), (33, .lstore_n 0, 1), (34, .lload_n 0, 1), (35, .lload_n 0, 1), (36, .bipush 8, 2), (38, .lushr, 1), (39, .ladd, 1), (40, .lstore_n 0, 1), (41, .lload_n 0, 1), (42, .lload_n 0, 1), (43, .bipush 16, 2), (45, .lushr, 1), (46, .ladd, 1), (47, .lstore_n 0, 1), (48, .lload_n 0, 1), (49, .lload_n 0, 1), (50, .bipush 32, 2), (52, .lushr, 1), (53, .ladd, 1), (54, .lstore_n 0, 1), (55, .lload_n 0, 1), (56, .l2i, 1), (57, .bipush 127, 2), (59, .iand, 1), (60, .ireturn, 1)]
theorem dTJ13_bitCount_95d88_0_ok : ∀ (k : Nat) (q : Nat × Instr × Nat), dTJ13_bitCount_95d88_0[k]? = some q → decode cJ13_bitCount_95d88 q.1 = .ok q.2 := dT_of (by decide +kernel)
theorem dJ13_bitCount_95d88_0 : decode cJ13_bitCount_95d88 0 = .ok (.lload_n 0, 1) := dTJ13_bitCount_95d88_0_ok 0 (0, .lload_n 0, 1) rfl
theorem dJ13_bitCount_95d88_1 : decode cJ13_bitCount_95d88 1 = .ok (.lload_n 0, 1) := dTJ13_bitCount_95d88_0_ok 1 (1, .lload_n 0, 1) rfl
theorem dJ13_bitCount_95d88_2 : decode cJ13_bitCount_95d88 2 = .ok (.iconst 1, 1) := dTJ13_bitCount_95d88_0_ok 2 (2, .iconst 1, 1) rfl
theorem dJ13_bitCount_95d88_3 : decode cJ13_bitCount_95d88 3 = .ok (.lushr, 1) := dTJ13_bitCount_95d88_0_ok 3 (3, .lushr, 1) rfl
theorem dJ13_bitCount_95d88_4 : decode cJ13_bitCount_95d88 4 = .ok (.ldc2_w 314, 3) := dTJ13_bitCount_95d88_0_ok 4 (4, .ldc2_w 314, 3) rfl
theorem dJ13_bitCount_95d88_7 : decode cJ13_bitCount_95d88 7 = .ok (.land, 1) := dTJ13_bitCount_95d88_0_ok 5 (7, .land, 1) rfl
theorem dJ13_bitCount_95d88_8 : decode cJ13_bitCount_95d88 8 = .ok (.lsub, 1) := dTJ13_bitCount_95d88_0_ok 6 (8, .lsub, 1) rfl
theorem dJ13_bitCount_95d88_9 : decode cJ13_bitCount_95d88 9 = .ok (.lstore_n 0, 1) := dTJ13_bitCount_95d88_0_ok 7 (9, .lstore_n 0, 1) rfl
theorem dJ13_bitCount_95d88_10 : decode cJ13_bitCount_95d88 10 = .ok (.lload_n 0, 1) := dTJ13_bitCount_95d88_0_ok 8 (10, .lload_n 0, 1) rfl
theorem dJ13_bitCount_95d88_11 : decode cJ13_bitCount_95d88 11 = .ok (.ldc2_w 316, 3) := dTJ13_bitCount_95d88_0_ok 9 (11, .ldc2_w 316, 3) rfl
theorem dJ13_bitCount_95d88_14 : decode cJ13_bitCount_95d88 14 = .ok (.land, 1) := dTJ13_bitCount_95d88_0_ok 10 (14, .land, 1) rfl
theorem dJ13_bitCount_95d88_15 : decode cJ13_bitCount_95d88 15 = .ok (.lload_n 0, 1) := dTJ13_bitCount_95d88_0_ok 11 (15, .lload_n 0, 1) rfl
theorem dJ13_bitCount_95d88_16 : decode cJ13_bitCount_95d88 16 = .ok (.iconst 2, 1) := dTJ13_bitCount_95d88_0_ok 12 (16, .iconst 2, 1) rfl
theorem dJ13_bitCount_95d88_17 : decode cJ13_bitCount_95d88 17 = .ok (.lushr, 1) := dTJ13_bitCount_95d88_0_ok 13 (17, .lushr, 1) rfl
theorem dJ13_bitCount_95d88_18 : decode cJ13_bitCount_95d88 18 = .ok (.ldc2_w 316, 3) := dTJ13_bitCount_95d88_0_ok 14 (18, .ldc2_w 316, 3) rfl
theorem dJ13_bitCount_95d88_21 : decode cJ13_bitCount_95d88 21 = .ok (.land, 1) := dTJ13_bitCount_95d88_0_ok 15 (21, .land, 1) rfl
theorem dJ13_bitCount_95d88_22 : decode cJ13_bitCount_95d88 22 = .ok (.ladd, 1) := dTJ13_bitCount_95d88_0_ok 16 (22, .ladd, 1) rfl
theorem dJ13_bitCount_95d88_23 : decode cJ13_bitCount_95d88 23 = .ok (.lstore_n 0, 1) := dTJ13_bitCount_95d88_0_ok 17 (23, .lstore_n 0, 1) rfl
theorem dJ13_bitCount_95d88_24 : decode cJ13_bitCount_95d88 24 = .ok (.lload_n 0, 1) := dTJ13_bitCount_95d88_0_ok 18 (24, .lload_n 0, 1) rfl
theorem dJ13_bitCount_95d88_25 : decode cJ13_bitCount_95d88 25 = .ok (.lload_n 0, 1) := dTJ13_bitCount_95d88_0_ok 19 (25, .lload_n 0, 1) rfl
theorem dJ13_bitCount_95d88_26 : decode cJ13_bitCount_95d88 26 = .ok (.iconst 4, 1) := dTJ13_bitCount_95d88_0_ok 20 (26, .iconst 4, 1) rfl
theorem dJ13_bitCount_95d88_27 : decode cJ13_bitCount_95d88 27 = .ok (.lushr, 1) := dTJ13_bitCount_95d88_0_ok 21 (27, .lushr, 1) rfl
theorem dJ13_bitCount_95d88_28 : decode cJ13_bitCount_95d88 28 = .ok (.ladd, 1) := dTJ13_bitCount_95d88_0_ok 22 (28, .ladd, 1) rfl
theorem dJ13_bitCount_95d88_29 : decode cJ13_bitCount_95d88 29 = .ok (.ldc2_w 318, 3) := dTJ13_bitCount_95d88_0_ok 23 (29, .ldc2_w 318, 3) rfl
theorem dJ13_bitCount_95d88_32 : decode cJ13_bitCount_95d88 32 = .ok (.land, 1) := dTJ13_bitCount_95d88_0_ok 24 (32, .land, 1) rfl
theorem dJ13_bitCount_95d88_33 : decode cJ13_bitCount_95d88 33 = .ok (.lstore_n 0, 1) := dTJ13_bitCount_95d88_0_ok 25 (33, .lstore_n 0, 1) rfl
theorem dJ13_bitCount_95d88_34 : decode cJ13_bitCount_95d88 34 = .ok (.lload_n 0, 1) := dTJ13_bitCount_95d88_0_ok 26 (34, .lload_n 0, 1) rfl
theorem dJ13_bitCount_95d88_35 : decode cJ13_bitCount_95d88 35 = .ok (.lload_n 0, 1) := dTJ13_bitCount_95d88_0_ok 27 (35, .lload_n 0, 1) rfl
theorem dJ13_bitCount_95d88_36 : decode cJ13_bitCount_95d88 36 = .ok (.bipush 8, 2) := dTJ13_bitCount_95d88_0_ok 28 (36, .bipush 8, 2) rfl
theorem dJ13_bitCount_95d88_38 : decode cJ13_bitCount_95d88 38 = .ok (.lushr, 1) := dTJ13_bitCount_95d88_0_ok 29 (38, .lushr, 1) rfl
theorem dJ13_bitCount_95d88_39 : decode cJ13_bitCount_95d88 39 = .ok (.ladd, 1) := dTJ13_bitCount_95d88_0_ok 30 (39, .ladd, 1) rfl
theorem dJ13_bitCount_95d88_40 : decode cJ13_bitCount_95d88 40 = .ok (.lstore_n 0, 1) := dTJ13_bitCount_95d88_0_ok 31 (40, .lstore_n 0, 1) rfl
theorem dJ13_bitCount_95d88_41 : decode cJ13_bitCount_95d88 41 = .ok (.lload_n 0, 1) := dTJ13_bitCount_95d88_0_ok 32 (41, .lload_n 0, 1) rfl
theorem dJ13_bitCount_95d88_42 : decode cJ13_bitCount_95d88 42 = .ok (.lload_n 0, 1) := dTJ13_bitCount_95d88_0_ok 33 (42, .lload_n 0, 1) rfl
theorem dJ13_bitCount_95d88_43 : decode cJ13_bitCount_95d88 43 = .ok (.bipush 16, 2) := dTJ13_bitCount_95d88_0_ok 34 (43, .bipush 16, 2) rfl
theorem dJ13_bitCount_95d88_45 : decode cJ13_bitCount_95d88 45 = .ok (.lushr, 1) := dTJ13_bitCount_95d88_0_ok 35 (45, .lushr, 1) rfl
theorem dJ13_bitCount_95d88_46 : decode cJ13_bitCount_95d88 46 = .ok (.ladd, 1) := dTJ13_bitCount_95d88_0_ok 36 (46, .ladd, 1) rfl
theorem dJ13_bitCount_95d88_47 : decode cJ13_bitCount_95d88 47 = .ok (.lstore_n 0, 1) := dTJ13_bitCount_95d88_0_ok 37 (47, .lstore_n 0, 1) rfl
theorem dJ13_bitCount_95d88_48 : decode cJ13_bitCount_95d88 48 = .ok (.lload_n 0, 1) := dTJ13_bitCount_95d88_0_ok 38 (48, .lload_n 0, 1) rfl
theorem dJ13_bitCount_95d88_49 : decode cJ13_bitCount_95d88 49 = .ok (.lload_n 0, 1) := dTJ13_bitCount_95d88_0_ok 39 (49, .lload_n 0, 1) rfl
theorem dJ13_bitCount_95d88_50 : decode cJ13_bitCount_95d88 50 = .ok (.bipush 32, 2) := dTJ13_bitCount_95d88_0_ok 40 (50, .bipush 32, 2) rfl
theorem dJ13_bitCount_95d88_52 : decode cJ13_bitCount_95d88 52 = .ok (.lushr, 1) := dTJ13_bitCount_95d88_0_ok 41 (52, .lushr, 1) rfl
theorem dJ13_bitCount_95d88_53 : decode cJ13_bitCount_95d88 53 = .ok (.ladd, 1) := dTJ13_bitCount_95d88_0_ok 42 (53, .ladd, 1) rfl
theorem dJ13_bitCount_95d88_54 : decode cJ13_bitCount_95d88 54 = .ok (.lstore_n 0, 1) := dTJ13_bitCount_95d88_0_ok 43 (54, .lstore_n 0, 1) rfl
theorem dJ13_bitCount_95d88_55 : decode cJ13_bitCount_95d88 55 = .ok (.lload_n 0, 1) := dTJ13_bitCount_95d88_0_ok 44 (55, .lload_n 0, 1) rfl
theorem dJ13_bitCount_95d88_56 : decode cJ13_bitCount_95d88 56 = .ok (.l2i, 1) := dTJ13_bitCount_95d88_0_ok 45 (56, .l2i, 1) rfl
theorem dJ13_bitCount_95d88_57 : decode cJ13_bitCount_95d88 57 = .ok (.bipush 127, 2) := dTJ13_bitCount_95d88_0_ok 46 (57, .bipush 127, 2) rfl
theorem dJ13_bitCount_95d88_59 : decode cJ13_bitCount_95d88 59 = .ok (.iand, 1) := dTJ13_bitCount_95d88_0_ok 47 (59, .iand, 1) rfl
theorem dJ13_bitCount_95d88_60 : decode cJ13_bitCount_95d88 60 = .ok (.ireturn, 1) := dTJ13_bitCount_95d88_0_ok 48 (60, .ireturn, 1) rfl
noncomputable def dTJ9_abs_0f7a4_0 : List (Nat × Instr × Nat) := [(0, .iload_n 0, 1), (1, .ifCond .ge 8, 3), (4, .iload_n 0, 1), (5, .ineg, 1), (6, .goto 4, 3), (9, .iload_n 0, 1), (10, .ireturn, 1)]
theorem dTJ9_abs_0f7a4_0_ok : ∀ (k : Nat) (q : Nat × Instr × Nat), dTJ9_abs_0f7a4_0[k]? = some q → decode cJ9_abs_0f7a4 q.1 = .ok q.2 := dT_of (by decide +kernel)
theorem dJ9_abs_0f7a4_0 : decode cJ9_abs_0f7a4 0 = .ok (.iload_n 0, 1) := dTJ9_abs_0f7a4_0_ok 0 (0, .iload_n 0, 1) rfl
theorem dJ9_abs_0f7a4_1 : decode cJ9_abs_0f7a4 1 = .ok (.ifCond .ge 8, 3) := dTJ9_abs_0f7a4_0_ok 1 (1, .ifCond .ge 8, 3) rfl
theorem dJ9_abs_0f7a4_4 : decode cJ9_abs_0f7a4 4 = .ok (.iload_n 0, 1) := dTJ9_abs_0f7a4_0_ok 2 (4, .iload_n 0, 1) rfl
theorem dJ9_abs_0f7a4_5 : decode cJ9_abs_0f7a4 5 = .ok (.ineg, 1) := dTJ9_abs_0f7a4_0_ok 3 (5, .ineg, 1) rfl
theorem dJ9_abs_0f7a4_6 : decode cJ9_abs_0f7a4 6 = .ok (.goto 4, 3) := dTJ9_abs_0f7a4_0_ok 4 (6, .goto 4, 3) rfl
theorem dJ9_abs_0f7a4_9 : decode cJ9_abs_0f7a4 9 = .ok (.iload_n 0, 1) := dTJ9_abs_0f7a4_0_ok 5 (9, .iload_n 0, 1) rfl
theorem dJ9_abs_0f7a4_10 : decode cJ9_abs_0f7a4 10 = .ok (.ireturn, 1) := dTJ9_abs_0f7a4_0_ok 6 (10, .ireturn, 1) rfl
