theorem dT_of {cc : ByteArray} {tab : List (Nat × Instr × Nat)} (h : tab.all (fun q => decide (decode cc q.1 = .ok q.2)) = true) : ∀ (k : Nat) (q : Nat × Instr × Nat), tab[k]? = some q → decode cc q.1 = .ok q.2 := fun _ _ hk => of_decide_eq_true (List.all_eq_true.mp h _ (List.mem_of_getElem? hk))
noncomputable def dTX0_only_0 : List (Nat × Instr × Nat) := [(0, .lconst 1, 1), (1, .iload_n 0, 1), (2, .lshl, 1), (3, .lreturn, 1)]
theorem dTX0_only_0_ok : ∀ (k : Nat) (q : Nat × Instr × Nat), dTX0_only_0[k]? = some q → decode cX0_only q.1 = .ok q.2 := dT_of (by decide +kernel)
theorem dX0_only_0 : decode cX0_only 0 = .ok (.lconst 1, 1) := dTX0_only_0_ok 0 (0, .lconst 1, 1) rfl
theorem dX0_only_1 : decode cX0_only 1 = .ok (.iload_n 0, 1) := dTX0_only_0_ok 1 (1, .iload_n 0, 1) rfl
theorem dX0_only_2 : decode cX0_only 2 = .ok (.lshl, 1) := dTX0_only_0_ok 2 (2, .lshl, 1) rfl
theorem dX0_only_3 : decode cX0_only 3 = .ok (.lreturn, 1) := dTX0_only_0_ok 3 (3, .lreturn, 1) rfl
noncomputable def dTX0_holds_0 : List (Nat × Instr × Nat) := [(0, .lload_n 0, 1), (1, .iload_n 2, 1), (2, .lushr, 1), (3, .lconst 1, 1), (4, .land, 1), (5, .lconst 0, 1), (6, .lcmp, 1), (7, .ifCond .eq 7, 3), (10, .iconst 1, 1), (11, .goto 4, 3), (14, .iconst 0, 1), (15, .ireturn, 1)]
theorem dTX0_holds_0_ok : ∀ (k : Nat) (q : Nat × Instr × Nat), dTX0_holds_0[k]? = some q → decode cX0_holds q.1 = .ok q.2 := dT_of (by decide +kernel)
theorem dX0_holds_0 : decode cX0_holds 0 = .ok (.lload_n 0, 1) := dTX0_holds_0_ok 0 (0, .lload_n 0, 1) rfl
theorem dX0_holds_1 : decode cX0_holds 1 = .ok (.iload_n 2, 1) := dTX0_holds_0_ok 1 (1, .iload_n 2, 1) rfl
theorem dX0_holds_2 : decode cX0_holds 2 = .ok (.lushr, 1) := dTX0_holds_0_ok 2 (2, .lushr, 1) rfl
theorem dX0_holds_3 : decode cX0_holds 3 = .ok (.lconst 1, 1) := dTX0_holds_0_ok 3 (3, .lconst 1, 1) rfl
theorem dX0_holds_4 : decode cX0_holds 4 = .ok (.land, 1) := dTX0_holds_0_ok 4 (4, .land, 1) rfl
theorem dX0_holds_5 : decode cX0_holds 5 = .ok (.lconst 0, 1) := dTX0_holds_0_ok 5 (5, .lconst 0, 1) rfl
theorem dX0_holds_6 : decode cX0_holds 6 = .ok (.lcmp, 1) := dTX0_holds_0_ok 6 (6, .lcmp, 1) rfl
theorem dX0_holds_7 : decode cX0_holds 7 = .ok (.ifCond .eq 7, 3) := dTX0_holds_0_ok 7 (7, .ifCond .eq 7, 3) rfl
theorem dX0_holds_10 : decode cX0_holds 10 = .ok (.iconst 1, 1) := dTX0_holds_0_ok 8 (10, .iconst 1, 1) rfl
theorem dX0_holds_11 : decode cX0_holds 11 = .ok (.goto 4, 3) := dTX0_holds_0_ok 9 (11, .goto 4, 3) rfl
theorem dX0_holds_14 : decode cX0_holds 14 = .ok (.iconst 0, 1) := dTX0_holds_0_ok 10 (14, .iconst 0, 1) rfl
theorem dX0_holds_15 : decode cX0_holds 15 = .ok (.ireturn, 1) := dTX0_holds_0_ok 11 (15, .ireturn, 1) rfl
noncomputable def dTX0_moved_0 : List (Nat × Instr × Nat) := [(0, .iload_n 2, 1), (1, .tableswitch 49 0 2 #[27, 32, 40], 27), (28, .lload_n 0, 1), (29, .bipush 9, 2), (31, .lushr, 1), (32, .lreturn, 1), (33, .lload_n 0, 1), (34, .ldc2_w 11, 3), (37, .land, 1), (38, .iconst 1, 1), (39, .lshl, 1), (40, .lreturn, 1), (41, .lload_n 0, 1), (42, .bipush 9, 2), (44, .lshl, 1), (45, .ldc2_w 13, 3), (48, .land, 1), (49, .lreturn, 1), (50, .lload_n 0, 1), (51, .ldc2_w 15, 3), (54, .land, 1), (55, .iconst 1, 1), (56, .lushr, 1), (57, .lreturn, 1)]
theorem dTX0_moved_0_ok : ∀ (k : Nat) (q : Nat × Instr × Nat), dTX0_moved_0[k]? = some q → decode cX0_moved q.1 = .ok q.2 := dT_of (by decide +kernel)
theorem dX0_moved_0 : decode cX0_moved 0 = .ok (.iload_n 2, 1) := dTX0_moved_0_ok 0 (0, .iload_n 2, 1) rfl
theorem dX0_moved_1 : decode cX0_moved 1 = .ok (.tableswitch 49 0 2 #[27, 32, 40], 27) := dTX0_moved_0_ok 1 (1, .tableswitch 49 0 2 #[27, 32, 40], 27) rfl
theorem dX0_moved_28 : decode cX0_moved 28 = .ok (.lload_n 0, 1) := dTX0_moved_0_ok 2 (28, .lload_n 0, 1) rfl
theorem dX0_moved_29 : decode cX0_moved 29 = .ok (.bipush 9, 2) := dTX0_moved_0_ok 3 (29, .bipush 9, 2) rfl
theorem dX0_moved_31 : decode cX0_moved 31 = .ok (.lushr, 1) := dTX0_moved_0_ok 4 (31, .lushr, 1) rfl
theorem dX0_moved_32 : decode cX0_moved 32 = .ok (.lreturn, 1) := dTX0_moved_0_ok 5 (32, .lreturn, 1) rfl
theorem dX0_moved_33 : decode cX0_moved 33 = .ok (.lload_n 0, 1) := dTX0_moved_0_ok 6 (33, .lload_n 0, 1) rfl
theorem dX0_moved_34 : decode cX0_moved 34 = .ok (.ldc2_w 11, 3) := dTX0_moved_0_ok 7 (34, .ldc2_w 11, 3) rfl
theorem dX0_moved_37 : decode cX0_moved 37 = .ok (.land, 1) := dTX0_moved_0_ok 8 (37, .land, 1) rfl
theorem dX0_moved_38 : decode cX0_moved 38 = .ok (.iconst 1, 1) := dTX0_moved_0_ok 9 (38, .iconst 1, 1) rfl
theorem dX0_moved_39 : decode cX0_moved 39 = .ok (.lshl, 1) := dTX0_moved_0_ok 10 (39, .lshl, 1) rfl
theorem dX0_moved_40 : decode cX0_moved 40 = .ok (.lreturn, 1) := dTX0_moved_0_ok 11 (40, .lreturn, 1) rfl
theorem dX0_moved_41 : decode cX0_moved 41 = .ok (.lload_n 0, 1) := dTX0_moved_0_ok 12 (41, .lload_n 0, 1) rfl
theorem dX0_moved_42 : decode cX0_moved 42 = .ok (.bipush 9, 2) := dTX0_moved_0_ok 13 (42, .bipush 9, 2) rfl
theorem dX0_moved_44 : decode cX0_moved 44 = .ok (.lshl, 1) := dTX0_moved_0_ok 14 (44, .lshl, 1) rfl
theorem dX0_moved_45 : decode cX0_moved 45 = .ok (.ldc2_w 13, 3) := dTX0_moved_0_ok 15 (45, .ldc2_w 13, 3) rfl
theorem dX0_moved_48 : decode cX0_moved 48 = .ok (.land, 1) := dTX0_moved_0_ok 16 (48, .land, 1) rfl
theorem dX0_moved_49 : decode cX0_moved 49 = .ok (.lreturn, 1) := dTX0_moved_0_ok 17 (49, .lreturn, 1) rfl
theorem dX0_moved_50 : decode cX0_moved 50 = .ok (.lload_n 0, 1) := dTX0_moved_0_ok 18 (50, .lload_n 0, 1) rfl
theorem dX0_moved_51 : decode cX0_moved 51 = .ok (.ldc2_w 15, 3) := dTX0_moved_0_ok 19 (51, .ldc2_w 15, 3) rfl
theorem dX0_moved_54 : decode cX0_moved 54 = .ok (.land, 1) := dTX0_moved_0_ok 20 (54, .land, 1) rfl
theorem dX0_moved_55 : decode cX0_moved 55 = .ok (.iconst 1, 1) := dTX0_moved_0_ok 21 (55, .iconst 1, 1) rfl
theorem dX0_moved_56 : decode cX0_moved 56 = .ok (.lushr, 1) := dTX0_moved_0_ok 22 (56, .lushr, 1) rfl
theorem dX0_moved_57 : decode cX0_moved 57 = .ok (.lreturn, 1) := dTX0_moved_0_ok 23 (57, .lreturn, 1) rfl
noncomputable def dTX0_isRim_0 : List (Nat × Instr × Nat) := [(0, .iload_n 0, 1), (1, .invokestatic 17, 3), (4, .iload_n 1, 1), (5, .invokestatic 21, 3), (8, .lconst 0, 1), (9, .lcmp, 1), (10, .ifCond .ne 7, 3), (13, .iconst 1, 1), (14, .goto 4, 3), (17, .iconst 0, 1), (18, .ireturn, 1)]
theorem dTX0_isRim_0_ok : ∀ (k : Nat) (q : Nat × Instr × Nat), dTX0_isRim_0[k]? = some q → decode cX0_isRim q.1 = .ok q.2 := dT_of (by decide +kernel)
theorem dX0_isRim_0 : decode cX0_isRim 0 = .ok (.iload_n 0, 1) := dTX0_isRim_0_ok 0 (0, .iload_n 0, 1) rfl
theorem dX0_isRim_1 : decode cX0_isRim 1 = .ok (.invokestatic 17, 3) := dTX0_isRim_0_ok 1 (1, .invokestatic 17, 3) rfl
theorem dX0_isRim_4 : decode cX0_isRim 4 = .ok (.iload_n 1, 1) := dTX0_isRim_0_ok 2 (4, .iload_n 1, 1) rfl
theorem dX0_isRim_5 : decode cX0_isRim 5 = .ok (.invokestatic 21, 3) := dTX0_isRim_0_ok 3 (5, .invokestatic 21, 3) rfl
theorem dX0_isRim_8 : decode cX0_isRim 8 = .ok (.lconst 0, 1) := dTX0_isRim_0_ok 4 (8, .lconst 0, 1) rfl
theorem dX0_isRim_9 : decode cX0_isRim 9 = .ok (.lcmp, 1) := dTX0_isRim_0_ok 5 (9, .lcmp, 1) rfl
theorem dX0_isRim_10 : decode cX0_isRim 10 = .ok (.ifCond .ne 7, 3) := dTX0_isRim_0_ok 6 (10, .ifCond .ne 7, 3) rfl
theorem dX0_isRim_13 : decode cX0_isRim 13 = .ok (.iconst 1, 1) := dTX0_isRim_0_ok 7 (13, .iconst 1, 1) rfl
theorem dX0_isRim_14 : decode cX0_isRim 14 = .ok (.goto 4, 3) := dTX0_isRim_0_ok 8 (14, .goto 4, 3) rfl
theorem dX0_isRim_17 : decode cX0_isRim 17 = .ok (.iconst 0, 1) := dTX0_isRim_0_ok 9 (17, .iconst 0, 1) rfl
theorem dX0_isRim_18 : decode cX0_isRim 18 = .ok (.ireturn, 1) := dTX0_isRim_0_ok 10 (18, .ireturn, 1) rfl
noncomputable def dTX0_neighbour_0 : List (Nat × Instr × Nat) := [(0, .iload_n 1, 1), (1, .tableswitch 41 0 2 #[27, 32, 36], 27), (28, .iload_n 0, 1), (29, .bipush 9, 2), (31, .isub, 1), (32, .ireturn, 1), (33, .iload_n 0, 1), (34, .iconst 1, 1), (35, .iadd, 1), (36, .ireturn, 1), (37, .iload_n 0, 1), (38, .bipush 9, 2), (40, .iadd, 1), (41, .ireturn, 1), (42, .iload_n 0, 1), (43, .iconst 1, 1), (44, .isub, 1), (45, .ireturn, 1)]
theorem dTX0_neighbour_0_ok : ∀ (k : Nat) (q : Nat × Instr × Nat), dTX0_neighbour_0[k]? = some q → decode cX0_neighbour q.1 = .ok q.2 := dT_of (by decide +kernel)
theorem dX0_neighbour_0 : decode cX0_neighbour 0 = .ok (.iload_n 1, 1) := dTX0_neighbour_0_ok 0 (0, .iload_n 1, 1) rfl
theorem dX0_neighbour_1 : decode cX0_neighbour 1 = .ok (.tableswitch 41 0 2 #[27, 32, 36], 27) := dTX0_neighbour_0_ok 1 (1, .tableswitch 41 0 2 #[27, 32, 36], 27) rfl
theorem dX0_neighbour_28 : decode cX0_neighbour 28 = .ok (.iload_n 0, 1) := dTX0_neighbour_0_ok 2 (28, .iload_n 0, 1) rfl
theorem dX0_neighbour_29 : decode cX0_neighbour 29 = .ok (.bipush 9, 2) := dTX0_neighbour_0_ok 3 (29, .bipush 9, 2) rfl
theorem dX0_neighbour_31 : decode cX0_neighbour 31 = .ok (.isub, 1) := dTX0_neighbour_0_ok 4 (31, .isub, 1) rfl
theorem dX0_neighbour_32 : decode cX0_neighbour 32 = .ok (.ireturn, 1) := dTX0_neighbour_0_ok 5 (32, .ireturn, 1) rfl
theorem dX0_neighbour_33 : decode cX0_neighbour 33 = .ok (.iload_n 0, 1) := dTX0_neighbour_0_ok 6 (33, .iload_n 0, 1) rfl
theorem dX0_neighbour_34 : decode cX0_neighbour 34 = .ok (.iconst 1, 1) := dTX0_neighbour_0_ok 7 (34, .iconst 1, 1) rfl
theorem dX0_neighbour_35 : decode cX0_neighbour 35 = .ok (.iadd, 1) := dTX0_neighbour_0_ok 8 (35, .iadd, 1) rfl
theorem dX0_neighbour_36 : decode cX0_neighbour 36 = .ok (.ireturn, 1) := dTX0_neighbour_0_ok 9 (36, .ireturn, 1) rfl
theorem dX0_neighbour_37 : decode cX0_neighbour 37 = .ok (.iload_n 0, 1) := dTX0_neighbour_0_ok 10 (37, .iload_n 0, 1) rfl
theorem dX0_neighbour_38 : decode cX0_neighbour 38 = .ok (.bipush 9, 2) := dTX0_neighbour_0_ok 11 (38, .bipush 9, 2) rfl
theorem dX0_neighbour_40 : decode cX0_neighbour 40 = .ok (.iadd, 1) := dTX0_neighbour_0_ok 12 (40, .iadd, 1) rfl
theorem dX0_neighbour_41 : decode cX0_neighbour 41 = .ok (.ireturn, 1) := dTX0_neighbour_0_ok 13 (41, .ireturn, 1) rfl
theorem dX0_neighbour_42 : decode cX0_neighbour 42 = .ok (.iload_n 0, 1) := dTX0_neighbour_0_ok 14 (42, .iload_n 0, 1) rfl
theorem dX0_neighbour_43 : decode cX0_neighbour 43 = .ok (.iconst 1, 1) := dTX0_neighbour_0_ok 15 (43, .iconst 1, 1) rfl
theorem dX0_neighbour_44 : decode cX0_neighbour 44 = .ok (.isub, 1) := dTX0_neighbour_0_ok 16 (44, .isub, 1) rfl
theorem dX0_neighbour_45 : decode cX0_neighbour 45 = .ok (.ireturn, 1) := dTX0_neighbour_0_ok 17 (45, .ireturn, 1) rfl
noncomputable def dTX1_init_0 : List (Nat × Instr × Nat) := [(0, .aload_n 0, 1), (1, .invokespecial 3, 3), (4, .aload_n 0, 1), (5, .new 9, 3), (8, .dup, 1), (9, .bipush 63, 2), (11, .invokespecial 11, 3), (14, .putfield 14, 3), (17, .return_, 1)]
theorem dTX1_init_0_ok : ∀ (k : Nat) (q : Nat × Instr × Nat), dTX1_init_0[k]? = some q → decode cX1_init q.1 = .ok q.2 := dT_of (by decide +kernel)
theorem dX1_init_0 : decode cX1_init 0 = .ok (.aload_n 0, 1) := dTX1_init_0_ok 0 (0, .aload_n 0, 1) rfl
theorem dX1_init_1 : decode cX1_init 1 = .ok (.invokespecial 3, 3) := dTX1_init_0_ok 1 (1, .invokespecial 3, 3) rfl
theorem dX1_init_4 : decode cX1_init 4 = .ok (.aload_n 0, 1) := dTX1_init_0_ok 2 (4, .aload_n 0, 1) rfl
theorem dX1_init_5 : decode cX1_init 5 = .ok (.new 9, 3) := dTX1_init_0_ok 3 (5, .new 9, 3) rfl
theorem dX1_init_8 : decode cX1_init 8 = .ok (.dup, 1) := dTX1_init_0_ok 4 (8, .dup, 1) rfl
theorem dX1_init_9 : decode cX1_init 9 = .ok (.bipush 63, 2) := dTX1_init_0_ok 5 (9, .bipush 63, 2) rfl
theorem dX1_init_11 : decode cX1_init 11 = .ok (.invokespecial 11, 3) := dTX1_init_0_ok 6 (11, .invokespecial 11, 3) rfl
theorem dX1_init_14 : decode cX1_init 14 = .ok (.putfield 14, 3) := dTX1_init_0_ok 7 (14, .putfield 14, 3) rfl
theorem dX1_init_17 : decode cX1_init 17 = .ok (.return_, 1) := dTX1_init_0_ok 8 (17, .return_, 1) rfl
noncomputable def dTX1_copyFrom_0 : List (Nat × Instr × Nat) := [(0, .aload_n 0, 1), (1, .aload_n 1, 1), (2, .getfield 20, 3), (5, .putfield 20, 3), (8, .aload_n 0, 1), (9, .aload_n 1, 1), (10, .getfield 24, 3), (13, .putfield 24, 3), (16, .aload_n 0, 1), (17, .aload_n 1, 1), (18, .getfield 27, 3), (21, .putfield 27, 3), (24, .aload_n 0, 1), (25, .aload_n 1, 1), (26, .getfield 30, 3), (29, .putfield 30, 3), (32, .aload_n 0, 1), (33, .aload_n 1, 1), (34, .getfield 33, 3), (37, .putfield 33, 3), (40, .aload_n 0, 1), (41, .aload_n 1, 1), (42, .getfield 36, 3), (45, .putfield 36, 3), (48, .aload_n 0, 1), (49, .aload_n 1, 1), (50, .getfield 39, 3), (53, .putfield 39, 3), (56, .aload_n 0, 1), (57, .aload_n 1, 1), (58, .getfield 42, 3), (61, .putfield 42, 3), (64, .aload_n 0, 1), (65, .getfield 14, 3), (68, .aload_n 1, 1), (69, .getfield 14, 3), (72, .invokevirtual 45, 3), (75, .return_, 1)]
theorem dTX1_copyFrom_0_ok : ∀ (k : Nat) (q : Nat × Instr × Nat), dTX1_copyFrom_0[k]? = some q → decode cX1_copyFrom q.1 = .ok q.2 := dT_of (by decide +kernel)
theorem dX1_copyFrom_0 : decode cX1_copyFrom 0 = .ok (.aload_n 0, 1) := dTX1_copyFrom_0_ok 0 (0, .aload_n 0, 1) rfl
theorem dX1_copyFrom_1 : decode cX1_copyFrom 1 = .ok (.aload_n 1, 1) := dTX1_copyFrom_0_ok 1 (1, .aload_n 1, 1) rfl
theorem dX1_copyFrom_2 : decode cX1_copyFrom 2 = .ok (.getfield 20, 3) := dTX1_copyFrom_0_ok 2 (2, .getfield 20, 3) rfl
theorem dX1_copyFrom_5 : decode cX1_copyFrom 5 = .ok (.putfield 20, 3) := dTX1_copyFrom_0_ok 3 (5, .putfield 20, 3) rfl
theorem dX1_copyFrom_8 : decode cX1_copyFrom 8 = .ok (.aload_n 0, 1) := dTX1_copyFrom_0_ok 4 (8, .aload_n 0, 1) rfl
theorem dX1_copyFrom_9 : decode cX1_copyFrom 9 = .ok (.aload_n 1, 1) := dTX1_copyFrom_0_ok 5 (9, .aload_n 1, 1) rfl
theorem dX1_copyFrom_10 : decode cX1_copyFrom 10 = .ok (.getfield 24, 3) := dTX1_copyFrom_0_ok 6 (10, .getfield 24, 3) rfl
theorem dX1_copyFrom_13 : decode cX1_copyFrom 13 = .ok (.putfield 24, 3) := dTX1_copyFrom_0_ok 7 (13, .putfield 24, 3) rfl
theorem dX1_copyFrom_16 : decode cX1_copyFrom 16 = .ok (.aload_n 0, 1) := dTX1_copyFrom_0_ok 8 (16, .aload_n 0, 1) rfl
theorem dX1_copyFrom_17 : decode cX1_copyFrom 17 = .ok (.aload_n 1, 1) := dTX1_copyFrom_0_ok 9 (17, .aload_n 1, 1) rfl
theorem dX1_copyFrom_18 : decode cX1_copyFrom 18 = .ok (.getfield 27, 3) := dTX1_copyFrom_0_ok 10 (18, .getfield 27, 3) rfl
theorem dX1_copyFrom_21 : decode cX1_copyFrom 21 = .ok (.putfield 27, 3) := dTX1_copyFrom_0_ok 11 (21, .putfield 27, 3) rfl
theorem dX1_copyFrom_24 : decode cX1_copyFrom 24 = .ok (.aload_n 0, 1) := dTX1_copyFrom_0_ok 12 (24, .aload_n 0, 1) rfl
theorem dX1_copyFrom_25 : decode cX1_copyFrom 25 = .ok (.aload_n 1, 1) := dTX1_copyFrom_0_ok 13 (25, .aload_n 1, 1) rfl
theorem dX1_copyFrom_26 : decode cX1_copyFrom 26 = .ok (.getfield 30, 3) := dTX1_copyFrom_0_ok 14 (26, .getfield 30, 3) rfl
theorem dX1_copyFrom_29 : decode cX1_copyFrom 29 = .ok (.putfield 30, 3) := dTX1_copyFrom_0_ok 15 (29, .putfield 30, 3) rfl
theorem dX1_copyFrom_32 : decode cX1_copyFrom 32 = .ok (.aload_n 0, 1) := dTX1_copyFrom_0_ok 16 (32, .aload_n 0, 1) rfl
theorem dX1_copyFrom_33 : decode cX1_copyFrom 33 = .ok (.aload_n 1, 1) := dTX1_copyFrom_0_ok 17 (33, .aload_n 1, 1) rfl
theorem dX1_copyFrom_34 : decode cX1_copyFrom 34 = .ok (.getfield 33, 3) := dTX1_copyFrom_0_ok 18 (34, .getfield 33, 3) rfl
theorem dX1_copyFrom_37 : decode cX1_copyFrom 37 = .ok (.putfield 33, 3) := dTX1_copyFrom_0_ok 19 (37, .putfield 33, 3) rfl
theorem dX1_copyFrom_40 : decode cX1_copyFrom 40 = .ok (.aload_n 0, 1) := dTX1_copyFrom_0_ok 20 (40, .aload_n 0, 1) rfl
theorem dX1_copyFrom_41 : decode cX1_copyFrom 41 = .ok (.aload_n 1, 1) := dTX1_copyFrom_0_ok 21 (41, .aload_n 1, 1) rfl
theorem dX1_copyFrom_42 : decode cX1_copyFrom 42 = .ok (.getfield 36, 3) := dTX1_copyFrom_0_ok 22 (42, .getfield 36, 3) rfl
theorem dX1_copyFrom_45 : decode cX1_copyFrom 45 = .ok (.putfield 36, 3) := dTX1_copyFrom_0_ok 23 (45, .putfield 36, 3) rfl
theorem dX1_copyFrom_48 : decode cX1_copyFrom 48 = .ok (.aload_n 0, 1) := dTX1_copyFrom_0_ok 24 (48, .aload_n 0, 1) rfl
theorem dX1_copyFrom_49 : decode cX1_copyFrom 49 = .ok (.aload_n 1, 1) := dTX1_copyFrom_0_ok 25 (49, .aload_n 1, 1) rfl
theorem dX1_copyFrom_50 : decode cX1_copyFrom 50 = .ok (.getfield 39, 3) := dTX1_copyFrom_0_ok 26 (50, .getfield 39, 3) rfl
theorem dX1_copyFrom_53 : decode cX1_copyFrom 53 = .ok (.putfield 39, 3) := dTX1_copyFrom_0_ok 27 (53, .putfield 39, 3) rfl
theorem dX1_copyFrom_56 : decode cX1_copyFrom 56 = .ok (.aload_n 0, 1) := dTX1_copyFrom_0_ok 28 (56, .aload_n 0, 1) rfl
theorem dX1_copyFrom_57 : decode cX1_copyFrom 57 = .ok (.aload_n 1, 1) := dTX1_copyFrom_0_ok 29 (57, .aload_n 1, 1) rfl
theorem dX1_copyFrom_58 : decode cX1_copyFrom 58 = .ok (.getfield 42, 3) := dTX1_copyFrom_0_ok 30 (58, .getfield 42, 3) rfl
theorem dX1_copyFrom_61 : decode cX1_copyFrom 61 = .ok (.putfield 42, 3) := dTX1_copyFrom_0_ok 31 (61, .putfield 42, 3) rfl
theorem dX1_copyFrom_64 : decode cX1_copyFrom 64 = .ok (.aload_n 0, 1) := dTX1_copyFrom_0_ok 32 (64, .aload_n 0, 1) rfl
theorem dX1_copyFrom_65 : decode cX1_copyFrom 65 = .ok (.getfield 14, 3) := dTX1_copyFrom_0_ok 33 (65, .getfield 14, 3) rfl
theorem dX1_copyFrom_68 : decode cX1_copyFrom 68 = .ok (.aload_n 1, 1) := dTX1_copyFrom_0_ok 34 (68, .aload_n 1, 1) rfl
theorem dX1_copyFrom_69 : decode cX1_copyFrom 69 = .ok (.getfield 14, 3) := dTX1_copyFrom_0_ok 35 (69, .getfield 14, 3) rfl
theorem dX1_copyFrom_72 : decode cX1_copyFrom 72 = .ok (.invokevirtual 45, 3) := dTX1_copyFrom_0_ok 36 (72, .invokevirtual 45, 3) rfl
theorem dX1_copyFrom_75 : decode cX1_copyFrom 75 = .ok (.return_, 1) := dTX1_copyFrom_0_ok 37 (75, .return_, 1) rfl
noncomputable def dTX1_candleCount_0 : List (Nat × Instr × Nat) := [(0, .aload_n 0, 1), (1, .getfield 20, 3), (4, .invokestatic 49, 3), (7, .ireturn, 1)]
theorem dTX1_candleCount_0_ok : ∀ (k : Nat) (q : Nat × Instr × Nat), dTX1_candleCount_0[k]? = some q → decode cX1_candleCount q.1 = .ok q.2 := dT_of (by decide +kernel)
theorem dX1_candleCount_0 : decode cX1_candleCount 0 = .ok (.aload_n 0, 1) := dTX1_candleCount_0_ok 0 (0, .aload_n 0, 1) rfl
theorem dX1_candleCount_1 : decode cX1_candleCount 1 = .ok (.getfield 20, 3) := dTX1_candleCount_0_ok 1 (1, .getfield 20, 3) rfl
theorem dX1_candleCount_4 : decode cX1_candleCount 4 = .ok (.invokestatic 49, 3) := dTX1_candleCount_0_ok 2 (4, .invokestatic 49, 3) rfl
theorem dX1_candleCount_7 : decode cX1_candleCount 7 = .ok (.ireturn, 1) := dTX1_candleCount_0_ok 3 (7, .ireturn, 1) rfl
noncomputable def dTX1_burningCount_0 : List (Nat × Instr × Nat) := [(0, .aload_n 0, 1), (1, .getfield 24, 3), (4, .invokestatic 49, 3), (7, .ireturn, 1)]
theorem dTX1_burningCount_0_ok : ∀ (k : Nat) (q : Nat × Instr × Nat), dTX1_burningCount_0[k]? = some q → decode cX1_burningCount q.1 = .ok q.2 := dT_of (by decide +kernel)
theorem dX1_burningCount_0 : decode cX1_burningCount 0 = .ok (.aload_n 0, 1) := dTX1_burningCount_0_ok 0 (0, .aload_n 0, 1) rfl
theorem dX1_burningCount_1 : decode cX1_burningCount 1 = .ok (.getfield 24, 3) := dTX1_burningCount_0_ok 1 (1, .getfield 24, 3) rfl
theorem dX1_burningCount_4 : decode cX1_burningCount 4 = .ok (.invokestatic 49, 3) := dTX1_burningCount_0_ok 2 (4, .invokestatic 49, 3) rfl
theorem dX1_burningCount_7 : decode cX1_burningCount 7 = .ok (.ireturn, 1) := dTX1_burningCount_0_ok 3 (7, .ireturn, 1) rfl
noncomputable def dTX1_mirrorCount_0 : List (Nat × Instr × Nat) := [(0, .aload_n 0, 1), (1, .getfield 27, 3), (4, .aload_n 0, 1), (5, .getfield 30, 3), (8, .lor, 1), (9, .invokestatic 49, 3), (12, .ireturn, 1)]
theorem dTX1_mirrorCount_0_ok : ∀ (k : Nat) (q : Nat × Instr × Nat), dTX1_mirrorCount_0[k]? = some q → decode cX1_mirrorCount q.1 = .ok q.2 := dT_of (by decide +kernel)
theorem dX1_mirrorCount_0 : decode cX1_mirrorCount 0 = .ok (.aload_n 0, 1) := dTX1_mirrorCount_0_ok 0 (0, .aload_n 0, 1) rfl
theorem dX1_mirrorCount_1 : decode cX1_mirrorCount 1 = .ok (.getfield 27, 3) := dTX1_mirrorCount_0_ok 1 (1, .getfield 27, 3) rfl
theorem dX1_mirrorCount_4 : decode cX1_mirrorCount 4 = .ok (.aload_n 0, 1) := dTX1_mirrorCount_0_ok 2 (4, .aload_n 0, 1) rfl
theorem dX1_mirrorCount_5 : decode cX1_mirrorCount 5 = .ok (.getfield 30, 3) := dTX1_mirrorCount_0_ok 3 (5, .getfield 30, 3) rfl
theorem dX1_mirrorCount_8 : decode cX1_mirrorCount 8 = .ok (.lor, 1) := dTX1_mirrorCount_0_ok 4 (8, .lor, 1) rfl
theorem dX1_mirrorCount_9 : decode cX1_mirrorCount 9 = .ok (.invokestatic 49, 3) := dTX1_mirrorCount_0_ok 5 (9, .invokestatic 49, 3) rfl
theorem dX1_mirrorCount_12 : decode cX1_mirrorCount 12 = .ok (.ireturn, 1) := dTX1_mirrorCount_0_ok 6 (12, .ireturn, 1) rfl
noncomputable def dTX1_tallyCount_0 : List (Nat × Instr × Nat) := [(0, .aload_n 0, 1), (1, .getfield 33, 3), (4, .invokestatic 49, 3), (7, .ireturn, 1)]
theorem dTX1_tallyCount_0_ok : ∀ (k : Nat) (q : Nat × Instr × Nat), dTX1_tallyCount_0[k]? = some q → decode cX1_tallyCount q.1 = .ok q.2 := dT_of (by decide +kernel)
theorem dX1_tallyCount_0 : decode cX1_tallyCount 0 = .ok (.aload_n 0, 1) := dTX1_tallyCount_0_ok 0 (0, .aload_n 0, 1) rfl
theorem dX1_tallyCount_1 : decode cX1_tallyCount 1 = .ok (.getfield 33, 3) := dTX1_tallyCount_0_ok 1 (1, .getfield 33, 3) rfl
theorem dX1_tallyCount_4 : decode cX1_tallyCount 4 = .ok (.invokestatic 49, 3) := dTX1_tallyCount_0_ok 2 (4, .invokestatic 49, 3) rfl
theorem dX1_tallyCount_7 : decode cX1_tallyCount 7 = .ok (.ireturn, 1) := dTX1_tallyCount_0_ok 3 (7, .ireturn, 1) rfl
noncomputable def dTX1_wallCount_0 : List (Nat × Instr × Nat) := [(0, .aload_n 0, 1), (1, .getfield 36, 3), (4, .invokestatic 49, 3), (7, .aload_n 0, 1), (8, .getfield 39, 3), (11, .invokestatic 49, 3), (14, .iadd, 1), (15, .ireturn, 1)]
theorem dTX1_wallCount_0_ok : ∀ (k : Nat) (q : Nat × Instr × Nat), dTX1_wallCount_0[k]? = some q → decode cX1_wallCount q.1 = .ok q.2 := dT_of (by decide +kernel)
theorem dX1_wallCount_0 : decode cX1_wallCount 0 = .ok (.aload_n 0, 1) := dTX1_wallCount_0_ok 0 (0, .aload_n 0, 1) rfl
theorem dX1_wallCount_1 : decode cX1_wallCount 1 = .ok (.getfield 36, 3) := dTX1_wallCount_0_ok 1 (1, .getfield 36, 3) rfl
theorem dX1_wallCount_4 : decode cX1_wallCount 4 = .ok (.invokestatic 49, 3) := dTX1_wallCount_0_ok 2 (4, .invokestatic 49, 3) rfl
theorem dX1_wallCount_7 : decode cX1_wallCount 7 = .ok (.aload_n 0, 1) := dTX1_wallCount_0_ok 3 (7, .aload_n 0, 1) rfl
theorem dX1_wallCount_8 : decode cX1_wallCount 8 = .ok (.getfield 39, 3) := dTX1_wallCount_0_ok 4 (8, .getfield 39, 3) rfl
theorem dX1_wallCount_11 : decode cX1_wallCount 11 = .ok (.invokestatic 49, 3) := dTX1_wallCount_0_ok 5 (11, .invokestatic 49, 3) rfl
theorem dX1_wallCount_14 : decode cX1_wallCount 14 = .ok (.iadd, 1) := dTX1_wallCount_0_ok 6 (14, .iadd, 1) rfl
theorem dX1_wallCount_15 : decode cX1_wallCount 15 = .ok (.ireturn, 1) := dTX1_wallCount_0_ok 7 (15, .ireturn, 1) rfl
noncomputable def dTX1_litCount_0 : List (Nat × Instr × Nat) := [(0, .aload_n 0, 1), (1, .getfield 42, 3), (4, .invokestatic 49, 3), (7, .ireturn, 1)]
theorem dTX1_litCount_0_ok : ∀ (k : Nat) (q : Nat × Instr × Nat), dTX1_litCount_0[k]? = some q → decode cX1_litCount q.1 = .ok q.2 := dT_of (by decide +kernel)
theorem dX1_litCount_0 : decode cX1_litCount 0 = .ok (.aload_n 0, 1) := dTX1_litCount_0_ok 0 (0, .aload_n 0, 1) rfl
theorem dX1_litCount_1 : decode cX1_litCount 1 = .ok (.getfield 42, 3) := dTX1_litCount_0_ok 1 (1, .getfield 42, 3) rfl
theorem dX1_litCount_4 : decode cX1_litCount 4 = .ok (.invokestatic 49, 3) := dTX1_litCount_0_ok 2 (4, .invokestatic 49, 3) rfl
theorem dX1_litCount_7 : decode cX1_litCount 7 = .ok (.ireturn, 1) := dTX1_litCount_0_ok 3 (7, .ireturn, 1) rfl
noncomputable def dTX1_sumOfMarks_0 : List (Nat × Instr × Nat) := [(0, .iconst 0, 1), (1, .istore_n 1, 1), (2, .iconst 0, 1), (3, .istore_n 2, 1), (4, .iload_n 2, 1), (5, .bipush 63, 2), (7, .if_icmp .ge 28, 3), (10, .aload_n 0, 1), (11, .iload_n 2, 1), (12, .invokevirtual 55, 3), (15, .ifCond .eq 14, 3), (18, .iload_n 1, 1), (19, .aload_n 0, 1), (20, .getfield 14, 3), (23, .iload_n 2, 1), (24, .invokevirtual 59, 3), (27, .iadd, 1), (28, .istore_n 1, 1), (29, .iinc 2 1, 3), (32, .goto (-28), 3), (35, .iload_n 1, 1), (36, .ireturn, 1)]
theorem dTX1_sumOfMarks_0_ok : ∀ (k : Nat) (q : Nat × Instr × Nat), dTX1_sumOfMarks_0[k]? = some q → decode cX1_sumOfMarks q.1 = .ok q.2 := dT_of (by decide +kernel)
theorem dX1_sumOfMarks_0 : decode cX1_sumOfMarks 0 = .ok (.iconst 0, 1) := dTX1_sumOfMarks_0_ok 0 (0, .iconst 0, 1) rfl
theorem dX1_sumOfMarks_1 : decode cX1_sumOfMarks 1 = .ok (.istore_n 1, 1) := dTX1_sumOfMarks_0_ok 1 (1, .istore_n 1, 1) rfl
theorem dX1_sumOfMarks_2 : decode cX1_sumOfMarks 2 = .ok (.iconst 0, 1) := dTX1_sumOfMarks_0_ok 2 (2, .iconst 0, 1) rfl
theorem dX1_sumOfMarks_3 : decode cX1_sumOfMarks 3 = .ok (.istore_n 2, 1) := dTX1_sumOfMarks_0_ok 3 (3, .istore_n 2, 1) rfl
theorem dX1_sumOfMarks_4 : decode cX1_sumOfMarks 4 = .ok (.iload_n 2, 1) := dTX1_sumOfMarks_0_ok 4 (4, .iload_n 2, 1) rfl
theorem dX1_sumOfMarks_5 : decode cX1_sumOfMarks 5 = .ok (.bipush 63, 2) := dTX1_sumOfMarks_0_ok 5 (5, .bipush 63, 2) rfl
theorem dX1_sumOfMarks_7 : decode cX1_sumOfMarks 7 = .ok (.if_icmp .ge 28, 3) := dTX1_sumOfMarks_0_ok 6 (7, .if_icmp .ge 28, 3) rfl
theorem dX1_sumOfMarks_10 : decode cX1_sumOfMarks 10 = .ok (.aload_n 0, 1) := dTX1_sumOfMarks_0_ok 7 (10, .aload_n 0, 1) rfl
theorem dX1_sumOfMarks_11 : decode cX1_sumOfMarks 11 = .ok (.iload_n 2, 1) := dTX1_sumOfMarks_0_ok 8 (11, .iload_n 2, 1) rfl
theorem dX1_sumOfMarks_12 : decode cX1_sumOfMarks 12 = .ok (.invokevirtual 55, 3) := dTX1_sumOfMarks_0_ok 9 (12, .invokevirtual 55, 3) rfl
theorem dX1_sumOfMarks_15 : decode cX1_sumOfMarks 15 = .ok (.ifCond .eq 14, 3) := dTX1_sumOfMarks_0_ok 10 (15, .ifCond .eq 14, 3) rfl
theorem dX1_sumOfMarks_18 : decode cX1_sumOfMarks 18 = .ok (.iload_n 1, 1) := dTX1_sumOfMarks_0_ok 11 (18, .iload_n 1, 1) rfl
theorem dX1_sumOfMarks_19 : decode cX1_sumOfMarks 19 = .ok (.aload_n 0, 1) := dTX1_sumOfMarks_0_ok 12 (19, .aload_n 0, 1) rfl
theorem dX1_sumOfMarks_20 : decode cX1_sumOfMarks 20 = .ok (.getfield 14, 3) := dTX1_sumOfMarks_0_ok 13 (20, .getfield 14, 3) rfl
theorem dX1_sumOfMarks_23 : decode cX1_sumOfMarks 23 = .ok (.iload_n 2, 1) := dTX1_sumOfMarks_0_ok 14 (23, .iload_n 2, 1) rfl
theorem dX1_sumOfMarks_24 : decode cX1_sumOfMarks 24 = .ok (.invokevirtual 59, 3) := dTX1_sumOfMarks_0_ok 15 (24, .invokevirtual 59, 3) rfl
theorem dX1_sumOfMarks_27 : decode cX1_sumOfMarks 27 = .ok (.iadd, 1) := dTX1_sumOfMarks_0_ok 16 (27, .iadd, 1) rfl
theorem dX1_sumOfMarks_28 : decode cX1_sumOfMarks 28 = .ok (.istore_n 1, 1) := dTX1_sumOfMarks_0_ok 17 (28, .istore_n 1, 1) rfl
theorem dX1_sumOfMarks_29 : decode cX1_sumOfMarks 29 = .ok (.iinc 2 1, 3) := dTX1_sumOfMarks_0_ok 18 (29, .iinc 2 1, 3) rfl
theorem dX1_sumOfMarks_32 : decode cX1_sumOfMarks 32 = .ok (.goto (-28), 3) := dTX1_sumOfMarks_0_ok 19 (32, .goto (-28), 3) rfl
theorem dX1_sumOfMarks_35 : decode cX1_sumOfMarks 35 = .ok (.iload_n 1, 1) := dTX1_sumOfMarks_0_ok 20 (35, .iload_n 1, 1) rfl
theorem dX1_sumOfMarks_36 : decode cX1_sumOfMarks 36 = .ok (.ireturn, 1) := dTX1_sumOfMarks_0_ok 21 (36, .ireturn, 1) rfl
noncomputable def dTX1_isBurning_0 : List (Nat × Instr × Nat) := [(0, .aload_n 0, 1), (1, .getfield 24, 3), (4, .iload_n 1, 1), (5, .invokestatic 63, 3), (8, .ireturn, 1)]
theorem dTX1_isBurning_0_ok : ∀ (k : Nat) (q : Nat × Instr × Nat), dTX1_isBurning_0[k]? = some q → decode cX1_isBurning q.1 = .ok q.2 := dT_of (by decide +kernel)
theorem dX1_isBurning_0 : decode cX1_isBurning 0 = .ok (.aload_n 0, 1) := dTX1_isBurning_0_ok 0 (0, .aload_n 0, 1) rfl
theorem dX1_isBurning_1 : decode cX1_isBurning 1 = .ok (.getfield 24, 3) := dTX1_isBurning_0_ok 1 (1, .getfield 24, 3) rfl
theorem dX1_isBurning_4 : decode cX1_isBurning 4 = .ok (.iload_n 1, 1) := dTX1_isBurning_0_ok 2 (4, .iload_n 1, 1) rfl
theorem dX1_isBurning_5 : decode cX1_isBurning 5 = .ok (.invokestatic 63, 3) := dTX1_isBurning_0_ok 3 (5, .invokestatic 63, 3) rfl
theorem dX1_isBurning_8 : decode cX1_isBurning 8 = .ok (.ireturn, 1) := dTX1_isBurning_0_ok 4 (8, .ireturn, 1) rfl
noncomputable def dTX1_isLit_0 : List (Nat × Instr × Nat) := [(0, .aload_n 0, 1), (1, .getfield 42, 3), (4, .iload_n 1, 1), (5, .invokestatic 63, 3), (8, .ireturn, 1)]
theorem dTX1_isLit_0_ok : ∀ (k : Nat) (q : Nat × Instr × Nat), dTX1_isLit_0[k]? = some q → decode cX1_isLit q.1 = .ok q.2 := dT_of (by decide +kernel)
theorem dX1_isLit_0 : decode cX1_isLit 0 = .ok (.aload_n 0, 1) := dTX1_isLit_0_ok 0 (0, .aload_n 0, 1) rfl
theorem dX1_isLit_1 : decode cX1_isLit 1 = .ok (.getfield 42, 3) := dTX1_isLit_0_ok 1 (1, .getfield 42, 3) rfl
theorem dX1_isLit_4 : decode cX1_isLit 4 = .ok (.iload_n 1, 1) := dTX1_isLit_0_ok 2 (4, .iload_n 1, 1) rfl
theorem dX1_isLit_5 : decode cX1_isLit 5 = .ok (.invokestatic 63, 3) := dTX1_isLit_0_ok 3 (5, .invokestatic 63, 3) rfl
theorem dX1_isLit_8 : decode cX1_isLit 8 = .ok (.ireturn, 1) := dTX1_isLit_0_ok 4 (8, .ireturn, 1) rfl
noncomputable def dTX1_hasTally_0 : List (Nat × Instr × Nat) := [(0, .aload_n 0, 1), (1, .getfield 33, 3), (4, .iload_n 1, 1), (5, .invokestatic 63, 3), (8, .ireturn, 1)]
theorem dTX1_hasTally_0_ok : ∀ (k : Nat) (q : Nat × Instr × Nat), dTX1_hasTally_0[k]? = some q → decode cX1_hasTally q.1 = .ok q.2 := dT_of (by decide +kernel)
theorem dX1_hasTally_0 : decode cX1_hasTally 0 = .ok (.aload_n 0, 1) := dTX1_hasTally_0_ok 0 (0, .aload_n 0, 1) rfl
theorem dX1_hasTally_1 : decode cX1_hasTally 1 = .ok (.getfield 33, 3) := dTX1_hasTally_0_ok 1 (1, .getfield 33, 3) rfl
theorem dX1_hasTally_4 : decode cX1_hasTally 4 = .ok (.iload_n 1, 1) := dTX1_hasTally_0_ok 2 (4, .iload_n 1, 1) rfl
theorem dX1_hasTally_5 : decode cX1_hasTally 5 = .ok (.invokestatic 63, 3) := dTX1_hasTally_0_ok 3 (5, .invokestatic 63, 3) rfl
theorem dX1_hasTally_8 : decode cX1_hasTally 8 = .ok (.ireturn, 1) := dTX1_hasTally_0_ok 4 (8, .ireturn, 1) rfl
noncomputable def dTX1_hasCandleWithWax_0 : List (Nat × Instr × Nat) := [(0, .aload_n 0, 1), (1, .getfield 20, 3), (4, .iload_n 1, 1), (5, .invokestatic 63, 3), (8, .ifCond .eq 18, 3), (11, .aload_n 0, 1), (12, .getfield 14, 3), (15, .iload_n 1, 1), (16, .invokevirtual 59, 3), (19, .ifCond .le 7, 3), (22, .iconst 1, 1), (23, .goto 4, 3), (26, .iconst 0, 1), (27, .ireturn, 1)]
theorem dTX1_hasCandleWithWax_0_ok : ∀ (k : Nat) (q : Nat × Instr × Nat), dTX1_hasCandleWithWax_0[k]? = some q → decode cX1_hasCandleWithWax q.1 = .ok q.2 := dT_of (by decide +kernel)
theorem dX1_hasCandleWithWax_0 : decode cX1_hasCandleWithWax 0 = .ok (.aload_n 0, 1) := dTX1_hasCandleWithWax_0_ok 0 (0, .aload_n 0, 1) rfl
theorem dX1_hasCandleWithWax_1 : decode cX1_hasCandleWithWax 1 = .ok (.getfield 20, 3) := dTX1_hasCandleWithWax_0_ok 1 (1, .getfield 20, 3) rfl
theorem dX1_hasCandleWithWax_4 : decode cX1_hasCandleWithWax 4 = .ok (.iload_n 1, 1) := dTX1_hasCandleWithWax_0_ok 2 (4, .iload_n 1, 1) rfl
theorem dX1_hasCandleWithWax_5 : decode cX1_hasCandleWithWax 5 = .ok (.invokestatic 63, 3) := dTX1_hasCandleWithWax_0_ok 3 (5, .invokestatic 63, 3) rfl
theorem dX1_hasCandleWithWax_8 : decode cX1_hasCandleWithWax 8 = .ok (.ifCond .eq 18, 3) := dTX1_hasCandleWithWax_0_ok 4 (8, .ifCond .eq 18, 3) rfl
theorem dX1_hasCandleWithWax_11 : decode cX1_hasCandleWithWax 11 = .ok (.aload_n 0, 1) := dTX1_hasCandleWithWax_0_ok 5 (11, .aload_n 0, 1) rfl
theorem dX1_hasCandleWithWax_12 : decode cX1_hasCandleWithWax 12 = .ok (.getfield 14, 3) := dTX1_hasCandleWithWax_0_ok 6 (12, .getfield 14, 3) rfl
theorem dX1_hasCandleWithWax_15 : decode cX1_hasCandleWithWax 15 = .ok (.iload_n 1, 1) := dTX1_hasCandleWithWax_0_ok 7 (15, .iload_n 1, 1) rfl
theorem dX1_hasCandleWithWax_16 : decode cX1_hasCandleWithWax 16 = .ok (.invokevirtual 59, 3) := dTX1_hasCandleWithWax_0_ok 8 (16, .invokevirtual 59, 3) rfl
theorem dX1_hasCandleWithWax_19 : decode cX1_hasCandleWithWax 19 = .ok (.ifCond .le 7, 3) := dTX1_hasCandleWithWax_0_ok 9 (19, .ifCond .le 7, 3) rfl
theorem dX1_hasCandleWithWax_22 : decode cX1_hasCandleWithWax 22 = .ok (.iconst 1, 1) := dTX1_hasCandleWithWax_0_ok 10 (22, .iconst 1, 1) rfl
theorem dX1_hasCandleWithWax_23 : decode cX1_hasCandleWithWax 23 = .ok (.goto 4, 3) := dTX1_hasCandleWithWax_0_ok 11 (23, .goto 4, 3) rfl
theorem dX1_hasCandleWithWax_26 : decode cX1_hasCandleWithWax 26 = .ok (.iconst 0, 1) := dTX1_hasCandleWithWax_0_ok 12 (26, .iconst 0, 1) rfl
theorem dX1_hasCandleWithWax_27 : decode cX1_hasCandleWithWax 27 = .ok (.ireturn, 1) := dTX1_hasCandleWithWax_0_ok 13 (27, .ireturn, 1) rfl
noncomputable def dTX1_amountIn_0 : List (Nat × Instr × Nat) := [(0, .aload_n 0, 1), (1, .getfield 14, 3), (4, .iload_n 1, 1), (5, .invokevirtual 59, 3), (8, .ireturn, 1)]
theorem dTX1_amountIn_0_ok : ∀ (k : Nat) (q : Nat × Instr × Nat), dTX1_amountIn_0[k]? = some q → decode cX1_amountIn q.1 = .ok q.2 := dT_of (by decide +kernel)
theorem dX1_amountIn_0 : decode cX1_amountIn 0 = .ok (.aload_n 0, 1) := dTX1_amountIn_0_ok 0 (0, .aload_n 0, 1) rfl
theorem dX1_amountIn_1 : decode cX1_amountIn 1 = .ok (.getfield 14, 3) := dTX1_amountIn_0_ok 1 (1, .getfield 14, 3) rfl
theorem dX1_amountIn_4 : decode cX1_amountIn 4 = .ok (.iload_n 1, 1) := dTX1_amountIn_0_ok 2 (4, .iload_n 1, 1) rfl
theorem dX1_amountIn_5 : decode cX1_amountIn 5 = .ok (.invokevirtual 59, 3) := dTX1_amountIn_0_ok 3 (5, .invokevirtual 59, 3) rfl
theorem dX1_amountIn_8 : decode cX1_amountIn 8 = .ok (.ireturn, 1) := dTX1_amountIn_0_ok 4 (8, .ireturn, 1) rfl
noncomputable def dTX1_thingIn_0 : List (Nat × Instr × Nat) := [(0, .aload_n 0, 1), (1, .getfield 20, 3), (4, .iload_n 1, 1), (5, .invokestatic 63, 3), (8, .ifCond .eq 5, 3), (11, .iconst 1, 1), (12, .ireturn, 1), (13, .aload_n 0, 1), (14, .getfield 27, 3), (17, .iload_n 1, 1), (18, .invokestatic 63, 3), (21, .ifCond .eq 5, 3), (24, .iconst 2, 1), (25, .ireturn, 1), (26, .aload_n 0, 1), (27, .getfield 30, 3), (30, .iload_n 1, 1), (31, .invokestatic 63, 3), (34, .ifCond .eq 5, 3), (37, .iconst 3, 1), (38, .ireturn, 1), (39, .aload_n 0, 1), (40, .iload_n 1, 1), (41, .invokevirtual 55, 3), (44, .ifCond .eq 7, 3), (47, .iconst 4, 1), (48, .goto 4, 3), (51, .iconst 0, 1), (52, .ireturn, 1)]
theorem dTX1_thingIn_0_ok : ∀ (k : Nat) (q : Nat × Instr × Nat), dTX1_thingIn_0[k]? = some q → decode cX1_thingIn q.1 = .ok q.2 := dT_of (by decide +kernel)
theorem dX1_thingIn_0 : decode cX1_thingIn 0 = .ok (.aload_n 0, 1) := dTX1_thingIn_0_ok 0 (0, .aload_n 0, 1) rfl
theorem dX1_thingIn_1 : decode cX1_thingIn 1 = .ok (.getfield 20, 3) := dTX1_thingIn_0_ok 1 (1, .getfield 20, 3) rfl
theorem dX1_thingIn_4 : decode cX1_thingIn 4 = .ok (.iload_n 1, 1) := dTX1_thingIn_0_ok 2 (4, .iload_n 1, 1) rfl
theorem dX1_thingIn_5 : decode cX1_thingIn 5 = .ok (.invokestatic 63, 3) := dTX1_thingIn_0_ok 3 (5, .invokestatic 63, 3) rfl
theorem dX1_thingIn_8 : decode cX1_thingIn 8 = .ok (.ifCond .eq 5, 3) := dTX1_thingIn_0_ok 4 (8, .ifCond .eq 5, 3) rfl
theorem dX1_thingIn_11 : decode cX1_thingIn 11 = .ok (.iconst 1, 1) := dTX1_thingIn_0_ok 5 (11, .iconst 1, 1) rfl
theorem dX1_thingIn_12 : decode cX1_thingIn 12 = .ok (.ireturn, 1) := dTX1_thingIn_0_ok 6 (12, .ireturn, 1) rfl
theorem dX1_thingIn_13 : decode cX1_thingIn 13 = .ok (.aload_n 0, 1) := dTX1_thingIn_0_ok 7 (13, .aload_n 0, 1) rfl
theorem dX1_thingIn_14 : decode cX1_thingIn 14 = .ok (.getfield 27, 3) := dTX1_thingIn_0_ok 8 (14, .getfield 27, 3) rfl
theorem dX1_thingIn_17 : decode cX1_thingIn 17 = .ok (.iload_n 1, 1) := dTX1_thingIn_0_ok 9 (17, .iload_n 1, 1) rfl
theorem dX1_thingIn_18 : decode cX1_thingIn 18 = .ok (.invokestatic 63, 3) := dTX1_thingIn_0_ok 10 (18, .invokestatic 63, 3) rfl
theorem dX1_thingIn_21 : decode cX1_thingIn 21 = .ok (.ifCond .eq 5, 3) := dTX1_thingIn_0_ok 11 (21, .ifCond .eq 5, 3) rfl
theorem dX1_thingIn_24 : decode cX1_thingIn 24 = .ok (.iconst 2, 1) := dTX1_thingIn_0_ok 12 (24, .iconst 2, 1) rfl
theorem dX1_thingIn_25 : decode cX1_thingIn 25 = .ok (.ireturn, 1) := dTX1_thingIn_0_ok 13 (25, .ireturn, 1) rfl
theorem dX1_thingIn_26 : decode cX1_thingIn 26 = .ok (.aload_n 0, 1) := dTX1_thingIn_0_ok 14 (26, .aload_n 0, 1) rfl
theorem dX1_thingIn_27 : decode cX1_thingIn 27 = .ok (.getfield 30, 3) := dTX1_thingIn_0_ok 15 (27, .getfield 30, 3) rfl
theorem dX1_thingIn_30 : decode cX1_thingIn 30 = .ok (.iload_n 1, 1) := dTX1_thingIn_0_ok 16 (30, .iload_n 1, 1) rfl
theorem dX1_thingIn_31 : decode cX1_thingIn 31 = .ok (.invokestatic 63, 3) := dTX1_thingIn_0_ok 17 (31, .invokestatic 63, 3) rfl
theorem dX1_thingIn_34 : decode cX1_thingIn 34 = .ok (.ifCond .eq 5, 3) := dTX1_thingIn_0_ok 18 (34, .ifCond .eq 5, 3) rfl
theorem dX1_thingIn_37 : decode cX1_thingIn 37 = .ok (.iconst 3, 1) := dTX1_thingIn_0_ok 19 (37, .iconst 3, 1) rfl
theorem dX1_thingIn_38 : decode cX1_thingIn 38 = .ok (.ireturn, 1) := dTX1_thingIn_0_ok 20 (38, .ireturn, 1) rfl
theorem dX1_thingIn_39 : decode cX1_thingIn 39 = .ok (.aload_n 0, 1) := dTX1_thingIn_0_ok 21 (39, .aload_n 0, 1) rfl
theorem dX1_thingIn_40 : decode cX1_thingIn 40 = .ok (.iload_n 1, 1) := dTX1_thingIn_0_ok 22 (40, .iload_n 1, 1) rfl
theorem dX1_thingIn_41 : decode cX1_thingIn 41 = .ok (.invokevirtual 55, 3) := dTX1_thingIn_0_ok 23 (41, .invokevirtual 55, 3) rfl
theorem dX1_thingIn_44 : decode cX1_thingIn 44 = .ok (.ifCond .eq 7, 3) := dTX1_thingIn_0_ok 24 (44, .ifCond .eq 7, 3) rfl
theorem dX1_thingIn_47 : decode cX1_thingIn 47 = .ok (.iconst 4, 1) := dTX1_thingIn_0_ok 25 (47, .iconst 4, 1) rfl
theorem dX1_thingIn_48 : decode cX1_thingIn 48 = .ok (.goto 4, 3) := dTX1_thingIn_0_ok 26 (48, .goto 4, 3) rfl
theorem dX1_thingIn_51 : decode cX1_thingIn 51 = .ok (.iconst 0, 1) := dTX1_thingIn_0_ok 27 (51, .iconst 0, 1) rfl
theorem dX1_thingIn_52 : decode cX1_thingIn 52 = .ok (.ireturn, 1) := dTX1_thingIn_0_ok 28 (52, .ireturn, 1) rfl
noncomputable def dTX1_addCandle_0 : List (Nat × Instr × Nat) := [(0, .aload_n 0, 1), (1, .dup, 1), (2, .getfield 20, 3), (5, .iload_n 1, 1), (6, .invokestatic 69, 3), (9, .lor, 1), (10, .putfield 20, 3), (13, .aload_n 0, 1), (14, .dup, 1), (15, .getfield 24, 3), (18, .iload_n 1, 1), (19, .invokestatic 69, 3), (22, .lor, 1), (23, .putfield 24, 3), (26, .aload_n 0, 1), (27, .getfield 14, 3), (30, .iload_n 1, 1), (31, .iload_n 2, 1), (32, .invokevirtual 73, 3), (35, .aload_n 0, 1), (36, .invokevirtual 77, 3), (39, .return_, 1)]
theorem dTX1_addCandle_0_ok : ∀ (k : Nat) (q : Nat × Instr × Nat), dTX1_addCandle_0[k]? = some q → decode cX1_addCandle q.1 = .ok q.2 := dT_of (by decide +kernel)
theorem dX1_addCandle_0 : decode cX1_addCandle 0 = .ok (.aload_n 0, 1) := dTX1_addCandle_0_ok 0 (0, .aload_n 0, 1) rfl
theorem dX1_addCandle_1 : decode cX1_addCandle 1 = .ok (.dup, 1) := dTX1_addCandle_0_ok 1 (1, .dup, 1) rfl
theorem dX1_addCandle_2 : decode cX1_addCandle 2 = .ok (.getfield 20, 3) := dTX1_addCandle_0_ok 2 (2, .getfield 20, 3) rfl
theorem dX1_addCandle_5 : decode cX1_addCandle 5 = .ok (.iload_n 1, 1) := dTX1_addCandle_0_ok 3 (5, .iload_n 1, 1) rfl
theorem dX1_addCandle_6 : decode cX1_addCandle 6 = .ok (.invokestatic 69, 3) := dTX1_addCandle_0_ok 4 (6, .invokestatic 69, 3) rfl
theorem dX1_addCandle_9 : decode cX1_addCandle 9 = .ok (.lor, 1) := dTX1_addCandle_0_ok 5 (9, .lor, 1) rfl
theorem dX1_addCandle_10 : decode cX1_addCandle 10 = .ok (.putfield 20, 3) := dTX1_addCandle_0_ok 6 (10, .putfield 20, 3) rfl
theorem dX1_addCandle_13 : decode cX1_addCandle 13 = .ok (.aload_n 0, 1) := dTX1_addCandle_0_ok 7 (13, .aload_n 0, 1) rfl
theorem dX1_addCandle_14 : decode cX1_addCandle 14 = .ok (.dup, 1) := dTX1_addCandle_0_ok 8 (14, .dup, 1) rfl
theorem dX1_addCandle_15 : decode cX1_addCandle 15 = .ok (.getfield 24, 3) := dTX1_addCandle_0_ok 9 (15, .getfield 24, 3) rfl
theorem dX1_addCandle_18 : decode cX1_addCandle 18 = .ok (.iload_n 1, 1) := dTX1_addCandle_0_ok 10 (18, .iload_n 1, 1) rfl
theorem dX1_addCandle_19 : decode cX1_addCandle 19 = .ok (.invokestatic 69, 3) := dTX1_addCandle_0_ok 11 (19, .invokestatic 69, 3) rfl
theorem dX1_addCandle_22 : decode cX1_addCandle 22 = .ok (.lor, 1) := dTX1_addCandle_0_ok 12 (22, .lor, 1) rfl
theorem dX1_addCandle_23 : decode cX1_addCandle 23 = .ok (.putfield 24, 3) := dTX1_addCandle_0_ok 13 (23, .putfield 24, 3) rfl
theorem dX1_addCandle_26 : decode cX1_addCandle 26 = .ok (.aload_n 0, 1) := dTX1_addCandle_0_ok 14 (26, .aload_n 0, 1) rfl
theorem dX1_addCandle_27 : decode cX1_addCandle 27 = .ok (.getfield 14, 3) := dTX1_addCandle_0_ok 15 (27, .getfield 14, 3) rfl
theorem dX1_addCandle_30 : decode cX1_addCandle 30 = .ok (.iload_n 1, 1) := dTX1_addCandle_0_ok 16 (30, .iload_n 1, 1) rfl
theorem dX1_addCandle_31 : decode cX1_addCandle 31 = .ok (.iload_n 2, 1) := dTX1_addCandle_0_ok 17 (31, .iload_n 2, 1) rfl
theorem dX1_addCandle_32 : decode cX1_addCandle 32 = .ok (.invokevirtual 73, 3) := dTX1_addCandle_0_ok 18 (32, .invokevirtual 73, 3) rfl
theorem dX1_addCandle_35 : decode cX1_addCandle 35 = .ok (.aload_n 0, 1) := dTX1_addCandle_0_ok 19 (35, .aload_n 0, 1) rfl
theorem dX1_addCandle_36 : decode cX1_addCandle 36 = .ok (.invokevirtual 77, 3) := dTX1_addCandle_0_ok 20 (36, .invokevirtual 77, 3) rfl
theorem dX1_addCandle_39 : decode cX1_addCandle 39 = .ok (.return_, 1) := dTX1_addCandle_0_ok 21 (39, .return_, 1) rfl
noncomputable def dTX1_addMirror_0 : List (Nat × Instr × Nat) := [(0, .iload_n 2, 1), (1, .ifCond .eq 19, 3), (4, .aload_n 0, 1), (5, .dup, 1), (6, .getfield 27, 3), (9, .iload_n 1, 1), (10, .invokestatic 69, 3), (13, .lor, 1), (14, .putfield 27, 3), (17, .goto 16, 3), (20, .aload_n 0, 1), (21, .dup, 1), (22, .getfield 30, 3), (25, .iload_n 1, 1), (26, .invokestatic 69, 3), (29, .lor, 1), (30, .putfield 30, 3), (33, .aload_n 0, 1), (34, .invokevirtual 77, 3), (37, .return_, 1)]
theorem dTX1_addMirror_0_ok : ∀ (k : Nat) (q : Nat × Instr × Nat), dTX1_addMirror_0[k]? = some q → decode cX1_addMirror q.1 = .ok q.2 := dT_of (by decide +kernel)
theorem dX1_addMirror_0 : decode cX1_addMirror 0 = .ok (.iload_n 2, 1) := dTX1_addMirror_0_ok 0 (0, .iload_n 2, 1) rfl
theorem dX1_addMirror_1 : decode cX1_addMirror 1 = .ok (.ifCond .eq 19, 3) := dTX1_addMirror_0_ok 1 (1, .ifCond .eq 19, 3) rfl
theorem dX1_addMirror_4 : decode cX1_addMirror 4 = .ok (.aload_n 0, 1) := dTX1_addMirror_0_ok 2 (4, .aload_n 0, 1) rfl
theorem dX1_addMirror_5 : decode cX1_addMirror 5 = .ok (.dup, 1) := dTX1_addMirror_0_ok 3 (5, .dup, 1) rfl
theorem dX1_addMirror_6 : decode cX1_addMirror 6 = .ok (.getfield 27, 3) := dTX1_addMirror_0_ok 4 (6, .getfield 27, 3) rfl
theorem dX1_addMirror_9 : decode cX1_addMirror 9 = .ok (.iload_n 1, 1) := dTX1_addMirror_0_ok 5 (9, .iload_n 1, 1) rfl
theorem dX1_addMirror_10 : decode cX1_addMirror 10 = .ok (.invokestatic 69, 3) := dTX1_addMirror_0_ok 6 (10, .invokestatic 69, 3) rfl
theorem dX1_addMirror_13 : decode cX1_addMirror 13 = .ok (.lor, 1) := dTX1_addMirror_0_ok 7 (13, .lor, 1) rfl
theorem dX1_addMirror_14 : decode cX1_addMirror 14 = .ok (.putfield 27, 3) := dTX1_addMirror_0_ok 8 (14, .putfield 27, 3) rfl
theorem dX1_addMirror_17 : decode cX1_addMirror 17 = .ok (.goto 16, 3) := dTX1_addMirror_0_ok 9 (17, .goto 16, 3) rfl
theorem dX1_addMirror_20 : decode cX1_addMirror 20 = .ok (.aload_n 0, 1) := dTX1_addMirror_0_ok 10 (20, .aload_n 0, 1) rfl
theorem dX1_addMirror_21 : decode cX1_addMirror 21 = .ok (.dup, 1) := dTX1_addMirror_0_ok 11 (21, .dup, 1) rfl
theorem dX1_addMirror_22 : decode cX1_addMirror 22 = .ok (.getfield 30, 3) := dTX1_addMirror_0_ok 12 (22, .getfield 30, 3) rfl
theorem dX1_addMirror_25 : decode cX1_addMirror 25 = .ok (.iload_n 1, 1) := dTX1_addMirror_0_ok 13 (25, .iload_n 1, 1) rfl
theorem dX1_addMirror_26 : decode cX1_addMirror 26 = .ok (.invokestatic 69, 3) := dTX1_addMirror_0_ok 14 (26, .invokestatic 69, 3) rfl
theorem dX1_addMirror_29 : decode cX1_addMirror 29 = .ok (.lor, 1) := dTX1_addMirror_0_ok 15 (29, .lor, 1) rfl
theorem dX1_addMirror_30 : decode cX1_addMirror 30 = .ok (.putfield 30, 3) := dTX1_addMirror_0_ok 16 (30, .putfield 30, 3) rfl
theorem dX1_addMirror_33 : decode cX1_addMirror 33 = .ok (.aload_n 0, 1) := dTX1_addMirror_0_ok 17 (33, .aload_n 0, 1) rfl
theorem dX1_addMirror_34 : decode cX1_addMirror 34 = .ok (.invokevirtual 77, 3) := dTX1_addMirror_0_ok 18 (34, .invokevirtual 77, 3) rfl
theorem dX1_addMirror_37 : decode cX1_addMirror 37 = .ok (.return_, 1) := dTX1_addMirror_0_ok 19 (37, .return_, 1) rfl
noncomputable def dTX1_addTally_0 : List (Nat × Instr × Nat) := [(0, .aload_n 0, 1), (1, .dup, 1), (2, .getfield 33, 3), (5, .iload_n 1, 1), (6, .invokestatic 69, 3), (9, .lor, 1), (10, .putfield 33, 3), (13, .return_, 1)]
theorem dTX1_addTally_0_ok : ∀ (k : Nat) (q : Nat × Instr × Nat), dTX1_addTally_0[k]? = some q → decode cX1_addTally q.1 = .ok q.2 := dT_of (by decide +kernel)
theorem dX1_addTally_0 : decode cX1_addTally 0 = .ok (.aload_n 0, 1) := dTX1_addTally_0_ok 0 (0, .aload_n 0, 1) rfl
theorem dX1_addTally_1 : decode cX1_addTally 1 = .ok (.dup, 1) := dTX1_addTally_0_ok 1 (1, .dup, 1) rfl
theorem dX1_addTally_2 : decode cX1_addTally 2 = .ok (.getfield 33, 3) := dTX1_addTally_0_ok 2 (2, .getfield 33, 3) rfl
theorem dX1_addTally_5 : decode cX1_addTally 5 = .ok (.iload_n 1, 1) := dTX1_addTally_0_ok 3 (5, .iload_n 1, 1) rfl
theorem dX1_addTally_6 : decode cX1_addTally 6 = .ok (.invokestatic 69, 3) := dTX1_addTally_0_ok 4 (6, .invokestatic 69, 3) rfl
theorem dX1_addTally_9 : decode cX1_addTally 9 = .ok (.lor, 1) := dTX1_addTally_0_ok 5 (9, .lor, 1) rfl
theorem dX1_addTally_10 : decode cX1_addTally 10 = .ok (.putfield 33, 3) := dTX1_addTally_0_ok 6 (10, .putfield 33, 3) rfl
theorem dX1_addTally_13 : decode cX1_addTally 13 = .ok (.return_, 1) := dTX1_addTally_0_ok 7 (13, .return_, 1) rfl
noncomputable def dTX1_clear_0 : List (Nat × Instr × Nat) := [(0, .iload_n 1, 1), (1, .invokestatic 69, 3), (4, .ldc2_w 80, 3), (7, .lxor, 1), (8, .lstore_n 2, 1), (9, .aload_n 0, 1), (10, .dup, 1), (11, .getfield 20, 3), (14, .lload_n 2, 1), (15, .land, 1), (16, .putfield 20, 3), (19, .aload_n 0, 1), (20, .dup, 1), (21, .getfield 24, 3), (24, .lload_n 2, 1), (25, .land, 1), (26, .putfield 24, 3), (29, .aload_n 0, 1), (30, .dup, 1), (31, .getfield 27, 3), (34, .lload_n 2, 1), (35, .land, 1), (36, .putfield 27, 3), (39, .aload_n 0, 1), (40, .dup, 1), (41, .getfield 30, 3), (44, .lload_n 2, 1), (45, .land, 1), (46, .putfield 30, 3), (49, .aload_n 0, 1), (50, .dup, 1), (51, .getfield 33, 3), (54, .lload_n 2, 1), (55, .land, 1), (56, .putfield 33, 3), (59, .aload_n 0, 1), (60, .getfield 14, 3), (63, .iload_n 1, 1), (64, .iconst 0, 1), (65, .invokevirtual 73, 3), (68, .aload_n 0, 1), (69, .invokevirtual 77, 3), (72, .return_, 1)]
theorem dTX1_clear_0_ok : ∀ (k : Nat) (q : Nat × Instr × Nat), dTX1_clear_0[k]? = some q → decode cX1_clear q.1 = .ok q.2 := dT_of (by decide +kernel)
theorem dX1_clear_0 : decode cX1_clear 0 = .ok (.iload_n 1, 1) := dTX1_clear_0_ok 0 (0, .iload_n 1, 1) rfl
theorem dX1_clear_1 : decode cX1_clear 1 = .ok (.invokestatic 69, 3) := dTX1_clear_0_ok 1 (1, .invokestatic 69, 3) rfl
theorem dX1_clear_4 : decode cX1_clear 4 = .ok (.ldc2_w 80, 3) := dTX1_clear_0_ok 2 (4, .ldc2_w 80, 3) rfl
theorem dX1_clear_7 : decode cX1_clear 7 = .ok (.lxor, 1) := dTX1_clear_0_ok 3 (7, .lxor, 1) rfl
theorem dX1_clear_8 : decode cX1_clear 8 = .ok (.lstore_n 2, 1) := dTX1_clear_0_ok 4 (8, .lstore_n 2, 1) rfl
theorem dX1_clear_9 : decode cX1_clear 9 = .ok (.aload_n 0, 1) := dTX1_clear_0_ok 5 (9, .aload_n 0, 1) rfl
theorem dX1_clear_10 : decode cX1_clear 10 = .ok (.dup, 1) := dTX1_clear_0_ok 6 (10, .dup, 1) rfl
theorem dX1_clear_11 : decode cX1_clear 11 = .ok (.getfield 20, 3) := dTX1_clear_0_ok 7 (11, .getfield 20, 3) rfl
theorem dX1_clear_14 : decode cX1_clear 14 = .ok (.lload_n 2, 1) := dTX1_clear_0_ok 8 (14, .lload_n 2, 1) rfl
theorem dX1_clear_15 : decode cX1_clear 15 = .ok (.land, 1) := dTX1_clear_0_ok 9 (15, .land, 1) rfl
theorem dX1_clear_16 : decode cX1_clear 16 = .ok (.putfield 20, 3) := dTX1_clear_0_ok 10 (16, .putfield 20, 3) rfl
theorem dX1_clear_19 : decode cX1_clear 19 = .ok (.aload_n 0, 1) := dTX1_clear_0_ok 11 (19, .aload_n 0, 1) rfl
theorem dX1_clear_20 : decode cX1_clear 20 = .ok (.dup, 1) := dTX1_clear_0_ok 12 (20, .dup, 1) rfl
theorem dX1_clear_21 : decode cX1_clear 21 = .ok (.getfield 24, 3) := dTX1_clear_0_ok 13 (21, .getfield 24, 3) rfl
theorem dX1_clear_24 : decode cX1_clear 24 = .ok (.lload_n 2, 1) := dTX1_clear_0_ok 14 (24, .lload_n 2, 1) rfl
theorem dX1_clear_25 : decode cX1_clear 25 = .ok (.land, 1) := dTX1_clear_0_ok 15 (25, .land, 1) rfl
theorem dX1_clear_26 : decode cX1_clear 26 = .ok (.putfield 24, 3) := dTX1_clear_0_ok 16 (26, .putfield 24, 3) rfl
theorem dX1_clear_29 : decode cX1_clear 29 = .ok (.aload_n 0, 1) := dTX1_clear_0_ok 17 (29, .aload_n 0, 1) rfl
theorem dX1_clear_30 : decode cX1_clear 30 = .ok (.dup, 1) := dTX1_clear_0_ok 18 (30, .dup, 1) rfl
theorem dX1_clear_31 : decode cX1_clear 31 = .ok (.getfield 27, 3) := dTX1_clear_0_ok 19 (31, .getfield 27, 3) rfl
theorem dX1_clear_34 : decode cX1_clear 34 = .ok (.lload_n 2, 1) := dTX1_clear_0_ok 20 (34, .lload_n 2, 1) rfl
theorem dX1_clear_35 : decode cX1_clear 35 = .ok (.land, 1) := dTX1_clear_0_ok 21 (35, .land, 1) rfl
theorem dX1_clear_36 : decode cX1_clear 36 = .ok (.putfield 27, 3) := dTX1_clear_0_ok 22 (36, .putfield 27, 3) rfl
theorem dX1_clear_39 : decode cX1_clear 39 = .ok (.aload_n 0, 1) := dTX1_clear_0_ok 23 (39, .aload_n 0, 1) rfl
theorem dX1_clear_40 : decode cX1_clear 40 = .ok (.dup, 1) := dTX1_clear_0_ok 24 (40, .dup, 1) rfl
theorem dX1_clear_41 : decode cX1_clear 41 = .ok (.getfield 30, 3) := dTX1_clear_0_ok 25 (41, .getfield 30, 3) rfl
theorem dX1_clear_44 : decode cX1_clear 44 = .ok (.lload_n 2, 1) := dTX1_clear_0_ok 26 (44, .lload_n 2, 1) rfl
theorem dX1_clear_45 : decode cX1_clear 45 = .ok (.land, 1) := dTX1_clear_0_ok 27 (45, .land, 1) rfl
theorem dX1_clear_46 : decode cX1_clear 46 = .ok (.putfield 30, 3) := dTX1_clear_0_ok 28 (46, .putfield 30, 3) rfl
theorem dX1_clear_49 : decode cX1_clear 49 = .ok (.aload_n 0, 1) := dTX1_clear_0_ok 29 (49, .aload_n 0, 1) rfl
theorem dX1_clear_50 : decode cX1_clear 50 = .ok (.dup, 1) := dTX1_clear_0_ok 30 (50, .dup, 1) rfl
theorem dX1_clear_51 : decode cX1_clear 51 = .ok (.getfield 33, 3) := dTX1_clear_0_ok 31 (51, .getfield 33, 3) rfl
theorem dX1_clear_54 : decode cX1_clear 54 = .ok (.lload_n 2, 1) := dTX1_clear_0_ok 32 (54, .lload_n 2, 1) rfl
theorem dX1_clear_55 : decode cX1_clear 55 = .ok (.land, 1) := dTX1_clear_0_ok 33 (55, .land, 1) rfl
theorem dX1_clear_56 : decode cX1_clear 56 = .ok (.putfield 33, 3) := dTX1_clear_0_ok 34 (56, .putfield 33, 3) rfl
theorem dX1_clear_59 : decode cX1_clear 59 = .ok (.aload_n 0, 1) := dTX1_clear_0_ok 35 (59, .aload_n 0, 1) rfl
theorem dX1_clear_60 : decode cX1_clear 60 = .ok (.getfield 14, 3) := dTX1_clear_0_ok 36 (60, .getfield 14, 3) rfl
theorem dX1_clear_63 : decode cX1_clear 63 = .ok (.iload_n 1, 1) := dTX1_clear_0_ok 37 (63, .iload_n 1, 1) rfl
theorem dX1_clear_64 : decode cX1_clear 64 = .ok (.iconst 0, 1) := dTX1_clear_0_ok 38 (64, .iconst 0, 1) rfl
theorem dX1_clear_65 : decode cX1_clear 65 = .ok (.invokevirtual 73, 3) := dTX1_clear_0_ok 39 (65, .invokevirtual 73, 3) rfl
theorem dX1_clear_68 : decode cX1_clear 68 = .ok (.aload_n 0, 1) := dTX1_clear_0_ok 40 (68, .aload_n 0, 1) rfl
theorem dX1_clear_69 : decode cX1_clear 69 = .ok (.invokevirtual 77, 3) := dTX1_clear_0_ok 41 (69, .invokevirtual 77, 3) rfl
theorem dX1_clear_72 : decode cX1_clear 72 = .ok (.return_, 1) := dTX1_clear_0_ok 42 (72, .return_, 1) rfl
noncomputable def dTX1_switchCandle_0 : List (Nat × Instr × Nat) := [(0, .aload_n 0, 1), (1, .dup, 1), (2, .getfield 24, 3), (5, .iload_n 1, 1), (6, .invokestatic 69, 3), (9, .lxor, 1), (10, .putfield 24, 3), (13, .aload_n 0, 1), (14, .invokevirtual 77, 3), (17, .return_, 1)]
theorem dTX1_switchCandle_0_ok : ∀ (k : Nat) (q : Nat × Instr × Nat), dTX1_switchCandle_0[k]? = some q → decode cX1_switchCandle q.1 = .ok q.2 := dT_of (by decide +kernel)
theorem dX1_switchCandle_0 : decode cX1_switchCandle 0 = .ok (.aload_n 0, 1) := dTX1_switchCandle_0_ok 0 (0, .aload_n 0, 1) rfl
theorem dX1_switchCandle_1 : decode cX1_switchCandle 1 = .ok (.dup, 1) := dTX1_switchCandle_0_ok 1 (1, .dup, 1) rfl
theorem dX1_switchCandle_2 : decode cX1_switchCandle 2 = .ok (.getfield 24, 3) := dTX1_switchCandle_0_ok 2 (2, .getfield 24, 3) rfl
theorem dX1_switchCandle_5 : decode cX1_switchCandle 5 = .ok (.iload_n 1, 1) := dTX1_switchCandle_0_ok 3 (5, .iload_n 1, 1) rfl
theorem dX1_switchCandle_6 : decode cX1_switchCandle 6 = .ok (.invokestatic 69, 3) := dTX1_switchCandle_0_ok 4 (6, .invokestatic 69, 3) rfl
theorem dX1_switchCandle_9 : decode cX1_switchCandle 9 = .ok (.lxor, 1) := dTX1_switchCandle_0_ok 5 (9, .lxor, 1) rfl
theorem dX1_switchCandle_10 : decode cX1_switchCandle 10 = .ok (.putfield 24, 3) := dTX1_switchCandle_0_ok 6 (10, .putfield 24, 3) rfl
theorem dX1_switchCandle_13 : decode cX1_switchCandle 13 = .ok (.aload_n 0, 1) := dTX1_switchCandle_0_ok 7 (13, .aload_n 0, 1) rfl
theorem dX1_switchCandle_14 : decode cX1_switchCandle 14 = .ok (.invokevirtual 77, 3) := dTX1_switchCandle_0_ok 8 (14, .invokevirtual 77, 3) rfl
theorem dX1_switchCandle_17 : decode cX1_switchCandle 17 = .ok (.return_, 1) := dTX1_switchCandle_0_ok 9 (17, .return_, 1) rfl
noncomputable def dTX1_walledCells_0 : List (Nat × Instr × Nat) := [(0, .iload_n 1, 1), (1, .tableswitch 45 0 2 #[27, 35, 40], 27), (28, .aload_n 0, 1), (29, .getfield 39, 3), (32, .bipush 9, 2), (34, .lshl, 1), (35, .lreturn, 1), (36, .aload_n 0, 1), (37, .getfield 36, 3), (40, .lreturn, 1), (41, .aload_n 0, 1), (42, .getfield 39, 3), (45, .lreturn, 1), (46, .aload_n 0, 1), (47, .getfield 36, 3), (50, .iconst 1, 1), (51, .lshl, 1), (52, .lreturn, 1)]
theorem dTX1_walledCells_0_ok : ∀ (k : Nat) (q : Nat × Instr × Nat), dTX1_walledCells_0[k]? = some q → decode cX1_walledCells q.1 = .ok q.2 := dT_of (by decide +kernel)
theorem dX1_walledCells_0 : decode cX1_walledCells 0 = .ok (.iload_n 1, 1) := dTX1_walledCells_0_ok 0 (0, .iload_n 1, 1) rfl
theorem dX1_walledCells_1 : decode cX1_walledCells 1 = .ok (.tableswitch 45 0 2 #[27, 35, 40], 27) := dTX1_walledCells_0_ok 1 (1, .tableswitch 45 0 2 #[27, 35, 40], 27) rfl
theorem dX1_walledCells_28 : decode cX1_walledCells 28 = .ok (.aload_n 0, 1) := dTX1_walledCells_0_ok 2 (28, .aload_n 0, 1) rfl
theorem dX1_walledCells_29 : decode cX1_walledCells 29 = .ok (.getfield 39, 3) := dTX1_walledCells_0_ok 3 (29, .getfield 39, 3) rfl
theorem dX1_walledCells_32 : decode cX1_walledCells 32 = .ok (.bipush 9, 2) := dTX1_walledCells_0_ok 4 (32, .bipush 9, 2) rfl
theorem dX1_walledCells_34 : decode cX1_walledCells 34 = .ok (.lshl, 1) := dTX1_walledCells_0_ok 5 (34, .lshl, 1) rfl
theorem dX1_walledCells_35 : decode cX1_walledCells 35 = .ok (.lreturn, 1) := dTX1_walledCells_0_ok 6 (35, .lreturn, 1) rfl
theorem dX1_walledCells_36 : decode cX1_walledCells 36 = .ok (.aload_n 0, 1) := dTX1_walledCells_0_ok 7 (36, .aload_n 0, 1) rfl
theorem dX1_walledCells_37 : decode cX1_walledCells 37 = .ok (.getfield 36, 3) := dTX1_walledCells_0_ok 8 (37, .getfield 36, 3) rfl
theorem dX1_walledCells_40 : decode cX1_walledCells 40 = .ok (.lreturn, 1) := dTX1_walledCells_0_ok 9 (40, .lreturn, 1) rfl
theorem dX1_walledCells_41 : decode cX1_walledCells 41 = .ok (.aload_n 0, 1) := dTX1_walledCells_0_ok 10 (41, .aload_n 0, 1) rfl
theorem dX1_walledCells_42 : decode cX1_walledCells 42 = .ok (.getfield 39, 3) := dTX1_walledCells_0_ok 11 (42, .getfield 39, 3) rfl
theorem dX1_walledCells_45 : decode cX1_walledCells 45 = .ok (.lreturn, 1) := dTX1_walledCells_0_ok 12 (45, .lreturn, 1) rfl
theorem dX1_walledCells_46 : decode cX1_walledCells 46 = .ok (.aload_n 0, 1) := dTX1_walledCells_0_ok 13 (46, .aload_n 0, 1) rfl
theorem dX1_walledCells_47 : decode cX1_walledCells 47 = .ok (.getfield 36, 3) := dTX1_walledCells_0_ok 14 (47, .getfield 36, 3) rfl
theorem dX1_walledCells_50 : decode cX1_walledCells 50 = .ok (.iconst 1, 1) := dTX1_walledCells_0_ok 15 (50, .iconst 1, 1) rfl
theorem dX1_walledCells_51 : decode cX1_walledCells 51 = .ok (.lshl, 1) := dTX1_walledCells_0_ok 16 (51, .lshl, 1) rfl
theorem dX1_walledCells_52 : decode cX1_walledCells 52 = .ok (.lreturn, 1) := dTX1_walledCells_0_ok 17 (52, .lreturn, 1) rfl
noncomputable def dTX1_hasWall_0 : List (Nat × Instr × Nat) := [(0, .aload_n 0, 1), (1, .iload_n 2, 1), (2, .invokevirtual 82, 3), (5, .iload_n 1, 1), (6, .invokestatic 63, 3), (9, .ireturn, 1)]
theorem dTX1_hasWall_0_ok : ∀ (k : Nat) (q : Nat × Instr × Nat), dTX1_hasWall_0[k]? = some q → decode cX1_hasWall q.1 = .ok q.2 := dT_of (by decide +kernel)
theorem dX1_hasWall_0 : decode cX1_hasWall 0 = .ok (.aload_n 0, 1) := dTX1_hasWall_0_ok 0 (0, .aload_n 0, 1) rfl
theorem dX1_hasWall_1 : decode cX1_hasWall 1 = .ok (.iload_n 2, 1) := dTX1_hasWall_0_ok 1 (1, .iload_n 2, 1) rfl
theorem dX1_hasWall_2 : decode cX1_hasWall 2 = .ok (.invokevirtual 82, 3) := dTX1_hasWall_0_ok 2 (2, .invokevirtual 82, 3) rfl
theorem dX1_hasWall_5 : decode cX1_hasWall 5 = .ok (.iload_n 1, 1) := dTX1_hasWall_0_ok 3 (5, .iload_n 1, 1) rfl
theorem dX1_hasWall_6 : decode cX1_hasWall 6 = .ok (.invokestatic 63, 3) := dTX1_hasWall_0_ok 4 (6, .invokestatic 63, 3) rfl
theorem dX1_hasWall_9 : decode cX1_hasWall 9 = .ok (.ireturn, 1) := dTX1_hasWall_0_ok 5 (9, .ireturn, 1) rfl
noncomputable def dTX1_switchWall_0 : List (Nat × Instr × Nat) := [(0, .iload_n 1, 1), (1, .invokestatic 69, 3), (4, .lstore_n 3, 1), (5, .lload_n 3, 1), (6, .iload_n 2, 1), (7, .invokestatic 85, 3), (10, .lstore 5, 2), (12, .iload_n 2, 1), (13, .tableswitch 67 0 2 #[27, 41, 54], 27), (40, .aload_n 0, 1), (41, .dup, 1), (42, .getfield 39, 3), (45, .lload 5, 2), (47, .lxor, 1), (48, .putfield 39, 3), (51, .goto 40, 3), (54, .aload_n 0, 1), (55, .dup, 1), (56, .getfield 36, 3), (59, .lload_n 3, 1), (60, .lxor, 1), (61, .putfield 36, 3), (64, .goto 27, 3), (67, .aload_n 0, 1), (68, .dup, 1), (69, .getfield 39, 3), (72, .lload_n 3, 1), (73, .lxor, 1), (74, .putfield 39, 3), (77, .goto 14, 3), (80, .aload_n 0, 1), (81, .dup, 1), (82, .getfield 36, 3), (85, .lload 5, 2), (87, .lxor, 1), (88, .putfield 36, 3), (91, .aload_n 0, 1), (92, .invokevirtual 77, 3), (95, .return_, 1)]
theorem dTX1_switchWall_0_ok : ∀ (k : Nat) (q : Nat × Instr × Nat), dTX1_switchWall_0[k]? = some q → decode cX1_switchWall q.1 = .ok q.2 := dT_of (by decide +kernel)
theorem dX1_switchWall_0 : decode cX1_switchWall 0 = .ok (.iload_n 1, 1) := dTX1_switchWall_0_ok 0 (0, .iload_n 1, 1) rfl
theorem dX1_switchWall_1 : decode cX1_switchWall 1 = .ok (.invokestatic 69, 3) := dTX1_switchWall_0_ok 1 (1, .invokestatic 69, 3) rfl
theorem dX1_switchWall_4 : decode cX1_switchWall 4 = .ok (.lstore_n 3, 1) := dTX1_switchWall_0_ok 2 (4, .lstore_n 3, 1) rfl
theorem dX1_switchWall_5 : decode cX1_switchWall 5 = .ok (.lload_n 3, 1) := dTX1_switchWall_0_ok 3 (5, .lload_n 3, 1) rfl
theorem dX1_switchWall_6 : decode cX1_switchWall 6 = .ok (.iload_n 2, 1) := dTX1_switchWall_0_ok 4 (6, .iload_n 2, 1) rfl
theorem dX1_switchWall_7 : decode cX1_switchWall 7 = .ok (.invokestatic 85, 3) := dTX1_switchWall_0_ok 5 (7, .invokestatic 85, 3) rfl
theorem dX1_switchWall_10 : decode cX1_switchWall 10 = .ok (.lstore 5, 2) := dTX1_switchWall_0_ok 6 (10, .lstore 5, 2) rfl
theorem dX1_switchWall_12 : decode cX1_switchWall 12 = .ok (.iload_n 2, 1) := dTX1_switchWall_0_ok 7 (12, .iload_n 2, 1) rfl
theorem dX1_switchWall_13 : decode cX1_switchWall 13 = .ok (.tableswitch 67 0 2 #[27, 41, 54], 27) := dTX1_switchWall_0_ok 8 (13, .tableswitch 67 0 2 #[27, 41, 54], 27) rfl
theorem dX1_switchWall_40 : decode cX1_switchWall 40 = .ok (.aload_n 0, 1) := dTX1_switchWall_0_ok 9 (40, .aload_n 0, 1) rfl
theorem dX1_switchWall_41 : decode cX1_switchWall 41 = .ok (.dup, 1) := dTX1_switchWall_0_ok 10 (41, .dup, 1) rfl
theorem dX1_switchWall_42 : decode cX1_switchWall 42 = .ok (.getfield 39, 3) := dTX1_switchWall_0_ok 11 (42, .getfield 39, 3) rfl
theorem dX1_switchWall_45 : decode cX1_switchWall 45 = .ok (.lload 5, 2) := dTX1_switchWall_0_ok 12 (45, .lload 5, 2) rfl
theorem dX1_switchWall_47 : decode cX1_switchWall 47 = .ok (.lxor, 1) := dTX1_switchWall_0_ok 13 (47, .lxor, 1) rfl
theorem dX1_switchWall_48 : decode cX1_switchWall 48 = .ok (.putfield 39, 3) := dTX1_switchWall_0_ok 14 (48, .putfield 39, 3) rfl
theorem dX1_switchWall_51 : decode cX1_switchWall 51 = .ok (.goto 40, 3) := dTX1_switchWall_0_ok 15 (51, .goto 40, 3) rfl
theorem dX1_switchWall_54 : decode cX1_switchWall 54 = .ok (.aload_n 0, 1) := dTX1_switchWall_0_ok 16 (54, .aload_n 0, 1) rfl
theorem dX1_switchWall_55 : decode cX1_switchWall 55 = .ok (.dup, 1) := dTX1_switchWall_0_ok 17 (55, .dup, 1) rfl
theorem dX1_switchWall_56 : decode cX1_switchWall 56 = .ok (.getfield 36, 3) := dTX1_switchWall_0_ok 18 (56, .getfield 36, 3) rfl
theorem dX1_switchWall_59 : decode cX1_switchWall 59 = .ok (.lload_n 3, 1) := dTX1_switchWall_0_ok 19 (59, .lload_n 3, 1) rfl
theorem dX1_switchWall_60 : decode cX1_switchWall 60 = .ok (.lxor, 1) := dTX1_switchWall_0_ok 20 (60, .lxor, 1) rfl
theorem dX1_switchWall_61 : decode cX1_switchWall 61 = .ok (.putfield 36, 3) := dTX1_switchWall_0_ok 21 (61, .putfield 36, 3) rfl
theorem dX1_switchWall_64 : decode cX1_switchWall 64 = .ok (.goto 27, 3) := dTX1_switchWall_0_ok 22 (64, .goto 27, 3) rfl
theorem dX1_switchWall_67 : decode cX1_switchWall 67 = .ok (.aload_n 0, 1) := dTX1_switchWall_0_ok 23 (67, .aload_n 0, 1) rfl
theorem dX1_switchWall_68 : decode cX1_switchWall 68 = .ok (.dup, 1) := dTX1_switchWall_0_ok 24 (68, .dup, 1) rfl
theorem dX1_switchWall_69 : decode cX1_switchWall 69 = .ok (.getfield 39, 3) := dTX1_switchWall_0_ok 25 (69, .getfield 39, 3) rfl
theorem dX1_switchWall_72 : decode cX1_switchWall 72 = .ok (.lload_n 3, 1) := dTX1_switchWall_0_ok 26 (72, .lload_n 3, 1) rfl
theorem dX1_switchWall_73 : decode cX1_switchWall 73 = .ok (.lxor, 1) := dTX1_switchWall_0_ok 27 (73, .lxor, 1) rfl
theorem dX1_switchWall_74 : decode cX1_switchWall 74 = .ok (.putfield 39, 3) := dTX1_switchWall_0_ok 28 (74, .putfield 39, 3) rfl
theorem dX1_switchWall_77 : decode cX1_switchWall 77 = .ok (.goto 14, 3) := dTX1_switchWall_0_ok 29 (77, .goto 14, 3) rfl
theorem dX1_switchWall_80 : decode cX1_switchWall 80 = .ok (.aload_n 0, 1) := dTX1_switchWall_0_ok 30 (80, .aload_n 0, 1) rfl
theorem dX1_switchWall_81 : decode cX1_switchWall 81 = .ok (.dup, 1) := dTX1_switchWall_0_ok 31 (81, .dup, 1) rfl
theorem dX1_switchWall_82 : decode cX1_switchWall 82 = .ok (.getfield 36, 3) := dTX1_switchWall_0_ok 32 (82, .getfield 36, 3) rfl
theorem dX1_switchWall_85 : decode cX1_switchWall 85 = .ok (.lload 5, 2) := dTX1_switchWall_0_ok 33 (85, .lload 5, 2) rfl
theorem dX1_switchWall_87 : decode cX1_switchWall 87 = .ok (.lxor, 1) := dTX1_switchWall_0_ok 34 (87, .lxor, 1) rfl
theorem dX1_switchWall_88 : decode cX1_switchWall 88 = .ok (.putfield 36, 3) := dTX1_switchWall_0_ok 35 (88, .putfield 36, 3) rfl
theorem dX1_switchWall_91 : decode cX1_switchWall 91 = .ok (.aload_n 0, 1) := dTX1_switchWall_0_ok 36 (91, .aload_n 0, 1) rfl
theorem dX1_switchWall_92 : decode cX1_switchWall 92 = .ok (.invokevirtual 77, 3) := dTX1_switchWall_0_ok 37 (92, .invokevirtual 77, 3) rfl
theorem dX1_switchWall_95 : decode cX1_switchWall 95 = .ok (.return_, 1) := dTX1_switchWall_0_ok 38 (95, .return_, 1) rfl
noncomputable def dTX1_neighbours_0 : List (Nat × Instr × Nat) := [(0, .lconst 0, 1), (1, .lstore 4, 2), (3, .iconst 0, 1), (4, .istore 6, 2), (6, .iload 6, 2), (8, .iconst 4, 1), (9, .if_icmp .ge 44, 3), (12, .aload_n 0, 1), (13, .iload 6, 2), (15, .invokevirtual 82, 3), (18, .lstore 7, 2), (20, .lload 4, 2), (22, .lload_n 1, 1), (23, .iload_n 3, 1), (24, .ifCond .eq 8, 3), (27, .lload 7, 2), (29, .goto 9, 3), (32, .lload 7, 2), (34, .ldc2_w 80, 3), (37, .lxor, 1), (38, .land, 1), (39, .iload 6, 2), (41, .invokestatic 85, 3), (44, .lor, 1), (45, .lstore 4, 2), (47, .iinc 6 1, 3), (50, .goto (-44), 3), (53, .lload 4, 2), (55, .lreturn, 1)]
theorem dTX1_neighbours_0_ok : ∀ (k : Nat) (q : Nat × Instr × Nat), dTX1_neighbours_0[k]? = some q → decode cX1_neighbours q.1 = .ok q.2 := dT_of (by decide +kernel)
theorem dX1_neighbours_0 : decode cX1_neighbours 0 = .ok (.lconst 0, 1) := dTX1_neighbours_0_ok 0 (0, .lconst 0, 1) rfl
theorem dX1_neighbours_1 : decode cX1_neighbours 1 = .ok (.lstore 4, 2) := dTX1_neighbours_0_ok 1 (1, .lstore 4, 2) rfl
theorem dX1_neighbours_3 : decode cX1_neighbours 3 = .ok (.iconst 0, 1) := dTX1_neighbours_0_ok 2 (3, .iconst 0, 1) rfl
theorem dX1_neighbours_4 : decode cX1_neighbours 4 = .ok (.istore 6, 2) := dTX1_neighbours_0_ok 3 (4, .istore 6, 2) rfl
theorem dX1_neighbours_6 : decode cX1_neighbours 6 = .ok (.iload 6, 2) := dTX1_neighbours_0_ok 4 (6, .iload 6, 2) rfl
theorem dX1_neighbours_8 : decode cX1_neighbours 8 = .ok (.iconst 4, 1) := dTX1_neighbours_0_ok 5 (8, .iconst 4, 1) rfl
theorem dX1_neighbours_9 : decode cX1_neighbours 9 = .ok (.if_icmp .ge 44, 3) := dTX1_neighbours_0_ok 6 (9, .if_icmp .ge 44, 3) rfl
theorem dX1_neighbours_12 : decode cX1_neighbours 12 = .ok (.aload_n 0, 1) := dTX1_neighbours_0_ok 7 (12, .aload_n 0, 1) rfl
theorem dX1_neighbours_13 : decode cX1_neighbours 13 = .ok (.iload 6, 2) := dTX1_neighbours_0_ok 8 (13, .iload 6, 2) rfl
theorem dX1_neighbours_15 : decode cX1_neighbours 15 = .ok (.invokevirtual 82, 3) := dTX1_neighbours_0_ok 9 (15, .invokevirtual 82, 3) rfl
theorem dX1_neighbours_18 : decode cX1_neighbours 18 = .ok (.lstore 7, 2) := dTX1_neighbours_0_ok 10 (18, .lstore 7, 2) rfl
theorem dX1_neighbours_20 : decode cX1_neighbours 20 = .ok (.lload 4, 2) := dTX1_neighbours_0_ok 11 (20, .lload 4, 2) rfl
theorem dX1_neighbours_22 : decode cX1_neighbours 22 = .ok (.lload_n 1, 1) := dTX1_neighbours_0_ok 12 (22, .lload_n 1, 1) rfl
theorem dX1_neighbours_23 : decode cX1_neighbours 23 = .ok (.iload_n 3, 1) := dTX1_neighbours_0_ok 13 (23, .iload_n 3, 1) rfl
theorem dX1_neighbours_24 : decode cX1_neighbours 24 = .ok (.ifCond .eq 8, 3) := dTX1_neighbours_0_ok 14 (24, .ifCond .eq 8, 3) rfl
theorem dX1_neighbours_27 : decode cX1_neighbours 27 = .ok (.lload 7, 2) := dTX1_neighbours_0_ok 15 (27, .lload 7, 2) rfl
theorem dX1_neighbours_29 : decode cX1_neighbours 29 = .ok (.goto 9, 3) := dTX1_neighbours_0_ok 16 (29, .goto 9, 3) rfl
theorem dX1_neighbours_32 : decode cX1_neighbours 32 = .ok (.lload 7, 2) := dTX1_neighbours_0_ok 17 (32, .lload 7, 2) rfl
theorem dX1_neighbours_34 : decode cX1_neighbours 34 = .ok (.ldc2_w 80, 3) := dTX1_neighbours_0_ok 18 (34, .ldc2_w 80, 3) rfl
theorem dX1_neighbours_37 : decode cX1_neighbours 37 = .ok (.lxor, 1) := dTX1_neighbours_0_ok 19 (37, .lxor, 1) rfl
theorem dX1_neighbours_38 : decode cX1_neighbours 38 = .ok (.land, 1) := dTX1_neighbours_0_ok 20 (38, .land, 1) rfl
theorem dX1_neighbours_39 : decode cX1_neighbours 39 = .ok (.iload 6, 2) := dTX1_neighbours_0_ok 21 (39, .iload 6, 2) rfl
theorem dX1_neighbours_41 : decode cX1_neighbours 41 = .ok (.invokestatic 85, 3) := dTX1_neighbours_0_ok 22 (41, .invokestatic 85, 3) rfl
theorem dX1_neighbours_44 : decode cX1_neighbours 44 = .ok (.lor, 1) := dTX1_neighbours_0_ok 23 (44, .lor, 1) rfl
theorem dX1_neighbours_45 : decode cX1_neighbours 45 = .ok (.lstore 4, 2) := dTX1_neighbours_0_ok 24 (45, .lstore 4, 2) rfl
theorem dX1_neighbours_47 : decode cX1_neighbours 47 = .ok (.iinc 6 1, 3) := dTX1_neighbours_0_ok 25 (47, .iinc 6 1, 3) rfl
theorem dX1_neighbours_50 : decode cX1_neighbours 50 = .ok (.goto (-44), 3) := dTX1_neighbours_0_ok 26 (50, .goto (-44), 3) rfl
theorem dX1_neighbours_53 : decode cX1_neighbours 53 = .ok (.lload 4, 2) := dTX1_neighbours_0_ok 27 (53, .lload 4, 2) rfl
theorem dX1_neighbours_55 : decode cX1_neighbours 55 = .ok (.lreturn, 1) := dTX1_neighbours_0_ok 28 (55, .lreturn, 1) rfl
noncomputable def dTX1_cellsLitFrom_0 : List (Nat × Instr × Nat) := [(0, .iload_n 1, 1), (1, .invokestatic 69, 3), (4, .lstore_n 2, 1), (5, .lload_n 2, 1), (6, .lstore 4, 2), (8, .iconst 0, 1), (9, .istore 6, 2), (11, .iload 6, 2), (13, .iconst 4, 1), (14, .if_icmp .ge 75, 3), (17, .lload_n 2, 1), (18, .lstore 7, 2), (20, .iload 6, 2), (22, .istore 9, 2), (24, .iconst 0, 1), (25, .istore 10, 2), (27, .iload 10, 2), (29, .bipush 6, 2), (31, .if_icmp .ge 52, 3), (34, .lload 7, 2), (36, .aload_n 0, 1), (37, .iload 9, 2), (39, .invokevirtual 82, 3), (42, .ldc2_w 80, 3), (45, .lxor, 1), (46, .land, 1), (47, .iload 9, 2), (49, .invokestatic 85, 3), (52, .lstore 7, 2), (54, .lload 4, 2), (56, .lload 7, 2), (58, .lor, 1), (59, .lstore 4, 2), (61, .aload_n 0, 1), (62, .lload 7, 2), (64, .lload_n 2, 1), (65, .ldc2_w 80, 3), (68, .lxor, 1), (69, .land, 1), (70, .iload 9, 2), (72, .invokevirtual 89, 3), (75, .istore 9, 2), (77, .iinc 10 1, 3), (80, .goto (-53), 3), (83, .iinc 6 1, 3), (86, .goto (-75), 3), (89, .lload 4, 2), (91, .lreturn, 1)]
theorem dTX1_cellsLitFrom_0_ok : ∀ (k : Nat) (q : Nat × Instr × Nat), dTX1_cellsLitFrom_0[k]? = some q → decode cX1_cellsLitFrom q.1 = .ok q.2 := dT_of (by decide +kernel)
theorem dX1_cellsLitFrom_0 : decode cX1_cellsLitFrom 0 = .ok (.iload_n 1, 1) := dTX1_cellsLitFrom_0_ok 0 (0, .iload_n 1, 1) rfl
theorem dX1_cellsLitFrom_1 : decode cX1_cellsLitFrom 1 = .ok (.invokestatic 69, 3) := dTX1_cellsLitFrom_0_ok 1 (1, .invokestatic 69, 3) rfl
theorem dX1_cellsLitFrom_4 : decode cX1_cellsLitFrom 4 = .ok (.lstore_n 2, 1) := dTX1_cellsLitFrom_0_ok 2 (4, .lstore_n 2, 1) rfl
theorem dX1_cellsLitFrom_5 : decode cX1_cellsLitFrom 5 = .ok (.lload_n 2, 1) := dTX1_cellsLitFrom_0_ok 3 (5, .lload_n 2, 1) rfl
theorem dX1_cellsLitFrom_6 : decode cX1_cellsLitFrom 6 = .ok (.lstore 4, 2) := dTX1_cellsLitFrom_0_ok 4 (6, .lstore 4, 2) rfl
theorem dX1_cellsLitFrom_8 : decode cX1_cellsLitFrom 8 = .ok (.iconst 0, 1) := dTX1_cellsLitFrom_0_ok 5 (8, .iconst 0, 1) rfl
theorem dX1_cellsLitFrom_9 : decode cX1_cellsLitFrom 9 = .ok (.istore 6, 2) := dTX1_cellsLitFrom_0_ok 6 (9, .istore 6, 2) rfl
theorem dX1_cellsLitFrom_11 : decode cX1_cellsLitFrom 11 = .ok (.iload 6, 2) := dTX1_cellsLitFrom_0_ok 7 (11, .iload 6, 2) rfl
theorem dX1_cellsLitFrom_13 : decode cX1_cellsLitFrom 13 = .ok (.iconst 4, 1) := dTX1_cellsLitFrom_0_ok 8 (13, .iconst 4, 1) rfl
theorem dX1_cellsLitFrom_14 : decode cX1_cellsLitFrom 14 = .ok (.if_icmp .ge 75, 3) := dTX1_cellsLitFrom_0_ok 9 (14, .if_icmp .ge 75, 3) rfl
theorem dX1_cellsLitFrom_17 : decode cX1_cellsLitFrom 17 = .ok (.lload_n 2, 1) := dTX1_cellsLitFrom_0_ok 10 (17, .lload_n 2, 1) rfl
theorem dX1_cellsLitFrom_18 : decode cX1_cellsLitFrom 18 = .ok (.lstore 7, 2) := dTX1_cellsLitFrom_0_ok 11 (18, .lstore 7, 2) rfl
theorem dX1_cellsLitFrom_20 : decode cX1_cellsLitFrom 20 = .ok (.iload 6, 2) := dTX1_cellsLitFrom_0_ok 12 (20, .iload 6, 2) rfl
theorem dX1_cellsLitFrom_22 : decode cX1_cellsLitFrom 22 = .ok (.istore 9, 2) := dTX1_cellsLitFrom_0_ok 13 (22, .istore 9, 2) rfl
theorem dX1_cellsLitFrom_24 : decode cX1_cellsLitFrom 24 = .ok (.iconst 0, 1) := dTX1_cellsLitFrom_0_ok 14 (24, .iconst 0, 1) rfl
theorem dX1_cellsLitFrom_25 : decode cX1_cellsLitFrom 25 = .ok (.istore 10, 2) := dTX1_cellsLitFrom_0_ok 15 (25, .istore 10, 2) rfl
theorem dX1_cellsLitFrom_27 : decode cX1_cellsLitFrom 27 = .ok (.iload 10, 2) := dTX1_cellsLitFrom_0_ok 16 (27, .iload 10, 2) rfl
theorem dX1_cellsLitFrom_29 : decode cX1_cellsLitFrom 29 = .ok (.bipush 6, 2) := dTX1_cellsLitFrom_0_ok 17 (29, .bipush 6, 2) rfl
theorem dX1_cellsLitFrom_31 : decode cX1_cellsLitFrom 31 = .ok (.if_icmp .ge 52, 3) := dTX1_cellsLitFrom_0_ok 18 (31, .if_icmp .ge 52, 3) rfl
theorem dX1_cellsLitFrom_34 : decode cX1_cellsLitFrom 34 = .ok (.lload 7, 2) := dTX1_cellsLitFrom_0_ok 19 (34, .lload 7, 2) rfl
theorem dX1_cellsLitFrom_36 : decode cX1_cellsLitFrom 36 = .ok (.aload_n 0, 1) := dTX1_cellsLitFrom_0_ok 20 (36, .aload_n 0, 1) rfl
theorem dX1_cellsLitFrom_37 : decode cX1_cellsLitFrom 37 = .ok (.iload 9, 2) := dTX1_cellsLitFrom_0_ok 21 (37, .iload 9, 2) rfl
theorem dX1_cellsLitFrom_39 : decode cX1_cellsLitFrom 39 = .ok (.invokevirtual 82, 3) := dTX1_cellsLitFrom_0_ok 22 (39, .invokevirtual 82, 3) rfl
theorem dX1_cellsLitFrom_42 : decode cX1_cellsLitFrom 42 = .ok (.ldc2_w 80, 3) := dTX1_cellsLitFrom_0_ok 23 (42, .ldc2_w 80, 3) rfl
theorem dX1_cellsLitFrom_45 : decode cX1_cellsLitFrom 45 = .ok (.lxor, 1) := dTX1_cellsLitFrom_0_ok 24 (45, .lxor, 1) rfl
theorem dX1_cellsLitFrom_46 : decode cX1_cellsLitFrom 46 = .ok (.land, 1) := dTX1_cellsLitFrom_0_ok 25 (46, .land, 1) rfl
theorem dX1_cellsLitFrom_47 : decode cX1_cellsLitFrom 47 = .ok (.iload 9, 2) := dTX1_cellsLitFrom_0_ok 26 (47, .iload 9, 2) rfl
theorem dX1_cellsLitFrom_49 : decode cX1_cellsLitFrom 49 = .ok (.invokestatic 85, 3) := dTX1_cellsLitFrom_0_ok 27 (49, .invokestatic 85, 3) rfl
theorem dX1_cellsLitFrom_52 : decode cX1_cellsLitFrom 52 = .ok (.lstore 7, 2) := dTX1_cellsLitFrom_0_ok 28 (52, .lstore 7, 2) rfl
theorem dX1_cellsLitFrom_54 : decode cX1_cellsLitFrom 54 = .ok (.lload 4, 2) := dTX1_cellsLitFrom_0_ok 29 (54, .lload 4, 2) rfl
theorem dX1_cellsLitFrom_56 : decode cX1_cellsLitFrom 56 = .ok (.lload 7, 2) := dTX1_cellsLitFrom_0_ok 30 (56, .lload 7, 2) rfl
theorem dX1_cellsLitFrom_58 : decode cX1_cellsLitFrom 58 = .ok (.lor, 1) := dTX1_cellsLitFrom_0_ok 31 (58, .lor, 1) rfl
theorem dX1_cellsLitFrom_59 : decode cX1_cellsLitFrom 59 = .ok (.lstore 4, 2) := dTX1_cellsLitFrom_0_ok 32 (59, .lstore 4, 2) rfl
theorem dX1_cellsLitFrom_61 : decode cX1_cellsLitFrom 61 = .ok (.aload_n 0, 1) := dTX1_cellsLitFrom_0_ok 33 (61, .aload_n 0, 1) rfl
theorem dX1_cellsLitFrom_62 : decode cX1_cellsLitFrom 62 = .ok (.lload 7, 2) := dTX1_cellsLitFrom_0_ok 34 (62, .lload 7, 2) rfl
theorem dX1_cellsLitFrom_64 : decode cX1_cellsLitFrom 64 = .ok (.lload_n 2, 1) := dTX1_cellsLitFrom_0_ok 35 (64, .lload_n 2, 1) rfl
theorem dX1_cellsLitFrom_65 : decode cX1_cellsLitFrom 65 = .ok (.ldc2_w 80, 3) := dTX1_cellsLitFrom_0_ok 36 (65, .ldc2_w 80, 3) rfl
theorem dX1_cellsLitFrom_68 : decode cX1_cellsLitFrom 68 = .ok (.lxor, 1) := dTX1_cellsLitFrom_0_ok 37 (68, .lxor, 1) rfl
theorem dX1_cellsLitFrom_69 : decode cX1_cellsLitFrom 69 = .ok (.land, 1) := dTX1_cellsLitFrom_0_ok 38 (69, .land, 1) rfl
theorem dX1_cellsLitFrom_70 : decode cX1_cellsLitFrom 70 = .ok (.iload 9, 2) := dTX1_cellsLitFrom_0_ok 39 (70, .iload 9, 2) rfl
theorem dX1_cellsLitFrom_72 : decode cX1_cellsLitFrom 72 = .ok (.invokevirtual 89, 3) := dTX1_cellsLitFrom_0_ok 40 (72, .invokevirtual 89, 3) rfl
theorem dX1_cellsLitFrom_75 : decode cX1_cellsLitFrom 75 = .ok (.istore 9, 2) := dTX1_cellsLitFrom_0_ok 41 (75, .istore 9, 2) rfl
theorem dX1_cellsLitFrom_77 : decode cX1_cellsLitFrom 77 = .ok (.iinc 10 1, 3) := dTX1_cellsLitFrom_0_ok 42 (77, .iinc 10 1, 3) rfl
theorem dX1_cellsLitFrom_80 : decode cX1_cellsLitFrom 80 = .ok (.goto (-53), 3) := dTX1_cellsLitFrom_0_ok 43 (80, .goto (-53), 3) rfl
theorem dX1_cellsLitFrom_83 : decode cX1_cellsLitFrom 83 = .ok (.iinc 6 1, 3) := dTX1_cellsLitFrom_0_ok 44 (83, .iinc 6 1, 3) rfl
theorem dX1_cellsLitFrom_86 : decode cX1_cellsLitFrom 86 = .ok (.goto (-75), 3) := dTX1_cellsLitFrom_0_ok 45 (86, .goto (-75), 3) rfl
theorem dX1_cellsLitFrom_89 : decode cX1_cellsLitFrom 89 = .ok (.lload 4, 2) := dTX1_cellsLitFrom_0_ok 46 (89, .lload 4, 2) rfl
theorem dX1_cellsLitFrom_91 : decode cX1_cellsLitFrom 91 = .ok (.lreturn, 1) := dTX1_cellsLitFrom_0_ok 47 (91, .lreturn, 1) rfl
noncomputable def dTX1_turned_0 : List (Nat × Instr × Nat) := [(0, .lload_n 1, 1), (1, .aload_n 0, 1), (2, .getfield 27, 3), (5, .land, 1), (6, .lconst 0, 1), (7, .lcmp, 1), (8, .ifCond .eq 7, 3), (11, .iload_n 3, 1), (12, .iconst 1, 1), (13, .ixor, 1), (14, .ireturn, 1), (15, .lload_n 1, 1), (16, .aload_n 0, 1), (17, .getfield 30, 3), (20, .land, 1), (21, .lconst 0, 1), (22, .lcmp, 1), (23, .ifCond .eq 7, 3), (26, .iconst 3, 1), (27, .iload_n 3, 1), (28, .isub, 1), (29, .ireturn, 1), (30, .iload_n 3, 1), (31, .ireturn, 1)]
theorem dTX1_turned_0_ok : ∀ (k : Nat) (q : Nat × Instr × Nat), dTX1_turned_0[k]? = some q → decode cX1_turned q.1 = .ok q.2 := dT_of (by decide +kernel)
theorem dX1_turned_0 : decode cX1_turned 0 = .ok (.lload_n 1, 1) := dTX1_turned_0_ok 0 (0, .lload_n 1, 1) rfl
theorem dX1_turned_1 : decode cX1_turned 1 = .ok (.aload_n 0, 1) := dTX1_turned_0_ok 1 (1, .aload_n 0, 1) rfl
theorem dX1_turned_2 : decode cX1_turned 2 = .ok (.getfield 27, 3) := dTX1_turned_0_ok 2 (2, .getfield 27, 3) rfl
theorem dX1_turned_5 : decode cX1_turned 5 = .ok (.land, 1) := dTX1_turned_0_ok 3 (5, .land, 1) rfl
theorem dX1_turned_6 : decode cX1_turned 6 = .ok (.lconst 0, 1) := dTX1_turned_0_ok 4 (6, .lconst 0, 1) rfl
theorem dX1_turned_7 : decode cX1_turned 7 = .ok (.lcmp, 1) := dTX1_turned_0_ok 5 (7, .lcmp, 1) rfl
theorem dX1_turned_8 : decode cX1_turned 8 = .ok (.ifCond .eq 7, 3) := dTX1_turned_0_ok 6 (8, .ifCond .eq 7, 3) rfl
theorem dX1_turned_11 : decode cX1_turned 11 = .ok (.iload_n 3, 1) := dTX1_turned_0_ok 7 (11, .iload_n 3, 1) rfl
theorem dX1_turned_12 : decode cX1_turned 12 = .ok (.iconst 1, 1) := dTX1_turned_0_ok 8 (12, .iconst 1, 1) rfl
theorem dX1_turned_13 : decode cX1_turned 13 = .ok (.ixor, 1) := dTX1_turned_0_ok 9 (13, .ixor, 1) rfl
theorem dX1_turned_14 : decode cX1_turned 14 = .ok (.ireturn, 1) := dTX1_turned_0_ok 10 (14, .ireturn, 1) rfl
theorem dX1_turned_15 : decode cX1_turned 15 = .ok (.lload_n 1, 1) := dTX1_turned_0_ok 11 (15, .lload_n 1, 1) rfl
theorem dX1_turned_16 : decode cX1_turned 16 = .ok (.aload_n 0, 1) := dTX1_turned_0_ok 12 (16, .aload_n 0, 1) rfl
theorem dX1_turned_17 : decode cX1_turned 17 = .ok (.getfield 30, 3) := dTX1_turned_0_ok 13 (17, .getfield 30, 3) rfl
theorem dX1_turned_20 : decode cX1_turned 20 = .ok (.land, 1) := dTX1_turned_0_ok 14 (20, .land, 1) rfl
theorem dX1_turned_21 : decode cX1_turned 21 = .ok (.lconst 0, 1) := dTX1_turned_0_ok 15 (21, .lconst 0, 1) rfl
theorem dX1_turned_22 : decode cX1_turned 22 = .ok (.lcmp, 1) := dTX1_turned_0_ok 16 (22, .lcmp, 1) rfl
theorem dX1_turned_23 : decode cX1_turned 23 = .ok (.ifCond .eq 7, 3) := dTX1_turned_0_ok 17 (23, .ifCond .eq 7, 3) rfl
theorem dX1_turned_26 : decode cX1_turned 26 = .ok (.iconst 3, 1) := dTX1_turned_0_ok 18 (26, .iconst 3, 1) rfl
theorem dX1_turned_27 : decode cX1_turned 27 = .ok (.iload_n 3, 1) := dTX1_turned_0_ok 19 (27, .iload_n 3, 1) rfl
theorem dX1_turned_28 : decode cX1_turned 28 = .ok (.isub, 1) := dTX1_turned_0_ok 20 (28, .isub, 1) rfl
theorem dX1_turned_29 : decode cX1_turned 29 = .ok (.ireturn, 1) := dTX1_turned_0_ok 21 (29, .ireturn, 1) rfl
theorem dX1_turned_30 : decode cX1_turned 30 = .ok (.iload_n 3, 1) := dTX1_turned_0_ok 22 (30, .iload_n 3, 1) rfl
theorem dX1_turned_31 : decode cX1_turned 31 = .ok (.ireturn, 1) := dTX1_turned_0_ok 23 (31, .ireturn, 1) rfl
noncomputable def dTX1_relight_0 : List (Nat × Instr × Nat) := [(0, .aload_n 0, 1), (1, .lconst 0, 1), (2, .putfield 42, 3), (5, .iconst 0, 1), (6, .istore_n 1, 1), (7, .iload_n 1, 1), (8, .bipush 63, 2), (10, .if_icmp .ge 34, 3), (13, .aload_n 0, 1), (14, .getfield 24, 3), (17, .iload_n 1, 1), (18, .invokestatic 63, 3), (21, .ifCond .eq 17, 3), (24, .aload_n 0, 1), (25, .dup, 1), (26, .getfield 42, 3), (29, .aload_n 0, 1), (30, .iload_n 1, 1), (31, .invokevirtual 93, 3), (34, .lor, 1), (35, .putfield 42, 3), (38, .iinc 1 1, 3), (41, .goto (-34), 3), (44, .return_, 1)]
theorem dTX1_relight_0_ok : ∀ (k : Nat) (q : Nat × Instr × Nat), dTX1_relight_0[k]? = some q → decode cX1_relight q.1 = .ok q.2 := dT_of (by decide +kernel)
theorem dX1_relight_0 : decode cX1_relight 0 = .ok (.aload_n 0, 1) := dTX1_relight_0_ok 0 (0, .aload_n 0, 1) rfl
theorem dX1_relight_1 : decode cX1_relight 1 = .ok (.lconst 0, 1) := dTX1_relight_0_ok 1 (1, .lconst 0, 1) rfl
theorem dX1_relight_2 : decode cX1_relight 2 = .ok (.putfield 42, 3) := dTX1_relight_0_ok 2 (2, .putfield 42, 3) rfl
theorem dX1_relight_5 : decode cX1_relight 5 = .ok (.iconst 0, 1) := dTX1_relight_0_ok 3 (5, .iconst 0, 1) rfl
theorem dX1_relight_6 : decode cX1_relight 6 = .ok (.istore_n 1, 1) := dTX1_relight_0_ok 4 (6, .istore_n 1, 1) rfl
theorem dX1_relight_7 : decode cX1_relight 7 = .ok (.iload_n 1, 1) := dTX1_relight_0_ok 5 (7, .iload_n 1, 1) rfl
theorem dX1_relight_8 : decode cX1_relight 8 = .ok (.bipush 63, 2) := dTX1_relight_0_ok 6 (8, .bipush 63, 2) rfl
theorem dX1_relight_10 : decode cX1_relight 10 = .ok (.if_icmp .ge 34, 3) := dTX1_relight_0_ok 7 (10, .if_icmp .ge 34, 3) rfl
theorem dX1_relight_13 : decode cX1_relight 13 = .ok (.aload_n 0, 1) := dTX1_relight_0_ok 8 (13, .aload_n 0, 1) rfl
theorem dX1_relight_14 : decode cX1_relight 14 = .ok (.getfield 24, 3) := dTX1_relight_0_ok 9 (14, .getfield 24, 3) rfl
theorem dX1_relight_17 : decode cX1_relight 17 = .ok (.iload_n 1, 1) := dTX1_relight_0_ok 10 (17, .iload_n 1, 1) rfl
theorem dX1_relight_18 : decode cX1_relight 18 = .ok (.invokestatic 63, 3) := dTX1_relight_0_ok 11 (18, .invokestatic 63, 3) rfl
theorem dX1_relight_21 : decode cX1_relight 21 = .ok (.ifCond .eq 17, 3) := dTX1_relight_0_ok 12 (21, .ifCond .eq 17, 3) rfl
theorem dX1_relight_24 : decode cX1_relight 24 = .ok (.aload_n 0, 1) := dTX1_relight_0_ok 13 (24, .aload_n 0, 1) rfl
theorem dX1_relight_25 : decode cX1_relight 25 = .ok (.dup, 1) := dTX1_relight_0_ok 14 (25, .dup, 1) rfl
theorem dX1_relight_26 : decode cX1_relight 26 = .ok (.getfield 42, 3) := dTX1_relight_0_ok 15 (26, .getfield 42, 3) rfl
theorem dX1_relight_29 : decode cX1_relight 29 = .ok (.aload_n 0, 1) := dTX1_relight_0_ok 16 (29, .aload_n 0, 1) rfl
theorem dX1_relight_30 : decode cX1_relight 30 = .ok (.iload_n 1, 1) := dTX1_relight_0_ok 17 (30, .iload_n 1, 1) rfl
theorem dX1_relight_31 : decode cX1_relight 31 = .ok (.invokevirtual 93, 3) := dTX1_relight_0_ok 18 (31, .invokevirtual 93, 3) rfl
theorem dX1_relight_34 : decode cX1_relight 34 = .ok (.lor, 1) := dTX1_relight_0_ok 19 (34, .lor, 1) rfl
theorem dX1_relight_35 : decode cX1_relight 35 = .ok (.putfield 42, 3) := dTX1_relight_0_ok 20 (35, .putfield 42, 3) rfl
theorem dX1_relight_38 : decode cX1_relight 38 = .ok (.iinc 1 1, 3) := dTX1_relight_0_ok 21 (38, .iinc 1 1, 3) rfl
theorem dX1_relight_41 : decode cX1_relight 41 = .ok (.goto (-34), 3) := dTX1_relight_0_ok 22 (41, .goto (-34), 3) rfl
theorem dX1_relight_44 : decode cX1_relight 44 = .ok (.return_, 1) := dTX1_relight_0_ok 23 (44, .return_, 1) rfl
noncomputable def dTX1_burnDown_0 : List (Nat × Instr × Nat) := [(0, .iconst 0, 1), (1, .istore_n 1, 1), (2, .iload_n 1, 1), (3, .bipush 63, 2), (5, .if_icmp .ge 58, 3), (8, .aload_n 0, 1), (9, .iload_n 1, 1), (10, .invokevirtual 96, 3), (13, .ifCond .eq 44, 3), (16, .aload_n 0, 1), (17, .getfield 14, 3), (20, .iload_n 1, 1), (21, .invokevirtual 59, 3), (24, .iconst 1, 1), (25, .isub, 1), (26, .istore_n 2, 1), (27, .aload_n 0, 1), (28, .getfield 14, 3), (31, .iload_n 1, 1), (32, .iload_n 2, 1), (33, .invokevirtual 73, 3), (36, .iload_n 2, 1), (37, .ifCond .gt 20, 3), (40, .aload_n 0, 1), (41, .dup, 1), (42, .getfield 24, 3), (45, .iload_n 1, 1), (46, .invokestatic 69, 3), (49, .ldc2_w 80, 3), (52, .lxor, 1), (53, .land, 1), (54, .putfield 24, 3), (57, .iinc 1 1, 3), (60, .goto (-58), 3), (63, .aload_n 0, 1), (64, .invokevirtual 77, 3), (67, .return_, 1)]
theorem dTX1_burnDown_0_ok : ∀ (k : Nat) (q : Nat × Instr × Nat), dTX1_burnDown_0[k]? = some q → decode cX1_burnDown q.1 = .ok q.2 := dT_of (by decide +kernel)
theorem dX1_burnDown_0 : decode cX1_burnDown 0 = .ok (.iconst 0, 1) := dTX1_burnDown_0_ok 0 (0, .iconst 0, 1) rfl
theorem dX1_burnDown_1 : decode cX1_burnDown 1 = .ok (.istore_n 1, 1) := dTX1_burnDown_0_ok 1 (1, .istore_n 1, 1) rfl
theorem dX1_burnDown_2 : decode cX1_burnDown 2 = .ok (.iload_n 1, 1) := dTX1_burnDown_0_ok 2 (2, .iload_n 1, 1) rfl
theorem dX1_burnDown_3 : decode cX1_burnDown 3 = .ok (.bipush 63, 2) := dTX1_burnDown_0_ok 3 (3, .bipush 63, 2) rfl
theorem dX1_burnDown_5 : decode cX1_burnDown 5 = .ok (.if_icmp .ge 58, 3) := dTX1_burnDown_0_ok 4 (5, .if_icmp .ge 58, 3) rfl
theorem dX1_burnDown_8 : decode cX1_burnDown 8 = .ok (.aload_n 0, 1) := dTX1_burnDown_0_ok 5 (8, .aload_n 0, 1) rfl
theorem dX1_burnDown_9 : decode cX1_burnDown 9 = .ok (.iload_n 1, 1) := dTX1_burnDown_0_ok 6 (9, .iload_n 1, 1) rfl
theorem dX1_burnDown_10 : decode cX1_burnDown 10 = .ok (.invokevirtual 96, 3) := dTX1_burnDown_0_ok 7 (10, .invokevirtual 96, 3) rfl
theorem dX1_burnDown_13 : decode cX1_burnDown 13 = .ok (.ifCond .eq 44, 3) := dTX1_burnDown_0_ok 8 (13, .ifCond .eq 44, 3) rfl
theorem dX1_burnDown_16 : decode cX1_burnDown 16 = .ok (.aload_n 0, 1) := dTX1_burnDown_0_ok 9 (16, .aload_n 0, 1) rfl
theorem dX1_burnDown_17 : decode cX1_burnDown 17 = .ok (.getfield 14, 3) := dTX1_burnDown_0_ok 10 (17, .getfield 14, 3) rfl
theorem dX1_burnDown_20 : decode cX1_burnDown 20 = .ok (.iload_n 1, 1) := dTX1_burnDown_0_ok 11 (20, .iload_n 1, 1) rfl
theorem dX1_burnDown_21 : decode cX1_burnDown 21 = .ok (.invokevirtual 59, 3) := dTX1_burnDown_0_ok 12 (21, .invokevirtual 59, 3) rfl
theorem dX1_burnDown_24 : decode cX1_burnDown 24 = .ok (.iconst 1, 1) := dTX1_burnDown_0_ok 13 (24, .iconst 1, 1) rfl
theorem dX1_burnDown_25 : decode cX1_burnDown 25 = .ok (.isub, 1) := dTX1_burnDown_0_ok 14 (25, .isub, 1) rfl
theorem dX1_burnDown_26 : decode cX1_burnDown 26 = .ok (.istore_n 2, 1) := dTX1_burnDown_0_ok 15 (26, .istore_n 2, 1) rfl
theorem dX1_burnDown_27 : decode cX1_burnDown 27 = .ok (.aload_n 0, 1) := dTX1_burnDown_0_ok 16 (27, .aload_n 0, 1) rfl
theorem dX1_burnDown_28 : decode cX1_burnDown 28 = .ok (.getfield 14, 3) := dTX1_burnDown_0_ok 17 (28, .getfield 14, 3) rfl
theorem dX1_burnDown_31 : decode cX1_burnDown 31 = .ok (.iload_n 1, 1) := dTX1_burnDown_0_ok 18 (31, .iload_n 1, 1) rfl
theorem dX1_burnDown_32 : decode cX1_burnDown 32 = .ok (.iload_n 2, 1) := dTX1_burnDown_0_ok 19 (32, .iload_n 2, 1) rfl
theorem dX1_burnDown_33 : decode cX1_burnDown 33 = .ok (.invokevirtual 73, 3) := dTX1_burnDown_0_ok 20 (33, .invokevirtual 73, 3) rfl
theorem dX1_burnDown_36 : decode cX1_burnDown 36 = .ok (.iload_n 2, 1) := dTX1_burnDown_0_ok 21 (36, .iload_n 2, 1) rfl
theorem dX1_burnDown_37 : decode cX1_burnDown 37 = .ok (.ifCond .gt 20, 3) := dTX1_burnDown_0_ok 22 (37, .ifCond .gt 20, 3) rfl
theorem dX1_burnDown_40 : decode cX1_burnDown 40 = .ok (.aload_n 0, 1) := dTX1_burnDown_0_ok 23 (40, .aload_n 0, 1) rfl
theorem dX1_burnDown_41 : decode cX1_burnDown 41 = .ok (.dup, 1) := dTX1_burnDown_0_ok 24 (41, .dup, 1) rfl
theorem dX1_burnDown_42 : decode cX1_burnDown 42 = .ok (.getfield 24, 3) := dTX1_burnDown_0_ok 25 (42, .getfield 24, 3) rfl
theorem dX1_burnDown_45 : decode cX1_burnDown 45 = .ok (.iload_n 1, 1) := dTX1_burnDown_0_ok 26 (45, .iload_n 1, 1) rfl
theorem dX1_burnDown_46 : decode cX1_burnDown 46 = .ok (.invokestatic 69, 3) := dTX1_burnDown_0_ok 27 (46, .invokestatic 69, 3) rfl
theorem dX1_burnDown_49 : decode cX1_burnDown 49 = .ok (.ldc2_w 80, 3) := dTX1_burnDown_0_ok 28 (49, .ldc2_w 80, 3) rfl
theorem dX1_burnDown_52 : decode cX1_burnDown 52 = .ok (.lxor, 1) := dTX1_burnDown_0_ok 29 (52, .lxor, 1) rfl
theorem dX1_burnDown_53 : decode cX1_burnDown 53 = .ok (.land, 1) := dTX1_burnDown_0_ok 30 (53, .land, 1) rfl
theorem dX1_burnDown_54 : decode cX1_burnDown 54 = .ok (.putfield 24, 3) := dTX1_burnDown_0_ok 31 (54, .putfield 24, 3) rfl
theorem dX1_burnDown_57 : decode cX1_burnDown 57 = .ok (.iinc 1 1, 3) := dTX1_burnDown_0_ok 32 (57, .iinc 1 1, 3) rfl
theorem dX1_burnDown_60 : decode cX1_burnDown 60 = .ok (.goto (-58), 3) := dTX1_burnDown_0_ok 33 (60, .goto (-58), 3) rfl
theorem dX1_burnDown_63 : decode cX1_burnDown 63 = .ok (.aload_n 0, 1) := dTX1_burnDown_0_ok 34 (63, .aload_n 0, 1) rfl
theorem dX1_burnDown_64 : decode cX1_burnDown 64 = .ok (.invokevirtual 77, 3) := dTX1_burnDown_0_ok 35 (64, .invokevirtual 77, 3) rfl
theorem dX1_burnDown_67 : decode cX1_burnDown 67 = .ok (.return_, 1) := dTX1_burnDown_0_ok 36 (67, .return_, 1) rfl
noncomputable def dTX1_blowOutAround_0 : List (Nat × Instr × Nat) := [(0, .iload_n 1, 1), (1, .invokestatic 69, 3), (4, .lstore_n 2, 1), (5, .aload_n 0, 1), (6, .dup, 1), (7, .getfield 24, 3), (10, .aload_n 0, 1), (11, .lload_n 2, 1), (12, .iconst 0, 1), (13, .invokevirtual 99, 3), (16, .aload_n 0, 1), (17, .lload_n 2, 1), (18, .iconst 1, 1), (19, .invokevirtual 99, 3), (22, .lor, 1), (23, .ldc2_w 80, 3), (26, .lxor, 1), (27, .land, 1), (28, .putfield 24, 3), (31, .aload_n 0, 1), (32, .invokevirtual 77, 3), (35, .return_, 1)]
theorem dTX1_blowOutAround_0_ok : ∀ (k : Nat) (q : Nat × Instr × Nat), dTX1_blowOutAround_0[k]? = some q → decode cX1_blowOutAround q.1 = .ok q.2 := dT_of (by decide +kernel)
theorem dX1_blowOutAround_0 : decode cX1_blowOutAround 0 = .ok (.iload_n 1, 1) := dTX1_blowOutAround_0_ok 0 (0, .iload_n 1, 1) rfl
theorem dX1_blowOutAround_1 : decode cX1_blowOutAround 1 = .ok (.invokestatic 69, 3) := dTX1_blowOutAround_0_ok 1 (1, .invokestatic 69, 3) rfl
theorem dX1_blowOutAround_4 : decode cX1_blowOutAround 4 = .ok (.lstore_n 2, 1) := dTX1_blowOutAround_0_ok 2 (4, .lstore_n 2, 1) rfl
theorem dX1_blowOutAround_5 : decode cX1_blowOutAround 5 = .ok (.aload_n 0, 1) := dTX1_blowOutAround_0_ok 3 (5, .aload_n 0, 1) rfl
theorem dX1_blowOutAround_6 : decode cX1_blowOutAround 6 = .ok (.dup, 1) := dTX1_blowOutAround_0_ok 4 (6, .dup, 1) rfl
theorem dX1_blowOutAround_7 : decode cX1_blowOutAround 7 = .ok (.getfield 24, 3) := dTX1_blowOutAround_0_ok 5 (7, .getfield 24, 3) rfl
theorem dX1_blowOutAround_10 : decode cX1_blowOutAround 10 = .ok (.aload_n 0, 1) := dTX1_blowOutAround_0_ok 6 (10, .aload_n 0, 1) rfl
theorem dX1_blowOutAround_11 : decode cX1_blowOutAround 11 = .ok (.lload_n 2, 1) := dTX1_blowOutAround_0_ok 7 (11, .lload_n 2, 1) rfl
theorem dX1_blowOutAround_12 : decode cX1_blowOutAround 12 = .ok (.iconst 0, 1) := dTX1_blowOutAround_0_ok 8 (12, .iconst 0, 1) rfl
theorem dX1_blowOutAround_13 : decode cX1_blowOutAround 13 = .ok (.invokevirtual 99, 3) := dTX1_blowOutAround_0_ok 9 (13, .invokevirtual 99, 3) rfl
theorem dX1_blowOutAround_16 : decode cX1_blowOutAround 16 = .ok (.aload_n 0, 1) := dTX1_blowOutAround_0_ok 10 (16, .aload_n 0, 1) rfl
theorem dX1_blowOutAround_17 : decode cX1_blowOutAround 17 = .ok (.lload_n 2, 1) := dTX1_blowOutAround_0_ok 11 (17, .lload_n 2, 1) rfl
theorem dX1_blowOutAround_18 : decode cX1_blowOutAround 18 = .ok (.iconst 1, 1) := dTX1_blowOutAround_0_ok 12 (18, .iconst 1, 1) rfl
theorem dX1_blowOutAround_19 : decode cX1_blowOutAround 19 = .ok (.invokevirtual 99, 3) := dTX1_blowOutAround_0_ok 13 (19, .invokevirtual 99, 3) rfl
theorem dX1_blowOutAround_22 : decode cX1_blowOutAround 22 = .ok (.lor, 1) := dTX1_blowOutAround_0_ok 14 (22, .lor, 1) rfl
theorem dX1_blowOutAround_23 : decode cX1_blowOutAround 23 = .ok (.ldc2_w 80, 3) := dTX1_blowOutAround_0_ok 15 (23, .ldc2_w 80, 3) rfl
theorem dX1_blowOutAround_26 : decode cX1_blowOutAround 26 = .ok (.lxor, 1) := dTX1_blowOutAround_0_ok 16 (26, .lxor, 1) rfl
theorem dX1_blowOutAround_27 : decode cX1_blowOutAround 27 = .ok (.land, 1) := dTX1_blowOutAround_0_ok 17 (27, .land, 1) rfl
theorem dX1_blowOutAround_28 : decode cX1_blowOutAround 28 = .ok (.putfield 24, 3) := dTX1_blowOutAround_0_ok 18 (28, .putfield 24, 3) rfl
theorem dX1_blowOutAround_31 : decode cX1_blowOutAround 31 = .ok (.aload_n 0, 1) := dTX1_blowOutAround_0_ok 19 (31, .aload_n 0, 1) rfl
theorem dX1_blowOutAround_32 : decode cX1_blowOutAround 32 = .ok (.invokevirtual 77, 3) := dTX1_blowOutAround_0_ok 20 (32, .invokevirtual 77, 3) rfl
theorem dX1_blowOutAround_35 : decode cX1_blowOutAround 35 = .ok (.return_, 1) := dTX1_blowOutAround_0_ok 21 (35, .return_, 1) rfl
noncomputable def dTX1_addMark_0 : List (Nat × Instr × Nat) := [(0, .aload_n 0, 1), (1, .getfield 14, 3), (4, .iload_n 1, 1), (5, .invokevirtual 59, 3), (8, .iconst 1, 1), (9, .iadd, 1), (10, .istore_n 2, 1), (11, .iload_n 2, 1), (12, .bipush 99, 2), (14, .if_icmp .le 5, 3), (17, .iconst 0, 1), (18, .istore_n 2, 1), (19, .iload_n 2, 1), (20, .bipush 13, 2), (22, .irem, 1), (23, .ifCond .ne 16, 3), (26, .iload_n 2, 1), (27, .bipush 10, 2), (29, .irem, 1), (30, .bipush 10, 2), (32, .imul, 1), (33, .iload_n 2, 1), (34, .bipush 10, 2), (36, .idiv, 1), (37, .iadd, 1), (38, .istore_n 2, 1), (39, .aload_n 0, 1), (40, .getfield 14, 3), (43, .iload_n 1, 1), (44, .iload_n 2, 1), (45, .invokevirtual 73, 3), (48, .return_, 1)]
theorem dTX1_addMark_0_ok : ∀ (k : Nat) (q : Nat × Instr × Nat), dTX1_addMark_0[k]? = some q → decode cX1_addMark q.1 = .ok q.2 := dT_of (by decide +kernel)
theorem dX1_addMark_0 : decode cX1_addMark 0 = .ok (.aload_n 0, 1) := dTX1_addMark_0_ok 0 (0, .aload_n 0, 1) rfl
theorem dX1_addMark_1 : decode cX1_addMark 1 = .ok (.getfield 14, 3) := dTX1_addMark_0_ok 1 (1, .getfield 14, 3) rfl
theorem dX1_addMark_4 : decode cX1_addMark 4 = .ok (.iload_n 1, 1) := dTX1_addMark_0_ok 2 (4, .iload_n 1, 1) rfl
theorem dX1_addMark_5 : decode cX1_addMark 5 = .ok (.invokevirtual 59, 3) := dTX1_addMark_0_ok 3 (5, .invokevirtual 59, 3) rfl
theorem dX1_addMark_8 : decode cX1_addMark 8 = .ok (.iconst 1, 1) := dTX1_addMark_0_ok 4 (8, .iconst 1, 1) rfl
theorem dX1_addMark_9 : decode cX1_addMark 9 = .ok (.iadd, 1) := dTX1_addMark_0_ok 5 (9, .iadd, 1) rfl
theorem dX1_addMark_10 : decode cX1_addMark 10 = .ok (.istore_n 2, 1) := dTX1_addMark_0_ok 6 (10, .istore_n 2, 1) rfl
theorem dX1_addMark_11 : decode cX1_addMark 11 = .ok (.iload_n 2, 1) := dTX1_addMark_0_ok 7 (11, .iload_n 2, 1) rfl
theorem dX1_addMark_12 : decode cX1_addMark 12 = .ok (.bipush 99, 2) := dTX1_addMark_0_ok 8 (12, .bipush 99, 2) rfl
theorem dX1_addMark_14 : decode cX1_addMark 14 = .ok (.if_icmp .le 5, 3) := dTX1_addMark_0_ok 9 (14, .if_icmp .le 5, 3) rfl
theorem dX1_addMark_17 : decode cX1_addMark 17 = .ok (.iconst 0, 1) := dTX1_addMark_0_ok 10 (17, .iconst 0, 1) rfl
theorem dX1_addMark_18 : decode cX1_addMark 18 = .ok (.istore_n 2, 1) := dTX1_addMark_0_ok 11 (18, .istore_n 2, 1) rfl
theorem dX1_addMark_19 : decode cX1_addMark 19 = .ok (.iload_n 2, 1) := dTX1_addMark_0_ok 12 (19, .iload_n 2, 1) rfl
theorem dX1_addMark_20 : decode cX1_addMark 20 = .ok (.bipush 13, 2) := dTX1_addMark_0_ok 13 (20, .bipush 13, 2) rfl
theorem dX1_addMark_22 : decode cX1_addMark 22 = .ok (.irem, 1) := dTX1_addMark_0_ok 14 (22, .irem, 1) rfl
theorem dX1_addMark_23 : decode cX1_addMark 23 = .ok (.ifCond .ne 16, 3) := dTX1_addMark_0_ok 15 (23, .ifCond .ne 16, 3) rfl
theorem dX1_addMark_26 : decode cX1_addMark 26 = .ok (.iload_n 2, 1) := dTX1_addMark_0_ok 16 (26, .iload_n 2, 1) rfl
theorem dX1_addMark_27 : decode cX1_addMark 27 = .ok (.bipush 10, 2) := dTX1_addMark_0_ok 17 (27, .bipush 10, 2) rfl
theorem dX1_addMark_29 : decode cX1_addMark 29 = .ok (.irem, 1) := dTX1_addMark_0_ok 18 (29, .irem, 1) rfl
theorem dX1_addMark_30 : decode cX1_addMark 30 = .ok (.bipush 10, 2) := dTX1_addMark_0_ok 19 (30, .bipush 10, 2) rfl
theorem dX1_addMark_32 : decode cX1_addMark 32 = .ok (.imul, 1) := dTX1_addMark_0_ok 20 (32, .imul, 1) rfl
theorem dX1_addMark_33 : decode cX1_addMark 33 = .ok (.iload_n 2, 1) := dTX1_addMark_0_ok 21 (33, .iload_n 2, 1) rfl
theorem dX1_addMark_34 : decode cX1_addMark 34 = .ok (.bipush 10, 2) := dTX1_addMark_0_ok 22 (34, .bipush 10, 2) rfl
theorem dX1_addMark_36 : decode cX1_addMark 36 = .ok (.idiv, 1) := dTX1_addMark_0_ok 23 (36, .idiv, 1) rfl
theorem dX1_addMark_37 : decode cX1_addMark 37 = .ok (.iadd, 1) := dTX1_addMark_0_ok 24 (37, .iadd, 1) rfl
theorem dX1_addMark_38 : decode cX1_addMark 38 = .ok (.istore_n 2, 1) := dTX1_addMark_0_ok 25 (38, .istore_n 2, 1) rfl
theorem dX1_addMark_39 : decode cX1_addMark 39 = .ok (.aload_n 0, 1) := dTX1_addMark_0_ok 26 (39, .aload_n 0, 1) rfl
theorem dX1_addMark_40 : decode cX1_addMark 40 = .ok (.getfield 14, 3) := dTX1_addMark_0_ok 27 (40, .getfield 14, 3) rfl
theorem dX1_addMark_43 : decode cX1_addMark 43 = .ok (.iload_n 1, 1) := dTX1_addMark_0_ok 28 (43, .iload_n 1, 1) rfl
theorem dX1_addMark_44 : decode cX1_addMark 44 = .ok (.iload_n 2, 1) := dTX1_addMark_0_ok 29 (44, .iload_n 2, 1) rfl
theorem dX1_addMark_45 : decode cX1_addMark 45 = .ok (.invokevirtual 73, 3) := dTX1_addMark_0_ok 30 (45, .invokevirtual 73, 3) rfl
theorem dX1_addMark_48 : decode cX1_addMark 48 = .ok (.return_, 1) := dTX1_addMark_0_ok 31 (48, .return_, 1) rfl
noncomputable def dTX2_init_0 : List (Nat × Instr × Nat) := [(0, .aload_n 0, 1), (1, .invokespecial 3, 3), (4, .aload_n 0, 1), (5, .new 9, 3), (8, .dup, 1), (9, .invokespecial 11, 3), (12, .putfield 12, 3), (15, .aload_n 0, 1), (16, .new 18, 3), (19, .dup, 1), (20, .invokespecial 20, 3), (23, .putfield 21, 3), (26, .aload_n 0, 1), (27, .new 25, 3), (30, .dup, 1), (31, .bipush 48, 2), (33, .invokespecial 27, 3), (36, .putfield 30, 3), (39, .return_, 1)]
theorem dTX2_init_0_ok : ∀ (k : Nat) (q : Nat × Instr × Nat), dTX2_init_0[k]? = some q → decode cX2_init q.1 = .ok q.2 := dT_of (by decide +kernel)
theorem dX2_init_0 : decode cX2_init 0 = .ok (.aload_n 0, 1) := dTX2_init_0_ok 0 (0, .aload_n 0, 1) rfl
theorem dX2_init_1 : decode cX2_init 1 = .ok (.invokespecial 3, 3) := dTX2_init_0_ok 1 (1, .invokespecial 3, 3) rfl
theorem dX2_init_4 : decode cX2_init 4 = .ok (.aload_n 0, 1) := dTX2_init_0_ok 2 (4, .aload_n 0, 1) rfl
theorem dX2_init_5 : decode cX2_init 5 = .ok (.new 9, 3) := dTX2_init_0_ok 3 (5, .new 9, 3) rfl
theorem dX2_init_8 : decode cX2_init 8 = .ok (.dup, 1) := dTX2_init_0_ok 4 (8, .dup, 1) rfl
theorem dX2_init_9 : decode cX2_init 9 = .ok (.invokespecial 11, 3) := dTX2_init_0_ok 5 (9, .invokespecial 11, 3) rfl
theorem dX2_init_12 : decode cX2_init 12 = .ok (.putfield 12, 3) := dTX2_init_0_ok 6 (12, .putfield 12, 3) rfl
theorem dX2_init_15 : decode cX2_init 15 = .ok (.aload_n 0, 1) := dTX2_init_0_ok 7 (15, .aload_n 0, 1) rfl
theorem dX2_init_16 : decode cX2_init 16 = .ok (.new 18, 3) := dTX2_init_0_ok 8 (16, .new 18, 3) rfl
theorem dX2_init_19 : decode cX2_init 19 = .ok (.dup, 1) := dTX2_init_0_ok 9 (19, .dup, 1) rfl
theorem dX2_init_20 : decode cX2_init 20 = .ok (.invokespecial 20, 3) := dTX2_init_0_ok 10 (20, .invokespecial 20, 3) rfl
theorem dX2_init_23 : decode cX2_init 23 = .ok (.putfield 21, 3) := dTX2_init_0_ok 11 (23, .putfield 21, 3) rfl
theorem dX2_init_26 : decode cX2_init 26 = .ok (.aload_n 0, 1) := dTX2_init_0_ok 12 (26, .aload_n 0, 1) rfl
theorem dX2_init_27 : decode cX2_init 27 = .ok (.new 25, 3) := dTX2_init_0_ok 13 (27, .new 25, 3) rfl
theorem dX2_init_30 : decode cX2_init 30 = .ok (.dup, 1) := dTX2_init_0_ok 14 (30, .dup, 1) rfl
theorem dX2_init_31 : decode cX2_init 31 = .ok (.bipush 48, 2) := dTX2_init_0_ok 15 (31, .bipush 48, 2) rfl
theorem dX2_init_33 : decode cX2_init 33 = .ok (.invokespecial 27, 3) := dTX2_init_0_ok 16 (33, .invokespecial 27, 3) rfl
theorem dX2_init_36 : decode cX2_init 36 = .ok (.putfield 30, 3) := dTX2_init_0_ok 17 (36, .putfield 30, 3) rfl
theorem dX2_init_39 : decode cX2_init 39 = .ok (.return_, 1) := dTX2_init_0_ok 18 (39, .return_, 1) rfl
noncomputable def dTX2_copyFrom_0 : List (Nat × Instr × Nat) := [(0, .aload_n 0, 1), (1, .getfield 12, 3), (4, .aload_n 1, 1), (5, .getfield 12, 3), (8, .invokevirtual 34, 3), (11, .aload_n 0, 1), (12, .getfield 30, 3), (15, .aload_n 1, 1), (16, .getfield 30, 3), (19, .invokevirtual 38, 3), (22, .aload_n 0, 1), (23, .aload_n 1, 1), (24, .getfield 41, 3), (27, .putfield 41, 3), (30, .aload_n 0, 1), (31, .aload_n 1, 1), (32, .getfield 45, 3), (35, .putfield 45, 3), (38, .return_, 1)]
theorem dTX2_copyFrom_0_ok : ∀ (k : Nat) (q : Nat × Instr × Nat), dTX2_copyFrom_0[k]? = some q → decode cX2_copyFrom q.1 = .ok q.2 := dT_of (by decide +kernel)
theorem dX2_copyFrom_0 : decode cX2_copyFrom 0 = .ok (.aload_n 0, 1) := dTX2_copyFrom_0_ok 0 (0, .aload_n 0, 1) rfl
theorem dX2_copyFrom_1 : decode cX2_copyFrom 1 = .ok (.getfield 12, 3) := dTX2_copyFrom_0_ok 1 (1, .getfield 12, 3) rfl
theorem dX2_copyFrom_4 : decode cX2_copyFrom 4 = .ok (.aload_n 1, 1) := dTX2_copyFrom_0_ok 2 (4, .aload_n 1, 1) rfl
theorem dX2_copyFrom_5 : decode cX2_copyFrom 5 = .ok (.getfield 12, 3) := dTX2_copyFrom_0_ok 3 (5, .getfield 12, 3) rfl
theorem dX2_copyFrom_8 : decode cX2_copyFrom 8 = .ok (.invokevirtual 34, 3) := dTX2_copyFrom_0_ok 4 (8, .invokevirtual 34, 3) rfl
theorem dX2_copyFrom_11 : decode cX2_copyFrom 11 = .ok (.aload_n 0, 1) := dTX2_copyFrom_0_ok 5 (11, .aload_n 0, 1) rfl
theorem dX2_copyFrom_12 : decode cX2_copyFrom 12 = .ok (.getfield 30, 3) := dTX2_copyFrom_0_ok 6 (12, .getfield 30, 3) rfl
theorem dX2_copyFrom_15 : decode cX2_copyFrom 15 = .ok (.aload_n 1, 1) := dTX2_copyFrom_0_ok 7 (15, .aload_n 1, 1) rfl
theorem dX2_copyFrom_16 : decode cX2_copyFrom 16 = .ok (.getfield 30, 3) := dTX2_copyFrom_0_ok 8 (16, .getfield 30, 3) rfl
theorem dX2_copyFrom_19 : decode cX2_copyFrom 19 = .ok (.invokevirtual 38, 3) := dTX2_copyFrom_0_ok 9 (19, .invokevirtual 38, 3) rfl
theorem dX2_copyFrom_22 : decode cX2_copyFrom 22 = .ok (.aload_n 0, 1) := dTX2_copyFrom_0_ok 10 (22, .aload_n 0, 1) rfl
theorem dX2_copyFrom_23 : decode cX2_copyFrom 23 = .ok (.aload_n 1, 1) := dTX2_copyFrom_0_ok 11 (23, .aload_n 1, 1) rfl
theorem dX2_copyFrom_24 : decode cX2_copyFrom 24 = .ok (.getfield 41, 3) := dTX2_copyFrom_0_ok 12 (24, .getfield 41, 3) rfl
theorem dX2_copyFrom_27 : decode cX2_copyFrom 27 = .ok (.putfield 41, 3) := dTX2_copyFrom_0_ok 13 (27, .putfield 41, 3) rfl
theorem dX2_copyFrom_30 : decode cX2_copyFrom 30 = .ok (.aload_n 0, 1) := dTX2_copyFrom_0_ok 14 (30, .aload_n 0, 1) rfl
theorem dX2_copyFrom_31 : decode cX2_copyFrom 31 = .ok (.aload_n 1, 1) := dTX2_copyFrom_0_ok 15 (31, .aload_n 1, 1) rfl
theorem dX2_copyFrom_32 : decode cX2_copyFrom 32 = .ok (.getfield 45, 3) := dTX2_copyFrom_0_ok 16 (32, .getfield 45, 3) rfl
theorem dX2_copyFrom_35 : decode cX2_copyFrom 35 = .ok (.putfield 45, 3) := dTX2_copyFrom_0_ok 17 (35, .putfield 45, 3) rfl
theorem dX2_copyFrom_38 : decode cX2_copyFrom 38 = .ok (.return_, 1) := dTX2_copyFrom_0_ok 18 (38, .return_, 1) rfl
noncomputable def dTX2_trait_0 : List (Nat × Instr × Nat) := [(0, .aload_n 0, 1), (1, .getfield 30, 3), (4, .iload_n 1, 1), (5, .bipush 8, 2), (7, .imul, 1), (8, .iload_n 2, 1), (9, .iadd, 1), (10, .invokevirtual 48, 3), (13, .ireturn, 1)]
theorem dTX2_trait_0_ok : ∀ (k : Nat) (q : Nat × Instr × Nat), dTX2_trait_0[k]? = some q → decode cX2_trait q.1 = .ok q.2 := dT_of (by decide +kernel)
theorem dX2_trait_0 : decode cX2_trait 0 = .ok (.aload_n 0, 1) := dTX2_trait_0_ok 0 (0, .aload_n 0, 1) rfl
theorem dX2_trait_1 : decode cX2_trait 1 = .ok (.getfield 30, 3) := dTX2_trait_0_ok 1 (1, .getfield 30, 3) rfl
theorem dX2_trait_4 : decode cX2_trait 4 = .ok (.iload_n 1, 1) := dTX2_trait_0_ok 2 (4, .iload_n 1, 1) rfl
theorem dX2_trait_5 : decode cX2_trait 5 = .ok (.bipush 8, 2) := dTX2_trait_0_ok 3 (5, .bipush 8, 2) rfl
theorem dX2_trait_7 : decode cX2_trait 7 = .ok (.imul, 1) := dTX2_trait_0_ok 4 (7, .imul, 1) rfl
theorem dX2_trait_8 : decode cX2_trait 8 = .ok (.iload_n 2, 1) := dTX2_trait_0_ok 5 (8, .iload_n 2, 1) rfl
theorem dX2_trait_9 : decode cX2_trait 9 = .ok (.iadd, 1) := dTX2_trait_0_ok 6 (9, .iadd, 1) rfl
theorem dX2_trait_10 : decode cX2_trait 10 = .ok (.invokevirtual 48, 3) := dTX2_trait_0_ok 7 (10, .invokevirtual 48, 3) rfl
theorem dX2_trait_13 : decode cX2_trait 13 = .ok (.ireturn, 1) := dTX2_trait_0_ok 8 (13, .ireturn, 1) rfl
noncomputable def dTX2_setTrait_0 : List (Nat × Instr × Nat) := [(0, .aload_n 0, 1), (1, .getfield 30, 3), (4, .iload_n 1, 1), (5, .bipush 8, 2), (7, .imul, 1), (8, .iload_n 2, 1), (9, .iadd, 1), (10, .iload_n 3, 1), (11, .invokevirtual 52, 3), (14, .return_, 1)]
theorem dTX2_setTrait_0_ok : ∀ (k : Nat) (q : Nat × Instr × Nat), dTX2_setTrait_0[k]? = some q → decode cX2_setTrait q.1 = .ok q.2 := dT_of (by decide +kernel)
theorem dX2_setTrait_0 : decode cX2_setTrait 0 = .ok (.aload_n 0, 1) := dTX2_setTrait_0_ok 0 (0, .aload_n 0, 1) rfl
theorem dX2_setTrait_1 : decode cX2_setTrait 1 = .ok (.getfield 30, 3) := dTX2_setTrait_0_ok 1 (1, .getfield 30, 3) rfl
theorem dX2_setTrait_4 : decode cX2_setTrait 4 = .ok (.iload_n 1, 1) := dTX2_setTrait_0_ok 2 (4, .iload_n 1, 1) rfl
theorem dX2_setTrait_5 : decode cX2_setTrait 5 = .ok (.bipush 8, 2) := dTX2_setTrait_0_ok 3 (5, .bipush 8, 2) rfl
theorem dX2_setTrait_7 : decode cX2_setTrait 7 = .ok (.imul, 1) := dTX2_setTrait_0_ok 4 (7, .imul, 1) rfl
theorem dX2_setTrait_8 : decode cX2_setTrait 8 = .ok (.iload_n 2, 1) := dTX2_setTrait_0_ok 5 (8, .iload_n 2, 1) rfl
theorem dX2_setTrait_9 : decode cX2_setTrait 9 = .ok (.iadd, 1) := dTX2_setTrait_0_ok 6 (9, .iadd, 1) rfl
theorem dX2_setTrait_10 : decode cX2_setTrait 10 = .ok (.iload_n 3, 1) := dTX2_setTrait_0_ok 7 (10, .iload_n 3, 1) rfl
theorem dX2_setTrait_11 : decode cX2_setTrait 11 = .ok (.invokevirtual 52, 3) := dTX2_setTrait_0_ok 8 (11, .invokevirtual 52, 3) rfl
theorem dX2_setTrait_14 : decode cX2_setTrait 14 = .ok (.return_, 1) := dTX2_setTrait_0_ok 9 (14, .return_, 1) rfl
noncomputable def dTX2_sumOfTrait_0 : List (Nat × Instr × Nat) := [(0, .iconst 0, 1), (1, .istore_n 2, 1), (2, .iconst 0, 1), (3, .istore_n 3, 1), (4, .iload_n 3, 1), (5, .aload_n 0, 1), (6, .getfield 41, 3), (9, .if_icmp .ge 18, 3), (12, .iload_n 2, 1), (13, .aload_n 0, 1), (14, .iload_n 3, 1), (15, .iload_n 1, 1), (16, .invokevirtual 56, 3), (19, .iadd, 1), (20, .istore_n 2, 1), (21, .iinc 3 1, 3), (24, .goto (-20), 3), (27, .iload_n 2, 1), (28, .ireturn, 1)]
theorem dTX2_sumOfTrait_0_ok : ∀ (k : Nat) (q : Nat × Instr × Nat), dTX2_sumOfTrait_0[k]? = some q → decode cX2_sumOfTrait q.1 = .ok q.2 := dT_of (by decide +kernel)
theorem dX2_sumOfTrait_0 : decode cX2_sumOfTrait 0 = .ok (.iconst 0, 1) := dTX2_sumOfTrait_0_ok 0 (0, .iconst 0, 1) rfl
theorem dX2_sumOfTrait_1 : decode cX2_sumOfTrait 1 = .ok (.istore_n 2, 1) := dTX2_sumOfTrait_0_ok 1 (1, .istore_n 2, 1) rfl
theorem dX2_sumOfTrait_2 : decode cX2_sumOfTrait 2 = .ok (.iconst 0, 1) := dTX2_sumOfTrait_0_ok 2 (2, .iconst 0, 1) rfl
theorem dX2_sumOfTrait_3 : decode cX2_sumOfTrait 3 = .ok (.istore_n 3, 1) := dTX2_sumOfTrait_0_ok 3 (3, .istore_n 3, 1) rfl
theorem dX2_sumOfTrait_4 : decode cX2_sumOfTrait 4 = .ok (.iload_n 3, 1) := dTX2_sumOfTrait_0_ok 4 (4, .iload_n 3, 1) rfl
theorem dX2_sumOfTrait_5 : decode cX2_sumOfTrait 5 = .ok (.aload_n 0, 1) := dTX2_sumOfTrait_0_ok 5 (5, .aload_n 0, 1) rfl
theorem dX2_sumOfTrait_6 : decode cX2_sumOfTrait 6 = .ok (.getfield 41, 3) := dTX2_sumOfTrait_0_ok 6 (6, .getfield 41, 3) rfl
theorem dX2_sumOfTrait_9 : decode cX2_sumOfTrait 9 = .ok (.if_icmp .ge 18, 3) := dTX2_sumOfTrait_0_ok 7 (9, .if_icmp .ge 18, 3) rfl
theorem dX2_sumOfTrait_12 : decode cX2_sumOfTrait 12 = .ok (.iload_n 2, 1) := dTX2_sumOfTrait_0_ok 8 (12, .iload_n 2, 1) rfl
theorem dX2_sumOfTrait_13 : decode cX2_sumOfTrait 13 = .ok (.aload_n 0, 1) := dTX2_sumOfTrait_0_ok 9 (13, .aload_n 0, 1) rfl
theorem dX2_sumOfTrait_14 : decode cX2_sumOfTrait 14 = .ok (.iload_n 3, 1) := dTX2_sumOfTrait_0_ok 10 (14, .iload_n 3, 1) rfl
theorem dX2_sumOfTrait_15 : decode cX2_sumOfTrait 15 = .ok (.iload_n 1, 1) := dTX2_sumOfTrait_0_ok 11 (15, .iload_n 1, 1) rfl
theorem dX2_sumOfTrait_16 : decode cX2_sumOfTrait 16 = .ok (.invokevirtual 56, 3) := dTX2_sumOfTrait_0_ok 12 (16, .invokevirtual 56, 3) rfl
theorem dX2_sumOfTrait_19 : decode cX2_sumOfTrait 19 = .ok (.iadd, 1) := dTX2_sumOfTrait_0_ok 13 (19, .iadd, 1) rfl
theorem dX2_sumOfTrait_20 : decode cX2_sumOfTrait 20 = .ok (.istore_n 2, 1) := dTX2_sumOfTrait_0_ok 14 (20, .istore_n 2, 1) rfl
theorem dX2_sumOfTrait_21 : decode cX2_sumOfTrait 21 = .ok (.iinc 3 1, 3) := dTX2_sumOfTrait_0_ok 15 (21, .iinc 3 1, 3) rfl
theorem dX2_sumOfTrait_24 : decode cX2_sumOfTrait 24 = .ok (.goto (-20), 3) := dTX2_sumOfTrait_0_ok 16 (24, .goto (-20), 3) rfl
theorem dX2_sumOfTrait_27 : decode cX2_sumOfTrait 27 = .ok (.iload_n 2, 1) := dTX2_sumOfTrait_0_ok 17 (27, .iload_n 2, 1) rfl
theorem dX2_sumOfTrait_28 : decode cX2_sumOfTrait 28 = .ok (.ireturn, 1) := dTX2_sumOfTrait_0_ok 18 (28, .ireturn, 1) rfl
noncomputable def dTX2_mayPass_0 : List (Nat × Instr × Nat) := [(0, .aload_n 0, 1), (1, .iload_n 1, 1), (2, .iconst 5, 1), (3, .invokevirtual 56, 3), (6, .iconst 1, 1), (7, .if_icmp .ne 7, 3), (10, .iconst 1, 1), (11, .goto 4, 3), (14, .iconst 0, 1), (15, .ireturn, 1)]
theorem dTX2_mayPass_0_ok : ∀ (k : Nat) (q : Nat × Instr × Nat), dTX2_mayPass_0[k]? = some q → decode cX2_mayPass q.1 = .ok q.2 := dT_of (by decide +kernel)
theorem dX2_mayPass_0 : decode cX2_mayPass 0 = .ok (.aload_n 0, 1) := dTX2_mayPass_0_ok 0 (0, .aload_n 0, 1) rfl
theorem dX2_mayPass_1 : decode cX2_mayPass 1 = .ok (.iload_n 1, 1) := dTX2_mayPass_0_ok 1 (1, .iload_n 1, 1) rfl
theorem dX2_mayPass_2 : decode cX2_mayPass 2 = .ok (.iconst 5, 1) := dTX2_mayPass_0_ok 2 (2, .iconst 5, 1) rfl
theorem dX2_mayPass_3 : decode cX2_mayPass 3 = .ok (.invokevirtual 56, 3) := dTX2_mayPass_0_ok 3 (3, .invokevirtual 56, 3) rfl
theorem dX2_mayPass_6 : decode cX2_mayPass 6 = .ok (.iconst 1, 1) := dTX2_mayPass_0_ok 4 (6, .iconst 1, 1) rfl
theorem dX2_mayPass_7 : decode cX2_mayPass 7 = .ok (.if_icmp .ne 7, 3) := dTX2_mayPass_0_ok 5 (7, .if_icmp .ne 7, 3) rfl
theorem dX2_mayPass_10 : decode cX2_mayPass 10 = .ok (.iconst 1, 1) := dTX2_mayPass_0_ok 6 (10, .iconst 1, 1) rfl
theorem dX2_mayPass_11 : decode cX2_mayPass 11 = .ok (.goto 4, 3) := dTX2_mayPass_0_ok 7 (11, .goto 4, 3) rfl
theorem dX2_mayPass_14 : decode cX2_mayPass 14 = .ok (.iconst 0, 1) := dTX2_mayPass_0_ok 8 (14, .iconst 0, 1) rfl
theorem dX2_mayPass_15 : decode cX2_mayPass 15 = .ok (.ireturn, 1) := dTX2_mayPass_0_ok 9 (15, .ireturn, 1) rfl
noncomputable def dTX2_cellOf_0 : List (Nat × Instr × Nat) := [(0, .bipush 9, 2), (2, .aload_n 0, 1), (3, .iload_n 1, 1), (4, .iconst 1, 1), (5, .invokevirtual 56, 3), (8, .imul, 1), (9, .aload_n 0, 1), (10, .iload_n 1, 1), (11, .iconst 0, 1), (12, .invokevirtual 56, 3), (15, .iadd, 1), (16, .ireturn, 1)]
theorem dTX2_cellOf_0_ok : ∀ (k : Nat) (q : Nat × Instr × Nat), dTX2_cellOf_0[k]? = some q → decode cX2_cellOf q.1 = .ok q.2 := dT_of (by decide +kernel)
theorem dX2_cellOf_0 : decode cX2_cellOf 0 = .ok (.bipush 9, 2) := dTX2_cellOf_0_ok 0 (0, .bipush 9, 2) rfl
theorem dX2_cellOf_2 : decode cX2_cellOf 2 = .ok (.aload_n 0, 1) := dTX2_cellOf_0_ok 1 (2, .aload_n 0, 1) rfl
theorem dX2_cellOf_3 : decode cX2_cellOf 3 = .ok (.iload_n 1, 1) := dTX2_cellOf_0_ok 2 (3, .iload_n 1, 1) rfl
theorem dX2_cellOf_4 : decode cX2_cellOf 4 = .ok (.iconst 1, 1) := dTX2_cellOf_0_ok 3 (4, .iconst 1, 1) rfl
theorem dX2_cellOf_5 : decode cX2_cellOf 5 = .ok (.invokevirtual 56, 3) := dTX2_cellOf_0_ok 4 (5, .invokevirtual 56, 3) rfl
theorem dX2_cellOf_8 : decode cX2_cellOf 8 = .ok (.imul, 1) := dTX2_cellOf_0_ok 5 (8, .imul, 1) rfl
theorem dX2_cellOf_9 : decode cX2_cellOf 9 = .ok (.aload_n 0, 1) := dTX2_cellOf_0_ok 6 (9, .aload_n 0, 1) rfl
theorem dX2_cellOf_10 : decode cX2_cellOf 10 = .ok (.iload_n 1, 1) := dTX2_cellOf_0_ok 7 (10, .iload_n 1, 1) rfl
theorem dX2_cellOf_11 : decode cX2_cellOf 11 = .ok (.iconst 0, 1) := dTX2_cellOf_0_ok 8 (11, .iconst 0, 1) rfl
theorem dX2_cellOf_12 : decode cX2_cellOf 12 = .ok (.invokevirtual 56, 3) := dTX2_cellOf_0_ok 9 (12, .invokevirtual 56, 3) rfl
theorem dX2_cellOf_15 : decode cX2_cellOf 15 = .ok (.iadd, 1) := dTX2_cellOf_0_ok 10 (15, .iadd, 1) rfl
theorem dX2_cellOf_16 : decode cX2_cellOf 16 = .ok (.ireturn, 1) := dTX2_cellOf_0_ok 11 (16, .ireturn, 1) rfl
noncomputable def dTX2_goalOf_0 : List (Nat × Instr × Nat) := [(0, .bipush 9, 2), (2, .aload_n 0, 1), (3, .iload_n 1, 1), (4, .iconst 4, 1), (5, .invokevirtual 56, 3), (8, .imul, 1), (9, .aload_n 0, 1), (10, .iload_n 1, 1), (11, .iconst 3, 1), (12, .invokevirtual 56, 3), (15, .iadd, 1), (16, .ireturn, 1)]
theorem dTX2_goalOf_0_ok : ∀ (k : Nat) (q : Nat × Instr × Nat), dTX2_goalOf_0[k]? = some q → decode cX2_goalOf q.1 = .ok q.2 := dT_of (by decide +kernel)
theorem dX2_goalOf_0 : decode cX2_goalOf 0 = .ok (.bipush 9, 2) := dTX2_goalOf_0_ok 0 (0, .bipush 9, 2) rfl
theorem dX2_goalOf_2 : decode cX2_goalOf 2 = .ok (.aload_n 0, 1) := dTX2_goalOf_0_ok 1 (2, .aload_n 0, 1) rfl
theorem dX2_goalOf_3 : decode cX2_goalOf 3 = .ok (.iload_n 1, 1) := dTX2_goalOf_0_ok 2 (3, .iload_n 1, 1) rfl
theorem dX2_goalOf_4 : decode cX2_goalOf 4 = .ok (.iconst 4, 1) := dTX2_goalOf_0_ok 3 (4, .iconst 4, 1) rfl
theorem dX2_goalOf_5 : decode cX2_goalOf 5 = .ok (.invokevirtual 56, 3) := dTX2_goalOf_0_ok 4 (5, .invokevirtual 56, 3) rfl
theorem dX2_goalOf_8 : decode cX2_goalOf 8 = .ok (.imul, 1) := dTX2_goalOf_0_ok 5 (8, .imul, 1) rfl
theorem dX2_goalOf_9 : decode cX2_goalOf 9 = .ok (.aload_n 0, 1) := dTX2_goalOf_0_ok 6 (9, .aload_n 0, 1) rfl
theorem dX2_goalOf_10 : decode cX2_goalOf 10 = .ok (.iload_n 1, 1) := dTX2_goalOf_0_ok 7 (10, .iload_n 1, 1) rfl
theorem dX2_goalOf_11 : decode cX2_goalOf 11 = .ok (.iconst 3, 1) := dTX2_goalOf_0_ok 8 (11, .iconst 3, 1) rfl
theorem dX2_goalOf_12 : decode cX2_goalOf 12 = .ok (.invokevirtual 56, 3) := dTX2_goalOf_0_ok 9 (12, .invokevirtual 56, 3) rfl
theorem dX2_goalOf_15 : decode cX2_goalOf 15 = .ok (.iadd, 1) := dTX2_goalOf_0_ok 10 (15, .iadd, 1) rfl
theorem dX2_goalOf_16 : decode cX2_goalOf 16 = .ok (.ireturn, 1) := dTX2_goalOf_0_ok 11 (16, .ireturn, 1) rfl
noncomputable def dTX2_setCell_0 : List (Nat × Instr × Nat) := [(0, .aload_n 0, 1), (1, .iload_n 1, 1), (2, .iconst 0, 1), (3, .iload_n 2, 1), (4, .bipush 9, 2), (6, .irem, 1), (7, .invokevirtual 60, 3), (10, .aload_n 0, 1), (11, .iload_n 1, 1), (12, .iconst 1, 1), (13, .iload_n 2, 1), (14, .bipush 9, 2), (16, .idiv, 1), (17, .invokevirtual 60, 3), (20, .return_, 1)]
theorem dTX2_setCell_0_ok : ∀ (k : Nat) (q : Nat × Instr × Nat), dTX2_setCell_0[k]? = some q → decode cX2_setCell q.1 = .ok q.2 := dT_of (by decide +kernel)
theorem dX2_setCell_0 : decode cX2_setCell 0 = .ok (.aload_n 0, 1) := dTX2_setCell_0_ok 0 (0, .aload_n 0, 1) rfl
theorem dX2_setCell_1 : decode cX2_setCell 1 = .ok (.iload_n 1, 1) := dTX2_setCell_0_ok 1 (1, .iload_n 1, 1) rfl
theorem dX2_setCell_2 : decode cX2_setCell 2 = .ok (.iconst 0, 1) := dTX2_setCell_0_ok 2 (2, .iconst 0, 1) rfl
theorem dX2_setCell_3 : decode cX2_setCell 3 = .ok (.iload_n 2, 1) := dTX2_setCell_0_ok 3 (3, .iload_n 2, 1) rfl
theorem dX2_setCell_4 : decode cX2_setCell 4 = .ok (.bipush 9, 2) := dTX2_setCell_0_ok 4 (4, .bipush 9, 2) rfl
theorem dX2_setCell_6 : decode cX2_setCell 6 = .ok (.irem, 1) := dTX2_setCell_0_ok 5 (6, .irem, 1) rfl
theorem dX2_setCell_7 : decode cX2_setCell 7 = .ok (.invokevirtual 60, 3) := dTX2_setCell_0_ok 6 (7, .invokevirtual 60, 3) rfl
theorem dX2_setCell_10 : decode cX2_setCell 10 = .ok (.aload_n 0, 1) := dTX2_setCell_0_ok 7 (10, .aload_n 0, 1) rfl
theorem dX2_setCell_11 : decode cX2_setCell 11 = .ok (.iload_n 1, 1) := dTX2_setCell_0_ok 8 (11, .iload_n 1, 1) rfl
theorem dX2_setCell_12 : decode cX2_setCell 12 = .ok (.iconst 1, 1) := dTX2_setCell_0_ok 9 (12, .iconst 1, 1) rfl
theorem dX2_setCell_13 : decode cX2_setCell 13 = .ok (.iload_n 2, 1) := dTX2_setCell_0_ok 10 (13, .iload_n 2, 1) rfl
theorem dX2_setCell_14 : decode cX2_setCell 14 = .ok (.bipush 9, 2) := dTX2_setCell_0_ok 11 (14, .bipush 9, 2) rfl
theorem dX2_setCell_16 : decode cX2_setCell 16 = .ok (.idiv, 1) := dTX2_setCell_0_ok 12 (16, .idiv, 1) rfl
theorem dX2_setCell_17 : decode cX2_setCell 17 = .ok (.invokevirtual 60, 3) := dTX2_setCell_0_ok 13 (17, .invokevirtual 60, 3) rfl
theorem dX2_setCell_20 : decode cX2_setCell 20 = .ok (.return_, 1) := dTX2_setCell_0_ok 14 (20, .return_, 1) rfl
noncomputable def dTX2_setGoal_0 : List (Nat × Instr × Nat) := [(0, .aload_n 0, 1), (1, .iload_n 1, 1), (2, .iconst 3, 1), (3, .iload_n 2, 1), (4, .bipush 9, 2), (6, .irem, 1), (7, .invokevirtual 60, 3), (10, .aload_n 0, 1), (11, .iload_n 1, 1), (12, .iconst 4, 1), (13, .iload_n 2, 1), (14, .bipush 9, 2), (16, .idiv, 1), (17, .invokevirtual 60, 3), (20, .return_, 1)]
theorem dTX2_setGoal_0_ok : ∀ (k : Nat) (q : Nat × Instr × Nat), dTX2_setGoal_0[k]? = some q → decode cX2_setGoal q.1 = .ok q.2 := dT_of (by decide +kernel)
theorem dX2_setGoal_0 : decode cX2_setGoal 0 = .ok (.aload_n 0, 1) := dTX2_setGoal_0_ok 0 (0, .aload_n 0, 1) rfl
theorem dX2_setGoal_1 : decode cX2_setGoal 1 = .ok (.iload_n 1, 1) := dTX2_setGoal_0_ok 1 (1, .iload_n 1, 1) rfl
theorem dX2_setGoal_2 : decode cX2_setGoal 2 = .ok (.iconst 3, 1) := dTX2_setGoal_0_ok 2 (2, .iconst 3, 1) rfl
theorem dX2_setGoal_3 : decode cX2_setGoal 3 = .ok (.iload_n 2, 1) := dTX2_setGoal_0_ok 3 (3, .iload_n 2, 1) rfl
theorem dX2_setGoal_4 : decode cX2_setGoal 4 = .ok (.bipush 9, 2) := dTX2_setGoal_0_ok 4 (4, .bipush 9, 2) rfl
theorem dX2_setGoal_6 : decode cX2_setGoal 6 = .ok (.irem, 1) := dTX2_setGoal_0_ok 5 (6, .irem, 1) rfl
theorem dX2_setGoal_7 : decode cX2_setGoal 7 = .ok (.invokevirtual 60, 3) := dTX2_setGoal_0_ok 6 (7, .invokevirtual 60, 3) rfl
theorem dX2_setGoal_10 : decode cX2_setGoal 10 = .ok (.aload_n 0, 1) := dTX2_setGoal_0_ok 7 (10, .aload_n 0, 1) rfl
theorem dX2_setGoal_11 : decode cX2_setGoal 11 = .ok (.iload_n 1, 1) := dTX2_setGoal_0_ok 8 (11, .iload_n 1, 1) rfl
theorem dX2_setGoal_12 : decode cX2_setGoal 12 = .ok (.iconst 4, 1) := dTX2_setGoal_0_ok 9 (12, .iconst 4, 1) rfl
theorem dX2_setGoal_13 : decode cX2_setGoal 13 = .ok (.iload_n 2, 1) := dTX2_setGoal_0_ok 10 (13, .iload_n 2, 1) rfl
theorem dX2_setGoal_14 : decode cX2_setGoal 14 = .ok (.bipush 9, 2) := dTX2_setGoal_0_ok 11 (14, .bipush 9, 2) rfl
theorem dX2_setGoal_16 : decode cX2_setGoal 16 = .ok (.idiv, 1) := dTX2_setGoal_0_ok 12 (16, .idiv, 1) rfl
theorem dX2_setGoal_17 : decode cX2_setGoal 17 = .ok (.invokevirtual 60, 3) := dTX2_setGoal_0_ok 13 (17, .invokevirtual 60, 3) rfl
theorem dX2_setGoal_20 : decode cX2_setGoal 20 = .ok (.return_, 1) := dTX2_setGoal_0_ok 14 (20, .return_, 1) rfl
noncomputable def dTX2_addGhost_0 : List (Nat × Instr × Nat) := [(0, .aload_n 0, 1), (1, .getfield 41, 3), (4, .istore_n 3, 1), (5, .aload_n 0, 1), (6, .iload_n 3, 1), (7, .iload_n 1, 1), (8, .invokevirtual 64, 3), (11, .aload_n 0, 1), (12, .iload_n 3, 1), (13, .iload_n 1, 1), (14, .invokevirtual 67, 3), (17, .aload_n 0, 1), (18, .iload_n 3, 1), (19, .iconst 2, 1), (20, .iload_n 2, 1), (21, .invokevirtual 60, 3), (24, .aload_n 0, 1), (25, .iload_n 3, 1), (26, .iconst 5, 1), (27, .iconst 1, 1), (28, .invokevirtual 60, 3), (31, .aload_n 0, 1), (32, .dup, 1), (33, .getfield 41, 3), (36, .iconst 1, 1), (37, .iadd, 1), (38, .putfield 41, 3), (41, .iload_n 3, 1), (42, .ireturn, 1)]
theorem dTX2_addGhost_0_ok : ∀ (k : Nat) (q : Nat × Instr × Nat), dTX2_addGhost_0[k]? = some q → decode cX2_addGhost q.1 = .ok q.2 := dT_of (by decide +kernel)
theorem dX2_addGhost_0 : decode cX2_addGhost 0 = .ok (.aload_n 0, 1) := dTX2_addGhost_0_ok 0 (0, .aload_n 0, 1) rfl
theorem dX2_addGhost_1 : decode cX2_addGhost 1 = .ok (.getfield 41, 3) := dTX2_addGhost_0_ok 1 (1, .getfield 41, 3) rfl
theorem dX2_addGhost_4 : decode cX2_addGhost 4 = .ok (.istore_n 3, 1) := dTX2_addGhost_0_ok 2 (4, .istore_n 3, 1) rfl
theorem dX2_addGhost_5 : decode cX2_addGhost 5 = .ok (.aload_n 0, 1) := dTX2_addGhost_0_ok 3 (5, .aload_n 0, 1) rfl
theorem dX2_addGhost_6 : decode cX2_addGhost 6 = .ok (.iload_n 3, 1) := dTX2_addGhost_0_ok 4 (6, .iload_n 3, 1) rfl
theorem dX2_addGhost_7 : decode cX2_addGhost 7 = .ok (.iload_n 1, 1) := dTX2_addGhost_0_ok 5 (7, .iload_n 1, 1) rfl
theorem dX2_addGhost_8 : decode cX2_addGhost 8 = .ok (.invokevirtual 64, 3) := dTX2_addGhost_0_ok 6 (8, .invokevirtual 64, 3) rfl
theorem dX2_addGhost_11 : decode cX2_addGhost 11 = .ok (.aload_n 0, 1) := dTX2_addGhost_0_ok 7 (11, .aload_n 0, 1) rfl
theorem dX2_addGhost_12 : decode cX2_addGhost 12 = .ok (.iload_n 3, 1) := dTX2_addGhost_0_ok 8 (12, .iload_n 3, 1) rfl
theorem dX2_addGhost_13 : decode cX2_addGhost 13 = .ok (.iload_n 1, 1) := dTX2_addGhost_0_ok 9 (13, .iload_n 1, 1) rfl
theorem dX2_addGhost_14 : decode cX2_addGhost 14 = .ok (.invokevirtual 67, 3) := dTX2_addGhost_0_ok 10 (14, .invokevirtual 67, 3) rfl
theorem dX2_addGhost_17 : decode cX2_addGhost 17 = .ok (.aload_n 0, 1) := dTX2_addGhost_0_ok 11 (17, .aload_n 0, 1) rfl
theorem dX2_addGhost_18 : decode cX2_addGhost 18 = .ok (.iload_n 3, 1) := dTX2_addGhost_0_ok 12 (18, .iload_n 3, 1) rfl
theorem dX2_addGhost_19 : decode cX2_addGhost 19 = .ok (.iconst 2, 1) := dTX2_addGhost_0_ok 13 (19, .iconst 2, 1) rfl
theorem dX2_addGhost_20 : decode cX2_addGhost 20 = .ok (.iload_n 2, 1) := dTX2_addGhost_0_ok 14 (20, .iload_n 2, 1) rfl
theorem dX2_addGhost_21 : decode cX2_addGhost 21 = .ok (.invokevirtual 60, 3) := dTX2_addGhost_0_ok 15 (21, .invokevirtual 60, 3) rfl
theorem dX2_addGhost_24 : decode cX2_addGhost 24 = .ok (.aload_n 0, 1) := dTX2_addGhost_0_ok 16 (24, .aload_n 0, 1) rfl
theorem dX2_addGhost_25 : decode cX2_addGhost 25 = .ok (.iload_n 3, 1) := dTX2_addGhost_0_ok 17 (25, .iload_n 3, 1) rfl
theorem dX2_addGhost_26 : decode cX2_addGhost 26 = .ok (.iconst 5, 1) := dTX2_addGhost_0_ok 18 (26, .iconst 5, 1) rfl
theorem dX2_addGhost_27 : decode cX2_addGhost 27 = .ok (.iconst 1, 1) := dTX2_addGhost_0_ok 19 (27, .iconst 1, 1) rfl
theorem dX2_addGhost_28 : decode cX2_addGhost 28 = .ok (.invokevirtual 60, 3) := dTX2_addGhost_0_ok 20 (28, .invokevirtual 60, 3) rfl
theorem dX2_addGhost_31 : decode cX2_addGhost 31 = .ok (.aload_n 0, 1) := dTX2_addGhost_0_ok 21 (31, .aload_n 0, 1) rfl
theorem dX2_addGhost_32 : decode cX2_addGhost 32 = .ok (.dup, 1) := dTX2_addGhost_0_ok 22 (32, .dup, 1) rfl
theorem dX2_addGhost_33 : decode cX2_addGhost 33 = .ok (.getfield 41, 3) := dTX2_addGhost_0_ok 23 (33, .getfield 41, 3) rfl
theorem dX2_addGhost_36 : decode cX2_addGhost 36 = .ok (.iconst 1, 1) := dTX2_addGhost_0_ok 24 (36, .iconst 1, 1) rfl
theorem dX2_addGhost_37 : decode cX2_addGhost 37 = .ok (.iadd, 1) := dTX2_addGhost_0_ok 25 (37, .iadd, 1) rfl
theorem dX2_addGhost_38 : decode cX2_addGhost 38 = .ok (.putfield 41, 3) := dTX2_addGhost_0_ok 26 (38, .putfield 41, 3) rfl
theorem dX2_addGhost_41 : decode cX2_addGhost 41 = .ok (.iload_n 3, 1) := dTX2_addGhost_0_ok 27 (41, .iload_n 3, 1) rfl
theorem dX2_addGhost_42 : decode cX2_addGhost 42 = .ok (.ireturn, 1) := dTX2_addGhost_0_ok 28 (42, .ireturn, 1) rfl
noncomputable def dTX2_ghostsIn_0 : List (Nat × Instr × Nat) := [(0, .iconst 0, 1), (1, .istore_n 2, 1), (2, .iconst 0, 1), (3, .istore_n 3, 1), (4, .iload_n 3, 1), (5, .aload_n 0, 1), (6, .getfield 41, 3), (9, .if_icmp .ge 21, 3), (12, .aload_n 0, 1), (13, .iload_n 3, 1), (14, .invokevirtual 70, 3), (17, .iload_n 1, 1), (18, .if_icmp .ne 6, 3), (21, .iinc 2 1, 3), (24, .iinc 3 1, 3), (27, .goto (-23), 3), (30, .iload_n 2, 1), (31, .ireturn, 1)]
theorem dTX2_ghostsIn_0_ok : ∀ (k : Nat) (q : Nat × Instr × Nat), dTX2_ghostsIn_0[k]? = some q → decode cX2_ghostsIn q.1 = .ok q.2 := dT_of (by decide +kernel)
theorem dX2_ghostsIn_0 : decode cX2_ghostsIn 0 = .ok (.iconst 0, 1) := dTX2_ghostsIn_0_ok 0 (0, .iconst 0, 1) rfl
theorem dX2_ghostsIn_1 : decode cX2_ghostsIn 1 = .ok (.istore_n 2, 1) := dTX2_ghostsIn_0_ok 1 (1, .istore_n 2, 1) rfl
theorem dX2_ghostsIn_2 : decode cX2_ghostsIn 2 = .ok (.iconst 0, 1) := dTX2_ghostsIn_0_ok 2 (2, .iconst 0, 1) rfl
theorem dX2_ghostsIn_3 : decode cX2_ghostsIn 3 = .ok (.istore_n 3, 1) := dTX2_ghostsIn_0_ok 3 (3, .istore_n 3, 1) rfl
theorem dX2_ghostsIn_4 : decode cX2_ghostsIn 4 = .ok (.iload_n 3, 1) := dTX2_ghostsIn_0_ok 4 (4, .iload_n 3, 1) rfl
theorem dX2_ghostsIn_5 : decode cX2_ghostsIn 5 = .ok (.aload_n 0, 1) := dTX2_ghostsIn_0_ok 5 (5, .aload_n 0, 1) rfl
theorem dX2_ghostsIn_6 : decode cX2_ghostsIn 6 = .ok (.getfield 41, 3) := dTX2_ghostsIn_0_ok 6 (6, .getfield 41, 3) rfl
theorem dX2_ghostsIn_9 : decode cX2_ghostsIn 9 = .ok (.if_icmp .ge 21, 3) := dTX2_ghostsIn_0_ok 7 (9, .if_icmp .ge 21, 3) rfl
theorem dX2_ghostsIn_12 : decode cX2_ghostsIn 12 = .ok (.aload_n 0, 1) := dTX2_ghostsIn_0_ok 8 (12, .aload_n 0, 1) rfl
theorem dX2_ghostsIn_13 : decode cX2_ghostsIn 13 = .ok (.iload_n 3, 1) := dTX2_ghostsIn_0_ok 9 (13, .iload_n 3, 1) rfl
theorem dX2_ghostsIn_14 : decode cX2_ghostsIn 14 = .ok (.invokevirtual 70, 3) := dTX2_ghostsIn_0_ok 10 (14, .invokevirtual 70, 3) rfl
theorem dX2_ghostsIn_17 : decode cX2_ghostsIn 17 = .ok (.iload_n 1, 1) := dTX2_ghostsIn_0_ok 11 (17, .iload_n 1, 1) rfl
theorem dX2_ghostsIn_18 : decode cX2_ghostsIn 18 = .ok (.if_icmp .ne 6, 3) := dTX2_ghostsIn_0_ok 12 (18, .if_icmp .ne 6, 3) rfl
theorem dX2_ghostsIn_21 : decode cX2_ghostsIn 21 = .ok (.iinc 2 1, 3) := dTX2_ghostsIn_0_ok 13 (21, .iinc 2 1, 3) rfl
theorem dX2_ghostsIn_24 : decode cX2_ghostsIn 24 = .ok (.iinc 3 1, 3) := dTX2_ghostsIn_0_ok 14 (24, .iinc 3 1, 3) rfl
theorem dX2_ghostsIn_27 : decode cX2_ghostsIn 27 = .ok (.goto (-23), 3) := dTX2_ghostsIn_0_ok 15 (27, .goto (-23), 3) rfl
theorem dX2_ghostsIn_30 : decode cX2_ghostsIn 30 = .ok (.iload_n 2, 1) := dTX2_ghostsIn_0_ok 16 (30, .iload_n 2, 1) rfl
theorem dX2_ghostsIn_31 : decode cX2_ghostsIn 31 = .ok (.ireturn, 1) := dTX2_ghostsIn_0_ok 17 (31, .ireturn, 1) rfl
noncomputable def dTX2_ghostsAtGoals_0 : List (Nat × Instr × Nat) := [(0, .iconst 0, 1), (1, .istore_n 1, 1), (2, .iconst 0, 1), (3, .istore_n 2, 1), (4, .iload_n 2, 1), (5, .aload_n 0, 1), (6, .getfield 41, 3), (9, .if_icmp .ge 25, 3), (12, .aload_n 0, 1), (13, .iload_n 2, 1), (14, .invokevirtual 70, 3), (17, .aload_n 0, 1), (18, .iload_n 2, 1), (19, .invokevirtual 73, 3), (22, .if_icmp .ne 6, 3), (25, .iinc 1 1, 3), (28, .iinc 2 1, 3), (31, .goto (-27), 3), (34, .iload_n 1, 1), (35, .ireturn, 1)]
theorem dTX2_ghostsAtGoals_0_ok : ∀ (k : Nat) (q : Nat × Instr × Nat), dTX2_ghostsAtGoals_0[k]? = some q → decode cX2_ghostsAtGoals q.1 = .ok q.2 := dT_of (by decide +kernel)
theorem dX2_ghostsAtGoals_0 : decode cX2_ghostsAtGoals 0 = .ok (.iconst 0, 1) := dTX2_ghostsAtGoals_0_ok 0 (0, .iconst 0, 1) rfl
theorem dX2_ghostsAtGoals_1 : decode cX2_ghostsAtGoals 1 = .ok (.istore_n 1, 1) := dTX2_ghostsAtGoals_0_ok 1 (1, .istore_n 1, 1) rfl
theorem dX2_ghostsAtGoals_2 : decode cX2_ghostsAtGoals 2 = .ok (.iconst 0, 1) := dTX2_ghostsAtGoals_0_ok 2 (2, .iconst 0, 1) rfl
theorem dX2_ghostsAtGoals_3 : decode cX2_ghostsAtGoals 3 = .ok (.istore_n 2, 1) := dTX2_ghostsAtGoals_0_ok 3 (3, .istore_n 2, 1) rfl
theorem dX2_ghostsAtGoals_4 : decode cX2_ghostsAtGoals 4 = .ok (.iload_n 2, 1) := dTX2_ghostsAtGoals_0_ok 4 (4, .iload_n 2, 1) rfl
theorem dX2_ghostsAtGoals_5 : decode cX2_ghostsAtGoals 5 = .ok (.aload_n 0, 1) := dTX2_ghostsAtGoals_0_ok 5 (5, .aload_n 0, 1) rfl
theorem dX2_ghostsAtGoals_6 : decode cX2_ghostsAtGoals 6 = .ok (.getfield 41, 3) := dTX2_ghostsAtGoals_0_ok 6 (6, .getfield 41, 3) rfl
theorem dX2_ghostsAtGoals_9 : decode cX2_ghostsAtGoals 9 = .ok (.if_icmp .ge 25, 3) := dTX2_ghostsAtGoals_0_ok 7 (9, .if_icmp .ge 25, 3) rfl
theorem dX2_ghostsAtGoals_12 : decode cX2_ghostsAtGoals 12 = .ok (.aload_n 0, 1) := dTX2_ghostsAtGoals_0_ok 8 (12, .aload_n 0, 1) rfl
theorem dX2_ghostsAtGoals_13 : decode cX2_ghostsAtGoals 13 = .ok (.iload_n 2, 1) := dTX2_ghostsAtGoals_0_ok 9 (13, .iload_n 2, 1) rfl
theorem dX2_ghostsAtGoals_14 : decode cX2_ghostsAtGoals 14 = .ok (.invokevirtual 70, 3) := dTX2_ghostsAtGoals_0_ok 10 (14, .invokevirtual 70, 3) rfl
theorem dX2_ghostsAtGoals_17 : decode cX2_ghostsAtGoals 17 = .ok (.aload_n 0, 1) := dTX2_ghostsAtGoals_0_ok 11 (17, .aload_n 0, 1) rfl
theorem dX2_ghostsAtGoals_18 : decode cX2_ghostsAtGoals 18 = .ok (.iload_n 2, 1) := dTX2_ghostsAtGoals_0_ok 12 (18, .iload_n 2, 1) rfl
theorem dX2_ghostsAtGoals_19 : decode cX2_ghostsAtGoals 19 = .ok (.invokevirtual 73, 3) := dTX2_ghostsAtGoals_0_ok 13 (19, .invokevirtual 73, 3) rfl
theorem dX2_ghostsAtGoals_22 : decode cX2_ghostsAtGoals 22 = .ok (.if_icmp .ne 6, 3) := dTX2_ghostsAtGoals_0_ok 14 (22, .if_icmp .ne 6, 3) rfl
theorem dX2_ghostsAtGoals_25 : decode cX2_ghostsAtGoals 25 = .ok (.iinc 1 1, 3) := dTX2_ghostsAtGoals_0_ok 15 (25, .iinc 1 1, 3) rfl
theorem dX2_ghostsAtGoals_28 : decode cX2_ghostsAtGoals 28 = .ok (.iinc 2 1, 3) := dTX2_ghostsAtGoals_0_ok 16 (28, .iinc 2 1, 3) rfl
theorem dX2_ghostsAtGoals_31 : decode cX2_ghostsAtGoals 31 = .ok (.goto (-27), 3) := dTX2_ghostsAtGoals_0_ok 17 (31, .goto (-27), 3) rfl
theorem dX2_ghostsAtGoals_34 : decode cX2_ghostsAtGoals 34 = .ok (.iload_n 1, 1) := dTX2_ghostsAtGoals_0_ok 18 (34, .iload_n 1, 1) rfl
theorem dX2_ghostsAtGoals_35 : decode cX2_ghostsAtGoals 35 = .ok (.ireturn, 1) := dTX2_ghostsAtGoals_0_ok 19 (35, .ireturn, 1) rfl
noncomputable def dTX2_aboutCell_0 : List (Nat × Instr × Nat) := [(0, .iload_n 2, 1), (1, .tableswitch 83 0 3 #[31, 40, 49, 66], 31), (32, .aload_n 0, 1), (33, .getfield 12, 3), (36, .iload_n 1, 1), (37, .invokevirtual 76, 3), (40, .ireturn, 1), (41, .aload_n 0, 1), (42, .getfield 12, 3), (45, .iload_n 1, 1), (46, .invokevirtual 79, 3), (49, .ireturn, 1), (50, .aload_n 0, 1), (51, .getfield 12, 3), (54, .iload_n 1, 1), (55, .invokevirtual 82, 3), (58, .ifCond .eq 7, 3), (61, .iconst 1, 1), (62, .goto 4, 3), (65, .iconst 0, 1), (66, .ireturn, 1), (67, .aload_n 0, 1), (68, .getfield 12, 3), (71, .iload_n 1, 1), (72, .invokevirtual 86, 3), (75, .ifCond .eq 7, 3), (78, .iconst 1, 1), (79, .goto 4, 3), (82, .iconst 0, 1), (83, .ireturn, 1), (84, .aload_n 0, 1), (85, .iload_n 1, 1), (86, .invokevirtual 89, 3), (89, .ireturn, 1)]
theorem dTX2_aboutCell_0_ok : ∀ (k : Nat) (q : Nat × Instr × Nat), dTX2_aboutCell_0[k]? = some q → decode cX2_aboutCell q.1 = .ok q.2 := dT_of (by decide +kernel)
theorem dX2_aboutCell_0 : decode cX2_aboutCell 0 = .ok (.iload_n 2, 1) := dTX2_aboutCell_0_ok 0 (0, .iload_n 2, 1) rfl
theorem dX2_aboutCell_1 : decode cX2_aboutCell 1 = .ok (.tableswitch 83 0 3 #[31, 40, 49, 66], 31) := dTX2_aboutCell_0_ok 1 (1, .tableswitch 83 0 3 #[31, 40, 49, 66], 31) rfl
theorem dX2_aboutCell_32 : decode cX2_aboutCell 32 = .ok (.aload_n 0, 1) := dTX2_aboutCell_0_ok 2 (32, .aload_n 0, 1) rfl
theorem dX2_aboutCell_33 : decode cX2_aboutCell 33 = .ok (.getfield 12, 3) := dTX2_aboutCell_0_ok 3 (33, .getfield 12, 3) rfl
theorem dX2_aboutCell_36 : decode cX2_aboutCell 36 = .ok (.iload_n 1, 1) := dTX2_aboutCell_0_ok 4 (36, .iload_n 1, 1) rfl
theorem dX2_aboutCell_37 : decode cX2_aboutCell 37 = .ok (.invokevirtual 76, 3) := dTX2_aboutCell_0_ok 5 (37, .invokevirtual 76, 3) rfl
theorem dX2_aboutCell_40 : decode cX2_aboutCell 40 = .ok (.ireturn, 1) := dTX2_aboutCell_0_ok 6 (40, .ireturn, 1) rfl
theorem dX2_aboutCell_41 : decode cX2_aboutCell 41 = .ok (.aload_n 0, 1) := dTX2_aboutCell_0_ok 7 (41, .aload_n 0, 1) rfl
theorem dX2_aboutCell_42 : decode cX2_aboutCell 42 = .ok (.getfield 12, 3) := dTX2_aboutCell_0_ok 8 (42, .getfield 12, 3) rfl
theorem dX2_aboutCell_45 : decode cX2_aboutCell 45 = .ok (.iload_n 1, 1) := dTX2_aboutCell_0_ok 9 (45, .iload_n 1, 1) rfl
theorem dX2_aboutCell_46 : decode cX2_aboutCell 46 = .ok (.invokevirtual 79, 3) := dTX2_aboutCell_0_ok 10 (46, .invokevirtual 79, 3) rfl
theorem dX2_aboutCell_49 : decode cX2_aboutCell 49 = .ok (.ireturn, 1) := dTX2_aboutCell_0_ok 11 (49, .ireturn, 1) rfl
theorem dX2_aboutCell_50 : decode cX2_aboutCell 50 = .ok (.aload_n 0, 1) := dTX2_aboutCell_0_ok 12 (50, .aload_n 0, 1) rfl
theorem dX2_aboutCell_51 : decode cX2_aboutCell 51 = .ok (.getfield 12, 3) := dTX2_aboutCell_0_ok 13 (51, .getfield 12, 3) rfl
theorem dX2_aboutCell_54 : decode cX2_aboutCell 54 = .ok (.iload_n 1, 1) := dTX2_aboutCell_0_ok 14 (54, .iload_n 1, 1) rfl
theorem dX2_aboutCell_55 : decode cX2_aboutCell 55 = .ok (.invokevirtual 82, 3) := dTX2_aboutCell_0_ok 15 (55, .invokevirtual 82, 3) rfl
theorem dX2_aboutCell_58 : decode cX2_aboutCell 58 = .ok (.ifCond .eq 7, 3) := dTX2_aboutCell_0_ok 16 (58, .ifCond .eq 7, 3) rfl
theorem dX2_aboutCell_61 : decode cX2_aboutCell 61 = .ok (.iconst 1, 1) := dTX2_aboutCell_0_ok 17 (61, .iconst 1, 1) rfl
theorem dX2_aboutCell_62 : decode cX2_aboutCell 62 = .ok (.goto 4, 3) := dTX2_aboutCell_0_ok 18 (62, .goto 4, 3) rfl
theorem dX2_aboutCell_65 : decode cX2_aboutCell 65 = .ok (.iconst 0, 1) := dTX2_aboutCell_0_ok 19 (65, .iconst 0, 1) rfl
theorem dX2_aboutCell_66 : decode cX2_aboutCell 66 = .ok (.ireturn, 1) := dTX2_aboutCell_0_ok 20 (66, .ireturn, 1) rfl
theorem dX2_aboutCell_67 : decode cX2_aboutCell 67 = .ok (.aload_n 0, 1) := dTX2_aboutCell_0_ok 21 (67, .aload_n 0, 1) rfl
theorem dX2_aboutCell_68 : decode cX2_aboutCell 68 = .ok (.getfield 12, 3) := dTX2_aboutCell_0_ok 22 (68, .getfield 12, 3) rfl
theorem dX2_aboutCell_71 : decode cX2_aboutCell 71 = .ok (.iload_n 1, 1) := dTX2_aboutCell_0_ok 23 (71, .iload_n 1, 1) rfl
theorem dX2_aboutCell_72 : decode cX2_aboutCell 72 = .ok (.invokevirtual 86, 3) := dTX2_aboutCell_0_ok 24 (72, .invokevirtual 86, 3) rfl
theorem dX2_aboutCell_75 : decode cX2_aboutCell 75 = .ok (.ifCond .eq 7, 3) := dTX2_aboutCell_0_ok 25 (75, .ifCond .eq 7, 3) rfl
theorem dX2_aboutCell_78 : decode cX2_aboutCell 78 = .ok (.iconst 1, 1) := dTX2_aboutCell_0_ok 26 (78, .iconst 1, 1) rfl
theorem dX2_aboutCell_79 : decode cX2_aboutCell 79 = .ok (.goto 4, 3) := dTX2_aboutCell_0_ok 27 (79, .goto 4, 3) rfl
theorem dX2_aboutCell_82 : decode cX2_aboutCell 82 = .ok (.iconst 0, 1) := dTX2_aboutCell_0_ok 28 (82, .iconst 0, 1) rfl
theorem dX2_aboutCell_83 : decode cX2_aboutCell 83 = .ok (.ireturn, 1) := dTX2_aboutCell_0_ok 29 (83, .ireturn, 1) rfl
theorem dX2_aboutCell_84 : decode cX2_aboutCell 84 = .ok (.aload_n 0, 1) := dTX2_aboutCell_0_ok 30 (84, .aload_n 0, 1) rfl
theorem dX2_aboutCell_85 : decode cX2_aboutCell 85 = .ok (.iload_n 1, 1) := dTX2_aboutCell_0_ok 31 (85, .iload_n 1, 1) rfl
theorem dX2_aboutCell_86 : decode cX2_aboutCell 86 = .ok (.invokevirtual 89, 3) := dTX2_aboutCell_0_ok 32 (86, .invokevirtual 89, 3) rfl
theorem dX2_aboutCell_89 : decode cX2_aboutCell 89 = .ok (.ireturn, 1) := dTX2_aboutCell_0_ok 33 (89, .ireturn, 1) rfl
noncomputable def dTX2_aboutAll_0 : List (Nat × Instr × Nat) := [(0, .iload_n 1, 1), (1, .tableswitch 116 0 8 #[51, 56, 61, 69, 77, 85, 93, 101, 109], 51), (52, .aload_n 0, 1), (53, .getfield 45, 3), (56, .ireturn, 1), (57, .aload_n 0, 1), (58, .getfield 41, 3), (61, .ireturn, 1), (62, .aload_n 0, 1), (63, .getfield 12, 3), (66, .invokevirtual 92, 3), (69, .ireturn, 1), (70, .aload_n 0, 1), (71, .getfield 12, 3), (74, .invokevirtual 96, 3), (77, .ireturn, 1), (78, .aload_n 0, 1), (79, .getfield 12, 3), (82, .invokevirtual 99, 3), (85, .ireturn, 1), (86, .aload_n 0, 1), (87, .getfield 12, 3), (90, .invokevirtual 102, 3), (93, .ireturn, 1), (94, .aload_n 0, 1), (95, .getfield 12, 3), (98, .invokevirtual 105, 3), (101, .ireturn, 1), (102, .aload_n 0, 1), (103, .getfield 12, 3), (106, .invokevirtual 108, 3), (109, .ireturn, 1), (110, .aload_n 0, 1), (111, .bipush 6, 2), (113, .invokevirtual 111, 3), (116, .ireturn, 1), (117, .aload_n 0, 1), (118, .getfield 12, 3), (121, .invokevirtual 114, 3), (124, .ireturn, 1)]
theorem dTX2_aboutAll_0_ok : ∀ (k : Nat) (q : Nat × Instr × Nat), dTX2_aboutAll_0[k]? = some q → decode cX2_aboutAll q.1 = .ok q.2 := dT_of (by decide +kernel)
theorem dX2_aboutAll_0 : decode cX2_aboutAll 0 = .ok (.iload_n 1, 1) := dTX2_aboutAll_0_ok 0 (0, .iload_n 1, 1) rfl
theorem dX2_aboutAll_1 : decode cX2_aboutAll 1 = .ok (.tableswitch 116 0 8 #[51, 56, 61, 69, 77, 85, 93, 101, 109], 51) := dTX2_aboutAll_0_ok 1 (1, .tableswitch 116 0 8 #[51, 56, 61, 69, 77, 85, 93, 101, 109], 51) rfl
theorem dX2_aboutAll_52 : decode cX2_aboutAll 52 = .ok (.aload_n 0, 1) := dTX2_aboutAll_0_ok 2 (52, .aload_n 0, 1) rfl
theorem dX2_aboutAll_53 : decode cX2_aboutAll 53 = .ok (.getfield 45, 3) := dTX2_aboutAll_0_ok 3 (53, .getfield 45, 3) rfl
theorem dX2_aboutAll_56 : decode cX2_aboutAll 56 = .ok (.ireturn, 1) := dTX2_aboutAll_0_ok 4 (56, .ireturn, 1) rfl
theorem dX2_aboutAll_57 : decode cX2_aboutAll 57 = .ok (.aload_n 0, 1) := dTX2_aboutAll_0_ok 5 (57, .aload_n 0, 1) rfl
theorem dX2_aboutAll_58 : decode cX2_aboutAll 58 = .ok (.getfield 41, 3) := dTX2_aboutAll_0_ok 6 (58, .getfield 41, 3) rfl
theorem dX2_aboutAll_61 : decode cX2_aboutAll 61 = .ok (.ireturn, 1) := dTX2_aboutAll_0_ok 7 (61, .ireturn, 1) rfl
theorem dX2_aboutAll_62 : decode cX2_aboutAll 62 = .ok (.aload_n 0, 1) := dTX2_aboutAll_0_ok 8 (62, .aload_n 0, 1) rfl
theorem dX2_aboutAll_63 : decode cX2_aboutAll 63 = .ok (.getfield 12, 3) := dTX2_aboutAll_0_ok 9 (63, .getfield 12, 3) rfl
theorem dX2_aboutAll_66 : decode cX2_aboutAll 66 = .ok (.invokevirtual 92, 3) := dTX2_aboutAll_0_ok 10 (66, .invokevirtual 92, 3) rfl
theorem dX2_aboutAll_69 : decode cX2_aboutAll 69 = .ok (.ireturn, 1) := dTX2_aboutAll_0_ok 11 (69, .ireturn, 1) rfl
theorem dX2_aboutAll_70 : decode cX2_aboutAll 70 = .ok (.aload_n 0, 1) := dTX2_aboutAll_0_ok 12 (70, .aload_n 0, 1) rfl
theorem dX2_aboutAll_71 : decode cX2_aboutAll 71 = .ok (.getfield 12, 3) := dTX2_aboutAll_0_ok 13 (71, .getfield 12, 3) rfl
theorem dX2_aboutAll_74 : decode cX2_aboutAll 74 = .ok (.invokevirtual 96, 3) := dTX2_aboutAll_0_ok 14 (74, .invokevirtual 96, 3) rfl
theorem dX2_aboutAll_77 : decode cX2_aboutAll 77 = .ok (.ireturn, 1) := dTX2_aboutAll_0_ok 15 (77, .ireturn, 1) rfl
theorem dX2_aboutAll_78 : decode cX2_aboutAll 78 = .ok (.aload_n 0, 1) := dTX2_aboutAll_0_ok 16 (78, .aload_n 0, 1) rfl
theorem dX2_aboutAll_79 : decode cX2_aboutAll 79 = .ok (.getfield 12, 3) := dTX2_aboutAll_0_ok 17 (79, .getfield 12, 3) rfl
theorem dX2_aboutAll_82 : decode cX2_aboutAll 82 = .ok (.invokevirtual 99, 3) := dTX2_aboutAll_0_ok 18 (82, .invokevirtual 99, 3) rfl
theorem dX2_aboutAll_85 : decode cX2_aboutAll 85 = .ok (.ireturn, 1) := dTX2_aboutAll_0_ok 19 (85, .ireturn, 1) rfl
theorem dX2_aboutAll_86 : decode cX2_aboutAll 86 = .ok (.aload_n 0, 1) := dTX2_aboutAll_0_ok 20 (86, .aload_n 0, 1) rfl
theorem dX2_aboutAll_87 : decode cX2_aboutAll 87 = .ok (.getfield 12, 3) := dTX2_aboutAll_0_ok 21 (87, .getfield 12, 3) rfl
theorem dX2_aboutAll_90 : decode cX2_aboutAll 90 = .ok (.invokevirtual 102, 3) := dTX2_aboutAll_0_ok 22 (90, .invokevirtual 102, 3) rfl
theorem dX2_aboutAll_93 : decode cX2_aboutAll 93 = .ok (.ireturn, 1) := dTX2_aboutAll_0_ok 23 (93, .ireturn, 1) rfl
theorem dX2_aboutAll_94 : decode cX2_aboutAll 94 = .ok (.aload_n 0, 1) := dTX2_aboutAll_0_ok 24 (94, .aload_n 0, 1) rfl
theorem dX2_aboutAll_95 : decode cX2_aboutAll 95 = .ok (.getfield 12, 3) := dTX2_aboutAll_0_ok 25 (95, .getfield 12, 3) rfl
theorem dX2_aboutAll_98 : decode cX2_aboutAll 98 = .ok (.invokevirtual 105, 3) := dTX2_aboutAll_0_ok 26 (98, .invokevirtual 105, 3) rfl
theorem dX2_aboutAll_101 : decode cX2_aboutAll 101 = .ok (.ireturn, 1) := dTX2_aboutAll_0_ok 27 (101, .ireturn, 1) rfl
theorem dX2_aboutAll_102 : decode cX2_aboutAll 102 = .ok (.aload_n 0, 1) := dTX2_aboutAll_0_ok 28 (102, .aload_n 0, 1) rfl
theorem dX2_aboutAll_103 : decode cX2_aboutAll 103 = .ok (.getfield 12, 3) := dTX2_aboutAll_0_ok 29 (103, .getfield 12, 3) rfl
theorem dX2_aboutAll_106 : decode cX2_aboutAll 106 = .ok (.invokevirtual 108, 3) := dTX2_aboutAll_0_ok 30 (106, .invokevirtual 108, 3) rfl
theorem dX2_aboutAll_109 : decode cX2_aboutAll 109 = .ok (.ireturn, 1) := dTX2_aboutAll_0_ok 31 (109, .ireturn, 1) rfl
theorem dX2_aboutAll_110 : decode cX2_aboutAll 110 = .ok (.aload_n 0, 1) := dTX2_aboutAll_0_ok 32 (110, .aload_n 0, 1) rfl
theorem dX2_aboutAll_111 : decode cX2_aboutAll 111 = .ok (.bipush 6, 2) := dTX2_aboutAll_0_ok 33 (111, .bipush 6, 2) rfl
theorem dX2_aboutAll_113 : decode cX2_aboutAll 113 = .ok (.invokevirtual 111, 3) := dTX2_aboutAll_0_ok 34 (113, .invokevirtual 111, 3) rfl
theorem dX2_aboutAll_116 : decode cX2_aboutAll 116 = .ok (.ireturn, 1) := dTX2_aboutAll_0_ok 35 (116, .ireturn, 1) rfl
theorem dX2_aboutAll_117 : decode cX2_aboutAll 117 = .ok (.aload_n 0, 1) := dTX2_aboutAll_0_ok 36 (117, .aload_n 0, 1) rfl
theorem dX2_aboutAll_118 : decode cX2_aboutAll 118 = .ok (.getfield 12, 3) := dTX2_aboutAll_0_ok 37 (118, .getfield 12, 3) rfl
theorem dX2_aboutAll_121 : decode cX2_aboutAll 121 = .ok (.invokevirtual 114, 3) := dTX2_aboutAll_0_ok 38 (121, .invokevirtual 114, 3) rfl
theorem dX2_aboutAll_124 : decode cX2_aboutAll 124 = .ok (.ireturn, 1) := dTX2_aboutAll_0_ok 39 (124, .ireturn, 1) rfl
noncomputable def dTX2_stepsTo_0 : List (Nat × Instr × Nat) := [(0, .aload_n 0, 1), (1, .getfield 21, 3), (4, .aload_n 0, 1), (5, .getfield 12, 3), (8, .aload_n 0, 1), (9, .iload_n 1, 1), (10, .invokevirtual 70, 3), (13, .iload_n 2, 1), (14, .aload_n 0, 1), (15, .iload_n 1, 1), (16, .invokevirtual 117, 3), (19, .invokevirtual 120, 3), (22, .ireturn, 1)]
theorem dTX2_stepsTo_0_ok : ∀ (k : Nat) (q : Nat × Instr × Nat), dTX2_stepsTo_0[k]? = some q → decode cX2_stepsTo q.1 = .ok q.2 := dT_of (by decide +kernel)
theorem dX2_stepsTo_0 : decode cX2_stepsTo 0 = .ok (.aload_n 0, 1) := dTX2_stepsTo_0_ok 0 (0, .aload_n 0, 1) rfl
theorem dX2_stepsTo_1 : decode cX2_stepsTo 1 = .ok (.getfield 21, 3) := dTX2_stepsTo_0_ok 1 (1, .getfield 21, 3) rfl
theorem dX2_stepsTo_4 : decode cX2_stepsTo 4 = .ok (.aload_n 0, 1) := dTX2_stepsTo_0_ok 2 (4, .aload_n 0, 1) rfl
theorem dX2_stepsTo_5 : decode cX2_stepsTo 5 = .ok (.getfield 12, 3) := dTX2_stepsTo_0_ok 3 (5, .getfield 12, 3) rfl
theorem dX2_stepsTo_8 : decode cX2_stepsTo 8 = .ok (.aload_n 0, 1) := dTX2_stepsTo_0_ok 4 (8, .aload_n 0, 1) rfl
theorem dX2_stepsTo_9 : decode cX2_stepsTo 9 = .ok (.iload_n 1, 1) := dTX2_stepsTo_0_ok 5 (9, .iload_n 1, 1) rfl
theorem dX2_stepsTo_10 : decode cX2_stepsTo 10 = .ok (.invokevirtual 70, 3) := dTX2_stepsTo_0_ok 6 (10, .invokevirtual 70, 3) rfl
theorem dX2_stepsTo_13 : decode cX2_stepsTo 13 = .ok (.iload_n 2, 1) := dTX2_stepsTo_0_ok 7 (13, .iload_n 2, 1) rfl
theorem dX2_stepsTo_14 : decode cX2_stepsTo 14 = .ok (.aload_n 0, 1) := dTX2_stepsTo_0_ok 8 (14, .aload_n 0, 1) rfl
theorem dX2_stepsTo_15 : decode cX2_stepsTo 15 = .ok (.iload_n 1, 1) := dTX2_stepsTo_0_ok 9 (15, .iload_n 1, 1) rfl
theorem dX2_stepsTo_16 : decode cX2_stepsTo 16 = .ok (.invokevirtual 117, 3) := dTX2_stepsTo_0_ok 10 (16, .invokevirtual 117, 3) rfl
theorem dX2_stepsTo_19 : decode cX2_stepsTo 19 = .ok (.invokevirtual 120, 3) := dTX2_stepsTo_0_ok 11 (19, .invokevirtual 120, 3) rfl
theorem dX2_stepsTo_22 : decode cX2_stepsTo 22 = .ok (.ireturn, 1) := dTX2_stepsTo_0_ok 12 (22, .ireturn, 1) rfl
noncomputable def dTX2_nextDirection_0 : List (Nat × Instr × Nat) := [(0, .aload_n 0, 1), (1, .getfield 21, 3), (4, .aload_n 0, 1), (5, .getfield 12, 3), (8, .aload_n 0, 1), (9, .iload_n 1, 1), (10, .invokevirtual 70, 3), (13, .aload_n 0, 1), (14, .iload_n 1, 1), (15, .invokevirtual 73, 3), (18, .aload_n 0, 1), (19, .iload_n 1, 1), (20, .invokevirtual 117, 3), (23, .invokevirtual 120, 3), (26, .istore_n 2, 1), (27, .iload_n 2, 1), (28, .ifCond .le 17, 3), (31, .aload_n 0, 1), (32, .getfield 21, 3), (35, .aload_n 0, 1), (36, .getfield 12, 3), (39, .invokevirtual 124, 3), (42, .goto 4, 3), (45, .iconst (-1), 1), (46, .ireturn, 1)]
theorem dTX2_nextDirection_0_ok : ∀ (k : Nat) (q : Nat × Instr × Nat), dTX2_nextDirection_0[k]? = some q → decode cX2_nextDirection q.1 = .ok q.2 := dT_of (by decide +kernel)
theorem dX2_nextDirection_0 : decode cX2_nextDirection 0 = .ok (.aload_n 0, 1) := dTX2_nextDirection_0_ok 0 (0, .aload_n 0, 1) rfl
theorem dX2_nextDirection_1 : decode cX2_nextDirection 1 = .ok (.getfield 21, 3) := dTX2_nextDirection_0_ok 1 (1, .getfield 21, 3) rfl
theorem dX2_nextDirection_4 : decode cX2_nextDirection 4 = .ok (.aload_n 0, 1) := dTX2_nextDirection_0_ok 2 (4, .aload_n 0, 1) rfl
theorem dX2_nextDirection_5 : decode cX2_nextDirection 5 = .ok (.getfield 12, 3) := dTX2_nextDirection_0_ok 3 (5, .getfield 12, 3) rfl
theorem dX2_nextDirection_8 : decode cX2_nextDirection 8 = .ok (.aload_n 0, 1) := dTX2_nextDirection_0_ok 4 (8, .aload_n 0, 1) rfl
theorem dX2_nextDirection_9 : decode cX2_nextDirection 9 = .ok (.iload_n 1, 1) := dTX2_nextDirection_0_ok 5 (9, .iload_n 1, 1) rfl
theorem dX2_nextDirection_10 : decode cX2_nextDirection 10 = .ok (.invokevirtual 70, 3) := dTX2_nextDirection_0_ok 6 (10, .invokevirtual 70, 3) rfl
theorem dX2_nextDirection_13 : decode cX2_nextDirection 13 = .ok (.aload_n 0, 1) := dTX2_nextDirection_0_ok 7 (13, .aload_n 0, 1) rfl
theorem dX2_nextDirection_14 : decode cX2_nextDirection 14 = .ok (.iload_n 1, 1) := dTX2_nextDirection_0_ok 8 (14, .iload_n 1, 1) rfl
theorem dX2_nextDirection_15 : decode cX2_nextDirection 15 = .ok (.invokevirtual 73, 3) := dTX2_nextDirection_0_ok 9 (15, .invokevirtual 73, 3) rfl
theorem dX2_nextDirection_18 : decode cX2_nextDirection 18 = .ok (.aload_n 0, 1) := dTX2_nextDirection_0_ok 10 (18, .aload_n 0, 1) rfl
theorem dX2_nextDirection_19 : decode cX2_nextDirection 19 = .ok (.iload_n 1, 1) := dTX2_nextDirection_0_ok 11 (19, .iload_n 1, 1) rfl
theorem dX2_nextDirection_20 : decode cX2_nextDirection 20 = .ok (.invokevirtual 117, 3) := dTX2_nextDirection_0_ok 12 (20, .invokevirtual 117, 3) rfl
theorem dX2_nextDirection_23 : decode cX2_nextDirection 23 = .ok (.invokevirtual 120, 3) := dTX2_nextDirection_0_ok 13 (23, .invokevirtual 120, 3) rfl
theorem dX2_nextDirection_26 : decode cX2_nextDirection 26 = .ok (.istore_n 2, 1) := dTX2_nextDirection_0_ok 14 (26, .istore_n 2, 1) rfl
theorem dX2_nextDirection_27 : decode cX2_nextDirection 27 = .ok (.iload_n 2, 1) := dTX2_nextDirection_0_ok 15 (27, .iload_n 2, 1) rfl
theorem dX2_nextDirection_28 : decode cX2_nextDirection 28 = .ok (.ifCond .le 17, 3) := dTX2_nextDirection_0_ok 16 (28, .ifCond .le 17, 3) rfl
theorem dX2_nextDirection_31 : decode cX2_nextDirection 31 = .ok (.aload_n 0, 1) := dTX2_nextDirection_0_ok 17 (31, .aload_n 0, 1) rfl
theorem dX2_nextDirection_32 : decode cX2_nextDirection 32 = .ok (.getfield 21, 3) := dTX2_nextDirection_0_ok 18 (32, .getfield 21, 3) rfl
theorem dX2_nextDirection_35 : decode cX2_nextDirection 35 = .ok (.aload_n 0, 1) := dTX2_nextDirection_0_ok 19 (35, .aload_n 0, 1) rfl
theorem dX2_nextDirection_36 : decode cX2_nextDirection 36 = .ok (.getfield 12, 3) := dTX2_nextDirection_0_ok 20 (36, .getfield 12, 3) rfl
theorem dX2_nextDirection_39 : decode cX2_nextDirection 39 = .ok (.invokevirtual 124, 3) := dTX2_nextDirection_0_ok 21 (39, .invokevirtual 124, 3) rfl
theorem dX2_nextDirection_42 : decode cX2_nextDirection 42 = .ok (.goto 4, 3) := dTX2_nextDirection_0_ok 22 (42, .goto 4, 3) rfl
theorem dX2_nextDirection_45 : decode cX2_nextDirection 45 = .ok (.iconst (-1), 1) := dTX2_nextDirection_0_ok 23 (45, .iconst (-1), 1) rfl
theorem dX2_nextDirection_46 : decode cX2_nextDirection 46 = .ok (.ireturn, 1) := dTX2_nextDirection_0_ok 24 (46, .ireturn, 1) rfl
noncomputable def dTX2_passHour_0 : List (Nat × Instr × Nat) := [(0, .aload_n 0, 1), (1, .getfield 12, 3), (4, .invokevirtual 128, 3), (7, .iconst 0, 1), (8, .istore_n 1, 1), (9, .iload_n 1, 1), (10, .aload_n 0, 1), (11, .getfield 41, 3), (14, .if_icmp .ge 34, 3), (17, .aload_n 0, 1), (18, .iload_n 1, 1), (19, .iconst 2, 1), (20, .invokevirtual 56, 3), (23, .istore_n 2, 1), (24, .iconst 0, 1), (25, .istore_n 3, 1), (26, .iload_n 3, 1), (27, .iload_n 2, 1), (28, .if_icmp .ge 14, 3), (31, .aload_n 0, 1), (32, .iload_n 1, 1), (33, .invokevirtual 131, 3), (36, .iinc 3 1, 3), (39, .goto (-13), 3), (42, .iinc 1 1, 3), (45, .goto (-36), 3), (48, .iconst 0, 1), (49, .istore_n 1, 1), (50, .iconst 0, 1), (51, .istore_n 2, 1), (52, .iload_n 2, 1), (53, .aload_n 0, 1), (54, .getfield 41, 3), (57, .if_icmp .ge 20, 3), (60, .aload_n 0, 1), (61, .iload_n 2, 1), (62, .invokevirtual 134, 3), (65, .ifCond .eq 6, 3), (68, .iinc 1 1, 3), (71, .iinc 2 1, 3), (74, .goto (-22), 3), (77, .aload_n 0, 1), (78, .dup, 1), (79, .getfield 45, 3), (82, .iconst 1, 1), (83, .iadd, 1), (84, .putfield 45, 3), (87, .iload_n 1, 1), (88, .ireturn, 1)]
theorem dTX2_passHour_0_ok : ∀ (k : Nat) (q : Nat × Instr × Nat), dTX2_passHour_0[k]? = some q → decode cX2_passHour q.1 = .ok q.2 := dT_of (by decide +kernel)
theorem dX2_passHour_0 : decode cX2_passHour 0 = .ok (.aload_n 0, 1) := dTX2_passHour_0_ok 0 (0, .aload_n 0, 1) rfl
theorem dX2_passHour_1 : decode cX2_passHour 1 = .ok (.getfield 12, 3) := dTX2_passHour_0_ok 1 (1, .getfield 12, 3) rfl
theorem dX2_passHour_4 : decode cX2_passHour 4 = .ok (.invokevirtual 128, 3) := dTX2_passHour_0_ok 2 (4, .invokevirtual 128, 3) rfl
theorem dX2_passHour_7 : decode cX2_passHour 7 = .ok (.iconst 0, 1) := dTX2_passHour_0_ok 3 (7, .iconst 0, 1) rfl
theorem dX2_passHour_8 : decode cX2_passHour 8 = .ok (.istore_n 1, 1) := dTX2_passHour_0_ok 4 (8, .istore_n 1, 1) rfl
theorem dX2_passHour_9 : decode cX2_passHour 9 = .ok (.iload_n 1, 1) := dTX2_passHour_0_ok 5 (9, .iload_n 1, 1) rfl
theorem dX2_passHour_10 : decode cX2_passHour 10 = .ok (.aload_n 0, 1) := dTX2_passHour_0_ok 6 (10, .aload_n 0, 1) rfl
theorem dX2_passHour_11 : decode cX2_passHour 11 = .ok (.getfield 41, 3) := dTX2_passHour_0_ok 7 (11, .getfield 41, 3) rfl
theorem dX2_passHour_14 : decode cX2_passHour 14 = .ok (.if_icmp .ge 34, 3) := dTX2_passHour_0_ok 8 (14, .if_icmp .ge 34, 3) rfl
theorem dX2_passHour_17 : decode cX2_passHour 17 = .ok (.aload_n 0, 1) := dTX2_passHour_0_ok 9 (17, .aload_n 0, 1) rfl
theorem dX2_passHour_18 : decode cX2_passHour 18 = .ok (.iload_n 1, 1) := dTX2_passHour_0_ok 10 (18, .iload_n 1, 1) rfl
theorem dX2_passHour_19 : decode cX2_passHour 19 = .ok (.iconst 2, 1) := dTX2_passHour_0_ok 11 (19, .iconst 2, 1) rfl
theorem dX2_passHour_20 : decode cX2_passHour 20 = .ok (.invokevirtual 56, 3) := dTX2_passHour_0_ok 12 (20, .invokevirtual 56, 3) rfl
theorem dX2_passHour_23 : decode cX2_passHour 23 = .ok (.istore_n 2, 1) := dTX2_passHour_0_ok 13 (23, .istore_n 2, 1) rfl
theorem dX2_passHour_24 : decode cX2_passHour 24 = .ok (.iconst 0, 1) := dTX2_passHour_0_ok 14 (24, .iconst 0, 1) rfl
theorem dX2_passHour_25 : decode cX2_passHour 25 = .ok (.istore_n 3, 1) := dTX2_passHour_0_ok 15 (25, .istore_n 3, 1) rfl
theorem dX2_passHour_26 : decode cX2_passHour 26 = .ok (.iload_n 3, 1) := dTX2_passHour_0_ok 16 (26, .iload_n 3, 1) rfl
theorem dX2_passHour_27 : decode cX2_passHour 27 = .ok (.iload_n 2, 1) := dTX2_passHour_0_ok 17 (27, .iload_n 2, 1) rfl
theorem dX2_passHour_28 : decode cX2_passHour 28 = .ok (.if_icmp .ge 14, 3) := dTX2_passHour_0_ok 18 (28, .if_icmp .ge 14, 3) rfl
theorem dX2_passHour_31 : decode cX2_passHour 31 = .ok (.aload_n 0, 1) := dTX2_passHour_0_ok 19 (31, .aload_n 0, 1) rfl
theorem dX2_passHour_32 : decode cX2_passHour 32 = .ok (.iload_n 1, 1) := dTX2_passHour_0_ok 20 (32, .iload_n 1, 1) rfl
theorem dX2_passHour_33 : decode cX2_passHour 33 = .ok (.invokevirtual 131, 3) := dTX2_passHour_0_ok 21 (33, .invokevirtual 131, 3) rfl
theorem dX2_passHour_36 : decode cX2_passHour 36 = .ok (.iinc 3 1, 3) := dTX2_passHour_0_ok 22 (36, .iinc 3 1, 3) rfl
theorem dX2_passHour_39 : decode cX2_passHour 39 = .ok (.goto (-13), 3) := dTX2_passHour_0_ok 23 (39, .goto (-13), 3) rfl
theorem dX2_passHour_42 : decode cX2_passHour 42 = .ok (.iinc 1 1, 3) := dTX2_passHour_0_ok 24 (42, .iinc 1 1, 3) rfl
theorem dX2_passHour_45 : decode cX2_passHour 45 = .ok (.goto (-36), 3) := dTX2_passHour_0_ok 25 (45, .goto (-36), 3) rfl
theorem dX2_passHour_48 : decode cX2_passHour 48 = .ok (.iconst 0, 1) := dTX2_passHour_0_ok 26 (48, .iconst 0, 1) rfl
theorem dX2_passHour_49 : decode cX2_passHour 49 = .ok (.istore_n 1, 1) := dTX2_passHour_0_ok 27 (49, .istore_n 1, 1) rfl
theorem dX2_passHour_50 : decode cX2_passHour 50 = .ok (.iconst 0, 1) := dTX2_passHour_0_ok 28 (50, .iconst 0, 1) rfl
theorem dX2_passHour_51 : decode cX2_passHour 51 = .ok (.istore_n 2, 1) := dTX2_passHour_0_ok 29 (51, .istore_n 2, 1) rfl
theorem dX2_passHour_52 : decode cX2_passHour 52 = .ok (.iload_n 2, 1) := dTX2_passHour_0_ok 30 (52, .iload_n 2, 1) rfl
theorem dX2_passHour_53 : decode cX2_passHour 53 = .ok (.aload_n 0, 1) := dTX2_passHour_0_ok 31 (53, .aload_n 0, 1) rfl
theorem dX2_passHour_54 : decode cX2_passHour 54 = .ok (.getfield 41, 3) := dTX2_passHour_0_ok 32 (54, .getfield 41, 3) rfl
theorem dX2_passHour_57 : decode cX2_passHour 57 = .ok (.if_icmp .ge 20, 3) := dTX2_passHour_0_ok 33 (57, .if_icmp .ge 20, 3) rfl
theorem dX2_passHour_60 : decode cX2_passHour 60 = .ok (.aload_n 0, 1) := dTX2_passHour_0_ok 34 (60, .aload_n 0, 1) rfl
theorem dX2_passHour_61 : decode cX2_passHour 61 = .ok (.iload_n 2, 1) := dTX2_passHour_0_ok 35 (61, .iload_n 2, 1) rfl
theorem dX2_passHour_62 : decode cX2_passHour 62 = .ok (.invokevirtual 134, 3) := dTX2_passHour_0_ok 36 (62, .invokevirtual 134, 3) rfl
theorem dX2_passHour_65 : decode cX2_passHour 65 = .ok (.ifCond .eq 6, 3) := dTX2_passHour_0_ok 37 (65, .ifCond .eq 6, 3) rfl
theorem dX2_passHour_68 : decode cX2_passHour 68 = .ok (.iinc 1 1, 3) := dTX2_passHour_0_ok 38 (68, .iinc 1 1, 3) rfl
theorem dX2_passHour_71 : decode cX2_passHour 71 = .ok (.iinc 2 1, 3) := dTX2_passHour_0_ok 39 (71, .iinc 2 1, 3) rfl
theorem dX2_passHour_74 : decode cX2_passHour 74 = .ok (.goto (-22), 3) := dTX2_passHour_0_ok 40 (74, .goto (-22), 3) rfl
theorem dX2_passHour_77 : decode cX2_passHour 77 = .ok (.aload_n 0, 1) := dTX2_passHour_0_ok 41 (77, .aload_n 0, 1) rfl
theorem dX2_passHour_78 : decode cX2_passHour 78 = .ok (.dup, 1) := dTX2_passHour_0_ok 42 (78, .dup, 1) rfl
theorem dX2_passHour_79 : decode cX2_passHour 79 = .ok (.getfield 45, 3) := dTX2_passHour_0_ok 43 (79, .getfield 45, 3) rfl
theorem dX2_passHour_82 : decode cX2_passHour 82 = .ok (.iconst 1, 1) := dTX2_passHour_0_ok 44 (82, .iconst 1, 1) rfl
theorem dX2_passHour_83 : decode cX2_passHour 83 = .ok (.iadd, 1) := dTX2_passHour_0_ok 45 (83, .iadd, 1) rfl
theorem dX2_passHour_84 : decode cX2_passHour 84 = .ok (.putfield 45, 3) := dTX2_passHour_0_ok 46 (84, .putfield 45, 3) rfl
theorem dX2_passHour_87 : decode cX2_passHour 87 = .ok (.iload_n 1, 1) := dTX2_passHour_0_ok 47 (87, .iload_n 1, 1) rfl
theorem dX2_passHour_88 : decode cX2_passHour 88 = .ok (.ireturn, 1) := dTX2_passHour_0_ok 48 (88, .ireturn, 1) rfl
noncomputable def dTX2_takeStep_0 : List (Nat × Instr × Nat) := [(0, .aload_n 0, 1), (1, .iload_n 1, 1), (2, .invokevirtual 137, 3), (5, .istore_n 2, 1), (6, .iload_n 2, 1), (7, .iconst (-1), 1), (8, .if_icmp .ne 4, 3), (11, .return_, 1), (12, .aload_n 0, 1), (13, .iload_n 1, 1), (14, .invokevirtual 70, 3), (17, .istore_n 3, 1), (18, .iload_n 3, 1), (19, .iload_n 2, 1), (20, .invokestatic 140, 3), (23, .istore 4, 2), (25, .aload_n 0, 1), (26, .iload_n 1, 1), (27, .iload 4, 2), (29, .invokevirtual 64, 3), (32, .aload_n 0, 1), (33, .getfield 12, 3), (36, .iload_n 3, 1), (37, .iload_n 2, 1), (38, .invokevirtual 145, 3), (41, .ifCond .eq 19, 3), (44, .aload_n 0, 1), (45, .iload_n 1, 1), (46, .iconst 5, 1), (47, .iconst 0, 1), (48, .invokevirtual 60, 3), (51, .aload_n 0, 1), (52, .getfield 12, 3), (55, .iload 4, 2), (57, .invokevirtual 149, 3), (60, .return_, 1)]
theorem dTX2_takeStep_0_ok : ∀ (k : Nat) (q : Nat × Instr × Nat), dTX2_takeStep_0[k]? = some q → decode cX2_takeStep q.1 = .ok q.2 := dT_of (by decide +kernel)
theorem dX2_takeStep_0 : decode cX2_takeStep 0 = .ok (.aload_n 0, 1) := dTX2_takeStep_0_ok 0 (0, .aload_n 0, 1) rfl
theorem dX2_takeStep_1 : decode cX2_takeStep 1 = .ok (.iload_n 1, 1) := dTX2_takeStep_0_ok 1 (1, .iload_n 1, 1) rfl
theorem dX2_takeStep_2 : decode cX2_takeStep 2 = .ok (.invokevirtual 137, 3) := dTX2_takeStep_0_ok 2 (2, .invokevirtual 137, 3) rfl
theorem dX2_takeStep_5 : decode cX2_takeStep 5 = .ok (.istore_n 2, 1) := dTX2_takeStep_0_ok 3 (5, .istore_n 2, 1) rfl
theorem dX2_takeStep_6 : decode cX2_takeStep 6 = .ok (.iload_n 2, 1) := dTX2_takeStep_0_ok 4 (6, .iload_n 2, 1) rfl
theorem dX2_takeStep_7 : decode cX2_takeStep 7 = .ok (.iconst (-1), 1) := dTX2_takeStep_0_ok 5 (7, .iconst (-1), 1) rfl
theorem dX2_takeStep_8 : decode cX2_takeStep 8 = .ok (.if_icmp .ne 4, 3) := dTX2_takeStep_0_ok 6 (8, .if_icmp .ne 4, 3) rfl
theorem dX2_takeStep_11 : decode cX2_takeStep 11 = .ok (.return_, 1) := dTX2_takeStep_0_ok 7 (11, .return_, 1) rfl
theorem dX2_takeStep_12 : decode cX2_takeStep 12 = .ok (.aload_n 0, 1) := dTX2_takeStep_0_ok 8 (12, .aload_n 0, 1) rfl
theorem dX2_takeStep_13 : decode cX2_takeStep 13 = .ok (.iload_n 1, 1) := dTX2_takeStep_0_ok 9 (13, .iload_n 1, 1) rfl
theorem dX2_takeStep_14 : decode cX2_takeStep 14 = .ok (.invokevirtual 70, 3) := dTX2_takeStep_0_ok 10 (14, .invokevirtual 70, 3) rfl
theorem dX2_takeStep_17 : decode cX2_takeStep 17 = .ok (.istore_n 3, 1) := dTX2_takeStep_0_ok 11 (17, .istore_n 3, 1) rfl
theorem dX2_takeStep_18 : decode cX2_takeStep 18 = .ok (.iload_n 3, 1) := dTX2_takeStep_0_ok 12 (18, .iload_n 3, 1) rfl
theorem dX2_takeStep_19 : decode cX2_takeStep 19 = .ok (.iload_n 2, 1) := dTX2_takeStep_0_ok 13 (19, .iload_n 2, 1) rfl
theorem dX2_takeStep_20 : decode cX2_takeStep 20 = .ok (.invokestatic 140, 3) := dTX2_takeStep_0_ok 14 (20, .invokestatic 140, 3) rfl
theorem dX2_takeStep_23 : decode cX2_takeStep 23 = .ok (.istore 4, 2) := dTX2_takeStep_0_ok 15 (23, .istore 4, 2) rfl
theorem dX2_takeStep_25 : decode cX2_takeStep 25 = .ok (.aload_n 0, 1) := dTX2_takeStep_0_ok 16 (25, .aload_n 0, 1) rfl
theorem dX2_takeStep_26 : decode cX2_takeStep 26 = .ok (.iload_n 1, 1) := dTX2_takeStep_0_ok 17 (26, .iload_n 1, 1) rfl
theorem dX2_takeStep_27 : decode cX2_takeStep 27 = .ok (.iload 4, 2) := dTX2_takeStep_0_ok 18 (27, .iload 4, 2) rfl
theorem dX2_takeStep_29 : decode cX2_takeStep 29 = .ok (.invokevirtual 64, 3) := dTX2_takeStep_0_ok 19 (29, .invokevirtual 64, 3) rfl
theorem dX2_takeStep_32 : decode cX2_takeStep 32 = .ok (.aload_n 0, 1) := dTX2_takeStep_0_ok 20 (32, .aload_n 0, 1) rfl
theorem dX2_takeStep_33 : decode cX2_takeStep 33 = .ok (.getfield 12, 3) := dTX2_takeStep_0_ok 21 (33, .getfield 12, 3) rfl
theorem dX2_takeStep_36 : decode cX2_takeStep 36 = .ok (.iload_n 3, 1) := dTX2_takeStep_0_ok 22 (36, .iload_n 3, 1) rfl
theorem dX2_takeStep_37 : decode cX2_takeStep 37 = .ok (.iload_n 2, 1) := dTX2_takeStep_0_ok 23 (37, .iload_n 2, 1) rfl
theorem dX2_takeStep_38 : decode cX2_takeStep 38 = .ok (.invokevirtual 145, 3) := dTX2_takeStep_0_ok 24 (38, .invokevirtual 145, 3) rfl
theorem dX2_takeStep_41 : decode cX2_takeStep 41 = .ok (.ifCond .eq 19, 3) := dTX2_takeStep_0_ok 25 (41, .ifCond .eq 19, 3) rfl
theorem dX2_takeStep_44 : decode cX2_takeStep 44 = .ok (.aload_n 0, 1) := dTX2_takeStep_0_ok 26 (44, .aload_n 0, 1) rfl
theorem dX2_takeStep_45 : decode cX2_takeStep 45 = .ok (.iload_n 1, 1) := dTX2_takeStep_0_ok 27 (45, .iload_n 1, 1) rfl
theorem dX2_takeStep_46 : decode cX2_takeStep 46 = .ok (.iconst 5, 1) := dTX2_takeStep_0_ok 28 (46, .iconst 5, 1) rfl
theorem dX2_takeStep_47 : decode cX2_takeStep 47 = .ok (.iconst 0, 1) := dTX2_takeStep_0_ok 29 (47, .iconst 0, 1) rfl
theorem dX2_takeStep_48 : decode cX2_takeStep 48 = .ok (.invokevirtual 60, 3) := dTX2_takeStep_0_ok 30 (48, .invokevirtual 60, 3) rfl
theorem dX2_takeStep_51 : decode cX2_takeStep 51 = .ok (.aload_n 0, 1) := dTX2_takeStep_0_ok 31 (51, .aload_n 0, 1) rfl
theorem dX2_takeStep_52 : decode cX2_takeStep 52 = .ok (.getfield 12, 3) := dTX2_takeStep_0_ok 32 (52, .getfield 12, 3) rfl
theorem dX2_takeStep_55 : decode cX2_takeStep 55 = .ok (.iload 4, 2) := dTX2_takeStep_0_ok 33 (55, .iload 4, 2) rfl
theorem dX2_takeStep_57 : decode cX2_takeStep 57 = .ok (.invokevirtual 149, 3) := dTX2_takeStep_0_ok 34 (57, .invokevirtual 149, 3) rfl
theorem dX2_takeStep_60 : decode cX2_takeStep 60 = .ok (.return_, 1) := dTX2_takeStep_0_ok 35 (60, .return_, 1) rfl
noncomputable def dTX2_hauntsOrFears_0 : List (Nat × Instr × Nat) := [(0, .aload_n 0, 1), (1, .iload_n 1, 1), (2, .invokevirtual 70, 3), (5, .istore_n 2, 1), (6, .aload_n 0, 1), (7, .getfield 12, 3), (10, .iload_n 2, 1), (11, .invokevirtual 86, 3), (14, .ifCond .eq 21, 3), (17, .aload_n 0, 1), (18, .iload_n 1, 1), (19, .bipush 7, 2), (21, .aload_n 0, 1), (22, .iload_n 1, 1), (23, .bipush 7, 2), (25, .invokevirtual 56, 3), (28, .iconst 1, 1), (29, .iadd, 1), (30, .invokevirtual 60, 3), (33, .iconst 0, 1), (34, .ireturn, 1), (35, .aload_n 0, 1), (36, .getfield 12, 3), (39, .iload_n 2, 1), (40, .invokevirtual 152, 3), (43, .ifCond .ne 5, 3), (46, .iconst 0, 1), (47, .ireturn, 1), (48, .aload_n 0, 1), (49, .getfield 12, 3), (52, .iload_n 2, 1), (53, .invokevirtual 155, 3), (56, .aload_n 0, 1), (57, .iload_n 1, 1), (58, .bipush 6, 2), (60, .aload_n 0, 1), (61, .iload_n 1, 1), (62, .bipush 6, 2), (64, .invokevirtual 56, 3), (67, .iconst 1, 1), (68, .iadd, 1), (69, .invokevirtual 60, 3), (72, .iconst 1, 1), (73, .ireturn, 1)]
theorem dTX2_hauntsOrFears_0_ok : ∀ (k : Nat) (q : Nat × Instr × Nat), dTX2_hauntsOrFears_0[k]? = some q → decode cX2_hauntsOrFears q.1 = .ok q.2 := dT_of (by decide +kernel)
theorem dX2_hauntsOrFears_0 : decode cX2_hauntsOrFears 0 = .ok (.aload_n 0, 1) := dTX2_hauntsOrFears_0_ok 0 (0, .aload_n 0, 1) rfl
theorem dX2_hauntsOrFears_1 : decode cX2_hauntsOrFears 1 = .ok (.iload_n 1, 1) := dTX2_hauntsOrFears_0_ok 1 (1, .iload_n 1, 1) rfl
theorem dX2_hauntsOrFears_2 : decode cX2_hauntsOrFears 2 = .ok (.invokevirtual 70, 3) := dTX2_hauntsOrFears_0_ok 2 (2, .invokevirtual 70, 3) rfl
theorem dX2_hauntsOrFears_5 : decode cX2_hauntsOrFears 5 = .ok (.istore_n 2, 1) := dTX2_hauntsOrFears_0_ok 3 (5, .istore_n 2, 1) rfl
theorem dX2_hauntsOrFears_6 : decode cX2_hauntsOrFears 6 = .ok (.aload_n 0, 1) := dTX2_hauntsOrFears_0_ok 4 (6, .aload_n 0, 1) rfl
theorem dX2_hauntsOrFears_7 : decode cX2_hauntsOrFears 7 = .ok (.getfield 12, 3) := dTX2_hauntsOrFears_0_ok 5 (7, .getfield 12, 3) rfl
theorem dX2_hauntsOrFears_10 : decode cX2_hauntsOrFears 10 = .ok (.iload_n 2, 1) := dTX2_hauntsOrFears_0_ok 6 (10, .iload_n 2, 1) rfl
theorem dX2_hauntsOrFears_11 : decode cX2_hauntsOrFears 11 = .ok (.invokevirtual 86, 3) := dTX2_hauntsOrFears_0_ok 7 (11, .invokevirtual 86, 3) rfl
theorem dX2_hauntsOrFears_14 : decode cX2_hauntsOrFears 14 = .ok (.ifCond .eq 21, 3) := dTX2_hauntsOrFears_0_ok 8 (14, .ifCond .eq 21, 3) rfl
theorem dX2_hauntsOrFears_17 : decode cX2_hauntsOrFears 17 = .ok (.aload_n 0, 1) := dTX2_hauntsOrFears_0_ok 9 (17, .aload_n 0, 1) rfl
theorem dX2_hauntsOrFears_18 : decode cX2_hauntsOrFears 18 = .ok (.iload_n 1, 1) := dTX2_hauntsOrFears_0_ok 10 (18, .iload_n 1, 1) rfl
theorem dX2_hauntsOrFears_19 : decode cX2_hauntsOrFears 19 = .ok (.bipush 7, 2) := dTX2_hauntsOrFears_0_ok 11 (19, .bipush 7, 2) rfl
theorem dX2_hauntsOrFears_21 : decode cX2_hauntsOrFears 21 = .ok (.aload_n 0, 1) := dTX2_hauntsOrFears_0_ok 12 (21, .aload_n 0, 1) rfl
theorem dX2_hauntsOrFears_22 : decode cX2_hauntsOrFears 22 = .ok (.iload_n 1, 1) := dTX2_hauntsOrFears_0_ok 13 (22, .iload_n 1, 1) rfl
theorem dX2_hauntsOrFears_23 : decode cX2_hauntsOrFears 23 = .ok (.bipush 7, 2) := dTX2_hauntsOrFears_0_ok 14 (23, .bipush 7, 2) rfl
theorem dX2_hauntsOrFears_25 : decode cX2_hauntsOrFears 25 = .ok (.invokevirtual 56, 3) := dTX2_hauntsOrFears_0_ok 15 (25, .invokevirtual 56, 3) rfl
theorem dX2_hauntsOrFears_28 : decode cX2_hauntsOrFears 28 = .ok (.iconst 1, 1) := dTX2_hauntsOrFears_0_ok 16 (28, .iconst 1, 1) rfl
theorem dX2_hauntsOrFears_29 : decode cX2_hauntsOrFears 29 = .ok (.iadd, 1) := dTX2_hauntsOrFears_0_ok 17 (29, .iadd, 1) rfl
theorem dX2_hauntsOrFears_30 : decode cX2_hauntsOrFears 30 = .ok (.invokevirtual 60, 3) := dTX2_hauntsOrFears_0_ok 18 (30, .invokevirtual 60, 3) rfl
theorem dX2_hauntsOrFears_33 : decode cX2_hauntsOrFears 33 = .ok (.iconst 0, 1) := dTX2_hauntsOrFears_0_ok 19 (33, .iconst 0, 1) rfl
theorem dX2_hauntsOrFears_34 : decode cX2_hauntsOrFears 34 = .ok (.ireturn, 1) := dTX2_hauntsOrFears_0_ok 20 (34, .ireturn, 1) rfl
theorem dX2_hauntsOrFears_35 : decode cX2_hauntsOrFears 35 = .ok (.aload_n 0, 1) := dTX2_hauntsOrFears_0_ok 21 (35, .aload_n 0, 1) rfl
theorem dX2_hauntsOrFears_36 : decode cX2_hauntsOrFears 36 = .ok (.getfield 12, 3) := dTX2_hauntsOrFears_0_ok 22 (36, .getfield 12, 3) rfl
theorem dX2_hauntsOrFears_39 : decode cX2_hauntsOrFears 39 = .ok (.iload_n 2, 1) := dTX2_hauntsOrFears_0_ok 23 (39, .iload_n 2, 1) rfl
theorem dX2_hauntsOrFears_40 : decode cX2_hauntsOrFears 40 = .ok (.invokevirtual 152, 3) := dTX2_hauntsOrFears_0_ok 24 (40, .invokevirtual 152, 3) rfl
theorem dX2_hauntsOrFears_43 : decode cX2_hauntsOrFears 43 = .ok (.ifCond .ne 5, 3) := dTX2_hauntsOrFears_0_ok 25 (43, .ifCond .ne 5, 3) rfl
theorem dX2_hauntsOrFears_46 : decode cX2_hauntsOrFears 46 = .ok (.iconst 0, 1) := dTX2_hauntsOrFears_0_ok 26 (46, .iconst 0, 1) rfl
theorem dX2_hauntsOrFears_47 : decode cX2_hauntsOrFears 47 = .ok (.ireturn, 1) := dTX2_hauntsOrFears_0_ok 27 (47, .ireturn, 1) rfl
theorem dX2_hauntsOrFears_48 : decode cX2_hauntsOrFears 48 = .ok (.aload_n 0, 1) := dTX2_hauntsOrFears_0_ok 28 (48, .aload_n 0, 1) rfl
theorem dX2_hauntsOrFears_49 : decode cX2_hauntsOrFears 49 = .ok (.getfield 12, 3) := dTX2_hauntsOrFears_0_ok 29 (49, .getfield 12, 3) rfl
theorem dX2_hauntsOrFears_52 : decode cX2_hauntsOrFears 52 = .ok (.iload_n 2, 1) := dTX2_hauntsOrFears_0_ok 30 (52, .iload_n 2, 1) rfl
theorem dX2_hauntsOrFears_53 : decode cX2_hauntsOrFears 53 = .ok (.invokevirtual 155, 3) := dTX2_hauntsOrFears_0_ok 31 (53, .invokevirtual 155, 3) rfl
theorem dX2_hauntsOrFears_56 : decode cX2_hauntsOrFears 56 = .ok (.aload_n 0, 1) := dTX2_hauntsOrFears_0_ok 32 (56, .aload_n 0, 1) rfl
theorem dX2_hauntsOrFears_57 : decode cX2_hauntsOrFears 57 = .ok (.iload_n 1, 1) := dTX2_hauntsOrFears_0_ok 33 (57, .iload_n 1, 1) rfl
theorem dX2_hauntsOrFears_58 : decode cX2_hauntsOrFears 58 = .ok (.bipush 6, 2) := dTX2_hauntsOrFears_0_ok 34 (58, .bipush 6, 2) rfl
theorem dX2_hauntsOrFears_60 : decode cX2_hauntsOrFears 60 = .ok (.aload_n 0, 1) := dTX2_hauntsOrFears_0_ok 35 (60, .aload_n 0, 1) rfl
theorem dX2_hauntsOrFears_61 : decode cX2_hauntsOrFears 61 = .ok (.iload_n 1, 1) := dTX2_hauntsOrFears_0_ok 36 (61, .iload_n 1, 1) rfl
theorem dX2_hauntsOrFears_62 : decode cX2_hauntsOrFears 62 = .ok (.bipush 6, 2) := dTX2_hauntsOrFears_0_ok 37 (62, .bipush 6, 2) rfl
theorem dX2_hauntsOrFears_64 : decode cX2_hauntsOrFears 64 = .ok (.invokevirtual 56, 3) := dTX2_hauntsOrFears_0_ok 38 (64, .invokevirtual 56, 3) rfl
theorem dX2_hauntsOrFears_67 : decode cX2_hauntsOrFears 67 = .ok (.iconst 1, 1) := dTX2_hauntsOrFears_0_ok 39 (67, .iconst 1, 1) rfl
theorem dX2_hauntsOrFears_68 : decode cX2_hauntsOrFears 68 = .ok (.iadd, 1) := dTX2_hauntsOrFears_0_ok 40 (68, .iadd, 1) rfl
theorem dX2_hauntsOrFears_69 : decode cX2_hauntsOrFears 69 = .ok (.invokevirtual 60, 3) := dTX2_hauntsOrFears_0_ok 41 (69, .invokevirtual 60, 3) rfl
theorem dX2_hauntsOrFears_72 : decode cX2_hauntsOrFears 72 = .ok (.iconst 1, 1) := dTX2_hauntsOrFears_0_ok 42 (72, .iconst 1, 1) rfl
theorem dX2_hauntsOrFears_73 : decode cX2_hauntsOrFears 73 = .ok (.ireturn, 1) := dTX2_hauntsOrFears_0_ok 43 (73, .ireturn, 1) rfl
noncomputable def dTX3_init_0 : List (Nat × Instr × Nat) := [(0, .aload_n 0, 1), (1, .invokespecial 1, 3), (4, .aload_n 0, 1), (5, .iload_n 1, 1), (6, .ifCond .ge 7, 3), (9, .iconst 0, 1), (10, .goto 4, 3), (13, .iload_n 1, 1), (14, .newarray .int, 2), (16, .putfield 7, 3), (19, .return_, 1)]
theorem dTX3_init_0_ok : ∀ (k : Nat) (q : Nat × Instr × Nat), dTX3_init_0[k]? = some q → decode cX3_init q.1 = .ok q.2 := dT_of (by decide +kernel)
theorem dX3_init_0 : decode cX3_init 0 = .ok (.aload_n 0, 1) := dTX3_init_0_ok 0 (0, .aload_n 0, 1) rfl
theorem dX3_init_1 : decode cX3_init 1 = .ok (.invokespecial 1, 3) := dTX3_init_0_ok 1 (1, .invokespecial 1, 3) rfl
theorem dX3_init_4 : decode cX3_init 4 = .ok (.aload_n 0, 1) := dTX3_init_0_ok 2 (4, .aload_n 0, 1) rfl
theorem dX3_init_5 : decode cX3_init 5 = .ok (.iload_n 1, 1) := dTX3_init_0_ok 3 (5, .iload_n 1, 1) rfl
theorem dX3_init_6 : decode cX3_init 6 = .ok (.ifCond .ge 7, 3) := dTX3_init_0_ok 4 (6, .ifCond .ge 7, 3) rfl
theorem dX3_init_9 : decode cX3_init 9 = .ok (.iconst 0, 1) := dTX3_init_0_ok 5 (9, .iconst 0, 1) rfl
theorem dX3_init_10 : decode cX3_init 10 = .ok (.goto 4, 3) := dTX3_init_0_ok 6 (10, .goto 4, 3) rfl
theorem dX3_init_13 : decode cX3_init 13 = .ok (.iload_n 1, 1) := dTX3_init_0_ok 7 (13, .iload_n 1, 1) rfl
theorem dX3_init_14 : decode cX3_init 14 = .ok (.newarray .int, 2) := dTX3_init_0_ok 8 (14, .newarray .int, 2) rfl
theorem dX3_init_16 : decode cX3_init 16 = .ok (.putfield 7, 3) := dTX3_init_0_ok 9 (16, .putfield 7, 3) rfl
theorem dX3_init_19 : decode cX3_init 19 = .ok (.return_, 1) := dTX3_init_0_ok 10 (19, .return_, 1) rfl
noncomputable def dTX3_get_0 : List (Nat × Instr × Nat) := [(0, .iload_n 1, 1), (1, .ifCond .lt 21, 3), (4, .iload_n 1, 1), (5, .aload_n 0, 1), (6, .getfield 7, 3), (9, .arraylength, 1), (10, .if_icmp .ge 12, 3), (13, .aload_n 0, 1), (14, .getfield 7, 3), (17, .iload_n 1, 1), (18, .iaload, 1), (19, .goto 4, 3), (22, .iconst 0, 1), (23, .ireturn, 1)]
theorem dTX3_get_0_ok : ∀ (k : Nat) (q : Nat × Instr × Nat), dTX3_get_0[k]? = some q → decode cX3_get q.1 = .ok q.2 := dT_of (by decide +kernel)
theorem dX3_get_0 : decode cX3_get 0 = .ok (.iload_n 1, 1) := dTX3_get_0_ok 0 (0, .iload_n 1, 1) rfl
theorem dX3_get_1 : decode cX3_get 1 = .ok (.ifCond .lt 21, 3) := dTX3_get_0_ok 1 (1, .ifCond .lt 21, 3) rfl
theorem dX3_get_4 : decode cX3_get 4 = .ok (.iload_n 1, 1) := dTX3_get_0_ok 2 (4, .iload_n 1, 1) rfl
theorem dX3_get_5 : decode cX3_get 5 = .ok (.aload_n 0, 1) := dTX3_get_0_ok 3 (5, .aload_n 0, 1) rfl
theorem dX3_get_6 : decode cX3_get 6 = .ok (.getfield 7, 3) := dTX3_get_0_ok 4 (6, .getfield 7, 3) rfl
theorem dX3_get_9 : decode cX3_get 9 = .ok (.arraylength, 1) := dTX3_get_0_ok 5 (9, .arraylength, 1) rfl
theorem dX3_get_10 : decode cX3_get 10 = .ok (.if_icmp .ge 12, 3) := dTX3_get_0_ok 6 (10, .if_icmp .ge 12, 3) rfl
theorem dX3_get_13 : decode cX3_get 13 = .ok (.aload_n 0, 1) := dTX3_get_0_ok 7 (13, .aload_n 0, 1) rfl
theorem dX3_get_14 : decode cX3_get 14 = .ok (.getfield 7, 3) := dTX3_get_0_ok 8 (14, .getfield 7, 3) rfl
theorem dX3_get_17 : decode cX3_get 17 = .ok (.iload_n 1, 1) := dTX3_get_0_ok 9 (17, .iload_n 1, 1) rfl
theorem dX3_get_18 : decode cX3_get 18 = .ok (.iaload, 1) := dTX3_get_0_ok 10 (18, .iaload, 1) rfl
theorem dX3_get_19 : decode cX3_get 19 = .ok (.goto 4, 3) := dTX3_get_0_ok 11 (19, .goto 4, 3) rfl
theorem dX3_get_22 : decode cX3_get 22 = .ok (.iconst 0, 1) := dTX3_get_0_ok 12 (22, .iconst 0, 1) rfl
theorem dX3_get_23 : decode cX3_get 23 = .ok (.ireturn, 1) := dTX3_get_0_ok 13 (23, .ireturn, 1) rfl
noncomputable def dTX3_put_0 : List (Nat × Instr × Nat) := [(0, .iload_n 1, 1), (1, .ifCond .lt 19, 3), (4, .iload_n 1, 1), (5, .aload_n 0, 1), (6, .getfield 7, 3), (9, .arraylength, 1), (10, .if_icmp .ge 10, 3), (13, .aload_n 0, 1), (14, .getfield 7, 3), (17, .iload_n 1, 1), (18, .iload_n 2, 1), (19, .iastore, 1), (20, .return_, 1)]
theorem dTX3_put_0_ok : ∀ (k : Nat) (q : Nat × Instr × Nat), dTX3_put_0[k]? = some q → decode cX3_put q.1 = .ok q.2 := dT_of (by decide +kernel)
theorem dX3_put_0 : decode cX3_put 0 = .ok (.iload_n 1, 1) := dTX3_put_0_ok 0 (0, .iload_n 1, 1) rfl
theorem dX3_put_1 : decode cX3_put 1 = .ok (.ifCond .lt 19, 3) := dTX3_put_0_ok 1 (1, .ifCond .lt 19, 3) rfl
theorem dX3_put_4 : decode cX3_put 4 = .ok (.iload_n 1, 1) := dTX3_put_0_ok 2 (4, .iload_n 1, 1) rfl
theorem dX3_put_5 : decode cX3_put 5 = .ok (.aload_n 0, 1) := dTX3_put_0_ok 3 (5, .aload_n 0, 1) rfl
theorem dX3_put_6 : decode cX3_put 6 = .ok (.getfield 7, 3) := dTX3_put_0_ok 4 (6, .getfield 7, 3) rfl
theorem dX3_put_9 : decode cX3_put 9 = .ok (.arraylength, 1) := dTX3_put_0_ok 5 (9, .arraylength, 1) rfl
theorem dX3_put_10 : decode cX3_put 10 = .ok (.if_icmp .ge 10, 3) := dTX3_put_0_ok 6 (10, .if_icmp .ge 10, 3) rfl
theorem dX3_put_13 : decode cX3_put 13 = .ok (.aload_n 0, 1) := dTX3_put_0_ok 7 (13, .aload_n 0, 1) rfl
theorem dX3_put_14 : decode cX3_put 14 = .ok (.getfield 7, 3) := dTX3_put_0_ok 8 (14, .getfield 7, 3) rfl
theorem dX3_put_17 : decode cX3_put 17 = .ok (.iload_n 1, 1) := dTX3_put_0_ok 9 (17, .iload_n 1, 1) rfl
theorem dX3_put_18 : decode cX3_put 18 = .ok (.iload_n 2, 1) := dTX3_put_0_ok 10 (18, .iload_n 2, 1) rfl
theorem dX3_put_19 : decode cX3_put 19 = .ok (.iastore, 1) := dTX3_put_0_ok 11 (19, .iastore, 1) rfl
theorem dX3_put_20 : decode cX3_put 20 = .ok (.return_, 1) := dTX3_put_0_ok 12 (20, .return_, 1) rfl
noncomputable def dTX3_copyFrom_0 : List (Nat × Instr × Nat) := [(0, .iconst 0, 1), (1, .istore_n 2, 1), (2, .iload_n 2, 1), (3, .aload_n 0, 1), (4, .getfield 7, 3), (7, .arraylength, 1), (8, .if_icmp .ge 20, 3), (11, .aload_n 0, 1), (12, .getfield 7, 3), (15, .iload_n 2, 1), (16, .aload_n 1, 1), (17, .iload_n 2, 1), (18, .invokevirtual 13, 3), (21, .iastore, 1), (22, .iinc 2 1, 3), (25, .goto (-23), 3), (28, .return_, 1)]
theorem dTX3_copyFrom_0_ok : ∀ (k : Nat) (q : Nat × Instr × Nat), dTX3_copyFrom_0[k]? = some q → decode cX3_copyFrom q.1 = .ok q.2 := dT_of (by decide +kernel)
theorem dX3_copyFrom_0 : decode cX3_copyFrom 0 = .ok (.iconst 0, 1) := dTX3_copyFrom_0_ok 0 (0, .iconst 0, 1) rfl
theorem dX3_copyFrom_1 : decode cX3_copyFrom 1 = .ok (.istore_n 2, 1) := dTX3_copyFrom_0_ok 1 (1, .istore_n 2, 1) rfl
theorem dX3_copyFrom_2 : decode cX3_copyFrom 2 = .ok (.iload_n 2, 1) := dTX3_copyFrom_0_ok 2 (2, .iload_n 2, 1) rfl
theorem dX3_copyFrom_3 : decode cX3_copyFrom 3 = .ok (.aload_n 0, 1) := dTX3_copyFrom_0_ok 3 (3, .aload_n 0, 1) rfl
theorem dX3_copyFrom_4 : decode cX3_copyFrom 4 = .ok (.getfield 7, 3) := dTX3_copyFrom_0_ok 4 (4, .getfield 7, 3) rfl
theorem dX3_copyFrom_7 : decode cX3_copyFrom 7 = .ok (.arraylength, 1) := dTX3_copyFrom_0_ok 5 (7, .arraylength, 1) rfl
theorem dX3_copyFrom_8 : decode cX3_copyFrom 8 = .ok (.if_icmp .ge 20, 3) := dTX3_copyFrom_0_ok 6 (8, .if_icmp .ge 20, 3) rfl
theorem dX3_copyFrom_11 : decode cX3_copyFrom 11 = .ok (.aload_n 0, 1) := dTX3_copyFrom_0_ok 7 (11, .aload_n 0, 1) rfl
theorem dX3_copyFrom_12 : decode cX3_copyFrom 12 = .ok (.getfield 7, 3) := dTX3_copyFrom_0_ok 8 (12, .getfield 7, 3) rfl
theorem dX3_copyFrom_15 : decode cX3_copyFrom 15 = .ok (.iload_n 2, 1) := dTX3_copyFrom_0_ok 9 (15, .iload_n 2, 1) rfl
theorem dX3_copyFrom_16 : decode cX3_copyFrom 16 = .ok (.aload_n 1, 1) := dTX3_copyFrom_0_ok 10 (16, .aload_n 1, 1) rfl
theorem dX3_copyFrom_17 : decode cX3_copyFrom 17 = .ok (.iload_n 2, 1) := dTX3_copyFrom_0_ok 11 (17, .iload_n 2, 1) rfl
theorem dX3_copyFrom_18 : decode cX3_copyFrom 18 = .ok (.invokevirtual 13, 3) := dTX3_copyFrom_0_ok 12 (18, .invokevirtual 13, 3) rfl
theorem dX3_copyFrom_21 : decode cX3_copyFrom 21 = .ok (.iastore, 1) := dTX3_copyFrom_0_ok 13 (21, .iastore, 1) rfl
theorem dX3_copyFrom_22 : decode cX3_copyFrom 22 = .ok (.iinc 2 1, 3) := dTX3_copyFrom_0_ok 14 (22, .iinc 2 1, 3) rfl
theorem dX3_copyFrom_25 : decode cX3_copyFrom 25 = .ok (.goto (-23), 3) := dTX3_copyFrom_0_ok 15 (25, .goto (-23), 3) rfl
theorem dX3_copyFrom_28 : decode cX3_copyFrom 28 = .ok (.return_, 1) := dTX3_copyFrom_0_ok 16 (28, .return_, 1) rfl
noncomputable def dTX4_init_0 : List (Nat × Instr × Nat) := [(0, .aload_n 0, 1), (1, .invokespecial 3, 3), (4, .return_, 1)]
theorem dTX4_init_0_ok : ∀ (k : Nat) (q : Nat × Instr × Nat), dTX4_init_0[k]? = some q → decode cX4_init q.1 = .ok q.2 := dT_of (by decide +kernel)
theorem dX4_init_0 : decode cX4_init 0 = .ok (.aload_n 0, 1) := dTX4_init_0_ok 0 (0, .aload_n 0, 1) rfl
theorem dX4_init_1 : decode cX4_init 1 = .ok (.invokespecial 3, 3) := dTX4_init_0_ok 1 (1, .invokespecial 3, 3) rfl
theorem dX4_init_4 : decode cX4_init 4 = .ok (.return_, 1) := dTX4_init_0_ok 2 (4, .return_, 1) rfl
noncomputable def dTX4_fewestSteps_0 : List (Nat × Instr × Nat) := [(0, .aload_n 0, 1), (1, .iload_n 2, 1), (2, .invokestatic 9, 3), (5, .putfield 15, 3), (8, .aload_n 0, 1), (9, .iload 4, 2), (11, .putfield 21, 3), (14, .aload_n 1, 1), (15, .getfield 25, 3), (18, .ldc2_w 30, 3), (21, .lxor, 1), (22, .aload_n 0, 1), (23, .getfield 15, 3), (26, .lor, 1), (27, .lstore 5, 2), (29, .aload_n 0, 1), (30, .iload_n 3, 1), (31, .invokestatic 9, 3), (34, .lload 5, 2), (36, .land, 1), (37, .putfield 32, 3), (40, .aload_n 0, 1), (41, .lconst 0, 1), (42, .putfield 35, 3), (45, .iload_n 2, 1), (46, .iload_n 3, 1), (47, .if_icmp .ne 5, 3), (50, .iconst 0, 1), (51, .ireturn, 1), (52, .iconst 1, 1), (53, .istore 7, 2), (55, .iload 7, 2), (57, .bipush 63, 2), (59, .if_icmp .ge 127, 3), (62, .aload_n 0, 1), (63, .getfield 32, 3), (66, .aload_n 1, 1), (67, .aload_n 0, 1), (68, .getfield 32, 3), (71, .iconst 0, 1), (72, .invokevirtual 38, 3), (75, .lload 5, 2), (77, .land, 1), (78, .lor, 1), (79, .lstore 8, 2), (81, .aload_n 0, 1), (82, .getfield 35, 3), (85, .lstore 10, 2), (87, .aload_n 0, 1), (88, .getfield 21, 3), (91, .ifCond .eq 37, 3), (94, .lload 10, 2), (96, .aload_n 1, 1), (97, .aload_n 0, 1), (98, .getfield 35, 3), (101, .iconst 0, 1), (102, .invokevirtual 38, 3), (105, .lload 5, 2), (107, .land, 1), (108, .lor, 1)]
theorem dTX4_fewestSteps_0_ok : ∀ (k : Nat) (q : Nat × Instr × Nat), dTX4_fewestSteps_0[k]? = some q → decode cX4_fewestSteps q.1 = .ok q.2 := dT_of (by decide +kernel)
theorem dX4_fewestSteps_0 : decode cX4_fewestSteps 0 = .ok (.aload_n 0, 1) := dTX4_fewestSteps_0_ok 0 (0, .aload_n 0, 1) rfl
theorem dX4_fewestSteps_1 : decode cX4_fewestSteps 1 = .ok (.iload_n 2, 1) := dTX4_fewestSteps_0_ok 1 (1, .iload_n 2, 1) rfl
theorem dX4_fewestSteps_2 : decode cX4_fewestSteps 2 = .ok (.invokestatic 9, 3) := dTX4_fewestSteps_0_ok 2 (2, .invokestatic 9, 3) rfl
theorem dX4_fewestSteps_5 : decode cX4_fewestSteps 5 = .ok (.putfield 15, 3) := dTX4_fewestSteps_0_ok 3 (5, .putfield 15, 3) rfl
theorem dX4_fewestSteps_8 : decode cX4_fewestSteps 8 = .ok (.aload_n 0, 1) := dTX4_fewestSteps_0_ok 4 (8, .aload_n 0, 1) rfl
theorem dX4_fewestSteps_9 : decode cX4_fewestSteps 9 = .ok (.iload 4, 2) := dTX4_fewestSteps_0_ok 5 (9, .iload 4, 2) rfl
theorem dX4_fewestSteps_11 : decode cX4_fewestSteps 11 = .ok (.putfield 21, 3) := dTX4_fewestSteps_0_ok 6 (11, .putfield 21, 3) rfl
theorem dX4_fewestSteps_14 : decode cX4_fewestSteps 14 = .ok (.aload_n 1, 1) := dTX4_fewestSteps_0_ok 7 (14, .aload_n 1, 1) rfl
theorem dX4_fewestSteps_15 : decode cX4_fewestSteps 15 = .ok (.getfield 25, 3) := dTX4_fewestSteps_0_ok 8 (15, .getfield 25, 3) rfl
theorem dX4_fewestSteps_18 : decode cX4_fewestSteps 18 = .ok (.ldc2_w 30, 3) := dTX4_fewestSteps_0_ok 9 (18, .ldc2_w 30, 3) rfl
theorem dX4_fewestSteps_21 : decode cX4_fewestSteps 21 = .ok (.lxor, 1) := dTX4_fewestSteps_0_ok 10 (21, .lxor, 1) rfl
theorem dX4_fewestSteps_22 : decode cX4_fewestSteps 22 = .ok (.aload_n 0, 1) := dTX4_fewestSteps_0_ok 11 (22, .aload_n 0, 1) rfl
theorem dX4_fewestSteps_23 : decode cX4_fewestSteps 23 = .ok (.getfield 15, 3) := dTX4_fewestSteps_0_ok 12 (23, .getfield 15, 3) rfl
theorem dX4_fewestSteps_26 : decode cX4_fewestSteps 26 = .ok (.lor, 1) := dTX4_fewestSteps_0_ok 13 (26, .lor, 1) rfl
theorem dX4_fewestSteps_27 : decode cX4_fewestSteps 27 = .ok (.lstore 5, 2) := dTX4_fewestSteps_0_ok 14 (27, .lstore 5, 2) rfl
theorem dX4_fewestSteps_29 : decode cX4_fewestSteps 29 = .ok (.aload_n 0, 1) := dTX4_fewestSteps_0_ok 15 (29, .aload_n 0, 1) rfl
theorem dX4_fewestSteps_30 : decode cX4_fewestSteps 30 = .ok (.iload_n 3, 1) := dTX4_fewestSteps_0_ok 16 (30, .iload_n 3, 1) rfl
theorem dX4_fewestSteps_31 : decode cX4_fewestSteps 31 = .ok (.invokestatic 9, 3) := dTX4_fewestSteps_0_ok 17 (31, .invokestatic 9, 3) rfl
theorem dX4_fewestSteps_34 : decode cX4_fewestSteps 34 = .ok (.lload 5, 2) := dTX4_fewestSteps_0_ok 18 (34, .lload 5, 2) rfl
theorem dX4_fewestSteps_36 : decode cX4_fewestSteps 36 = .ok (.land, 1) := dTX4_fewestSteps_0_ok 19 (36, .land, 1) rfl
theorem dX4_fewestSteps_37 : decode cX4_fewestSteps 37 = .ok (.putfield 32, 3) := dTX4_fewestSteps_0_ok 20 (37, .putfield 32, 3) rfl
theorem dX4_fewestSteps_40 : decode cX4_fewestSteps 40 = .ok (.aload_n 0, 1) := dTX4_fewestSteps_0_ok 21 (40, .aload_n 0, 1) rfl
theorem dX4_fewestSteps_41 : decode cX4_fewestSteps 41 = .ok (.lconst 0, 1) := dTX4_fewestSteps_0_ok 22 (41, .lconst 0, 1) rfl
theorem dX4_fewestSteps_42 : decode cX4_fewestSteps 42 = .ok (.putfield 35, 3) := dTX4_fewestSteps_0_ok 23 (42, .putfield 35, 3) rfl
theorem dX4_fewestSteps_45 : decode cX4_fewestSteps 45 = .ok (.iload_n 2, 1) := dTX4_fewestSteps_0_ok 24 (45, .iload_n 2, 1) rfl
theorem dX4_fewestSteps_46 : decode cX4_fewestSteps 46 = .ok (.iload_n 3, 1) := dTX4_fewestSteps_0_ok 25 (46, .iload_n 3, 1) rfl
theorem dX4_fewestSteps_47 : decode cX4_fewestSteps 47 = .ok (.if_icmp .ne 5, 3) := dTX4_fewestSteps_0_ok 26 (47, .if_icmp .ne 5, 3) rfl
theorem dX4_fewestSteps_50 : decode cX4_fewestSteps 50 = .ok (.iconst 0, 1) := dTX4_fewestSteps_0_ok 27 (50, .iconst 0, 1) rfl
theorem dX4_fewestSteps_51 : decode cX4_fewestSteps 51 = .ok (.ireturn, 1) := dTX4_fewestSteps_0_ok 28 (51, .ireturn, 1) rfl
theorem dX4_fewestSteps_52 : decode cX4_fewestSteps 52 = .ok (.iconst 1, 1) := dTX4_fewestSteps_0_ok 29 (52, .iconst 1, 1) rfl
theorem dX4_fewestSteps_53 : decode cX4_fewestSteps 53 = .ok (.istore 7, 2) := dTX4_fewestSteps_0_ok 30 (53, .istore 7, 2) rfl
theorem dX4_fewestSteps_55 : decode cX4_fewestSteps 55 = .ok (.iload 7, 2) := dTX4_fewestSteps_0_ok 31 (55, .iload 7, 2) rfl
theorem dX4_fewestSteps_57 : decode cX4_fewestSteps 57 = .ok (.bipush 63, 2) := dTX4_fewestSteps_0_ok 32 (57, .bipush 63, 2) rfl
theorem dX4_fewestSteps_59 : decode cX4_fewestSteps 59 = .ok (.if_icmp .ge 127, 3) := dTX4_fewestSteps_0_ok 33 (59, .if_icmp .ge 127, 3) rfl
theorem dX4_fewestSteps_62 : decode cX4_fewestSteps 62 = .ok (.aload_n 0, 1) := dTX4_fewestSteps_0_ok 34 (62, .aload_n 0, 1) rfl
theorem dX4_fewestSteps_63 : decode cX4_fewestSteps 63 = .ok (.getfield 32, 3) := dTX4_fewestSteps_0_ok 35 (63, .getfield 32, 3) rfl
theorem dX4_fewestSteps_66 : decode cX4_fewestSteps 66 = .ok (.aload_n 1, 1) := dTX4_fewestSteps_0_ok 36 (66, .aload_n 1, 1) rfl
theorem dX4_fewestSteps_67 : decode cX4_fewestSteps 67 = .ok (.aload_n 0, 1) := dTX4_fewestSteps_0_ok 37 (67, .aload_n 0, 1) rfl
theorem dX4_fewestSteps_68 : decode cX4_fewestSteps 68 = .ok (.getfield 32, 3) := dTX4_fewestSteps_0_ok 38 (68, .getfield 32, 3) rfl
theorem dX4_fewestSteps_71 : decode cX4_fewestSteps 71 = .ok (.iconst 0, 1) := dTX4_fewestSteps_0_ok 39 (71, .iconst 0, 1) rfl
theorem dX4_fewestSteps_72 : decode cX4_fewestSteps 72 = .ok (.invokevirtual 38, 3) := dTX4_fewestSteps_0_ok 40 (72, .invokevirtual 38, 3) rfl
theorem dX4_fewestSteps_75 : decode cX4_fewestSteps 75 = .ok (.lload 5, 2) := dTX4_fewestSteps_0_ok 41 (75, .lload 5, 2) rfl
theorem dX4_fewestSteps_77 : decode cX4_fewestSteps 77 = .ok (.land, 1) := dTX4_fewestSteps_0_ok 42 (77, .land, 1) rfl
theorem dX4_fewestSteps_78 : decode cX4_fewestSteps 78 = .ok (.lor, 1) := dTX4_fewestSteps_0_ok 43 (78, .lor, 1) rfl
theorem dX4_fewestSteps_79 : decode cX4_fewestSteps 79 = .ok (.lstore 8, 2) := dTX4_fewestSteps_0_ok 44 (79, .lstore 8, 2) rfl
theorem dX4_fewestSteps_81 : decode cX4_fewestSteps 81 = .ok (.aload_n 0, 1) := dTX4_fewestSteps_0_ok 45 (81, .aload_n 0, 1) rfl
theorem dX4_fewestSteps_82 : decode cX4_fewestSteps 82 = .ok (.getfield 35, 3) := dTX4_fewestSteps_0_ok 46 (82, .getfield 35, 3) rfl
theorem dX4_fewestSteps_85 : decode cX4_fewestSteps 85 = .ok (.lstore 10, 2) := dTX4_fewestSteps_0_ok 47 (85, .lstore 10, 2) rfl
theorem dX4_fewestSteps_87 : decode cX4_fewestSteps 87 = .ok (.aload_n 0, 1) := dTX4_fewestSteps_0_ok 48 (87, .aload_n 0, 1) rfl
theorem dX4_fewestSteps_88 : decode cX4_fewestSteps 88 = .ok (.getfield 21, 3) := dTX4_fewestSteps_0_ok 49 (88, .getfield 21, 3) rfl
theorem dX4_fewestSteps_91 : decode cX4_fewestSteps 91 = .ok (.ifCond .eq 37, 3) := dTX4_fewestSteps_0_ok 50 (91, .ifCond .eq 37, 3) rfl
theorem dX4_fewestSteps_94 : decode cX4_fewestSteps 94 = .ok (.lload 10, 2) := dTX4_fewestSteps_0_ok 51 (94, .lload 10, 2) rfl
theorem dX4_fewestSteps_96 : decode cX4_fewestSteps 96 = .ok (.aload_n 1, 1) := dTX4_fewestSteps_0_ok 52 (96, .aload_n 1, 1) rfl
theorem dX4_fewestSteps_97 : decode cX4_fewestSteps 97 = .ok (.aload_n 0, 1) := dTX4_fewestSteps_0_ok 53 (97, .aload_n 0, 1) rfl
theorem dX4_fewestSteps_98 : decode cX4_fewestSteps 98 = .ok (.getfield 35, 3) := dTX4_fewestSteps_0_ok 54 (98, .getfield 35, 3) rfl
theorem dX4_fewestSteps_101 : decode cX4_fewestSteps 101 = .ok (.iconst 0, 1) := dTX4_fewestSteps_0_ok 55 (101, .iconst 0, 1) rfl
theorem dX4_fewestSteps_102 : decode cX4_fewestSteps 102 = .ok (.invokevirtual 38, 3) := dTX4_fewestSteps_0_ok 56 (102, .invokevirtual 38, 3) rfl
theorem dX4_fewestSteps_105 : decode cX4_fewestSteps 105 = .ok (.lload 5, 2) := dTX4_fewestSteps_0_ok 57 (105, .lload 5, 2) rfl
theorem dX4_fewestSteps_107 : decode cX4_fewestSteps 107 = .ok (.land, 1) := dTX4_fewestSteps_0_ok 58 (107, .land, 1) rfl
theorem dX4_fewestSteps_108 : decode cX4_fewestSteps 108 = .ok (.lor, 1) := dTX4_fewestSteps_0_ok 59 (108, .lor, 1) rfl
noncomputable def dTX4_fewestSteps_1 : List (Nat × Instr × Nat) := [(109, .lstore 10, 2), (111, .lload 10, 2), (113, .aload_n 1, 1), (114, .aload_n 0, 1), (115, .getfield 32, 3), (118, .iconst 1, 1), (119, .invokevirtual 38, 3), (122, .lload 5, 2), (124, .land, 1), (125, .lor, 1), (126, .lstore 10, 2), (128, .lload 8, 2), (130, .lload 10, 2), (132, .lor, 1), (133, .aload_n 0, 1), (134, .getfield 15, 3), (137, .land, 1), (138, .lconst 0, 1), (139, .lcmp, 1), (140, .ifCond .eq 6, 3), (143, .iload 7, 2), (145, .ireturn, 1), (146, .lload 8, 2), (148, .aload_n 0, 1), (149, .getfield 32, 3), (152, .lcmp, 1), (153, .ifCond .ne 15, 3), (156, .lload 10, 2), (158, .aload_n 0, 1), (159, .getfield 35, 3), (162, .lcmp, 1), (163, .ifCond .ne 5, 3), (166, .iconst (-1), 1), (167, .ireturn, 1), (168, .aload_n 0, 1), (169, .lload 8, 2), (171, .putfield 32, 3), (174, .aload_n 0, 1), (175, .lload 10, 2), (177, .putfield 35, 3), (180, .iinc 7 1, 3), (183, .goto (-128), 3), (186, .iconst (-1), 1), (187, .ireturn, 1)]
theorem dTX4_fewestSteps_1_ok : ∀ (k : Nat) (q : Nat × Instr × Nat), dTX4_fewestSteps_1[k]? = some q → decode cX4_fewestSteps q.1 = .ok q.2 := dT_of (by decide +kernel)
theorem dX4_fewestSteps_109 : decode cX4_fewestSteps 109 = .ok (.lstore 10, 2) := dTX4_fewestSteps_1_ok 0 (109, .lstore 10, 2) rfl
theorem dX4_fewestSteps_111 : decode cX4_fewestSteps 111 = .ok (.lload 10, 2) := dTX4_fewestSteps_1_ok 1 (111, .lload 10, 2) rfl
theorem dX4_fewestSteps_113 : decode cX4_fewestSteps 113 = .ok (.aload_n 1, 1) := dTX4_fewestSteps_1_ok 2 (113, .aload_n 1, 1) rfl
theorem dX4_fewestSteps_114 : decode cX4_fewestSteps 114 = .ok (.aload_n 0, 1) := dTX4_fewestSteps_1_ok 3 (114, .aload_n 0, 1) rfl
theorem dX4_fewestSteps_115 : decode cX4_fewestSteps 115 = .ok (.getfield 32, 3) := dTX4_fewestSteps_1_ok 4 (115, .getfield 32, 3) rfl
theorem dX4_fewestSteps_118 : decode cX4_fewestSteps 118 = .ok (.iconst 1, 1) := dTX4_fewestSteps_1_ok 5 (118, .iconst 1, 1) rfl
theorem dX4_fewestSteps_119 : decode cX4_fewestSteps 119 = .ok (.invokevirtual 38, 3) := dTX4_fewestSteps_1_ok 6 (119, .invokevirtual 38, 3) rfl
theorem dX4_fewestSteps_122 : decode cX4_fewestSteps 122 = .ok (.lload 5, 2) := dTX4_fewestSteps_1_ok 7 (122, .lload 5, 2) rfl
theorem dX4_fewestSteps_124 : decode cX4_fewestSteps 124 = .ok (.land, 1) := dTX4_fewestSteps_1_ok 8 (124, .land, 1) rfl
theorem dX4_fewestSteps_125 : decode cX4_fewestSteps 125 = .ok (.lor, 1) := dTX4_fewestSteps_1_ok 9 (125, .lor, 1) rfl
theorem dX4_fewestSteps_126 : decode cX4_fewestSteps 126 = .ok (.lstore 10, 2) := dTX4_fewestSteps_1_ok 10 (126, .lstore 10, 2) rfl
theorem dX4_fewestSteps_128 : decode cX4_fewestSteps 128 = .ok (.lload 8, 2) := dTX4_fewestSteps_1_ok 11 (128, .lload 8, 2) rfl
theorem dX4_fewestSteps_130 : decode cX4_fewestSteps 130 = .ok (.lload 10, 2) := dTX4_fewestSteps_1_ok 12 (130, .lload 10, 2) rfl
theorem dX4_fewestSteps_132 : decode cX4_fewestSteps 132 = .ok (.lor, 1) := dTX4_fewestSteps_1_ok 13 (132, .lor, 1) rfl
theorem dX4_fewestSteps_133 : decode cX4_fewestSteps 133 = .ok (.aload_n 0, 1) := dTX4_fewestSteps_1_ok 14 (133, .aload_n 0, 1) rfl
theorem dX4_fewestSteps_134 : decode cX4_fewestSteps 134 = .ok (.getfield 15, 3) := dTX4_fewestSteps_1_ok 15 (134, .getfield 15, 3) rfl
theorem dX4_fewestSteps_137 : decode cX4_fewestSteps 137 = .ok (.land, 1) := dTX4_fewestSteps_1_ok 16 (137, .land, 1) rfl
theorem dX4_fewestSteps_138 : decode cX4_fewestSteps 138 = .ok (.lconst 0, 1) := dTX4_fewestSteps_1_ok 17 (138, .lconst 0, 1) rfl
theorem dX4_fewestSteps_139 : decode cX4_fewestSteps 139 = .ok (.lcmp, 1) := dTX4_fewestSteps_1_ok 18 (139, .lcmp, 1) rfl
theorem dX4_fewestSteps_140 : decode cX4_fewestSteps 140 = .ok (.ifCond .eq 6, 3) := dTX4_fewestSteps_1_ok 19 (140, .ifCond .eq 6, 3) rfl
theorem dX4_fewestSteps_143 : decode cX4_fewestSteps 143 = .ok (.iload 7, 2) := dTX4_fewestSteps_1_ok 20 (143, .iload 7, 2) rfl
theorem dX4_fewestSteps_145 : decode cX4_fewestSteps 145 = .ok (.ireturn, 1) := dTX4_fewestSteps_1_ok 21 (145, .ireturn, 1) rfl
theorem dX4_fewestSteps_146 : decode cX4_fewestSteps 146 = .ok (.lload 8, 2) := dTX4_fewestSteps_1_ok 22 (146, .lload 8, 2) rfl
theorem dX4_fewestSteps_148 : decode cX4_fewestSteps 148 = .ok (.aload_n 0, 1) := dTX4_fewestSteps_1_ok 23 (148, .aload_n 0, 1) rfl
theorem dX4_fewestSteps_149 : decode cX4_fewestSteps 149 = .ok (.getfield 32, 3) := dTX4_fewestSteps_1_ok 24 (149, .getfield 32, 3) rfl
theorem dX4_fewestSteps_152 : decode cX4_fewestSteps 152 = .ok (.lcmp, 1) := dTX4_fewestSteps_1_ok 25 (152, .lcmp, 1) rfl
theorem dX4_fewestSteps_153 : decode cX4_fewestSteps 153 = .ok (.ifCond .ne 15, 3) := dTX4_fewestSteps_1_ok 26 (153, .ifCond .ne 15, 3) rfl
theorem dX4_fewestSteps_156 : decode cX4_fewestSteps 156 = .ok (.lload 10, 2) := dTX4_fewestSteps_1_ok 27 (156, .lload 10, 2) rfl
theorem dX4_fewestSteps_158 : decode cX4_fewestSteps 158 = .ok (.aload_n 0, 1) := dTX4_fewestSteps_1_ok 28 (158, .aload_n 0, 1) rfl
theorem dX4_fewestSteps_159 : decode cX4_fewestSteps 159 = .ok (.getfield 35, 3) := dTX4_fewestSteps_1_ok 29 (159, .getfield 35, 3) rfl
theorem dX4_fewestSteps_162 : decode cX4_fewestSteps 162 = .ok (.lcmp, 1) := dTX4_fewestSteps_1_ok 30 (162, .lcmp, 1) rfl
theorem dX4_fewestSteps_163 : decode cX4_fewestSteps 163 = .ok (.ifCond .ne 5, 3) := dTX4_fewestSteps_1_ok 31 (163, .ifCond .ne 5, 3) rfl
theorem dX4_fewestSteps_166 : decode cX4_fewestSteps 166 = .ok (.iconst (-1), 1) := dTX4_fewestSteps_1_ok 32 (166, .iconst (-1), 1) rfl
theorem dX4_fewestSteps_167 : decode cX4_fewestSteps 167 = .ok (.ireturn, 1) := dTX4_fewestSteps_1_ok 33 (167, .ireturn, 1) rfl
theorem dX4_fewestSteps_168 : decode cX4_fewestSteps 168 = .ok (.aload_n 0, 1) := dTX4_fewestSteps_1_ok 34 (168, .aload_n 0, 1) rfl
theorem dX4_fewestSteps_169 : decode cX4_fewestSteps 169 = .ok (.lload 8, 2) := dTX4_fewestSteps_1_ok 35 (169, .lload 8, 2) rfl
theorem dX4_fewestSteps_171 : decode cX4_fewestSteps 171 = .ok (.putfield 32, 3) := dTX4_fewestSteps_1_ok 36 (171, .putfield 32, 3) rfl
theorem dX4_fewestSteps_174 : decode cX4_fewestSteps 174 = .ok (.aload_n 0, 1) := dTX4_fewestSteps_1_ok 37 (174, .aload_n 0, 1) rfl
theorem dX4_fewestSteps_175 : decode cX4_fewestSteps 175 = .ok (.lload 10, 2) := dTX4_fewestSteps_1_ok 38 (175, .lload 10, 2) rfl
theorem dX4_fewestSteps_177 : decode cX4_fewestSteps 177 = .ok (.putfield 35, 3) := dTX4_fewestSteps_1_ok 39 (177, .putfield 35, 3) rfl
theorem dX4_fewestSteps_180 : decode cX4_fewestSteps 180 = .ok (.iinc 7 1, 3) := dTX4_fewestSteps_1_ok 40 (180, .iinc 7 1, 3) rfl
theorem dX4_fewestSteps_183 : decode cX4_fewestSteps 183 = .ok (.goto (-128), 3) := dTX4_fewestSteps_1_ok 41 (183, .goto (-128), 3) rfl
theorem dX4_fewestSteps_186 : decode cX4_fewestSteps 186 = .ok (.iconst (-1), 1) := dTX4_fewestSteps_1_ok 42 (186, .iconst (-1), 1) rfl
theorem dX4_fewestSteps_187 : decode cX4_fewestSteps 187 = .ok (.ireturn, 1) := dTX4_fewestSteps_1_ok 43 (187, .ireturn, 1) rfl
noncomputable def dTX4_firstDirection_0 : List (Nat × Instr × Nat) := [(0, .iconst 0, 1), (1, .istore_n 2, 1), (2, .iload_n 2, 1), (3, .iconst 4, 1), (4, .if_icmp .ge 46, 3), (7, .aload_n 0, 1), (8, .getfield 15, 3), (11, .aload_n 1, 1), (12, .iload_n 2, 1), (13, .invokevirtual 42, 3), (16, .ldc2_w 30, 3), (19, .lxor, 1), (20, .land, 1), (21, .lstore_n 3, 1), (22, .lload_n 3, 1), (23, .iload_n 2, 1), (24, .invokestatic 45, 3), (27, .aload_n 0, 1), (28, .getfield 32, 3), (31, .aload_n 0, 1), (32, .getfield 35, 3), (35, .lor, 1), (36, .land, 1), (37, .lconst 0, 1), (38, .lcmp, 1), (39, .ifCond .eq 5, 3), (42, .iload_n 2, 1), (43, .ireturn, 1), (44, .iinc 2 1, 3), (47, .goto (-45), 3), (50, .iconst 0, 1), (51, .istore_n 2, 1), (52, .iload_n 2, 1), (53, .iconst 4, 1), (54, .if_icmp .ge 44, 3), (57, .aload_n 0, 1), (58, .getfield 15, 3), (61, .aload_n 1, 1), (62, .iload_n 2, 1), (63, .invokevirtual 42, 3), (66, .land, 1), (67, .lstore_n 3, 1), (68, .aload_n 0, 1), (69, .getfield 21, 3), (72, .ifCond .eq 20, 3), (75, .lload_n 3, 1), (76, .iload_n 2, 1), (77, .invokestatic 45, 3), (80, .aload_n 0, 1), (81, .getfield 32, 3), (84, .land, 1), (85, .lconst 0, 1), (86, .lcmp, 1), (87, .ifCond .eq 5, 3), (90, .iload_n 2, 1), (91, .ireturn, 1), (92, .iinc 2 1, 3), (95, .goto (-43), 3), (98, .iconst (-1), 1), (99, .ireturn, 1)]
theorem dTX4_firstDirection_0_ok : ∀ (k : Nat) (q : Nat × Instr × Nat), dTX4_firstDirection_0[k]? = some q → decode cX4_firstDirection q.1 = .ok q.2 := dT_of (by decide +kernel)
theorem dX4_firstDirection_0 : decode cX4_firstDirection 0 = .ok (.iconst 0, 1) := dTX4_firstDirection_0_ok 0 (0, .iconst 0, 1) rfl
theorem dX4_firstDirection_1 : decode cX4_firstDirection 1 = .ok (.istore_n 2, 1) := dTX4_firstDirection_0_ok 1 (1, .istore_n 2, 1) rfl
theorem dX4_firstDirection_2 : decode cX4_firstDirection 2 = .ok (.iload_n 2, 1) := dTX4_firstDirection_0_ok 2 (2, .iload_n 2, 1) rfl
theorem dX4_firstDirection_3 : decode cX4_firstDirection 3 = .ok (.iconst 4, 1) := dTX4_firstDirection_0_ok 3 (3, .iconst 4, 1) rfl
theorem dX4_firstDirection_4 : decode cX4_firstDirection 4 = .ok (.if_icmp .ge 46, 3) := dTX4_firstDirection_0_ok 4 (4, .if_icmp .ge 46, 3) rfl
theorem dX4_firstDirection_7 : decode cX4_firstDirection 7 = .ok (.aload_n 0, 1) := dTX4_firstDirection_0_ok 5 (7, .aload_n 0, 1) rfl
theorem dX4_firstDirection_8 : decode cX4_firstDirection 8 = .ok (.getfield 15, 3) := dTX4_firstDirection_0_ok 6 (8, .getfield 15, 3) rfl
theorem dX4_firstDirection_11 : decode cX4_firstDirection 11 = .ok (.aload_n 1, 1) := dTX4_firstDirection_0_ok 7 (11, .aload_n 1, 1) rfl
theorem dX4_firstDirection_12 : decode cX4_firstDirection 12 = .ok (.iload_n 2, 1) := dTX4_firstDirection_0_ok 8 (12, .iload_n 2, 1) rfl
theorem dX4_firstDirection_13 : decode cX4_firstDirection 13 = .ok (.invokevirtual 42, 3) := dTX4_firstDirection_0_ok 9 (13, .invokevirtual 42, 3) rfl
theorem dX4_firstDirection_16 : decode cX4_firstDirection 16 = .ok (.ldc2_w 30, 3) := dTX4_firstDirection_0_ok 10 (16, .ldc2_w 30, 3) rfl
theorem dX4_firstDirection_19 : decode cX4_firstDirection 19 = .ok (.lxor, 1) := dTX4_firstDirection_0_ok 11 (19, .lxor, 1) rfl
theorem dX4_firstDirection_20 : decode cX4_firstDirection 20 = .ok (.land, 1) := dTX4_firstDirection_0_ok 12 (20, .land, 1) rfl
theorem dX4_firstDirection_21 : decode cX4_firstDirection 21 = .ok (.lstore_n 3, 1) := dTX4_firstDirection_0_ok 13 (21, .lstore_n 3, 1) rfl
theorem dX4_firstDirection_22 : decode cX4_firstDirection 22 = .ok (.lload_n 3, 1) := dTX4_firstDirection_0_ok 14 (22, .lload_n 3, 1) rfl
theorem dX4_firstDirection_23 : decode cX4_firstDirection 23 = .ok (.iload_n 2, 1) := dTX4_firstDirection_0_ok 15 (23, .iload_n 2, 1) rfl
theorem dX4_firstDirection_24 : decode cX4_firstDirection 24 = .ok (.invokestatic 45, 3) := dTX4_firstDirection_0_ok 16 (24, .invokestatic 45, 3) rfl
theorem dX4_firstDirection_27 : decode cX4_firstDirection 27 = .ok (.aload_n 0, 1) := dTX4_firstDirection_0_ok 17 (27, .aload_n 0, 1) rfl
theorem dX4_firstDirection_28 : decode cX4_firstDirection 28 = .ok (.getfield 32, 3) := dTX4_firstDirection_0_ok 18 (28, .getfield 32, 3) rfl
theorem dX4_firstDirection_31 : decode cX4_firstDirection 31 = .ok (.aload_n 0, 1) := dTX4_firstDirection_0_ok 19 (31, .aload_n 0, 1) rfl
theorem dX4_firstDirection_32 : decode cX4_firstDirection 32 = .ok (.getfield 35, 3) := dTX4_firstDirection_0_ok 20 (32, .getfield 35, 3) rfl
theorem dX4_firstDirection_35 : decode cX4_firstDirection 35 = .ok (.lor, 1) := dTX4_firstDirection_0_ok 21 (35, .lor, 1) rfl
theorem dX4_firstDirection_36 : decode cX4_firstDirection 36 = .ok (.land, 1) := dTX4_firstDirection_0_ok 22 (36, .land, 1) rfl
theorem dX4_firstDirection_37 : decode cX4_firstDirection 37 = .ok (.lconst 0, 1) := dTX4_firstDirection_0_ok 23 (37, .lconst 0, 1) rfl
theorem dX4_firstDirection_38 : decode cX4_firstDirection 38 = .ok (.lcmp, 1) := dTX4_firstDirection_0_ok 24 (38, .lcmp, 1) rfl
theorem dX4_firstDirection_39 : decode cX4_firstDirection 39 = .ok (.ifCond .eq 5, 3) := dTX4_firstDirection_0_ok 25 (39, .ifCond .eq 5, 3) rfl
theorem dX4_firstDirection_42 : decode cX4_firstDirection 42 = .ok (.iload_n 2, 1) := dTX4_firstDirection_0_ok 26 (42, .iload_n 2, 1) rfl
theorem dX4_firstDirection_43 : decode cX4_firstDirection 43 = .ok (.ireturn, 1) := dTX4_firstDirection_0_ok 27 (43, .ireturn, 1) rfl
theorem dX4_firstDirection_44 : decode cX4_firstDirection 44 = .ok (.iinc 2 1, 3) := dTX4_firstDirection_0_ok 28 (44, .iinc 2 1, 3) rfl
theorem dX4_firstDirection_47 : decode cX4_firstDirection 47 = .ok (.goto (-45), 3) := dTX4_firstDirection_0_ok 29 (47, .goto (-45), 3) rfl
theorem dX4_firstDirection_50 : decode cX4_firstDirection 50 = .ok (.iconst 0, 1) := dTX4_firstDirection_0_ok 30 (50, .iconst 0, 1) rfl
theorem dX4_firstDirection_51 : decode cX4_firstDirection 51 = .ok (.istore_n 2, 1) := dTX4_firstDirection_0_ok 31 (51, .istore_n 2, 1) rfl
theorem dX4_firstDirection_52 : decode cX4_firstDirection 52 = .ok (.iload_n 2, 1) := dTX4_firstDirection_0_ok 32 (52, .iload_n 2, 1) rfl
theorem dX4_firstDirection_53 : decode cX4_firstDirection 53 = .ok (.iconst 4, 1) := dTX4_firstDirection_0_ok 33 (53, .iconst 4, 1) rfl
theorem dX4_firstDirection_54 : decode cX4_firstDirection 54 = .ok (.if_icmp .ge 44, 3) := dTX4_firstDirection_0_ok 34 (54, .if_icmp .ge 44, 3) rfl
theorem dX4_firstDirection_57 : decode cX4_firstDirection 57 = .ok (.aload_n 0, 1) := dTX4_firstDirection_0_ok 35 (57, .aload_n 0, 1) rfl
theorem dX4_firstDirection_58 : decode cX4_firstDirection 58 = .ok (.getfield 15, 3) := dTX4_firstDirection_0_ok 36 (58, .getfield 15, 3) rfl
theorem dX4_firstDirection_61 : decode cX4_firstDirection 61 = .ok (.aload_n 1, 1) := dTX4_firstDirection_0_ok 37 (61, .aload_n 1, 1) rfl
theorem dX4_firstDirection_62 : decode cX4_firstDirection 62 = .ok (.iload_n 2, 1) := dTX4_firstDirection_0_ok 38 (62, .iload_n 2, 1) rfl
theorem dX4_firstDirection_63 : decode cX4_firstDirection 63 = .ok (.invokevirtual 42, 3) := dTX4_firstDirection_0_ok 39 (63, .invokevirtual 42, 3) rfl
theorem dX4_firstDirection_66 : decode cX4_firstDirection 66 = .ok (.land, 1) := dTX4_firstDirection_0_ok 40 (66, .land, 1) rfl
theorem dX4_firstDirection_67 : decode cX4_firstDirection 67 = .ok (.lstore_n 3, 1) := dTX4_firstDirection_0_ok 41 (67, .lstore_n 3, 1) rfl
theorem dX4_firstDirection_68 : decode cX4_firstDirection 68 = .ok (.aload_n 0, 1) := dTX4_firstDirection_0_ok 42 (68, .aload_n 0, 1) rfl
theorem dX4_firstDirection_69 : decode cX4_firstDirection 69 = .ok (.getfield 21, 3) := dTX4_firstDirection_0_ok 43 (69, .getfield 21, 3) rfl
theorem dX4_firstDirection_72 : decode cX4_firstDirection 72 = .ok (.ifCond .eq 20, 3) := dTX4_firstDirection_0_ok 44 (72, .ifCond .eq 20, 3) rfl
theorem dX4_firstDirection_75 : decode cX4_firstDirection 75 = .ok (.lload_n 3, 1) := dTX4_firstDirection_0_ok 45 (75, .lload_n 3, 1) rfl
theorem dX4_firstDirection_76 : decode cX4_firstDirection 76 = .ok (.iload_n 2, 1) := dTX4_firstDirection_0_ok 46 (76, .iload_n 2, 1) rfl
theorem dX4_firstDirection_77 : decode cX4_firstDirection 77 = .ok (.invokestatic 45, 3) := dTX4_firstDirection_0_ok 47 (77, .invokestatic 45, 3) rfl
theorem dX4_firstDirection_80 : decode cX4_firstDirection 80 = .ok (.aload_n 0, 1) := dTX4_firstDirection_0_ok 48 (80, .aload_n 0, 1) rfl
theorem dX4_firstDirection_81 : decode cX4_firstDirection 81 = .ok (.getfield 32, 3) := dTX4_firstDirection_0_ok 49 (81, .getfield 32, 3) rfl
theorem dX4_firstDirection_84 : decode cX4_firstDirection 84 = .ok (.land, 1) := dTX4_firstDirection_0_ok 50 (84, .land, 1) rfl
theorem dX4_firstDirection_85 : decode cX4_firstDirection 85 = .ok (.lconst 0, 1) := dTX4_firstDirection_0_ok 51 (85, .lconst 0, 1) rfl
theorem dX4_firstDirection_86 : decode cX4_firstDirection 86 = .ok (.lcmp, 1) := dTX4_firstDirection_0_ok 52 (86, .lcmp, 1) rfl
theorem dX4_firstDirection_87 : decode cX4_firstDirection 87 = .ok (.ifCond .eq 5, 3) := dTX4_firstDirection_0_ok 53 (87, .ifCond .eq 5, 3) rfl
theorem dX4_firstDirection_90 : decode cX4_firstDirection 90 = .ok (.iload_n 2, 1) := dTX4_firstDirection_0_ok 54 (90, .iload_n 2, 1) rfl
theorem dX4_firstDirection_91 : decode cX4_firstDirection 91 = .ok (.ireturn, 1) := dTX4_firstDirection_0_ok 55 (91, .ireturn, 1) rfl
theorem dX4_firstDirection_92 : decode cX4_firstDirection 92 = .ok (.iinc 2 1, 3) := dTX4_firstDirection_0_ok 56 (92, .iinc 2 1, 3) rfl
theorem dX4_firstDirection_95 : decode cX4_firstDirection 95 = .ok (.goto (-43), 3) := dTX4_firstDirection_0_ok 57 (95, .goto (-43), 3) rfl
theorem dX4_firstDirection_98 : decode cX4_firstDirection 98 = .ok (.iconst (-1), 1) := dTX4_firstDirection_0_ok 58 (98, .iconst (-1), 1) rfl
theorem dX4_firstDirection_99 : decode cX4_firstDirection 99 = .ok (.ireturn, 1) := dTX4_firstDirection_0_ok 59 (99, .ireturn, 1) rfl
noncomputable def dTX5_init_0 : List (Nat × Instr × Nat) := [(0, .aload_n 0, 1), (1, .invokespecial 1, 3), (4, .aload_n 0, 1), (5, .new 7, 3), (8, .dup, 1), (9, .invokespecial 9, 3), (12, .putfield 10, 3), (15, .aload_n 0, 1), (16, .new 7, 3), (19, .dup, 1), (20, .invokespecial 9, 3), (23, .putfield 16, 3), (26, .return_, 1)]
theorem dTX5_init_0_ok : ∀ (k : Nat) (q : Nat × Instr × Nat), dTX5_init_0[k]? = some q → decode cX5_init q.1 = .ok q.2 := dT_of (by decide +kernel)
theorem dX5_init_0 : decode cX5_init 0 = .ok (.aload_n 0, 1) := dTX5_init_0_ok 0 (0, .aload_n 0, 1) rfl
theorem dX5_init_1 : decode cX5_init 1 = .ok (.invokespecial 1, 3) := dTX5_init_0_ok 1 (1, .invokespecial 1, 3) rfl
theorem dX5_init_4 : decode cX5_init 4 = .ok (.aload_n 0, 1) := dTX5_init_0_ok 2 (4, .aload_n 0, 1) rfl
theorem dX5_init_5 : decode cX5_init 5 = .ok (.new 7, 3) := dTX5_init_0_ok 3 (5, .new 7, 3) rfl
theorem dX5_init_8 : decode cX5_init 8 = .ok (.dup, 1) := dTX5_init_0_ok 4 (8, .dup, 1) rfl
theorem dX5_init_9 : decode cX5_init 9 = .ok (.invokespecial 9, 3) := dTX5_init_0_ok 5 (9, .invokespecial 9, 3) rfl
theorem dX5_init_12 : decode cX5_init 12 = .ok (.putfield 10, 3) := dTX5_init_0_ok 6 (12, .putfield 10, 3) rfl
theorem dX5_init_15 : decode cX5_init 15 = .ok (.aload_n 0, 1) := dTX5_init_0_ok 7 (15, .aload_n 0, 1) rfl
theorem dX5_init_16 : decode cX5_init 16 = .ok (.new 7, 3) := dTX5_init_0_ok 8 (16, .new 7, 3) rfl
theorem dX5_init_19 : decode cX5_init 19 = .ok (.dup, 1) := dTX5_init_0_ok 9 (19, .dup, 1) rfl
theorem dX5_init_20 : decode cX5_init 20 = .ok (.invokespecial 9, 3) := dTX5_init_0_ok 10 (20, .invokespecial 9, 3) rfl
theorem dX5_init_23 : decode cX5_init 23 = .ok (.putfield 16, 3) := dTX5_init_0_ok 11 (23, .putfield 16, 3) rfl
theorem dX5_init_26 : decode cX5_init 26 = .ok (.return_, 1) := dTX5_init_0_ok 12 (26, .return_, 1) rfl
noncomputable def dTX5_wall_0 : List (Nat × Instr × Nat) := [(0, .iload_n 1, 1), (1, .iload_n 2, 1), (2, .invokestatic 19, 3), (5, .istore 4, 2), (7, .iload_n 3, 1), (8, .invokestatic 23, 3), (11, .iload 4, 2), (13, .iload_n 3, 1), (14, .invokestatic 27, 3), (17, .ifCond .eq 13, 3), (20, .new 33, 3), (23, .dup, 1), (24, .ldc 35, 2), (26, .invokespecial 37, 3), (29, .athrow, 1), (30, .aload_n 0, 1), (31, .getfield 10, 3), (34, .getfield 40, 3), (37, .iload 4, 2), (39, .iload_n 3, 1), (40, .invokevirtual 44, 3), (43, .aload_n 0, 1), (44, .getfield 10, 3), (47, .getfield 40, 3), (50, .iload 4, 2), (52, .iload_n 3, 1), (53, .invokevirtual 50, 3), (56, .ireturn, 1)]
theorem dTX5_wall_0_ok : ∀ (k : Nat) (q : Nat × Instr × Nat), dTX5_wall_0[k]? = some q → decode cX5_wall q.1 = .ok q.2 := dT_of (by decide +kernel)
theorem dX5_wall_0 : decode cX5_wall 0 = .ok (.iload_n 1, 1) := dTX5_wall_0_ok 0 (0, .iload_n 1, 1) rfl
theorem dX5_wall_1 : decode cX5_wall 1 = .ok (.iload_n 2, 1) := dTX5_wall_0_ok 1 (1, .iload_n 2, 1) rfl
theorem dX5_wall_2 : decode cX5_wall 2 = .ok (.invokestatic 19, 3) := dTX5_wall_0_ok 2 (2, .invokestatic 19, 3) rfl
theorem dX5_wall_5 : decode cX5_wall 5 = .ok (.istore 4, 2) := dTX5_wall_0_ok 3 (5, .istore 4, 2) rfl
theorem dX5_wall_7 : decode cX5_wall 7 = .ok (.iload_n 3, 1) := dTX5_wall_0_ok 4 (7, .iload_n 3, 1) rfl
theorem dX5_wall_8 : decode cX5_wall 8 = .ok (.invokestatic 23, 3) := dTX5_wall_0_ok 5 (8, .invokestatic 23, 3) rfl
theorem dX5_wall_11 : decode cX5_wall 11 = .ok (.iload 4, 2) := dTX5_wall_0_ok 6 (11, .iload 4, 2) rfl
theorem dX5_wall_13 : decode cX5_wall 13 = .ok (.iload_n 3, 1) := dTX5_wall_0_ok 7 (13, .iload_n 3, 1) rfl
theorem dX5_wall_14 : decode cX5_wall 14 = .ok (.invokestatic 27, 3) := dTX5_wall_0_ok 8 (14, .invokestatic 27, 3) rfl
theorem dX5_wall_17 : decode cX5_wall 17 = .ok (.ifCond .eq 13, 3) := dTX5_wall_0_ok 9 (17, .ifCond .eq 13, 3) rfl
theorem dX5_wall_20 : decode cX5_wall 20 = .ok (.new 33, 3) := dTX5_wall_0_ok 10 (20, .new 33, 3) rfl
theorem dX5_wall_23 : decode cX5_wall 23 = .ok (.dup, 1) := dTX5_wall_0_ok 11 (23, .dup, 1) rfl
theorem dX5_wall_24 : decode cX5_wall 24 = .ok (.ldc 35, 2) := dTX5_wall_0_ok 12 (24, .ldc 35, 2) rfl
theorem dX5_wall_26 : decode cX5_wall 26 = .ok (.invokespecial 37, 3) := dTX5_wall_0_ok 13 (26, .invokespecial 37, 3) rfl
theorem dX5_wall_29 : decode cX5_wall 29 = .ok (.athrow, 1) := dTX5_wall_0_ok 14 (29, .athrow, 1) rfl
theorem dX5_wall_30 : decode cX5_wall 30 = .ok (.aload_n 0, 1) := dTX5_wall_0_ok 15 (30, .aload_n 0, 1) rfl
theorem dX5_wall_31 : decode cX5_wall 31 = .ok (.getfield 10, 3) := dTX5_wall_0_ok 16 (31, .getfield 10, 3) rfl
theorem dX5_wall_34 : decode cX5_wall 34 = .ok (.getfield 40, 3) := dTX5_wall_0_ok 17 (34, .getfield 40, 3) rfl
theorem dX5_wall_37 : decode cX5_wall 37 = .ok (.iload 4, 2) := dTX5_wall_0_ok 18 (37, .iload 4, 2) rfl
theorem dX5_wall_39 : decode cX5_wall 39 = .ok (.iload_n 3, 1) := dTX5_wall_0_ok 19 (39, .iload_n 3, 1) rfl
theorem dX5_wall_40 : decode cX5_wall 40 = .ok (.invokevirtual 44, 3) := dTX5_wall_0_ok 20 (40, .invokevirtual 44, 3) rfl
theorem dX5_wall_43 : decode cX5_wall 43 = .ok (.aload_n 0, 1) := dTX5_wall_0_ok 21 (43, .aload_n 0, 1) rfl
theorem dX5_wall_44 : decode cX5_wall 44 = .ok (.getfield 10, 3) := dTX5_wall_0_ok 22 (44, .getfield 10, 3) rfl
theorem dX5_wall_47 : decode cX5_wall 47 = .ok (.getfield 40, 3) := dTX5_wall_0_ok 23 (47, .getfield 40, 3) rfl
theorem dX5_wall_50 : decode cX5_wall 50 = .ok (.iload 4, 2) := dTX5_wall_0_ok 24 (50, .iload 4, 2) rfl
theorem dX5_wall_52 : decode cX5_wall 52 = .ok (.iload_n 3, 1) := dTX5_wall_0_ok 25 (52, .iload_n 3, 1) rfl
theorem dX5_wall_53 : decode cX5_wall 53 = .ok (.invokevirtual 50, 3) := dTX5_wall_0_ok 26 (53, .invokevirtual 50, 3) rfl
theorem dX5_wall_56 : decode cX5_wall 56 = .ok (.ireturn, 1) := dTX5_wall_0_ok 27 (56, .ireturn, 1) rfl
noncomputable def dTX5_candle_0 : List (Nat × Instr × Nat) := [(0, .iload_n 1, 1), (1, .iload_n 2, 1), (2, .invokestatic 19, 3), (5, .istore 4, 2), (7, .iload_n 3, 1), (8, .iconst 1, 1), (9, .if_icmp .lt 9, 3), (12, .iload_n 3, 1), (13, .bipush 60, 2), (15, .if_icmp .le 13, 3), (18, .new 53, 3), (21, .dup, 1), (22, .ldc 55, 2), (24, .invokespecial 57, 3), (27, .athrow, 1), (28, .aload_n 0, 1), (29, .aload_n 0, 1), (30, .getfield 10, 3), (33, .getfield 40, 3), (36, .invokevirtual 58, 3), (39, .bipush 10, 2), (41, .iload 4, 2), (43, .invokevirtual 62, 3), (46, .aload_n 0, 1), (47, .getfield 10, 3), (50, .getfield 40, 3), (53, .iload 4, 2), (55, .iload_n 3, 1), (56, .invokevirtual 66, 3), (59, .aload_n 0, 1), (60, .getfield 10, 3), (63, .getfield 40, 3), (66, .invokevirtual 58, 3), (69, .ireturn, 1)]
theorem dTX5_candle_0_ok : ∀ (k : Nat) (q : Nat × Instr × Nat), dTX5_candle_0[k]? = some q → decode cX5_candle q.1 = .ok q.2 := dT_of (by decide +kernel)
theorem dX5_candle_0 : decode cX5_candle 0 = .ok (.iload_n 1, 1) := dTX5_candle_0_ok 0 (0, .iload_n 1, 1) rfl
theorem dX5_candle_1 : decode cX5_candle 1 = .ok (.iload_n 2, 1) := dTX5_candle_0_ok 1 (1, .iload_n 2, 1) rfl
theorem dX5_candle_2 : decode cX5_candle 2 = .ok (.invokestatic 19, 3) := dTX5_candle_0_ok 2 (2, .invokestatic 19, 3) rfl
theorem dX5_candle_5 : decode cX5_candle 5 = .ok (.istore 4, 2) := dTX5_candle_0_ok 3 (5, .istore 4, 2) rfl
theorem dX5_candle_7 : decode cX5_candle 7 = .ok (.iload_n 3, 1) := dTX5_candle_0_ok 4 (7, .iload_n 3, 1) rfl
theorem dX5_candle_8 : decode cX5_candle 8 = .ok (.iconst 1, 1) := dTX5_candle_0_ok 5 (8, .iconst 1, 1) rfl
theorem dX5_candle_9 : decode cX5_candle 9 = .ok (.if_icmp .lt 9, 3) := dTX5_candle_0_ok 6 (9, .if_icmp .lt 9, 3) rfl
theorem dX5_candle_12 : decode cX5_candle 12 = .ok (.iload_n 3, 1) := dTX5_candle_0_ok 7 (12, .iload_n 3, 1) rfl
theorem dX5_candle_13 : decode cX5_candle 13 = .ok (.bipush 60, 2) := dTX5_candle_0_ok 8 (13, .bipush 60, 2) rfl
theorem dX5_candle_15 : decode cX5_candle 15 = .ok (.if_icmp .le 13, 3) := dTX5_candle_0_ok 9 (15, .if_icmp .le 13, 3) rfl
theorem dX5_candle_18 : decode cX5_candle 18 = .ok (.new 53, 3) := dTX5_candle_0_ok 10 (18, .new 53, 3) rfl
theorem dX5_candle_21 : decode cX5_candle 21 = .ok (.dup, 1) := dTX5_candle_0_ok 11 (21, .dup, 1) rfl
theorem dX5_candle_22 : decode cX5_candle 22 = .ok (.ldc 55, 2) := dTX5_candle_0_ok 12 (22, .ldc 55, 2) rfl
theorem dX5_candle_24 : decode cX5_candle 24 = .ok (.invokespecial 57, 3) := dTX5_candle_0_ok 13 (24, .invokespecial 57, 3) rfl
theorem dX5_candle_27 : decode cX5_candle 27 = .ok (.athrow, 1) := dTX5_candle_0_ok 14 (27, .athrow, 1) rfl
theorem dX5_candle_28 : decode cX5_candle 28 = .ok (.aload_n 0, 1) := dTX5_candle_0_ok 15 (28, .aload_n 0, 1) rfl
theorem dX5_candle_29 : decode cX5_candle 29 = .ok (.aload_n 0, 1) := dTX5_candle_0_ok 16 (29, .aload_n 0, 1) rfl
theorem dX5_candle_30 : decode cX5_candle 30 = .ok (.getfield 10, 3) := dTX5_candle_0_ok 17 (30, .getfield 10, 3) rfl
theorem dX5_candle_33 : decode cX5_candle 33 = .ok (.getfield 40, 3) := dTX5_candle_0_ok 18 (33, .getfield 40, 3) rfl
theorem dX5_candle_36 : decode cX5_candle 36 = .ok (.invokevirtual 58, 3) := dTX5_candle_0_ok 19 (36, .invokevirtual 58, 3) rfl
theorem dX5_candle_39 : decode cX5_candle 39 = .ok (.bipush 10, 2) := dTX5_candle_0_ok 20 (39, .bipush 10, 2) rfl
theorem dX5_candle_41 : decode cX5_candle 41 = .ok (.iload 4, 2) := dTX5_candle_0_ok 21 (41, .iload 4, 2) rfl
theorem dX5_candle_43 : decode cX5_candle 43 = .ok (.invokevirtual 62, 3) := dTX5_candle_0_ok 22 (43, .invokevirtual 62, 3) rfl
theorem dX5_candle_46 : decode cX5_candle 46 = .ok (.aload_n 0, 1) := dTX5_candle_0_ok 23 (46, .aload_n 0, 1) rfl
theorem dX5_candle_47 : decode cX5_candle 47 = .ok (.getfield 10, 3) := dTX5_candle_0_ok 24 (47, .getfield 10, 3) rfl
theorem dX5_candle_50 : decode cX5_candle 50 = .ok (.getfield 40, 3) := dTX5_candle_0_ok 25 (50, .getfield 40, 3) rfl
theorem dX5_candle_53 : decode cX5_candle 53 = .ok (.iload 4, 2) := dTX5_candle_0_ok 26 (53, .iload 4, 2) rfl
theorem dX5_candle_55 : decode cX5_candle 55 = .ok (.iload_n 3, 1) := dTX5_candle_0_ok 27 (55, .iload_n 3, 1) rfl
theorem dX5_candle_56 : decode cX5_candle 56 = .ok (.invokevirtual 66, 3) := dTX5_candle_0_ok 28 (56, .invokevirtual 66, 3) rfl
theorem dX5_candle_59 : decode cX5_candle 59 = .ok (.aload_n 0, 1) := dTX5_candle_0_ok 29 (59, .aload_n 0, 1) rfl
theorem dX5_candle_60 : decode cX5_candle 60 = .ok (.getfield 10, 3) := dTX5_candle_0_ok 30 (60, .getfield 10, 3) rfl
theorem dX5_candle_63 : decode cX5_candle 63 = .ok (.getfield 40, 3) := dTX5_candle_0_ok 31 (63, .getfield 40, 3) rfl
theorem dX5_candle_66 : decode cX5_candle 66 = .ok (.invokevirtual 58, 3) := dTX5_candle_0_ok 32 (66, .invokevirtual 58, 3) rfl
theorem dX5_candle_69 : decode cX5_candle 69 = .ok (.ireturn, 1) := dTX5_candle_0_ok 33 (69, .ireturn, 1) rfl
noncomputable def dTX5_mirror_0 : List (Nat × Instr × Nat) := [(0, .iload_n 1, 1), (1, .iload_n 2, 1), (2, .invokestatic 19, 3), (5, .istore 4, 2), (7, .aload_n 0, 1), (8, .aload_n 0, 1), (9, .getfield 10, 3), (12, .getfield 40, 3), (15, .invokevirtual 69, 3), (18, .bipush 10, 2), (20, .iload 4, 2), (22, .invokevirtual 62, 3), (25, .aload_n 0, 1), (26, .getfield 10, 3), (29, .getfield 40, 3), (32, .iload 4, 2), (34, .iload_n 3, 1), (35, .invokevirtual 72, 3), (38, .aload_n 0, 1), (39, .getfield 10, 3), (42, .getfield 40, 3), (45, .invokevirtual 69, 3), (48, .ireturn, 1)]
theorem dTX5_mirror_0_ok : ∀ (k : Nat) (q : Nat × Instr × Nat), dTX5_mirror_0[k]? = some q → decode cX5_mirror q.1 = .ok q.2 := dT_of (by decide +kernel)
theorem dX5_mirror_0 : decode cX5_mirror 0 = .ok (.iload_n 1, 1) := dTX5_mirror_0_ok 0 (0, .iload_n 1, 1) rfl
theorem dX5_mirror_1 : decode cX5_mirror 1 = .ok (.iload_n 2, 1) := dTX5_mirror_0_ok 1 (1, .iload_n 2, 1) rfl
theorem dX5_mirror_2 : decode cX5_mirror 2 = .ok (.invokestatic 19, 3) := dTX5_mirror_0_ok 2 (2, .invokestatic 19, 3) rfl
theorem dX5_mirror_5 : decode cX5_mirror 5 = .ok (.istore 4, 2) := dTX5_mirror_0_ok 3 (5, .istore 4, 2) rfl
theorem dX5_mirror_7 : decode cX5_mirror 7 = .ok (.aload_n 0, 1) := dTX5_mirror_0_ok 4 (7, .aload_n 0, 1) rfl
theorem dX5_mirror_8 : decode cX5_mirror 8 = .ok (.aload_n 0, 1) := dTX5_mirror_0_ok 5 (8, .aload_n 0, 1) rfl
theorem dX5_mirror_9 : decode cX5_mirror 9 = .ok (.getfield 10, 3) := dTX5_mirror_0_ok 6 (9, .getfield 10, 3) rfl
theorem dX5_mirror_12 : decode cX5_mirror 12 = .ok (.getfield 40, 3) := dTX5_mirror_0_ok 7 (12, .getfield 40, 3) rfl
theorem dX5_mirror_15 : decode cX5_mirror 15 = .ok (.invokevirtual 69, 3) := dTX5_mirror_0_ok 8 (15, .invokevirtual 69, 3) rfl
theorem dX5_mirror_18 : decode cX5_mirror 18 = .ok (.bipush 10, 2) := dTX5_mirror_0_ok 9 (18, .bipush 10, 2) rfl
theorem dX5_mirror_20 : decode cX5_mirror 20 = .ok (.iload 4, 2) := dTX5_mirror_0_ok 10 (20, .iload 4, 2) rfl
theorem dX5_mirror_22 : decode cX5_mirror 22 = .ok (.invokevirtual 62, 3) := dTX5_mirror_0_ok 11 (22, .invokevirtual 62, 3) rfl
theorem dX5_mirror_25 : decode cX5_mirror 25 = .ok (.aload_n 0, 1) := dTX5_mirror_0_ok 12 (25, .aload_n 0, 1) rfl
theorem dX5_mirror_26 : decode cX5_mirror 26 = .ok (.getfield 10, 3) := dTX5_mirror_0_ok 13 (26, .getfield 10, 3) rfl
theorem dX5_mirror_29 : decode cX5_mirror 29 = .ok (.getfield 40, 3) := dTX5_mirror_0_ok 14 (29, .getfield 40, 3) rfl
theorem dX5_mirror_32 : decode cX5_mirror 32 = .ok (.iload 4, 2) := dTX5_mirror_0_ok 15 (32, .iload 4, 2) rfl
theorem dX5_mirror_34 : decode cX5_mirror 34 = .ok (.iload_n 3, 1) := dTX5_mirror_0_ok 16 (34, .iload_n 3, 1) rfl
theorem dX5_mirror_35 : decode cX5_mirror 35 = .ok (.invokevirtual 72, 3) := dTX5_mirror_0_ok 17 (35, .invokevirtual 72, 3) rfl
theorem dX5_mirror_38 : decode cX5_mirror 38 = .ok (.aload_n 0, 1) := dTX5_mirror_0_ok 18 (38, .aload_n 0, 1) rfl
theorem dX5_mirror_39 : decode cX5_mirror 39 = .ok (.getfield 10, 3) := dTX5_mirror_0_ok 19 (39, .getfield 10, 3) rfl
theorem dX5_mirror_42 : decode cX5_mirror 42 = .ok (.getfield 40, 3) := dTX5_mirror_0_ok 20 (42, .getfield 40, 3) rfl
theorem dX5_mirror_45 : decode cX5_mirror 45 = .ok (.invokevirtual 69, 3) := dTX5_mirror_0_ok 21 (45, .invokevirtual 69, 3) rfl
theorem dX5_mirror_48 : decode cX5_mirror 48 = .ok (.ireturn, 1) := dTX5_mirror_0_ok 22 (48, .ireturn, 1) rfl
noncomputable def dTX5_tally_0 : List (Nat × Instr × Nat) := [(0, .iload_n 1, 1), (1, .iload_n 2, 1), (2, .invokestatic 19, 3), (5, .istore_n 3, 1), (6, .aload_n 0, 1), (7, .aload_n 0, 1), (8, .getfield 10, 3), (11, .getfield 40, 3), (14, .invokevirtual 76, 3), (17, .bipush 6, 2), (19, .iload_n 3, 1), (20, .invokevirtual 62, 3), (23, .aload_n 0, 1), (24, .getfield 10, 3), (27, .getfield 40, 3), (30, .iload_n 3, 1), (31, .invokevirtual 79, 3), (34, .aload_n 0, 1), (35, .getfield 10, 3), (38, .getfield 40, 3), (41, .invokevirtual 76, 3), (44, .ireturn, 1)]
theorem dTX5_tally_0_ok : ∀ (k : Nat) (q : Nat × Instr × Nat), dTX5_tally_0[k]? = some q → decode cX5_tally q.1 = .ok q.2 := dT_of (by decide +kernel)
theorem dX5_tally_0 : decode cX5_tally 0 = .ok (.iload_n 1, 1) := dTX5_tally_0_ok 0 (0, .iload_n 1, 1) rfl
theorem dX5_tally_1 : decode cX5_tally 1 = .ok (.iload_n 2, 1) := dTX5_tally_0_ok 1 (1, .iload_n 2, 1) rfl
theorem dX5_tally_2 : decode cX5_tally 2 = .ok (.invokestatic 19, 3) := dTX5_tally_0_ok 2 (2, .invokestatic 19, 3) rfl
theorem dX5_tally_5 : decode cX5_tally 5 = .ok (.istore_n 3, 1) := dTX5_tally_0_ok 3 (5, .istore_n 3, 1) rfl
theorem dX5_tally_6 : decode cX5_tally 6 = .ok (.aload_n 0, 1) := dTX5_tally_0_ok 4 (6, .aload_n 0, 1) rfl
theorem dX5_tally_7 : decode cX5_tally 7 = .ok (.aload_n 0, 1) := dTX5_tally_0_ok 5 (7, .aload_n 0, 1) rfl
theorem dX5_tally_8 : decode cX5_tally 8 = .ok (.getfield 10, 3) := dTX5_tally_0_ok 6 (8, .getfield 10, 3) rfl
theorem dX5_tally_11 : decode cX5_tally 11 = .ok (.getfield 40, 3) := dTX5_tally_0_ok 7 (11, .getfield 40, 3) rfl
theorem dX5_tally_14 : decode cX5_tally 14 = .ok (.invokevirtual 76, 3) := dTX5_tally_0_ok 8 (14, .invokevirtual 76, 3) rfl
theorem dX5_tally_17 : decode cX5_tally 17 = .ok (.bipush 6, 2) := dTX5_tally_0_ok 9 (17, .bipush 6, 2) rfl
theorem dX5_tally_19 : decode cX5_tally 19 = .ok (.iload_n 3, 1) := dTX5_tally_0_ok 10 (19, .iload_n 3, 1) rfl
theorem dX5_tally_20 : decode cX5_tally 20 = .ok (.invokevirtual 62, 3) := dTX5_tally_0_ok 11 (20, .invokevirtual 62, 3) rfl
theorem dX5_tally_23 : decode cX5_tally 23 = .ok (.aload_n 0, 1) := dTX5_tally_0_ok 12 (23, .aload_n 0, 1) rfl
theorem dX5_tally_24 : decode cX5_tally 24 = .ok (.getfield 10, 3) := dTX5_tally_0_ok 13 (24, .getfield 10, 3) rfl
theorem dX5_tally_27 : decode cX5_tally 27 = .ok (.getfield 40, 3) := dTX5_tally_0_ok 14 (27, .getfield 40, 3) rfl
theorem dX5_tally_30 : decode cX5_tally 30 = .ok (.iload_n 3, 1) := dTX5_tally_0_ok 15 (30, .iload_n 3, 1) rfl
theorem dX5_tally_31 : decode cX5_tally 31 = .ok (.invokevirtual 79, 3) := dTX5_tally_0_ok 16 (31, .invokevirtual 79, 3) rfl
theorem dX5_tally_34 : decode cX5_tally 34 = .ok (.aload_n 0, 1) := dTX5_tally_0_ok 17 (34, .aload_n 0, 1) rfl
theorem dX5_tally_35 : decode cX5_tally 35 = .ok (.getfield 10, 3) := dTX5_tally_0_ok 18 (35, .getfield 10, 3) rfl
theorem dX5_tally_38 : decode cX5_tally 38 = .ok (.getfield 40, 3) := dTX5_tally_0_ok 19 (38, .getfield 40, 3) rfl
theorem dX5_tally_41 : decode cX5_tally 41 = .ok (.invokevirtual 76, 3) := dTX5_tally_0_ok 20 (41, .invokevirtual 76, 3) rfl
theorem dX5_tally_44 : decode cX5_tally 44 = .ok (.ireturn, 1) := dTX5_tally_0_ok 21 (44, .ireturn, 1) rfl
noncomputable def dTX5_remove_0 : List (Nat × Instr × Nat) := [(0, .iload_n 1, 1), (1, .iload_n 2, 1), (2, .invokestatic 19, 3), (5, .istore_n 3, 1), (6, .aload_n 0, 1), (7, .getfield 10, 3), (10, .getfield 40, 3), (13, .iload_n 3, 1), (14, .invokevirtual 82, 3), (17, .istore 4, 2), (19, .iload 4, 2), (21, .ifCond .ne 13, 3), (24, .new 33, 3), (27, .dup, 1), (28, .ldc 86, 2), (30, .invokespecial 37, 3), (33, .athrow, 1), (34, .aload_n 0, 1), (35, .getfield 10, 3), (38, .getfield 40, 3), (41, .iload_n 3, 1), (42, .invokevirtual 88, 3), (45, .iload 4, 2), (47, .ireturn, 1)]
theorem dTX5_remove_0_ok : ∀ (k : Nat) (q : Nat × Instr × Nat), dTX5_remove_0[k]? = some q → decode cX5_remove q.1 = .ok q.2 := dT_of (by decide +kernel)
theorem dX5_remove_0 : decode cX5_remove 0 = .ok (.iload_n 1, 1) := dTX5_remove_0_ok 0 (0, .iload_n 1, 1) rfl
theorem dX5_remove_1 : decode cX5_remove 1 = .ok (.iload_n 2, 1) := dTX5_remove_0_ok 1 (1, .iload_n 2, 1) rfl
theorem dX5_remove_2 : decode cX5_remove 2 = .ok (.invokestatic 19, 3) := dTX5_remove_0_ok 2 (2, .invokestatic 19, 3) rfl
theorem dX5_remove_5 : decode cX5_remove 5 = .ok (.istore_n 3, 1) := dTX5_remove_0_ok 3 (5, .istore_n 3, 1) rfl
theorem dX5_remove_6 : decode cX5_remove 6 = .ok (.aload_n 0, 1) := dTX5_remove_0_ok 4 (6, .aload_n 0, 1) rfl
theorem dX5_remove_7 : decode cX5_remove 7 = .ok (.getfield 10, 3) := dTX5_remove_0_ok 5 (7, .getfield 10, 3) rfl
theorem dX5_remove_10 : decode cX5_remove 10 = .ok (.getfield 40, 3) := dTX5_remove_0_ok 6 (10, .getfield 40, 3) rfl
theorem dX5_remove_13 : decode cX5_remove 13 = .ok (.iload_n 3, 1) := dTX5_remove_0_ok 7 (13, .iload_n 3, 1) rfl
theorem dX5_remove_14 : decode cX5_remove 14 = .ok (.invokevirtual 82, 3) := dTX5_remove_0_ok 8 (14, .invokevirtual 82, 3) rfl
theorem dX5_remove_17 : decode cX5_remove 17 = .ok (.istore 4, 2) := dTX5_remove_0_ok 9 (17, .istore 4, 2) rfl
theorem dX5_remove_19 : decode cX5_remove 19 = .ok (.iload 4, 2) := dTX5_remove_0_ok 10 (19, .iload 4, 2) rfl
theorem dX5_remove_21 : decode cX5_remove 21 = .ok (.ifCond .ne 13, 3) := dTX5_remove_0_ok 11 (21, .ifCond .ne 13, 3) rfl
theorem dX5_remove_24 : decode cX5_remove 24 = .ok (.new 33, 3) := dTX5_remove_0_ok 12 (24, .new 33, 3) rfl
theorem dX5_remove_27 : decode cX5_remove 27 = .ok (.dup, 1) := dTX5_remove_0_ok 13 (27, .dup, 1) rfl
theorem dX5_remove_28 : decode cX5_remove 28 = .ok (.ldc 86, 2) := dTX5_remove_0_ok 14 (28, .ldc 86, 2) rfl
theorem dX5_remove_30 : decode cX5_remove 30 = .ok (.invokespecial 37, 3) := dTX5_remove_0_ok 15 (30, .invokespecial 37, 3) rfl
theorem dX5_remove_33 : decode cX5_remove 33 = .ok (.athrow, 1) := dTX5_remove_0_ok 16 (33, .athrow, 1) rfl
theorem dX5_remove_34 : decode cX5_remove 34 = .ok (.aload_n 0, 1) := dTX5_remove_0_ok 17 (34, .aload_n 0, 1) rfl
theorem dX5_remove_35 : decode cX5_remove 35 = .ok (.getfield 10, 3) := dTX5_remove_0_ok 18 (35, .getfield 10, 3) rfl
theorem dX5_remove_38 : decode cX5_remove 38 = .ok (.getfield 40, 3) := dTX5_remove_0_ok 19 (38, .getfield 40, 3) rfl
theorem dX5_remove_41 : decode cX5_remove 41 = .ok (.iload_n 3, 1) := dTX5_remove_0_ok 20 (41, .iload_n 3, 1) rfl
theorem dX5_remove_42 : decode cX5_remove 42 = .ok (.invokevirtual 88, 3) := dTX5_remove_0_ok 21 (42, .invokevirtual 88, 3) rfl
theorem dX5_remove_45 : decode cX5_remove 45 = .ok (.iload 4, 2) := dTX5_remove_0_ok 22 (45, .iload 4, 2) rfl
theorem dX5_remove_47 : decode cX5_remove 47 = .ok (.ireturn, 1) := dTX5_remove_0_ok 23 (47, .ireturn, 1) rfl
noncomputable def dTX5_light_0 : List (Nat × Instr × Nat) := [(0, .iload_n 1, 1), (1, .iload_n 2, 1), (2, .invokestatic 19, 3), (5, .istore_n 3, 1), (6, .aload_n 0, 1), (7, .getfield 10, 3), (10, .getfield 40, 3), (13, .iload_n 3, 1), (14, .invokevirtual 91, 3), (17, .ifCond .ne 13, 3), (20, .new 33, 3), (23, .dup, 1), (24, .ldc 95, 2), (26, .invokespecial 37, 3), (29, .athrow, 1), (30, .aload_n 0, 1), (31, .getfield 10, 3), (34, .getfield 40, 3), (37, .iload_n 3, 1), (38, .invokevirtual 97, 3), (41, .aload_n 0, 1), (42, .getfield 10, 3), (45, .getfield 40, 3), (48, .iload_n 3, 1), (49, .invokevirtual 100, 3), (52, .ireturn, 1)]
theorem dTX5_light_0_ok : ∀ (k : Nat) (q : Nat × Instr × Nat), dTX5_light_0[k]? = some q → decode cX5_light q.1 = .ok q.2 := dT_of (by decide +kernel)
theorem dX5_light_0 : decode cX5_light 0 = .ok (.iload_n 1, 1) := dTX5_light_0_ok 0 (0, .iload_n 1, 1) rfl
theorem dX5_light_1 : decode cX5_light 1 = .ok (.iload_n 2, 1) := dTX5_light_0_ok 1 (1, .iload_n 2, 1) rfl
theorem dX5_light_2 : decode cX5_light 2 = .ok (.invokestatic 19, 3) := dTX5_light_0_ok 2 (2, .invokestatic 19, 3) rfl
theorem dX5_light_5 : decode cX5_light 5 = .ok (.istore_n 3, 1) := dTX5_light_0_ok 3 (5, .istore_n 3, 1) rfl
theorem dX5_light_6 : decode cX5_light 6 = .ok (.aload_n 0, 1) := dTX5_light_0_ok 4 (6, .aload_n 0, 1) rfl
theorem dX5_light_7 : decode cX5_light 7 = .ok (.getfield 10, 3) := dTX5_light_0_ok 5 (7, .getfield 10, 3) rfl
theorem dX5_light_10 : decode cX5_light 10 = .ok (.getfield 40, 3) := dTX5_light_0_ok 6 (10, .getfield 40, 3) rfl
theorem dX5_light_13 : decode cX5_light 13 = .ok (.iload_n 3, 1) := dTX5_light_0_ok 7 (13, .iload_n 3, 1) rfl
theorem dX5_light_14 : decode cX5_light 14 = .ok (.invokevirtual 91, 3) := dTX5_light_0_ok 8 (14, .invokevirtual 91, 3) rfl
theorem dX5_light_17 : decode cX5_light 17 = .ok (.ifCond .ne 13, 3) := dTX5_light_0_ok 9 (17, .ifCond .ne 13, 3) rfl
theorem dX5_light_20 : decode cX5_light 20 = .ok (.new 33, 3) := dTX5_light_0_ok 10 (20, .new 33, 3) rfl
theorem dX5_light_23 : decode cX5_light 23 = .ok (.dup, 1) := dTX5_light_0_ok 11 (23, .dup, 1) rfl
theorem dX5_light_24 : decode cX5_light 24 = .ok (.ldc 95, 2) := dTX5_light_0_ok 12 (24, .ldc 95, 2) rfl
theorem dX5_light_26 : decode cX5_light 26 = .ok (.invokespecial 37, 3) := dTX5_light_0_ok 13 (26, .invokespecial 37, 3) rfl
theorem dX5_light_29 : decode cX5_light 29 = .ok (.athrow, 1) := dTX5_light_0_ok 14 (29, .athrow, 1) rfl
theorem dX5_light_30 : decode cX5_light 30 = .ok (.aload_n 0, 1) := dTX5_light_0_ok 15 (30, .aload_n 0, 1) rfl
theorem dX5_light_31 : decode cX5_light 31 = .ok (.getfield 10, 3) := dTX5_light_0_ok 16 (31, .getfield 10, 3) rfl
theorem dX5_light_34 : decode cX5_light 34 = .ok (.getfield 40, 3) := dTX5_light_0_ok 17 (34, .getfield 40, 3) rfl
theorem dX5_light_37 : decode cX5_light 37 = .ok (.iload_n 3, 1) := dTX5_light_0_ok 18 (37, .iload_n 3, 1) rfl
theorem dX5_light_38 : decode cX5_light 38 = .ok (.invokevirtual 97, 3) := dTX5_light_0_ok 19 (38, .invokevirtual 97, 3) rfl
theorem dX5_light_41 : decode cX5_light 41 = .ok (.aload_n 0, 1) := dTX5_light_0_ok 20 (41, .aload_n 0, 1) rfl
theorem dX5_light_42 : decode cX5_light 42 = .ok (.getfield 10, 3) := dTX5_light_0_ok 21 (42, .getfield 10, 3) rfl
theorem dX5_light_45 : decode cX5_light 45 = .ok (.getfield 40, 3) := dTX5_light_0_ok 22 (45, .getfield 40, 3) rfl
theorem dX5_light_48 : decode cX5_light 48 = .ok (.iload_n 3, 1) := dTX5_light_0_ok 23 (48, .iload_n 3, 1) rfl
theorem dX5_light_49 : decode cX5_light 49 = .ok (.invokevirtual 100, 3) := dTX5_light_0_ok 24 (49, .invokevirtual 100, 3) rfl
theorem dX5_light_52 : decode cX5_light 52 = .ok (.ireturn, 1) := dTX5_light_0_ok 25 (52, .ireturn, 1) rfl
noncomputable def dTX5_come_0 : List (Nat × Instr × Nat) := [(0, .iload_n 1, 1), (1, .iload_n 2, 1), (2, .invokestatic 19, 3), (5, .istore 4, 2), (7, .iload_n 3, 1), (8, .iconst 1, 1), (9, .if_icmp .lt 8, 3), (12, .iload_n 3, 1), (13, .iconst 3, 1), (14, .if_icmp .le 13, 3), (17, .new 53, 3), (20, .dup, 1), (21, .ldc 103, 2), (23, .invokespecial 57, 3), (26, .athrow, 1), (27, .aload_n 0, 1), (28, .getfield 10, 3), (31, .getfield 105, 3), (34, .bipush 6, 2), (36, .if_icmp .lt 13, 3), (39, .new 33, 3), (42, .dup, 1), (43, .ldc 109, 2), (45, .invokespecial 37, 3), (48, .athrow, 1), (49, .aload_n 0, 1), (50, .getfield 10, 3), (53, .iload 4, 2), (55, .iload_n 3, 1), (56, .invokevirtual 111, 3), (59, .ireturn, 1)]
theorem dTX5_come_0_ok : ∀ (k : Nat) (q : Nat × Instr × Nat), dTX5_come_0[k]? = some q → decode cX5_come q.1 = .ok q.2 := dT_of (by decide +kernel)
theorem dX5_come_0 : decode cX5_come 0 = .ok (.iload_n 1, 1) := dTX5_come_0_ok 0 (0, .iload_n 1, 1) rfl
theorem dX5_come_1 : decode cX5_come 1 = .ok (.iload_n 2, 1) := dTX5_come_0_ok 1 (1, .iload_n 2, 1) rfl
theorem dX5_come_2 : decode cX5_come 2 = .ok (.invokestatic 19, 3) := dTX5_come_0_ok 2 (2, .invokestatic 19, 3) rfl
theorem dX5_come_5 : decode cX5_come 5 = .ok (.istore 4, 2) := dTX5_come_0_ok 3 (5, .istore 4, 2) rfl
theorem dX5_come_7 : decode cX5_come 7 = .ok (.iload_n 3, 1) := dTX5_come_0_ok 4 (7, .iload_n 3, 1) rfl
theorem dX5_come_8 : decode cX5_come 8 = .ok (.iconst 1, 1) := dTX5_come_0_ok 5 (8, .iconst 1, 1) rfl
theorem dX5_come_9 : decode cX5_come 9 = .ok (.if_icmp .lt 8, 3) := dTX5_come_0_ok 6 (9, .if_icmp .lt 8, 3) rfl
theorem dX5_come_12 : decode cX5_come 12 = .ok (.iload_n 3, 1) := dTX5_come_0_ok 7 (12, .iload_n 3, 1) rfl
theorem dX5_come_13 : decode cX5_come 13 = .ok (.iconst 3, 1) := dTX5_come_0_ok 8 (13, .iconst 3, 1) rfl
theorem dX5_come_14 : decode cX5_come 14 = .ok (.if_icmp .le 13, 3) := dTX5_come_0_ok 9 (14, .if_icmp .le 13, 3) rfl
theorem dX5_come_17 : decode cX5_come 17 = .ok (.new 53, 3) := dTX5_come_0_ok 10 (17, .new 53, 3) rfl
theorem dX5_come_20 : decode cX5_come 20 = .ok (.dup, 1) := dTX5_come_0_ok 11 (20, .dup, 1) rfl
theorem dX5_come_21 : decode cX5_come 21 = .ok (.ldc 103, 2) := dTX5_come_0_ok 12 (21, .ldc 103, 2) rfl
theorem dX5_come_23 : decode cX5_come 23 = .ok (.invokespecial 57, 3) := dTX5_come_0_ok 13 (23, .invokespecial 57, 3) rfl
theorem dX5_come_26 : decode cX5_come 26 = .ok (.athrow, 1) := dTX5_come_0_ok 14 (26, .athrow, 1) rfl
theorem dX5_come_27 : decode cX5_come 27 = .ok (.aload_n 0, 1) := dTX5_come_0_ok 15 (27, .aload_n 0, 1) rfl
theorem dX5_come_28 : decode cX5_come 28 = .ok (.getfield 10, 3) := dTX5_come_0_ok 16 (28, .getfield 10, 3) rfl
theorem dX5_come_31 : decode cX5_come 31 = .ok (.getfield 105, 3) := dTX5_come_0_ok 17 (31, .getfield 105, 3) rfl
theorem dX5_come_34 : decode cX5_come 34 = .ok (.bipush 6, 2) := dTX5_come_0_ok 18 (34, .bipush 6, 2) rfl
theorem dX5_come_36 : decode cX5_come 36 = .ok (.if_icmp .lt 13, 3) := dTX5_come_0_ok 19 (36, .if_icmp .lt 13, 3) rfl
theorem dX5_come_39 : decode cX5_come 39 = .ok (.new 33, 3) := dTX5_come_0_ok 20 (39, .new 33, 3) rfl
theorem dX5_come_42 : decode cX5_come 42 = .ok (.dup, 1) := dTX5_come_0_ok 21 (42, .dup, 1) rfl
theorem dX5_come_43 : decode cX5_come 43 = .ok (.ldc 109, 2) := dTX5_come_0_ok 22 (43, .ldc 109, 2) rfl
theorem dX5_come_45 : decode cX5_come 45 = .ok (.invokespecial 37, 3) := dTX5_come_0_ok 23 (45, .invokespecial 37, 3) rfl
theorem dX5_come_48 : decode cX5_come 48 = .ok (.athrow, 1) := dTX5_come_0_ok 24 (48, .athrow, 1) rfl
theorem dX5_come_49 : decode cX5_come 49 = .ok (.aload_n 0, 1) := dTX5_come_0_ok 25 (49, .aload_n 0, 1) rfl
theorem dX5_come_50 : decode cX5_come 50 = .ok (.getfield 10, 3) := dTX5_come_0_ok 26 (50, .getfield 10, 3) rfl
theorem dX5_come_53 : decode cX5_come 53 = .ok (.iload 4, 2) := dTX5_come_0_ok 27 (53, .iload 4, 2) rfl
theorem dX5_come_55 : decode cX5_come 55 = .ok (.iload_n 3, 1) := dTX5_come_0_ok 28 (55, .iload_n 3, 1) rfl
theorem dX5_come_56 : decode cX5_come 56 = .ok (.invokevirtual 111, 3) := dTX5_come_0_ok 29 (56, .invokevirtual 111, 3) rfl
theorem dX5_come_59 : decode cX5_come 59 = .ok (.ireturn, 1) := dTX5_come_0_ok 30 (59, .ireturn, 1) rfl
noncomputable def dTX5_send_0 : List (Nat × Instr × Nat) := [(0, .aload_n 0, 1), (1, .iload_n 1, 1), (2, .invokevirtual 114, 3), (5, .iload_n 2, 1), (6, .iload_n 3, 1), (7, .invokestatic 19, 3), (10, .istore 4, 2), (12, .aload_n 0, 1), (13, .getfield 10, 3), (16, .iload_n 1, 1), (17, .iload 4, 2), (19, .invokevirtual 117, 3), (22, .aload_n 0, 1), (23, .getfield 10, 3), (26, .iload_n 1, 1), (27, .iload 4, 2), (29, .invokevirtual 120, 3), (32, .ireturn, 1)]
theorem dTX5_send_0_ok : ∀ (k : Nat) (q : Nat × Instr × Nat), dTX5_send_0[k]? = some q → decode cX5_send q.1 = .ok q.2 := dT_of (by decide +kernel)
theorem dX5_send_0 : decode cX5_send 0 = .ok (.aload_n 0, 1) := dTX5_send_0_ok 0 (0, .aload_n 0, 1) rfl
theorem dX5_send_1 : decode cX5_send 1 = .ok (.iload_n 1, 1) := dTX5_send_0_ok 1 (1, .iload_n 1, 1) rfl
theorem dX5_send_2 : decode cX5_send 2 = .ok (.invokevirtual 114, 3) := dTX5_send_0_ok 2 (2, .invokevirtual 114, 3) rfl
theorem dX5_send_5 : decode cX5_send 5 = .ok (.iload_n 2, 1) := dTX5_send_0_ok 3 (5, .iload_n 2, 1) rfl
theorem dX5_send_6 : decode cX5_send 6 = .ok (.iload_n 3, 1) := dTX5_send_0_ok 4 (6, .iload_n 3, 1) rfl
theorem dX5_send_7 : decode cX5_send 7 = .ok (.invokestatic 19, 3) := dTX5_send_0_ok 5 (7, .invokestatic 19, 3) rfl
theorem dX5_send_10 : decode cX5_send 10 = .ok (.istore 4, 2) := dTX5_send_0_ok 6 (10, .istore 4, 2) rfl
theorem dX5_send_12 : decode cX5_send 12 = .ok (.aload_n 0, 1) := dTX5_send_0_ok 7 (12, .aload_n 0, 1) rfl
theorem dX5_send_13 : decode cX5_send 13 = .ok (.getfield 10, 3) := dTX5_send_0_ok 8 (13, .getfield 10, 3) rfl
theorem dX5_send_16 : decode cX5_send 16 = .ok (.iload_n 1, 1) := dTX5_send_0_ok 9 (16, .iload_n 1, 1) rfl
theorem dX5_send_17 : decode cX5_send 17 = .ok (.iload 4, 2) := dTX5_send_0_ok 10 (17, .iload 4, 2) rfl
theorem dX5_send_19 : decode cX5_send 19 = .ok (.invokevirtual 117, 3) := dTX5_send_0_ok 11 (19, .invokevirtual 117, 3) rfl
theorem dX5_send_22 : decode cX5_send 22 = .ok (.aload_n 0, 1) := dTX5_send_0_ok 12 (22, .aload_n 0, 1) rfl
theorem dX5_send_23 : decode cX5_send 23 = .ok (.getfield 10, 3) := dTX5_send_0_ok 13 (23, .getfield 10, 3) rfl
theorem dX5_send_26 : decode cX5_send 26 = .ok (.iload_n 1, 1) := dTX5_send_0_ok 14 (26, .iload_n 1, 1) rfl
theorem dX5_send_27 : decode cX5_send 27 = .ok (.iload 4, 2) := dTX5_send_0_ok 15 (27, .iload 4, 2) rfl
theorem dX5_send_29 : decode cX5_send 29 = .ok (.invokevirtual 120, 3) := dTX5_send_0_ok 16 (29, .invokevirtual 120, 3) rfl
theorem dX5_send_32 : decode cX5_send 32 = .ok (.ireturn, 1) := dTX5_send_0_ok 17 (32, .ireturn, 1) rfl
noncomputable def dTX5_rite_0 : List (Nat × Instr × Nat) := [(0, .aload_n 0, 1), (1, .iload_n 1, 1), (2, .invokevirtual 114, 3), (5, .aload_n 0, 1), (6, .getfield 10, 3), (9, .iload_n 1, 1), (10, .invokevirtual 123, 3), (13, .ifCond .eq 13, 3), (16, .new 33, 3), (19, .dup, 1), (20, .ldc 126, 2), (22, .invokespecial 37, 3), (25, .athrow, 1), (26, .aload_n 0, 1), (27, .getfield 10, 3), (30, .iload_n 1, 1), (31, .iconst 5, 1), (32, .iconst 1, 1), (33, .invokevirtual 128, 3), (36, .aload_n 0, 1), (37, .getfield 10, 3), (40, .iconst 5, 1), (41, .invokevirtual 131, 3), (44, .ireturn, 1)]
theorem dTX5_rite_0_ok : ∀ (k : Nat) (q : Nat × Instr × Nat), dTX5_rite_0[k]? = some q → decode cX5_rite q.1 = .ok q.2 := dT_of (by decide +kernel)
theorem dX5_rite_0 : decode cX5_rite 0 = .ok (.aload_n 0, 1) := dTX5_rite_0_ok 0 (0, .aload_n 0, 1) rfl
theorem dX5_rite_1 : decode cX5_rite 1 = .ok (.iload_n 1, 1) := dTX5_rite_0_ok 1 (1, .iload_n 1, 1) rfl
theorem dX5_rite_2 : decode cX5_rite 2 = .ok (.invokevirtual 114, 3) := dTX5_rite_0_ok 2 (2, .invokevirtual 114, 3) rfl
theorem dX5_rite_5 : decode cX5_rite 5 = .ok (.aload_n 0, 1) := dTX5_rite_0_ok 3 (5, .aload_n 0, 1) rfl
theorem dX5_rite_6 : decode cX5_rite 6 = .ok (.getfield 10, 3) := dTX5_rite_0_ok 4 (6, .getfield 10, 3) rfl
theorem dX5_rite_9 : decode cX5_rite 9 = .ok (.iload_n 1, 1) := dTX5_rite_0_ok 5 (9, .iload_n 1, 1) rfl
theorem dX5_rite_10 : decode cX5_rite 10 = .ok (.invokevirtual 123, 3) := dTX5_rite_0_ok 6 (10, .invokevirtual 123, 3) rfl
theorem dX5_rite_13 : decode cX5_rite 13 = .ok (.ifCond .eq 13, 3) := dTX5_rite_0_ok 7 (13, .ifCond .eq 13, 3) rfl
theorem dX5_rite_16 : decode cX5_rite 16 = .ok (.new 33, 3) := dTX5_rite_0_ok 8 (16, .new 33, 3) rfl
theorem dX5_rite_19 : decode cX5_rite 19 = .ok (.dup, 1) := dTX5_rite_0_ok 9 (19, .dup, 1) rfl
theorem dX5_rite_20 : decode cX5_rite 20 = .ok (.ldc 126, 2) := dTX5_rite_0_ok 10 (20, .ldc 126, 2) rfl
theorem dX5_rite_22 : decode cX5_rite 22 = .ok (.invokespecial 37, 3) := dTX5_rite_0_ok 11 (22, .invokespecial 37, 3) rfl
theorem dX5_rite_25 : decode cX5_rite 25 = .ok (.athrow, 1) := dTX5_rite_0_ok 12 (25, .athrow, 1) rfl
theorem dX5_rite_26 : decode cX5_rite 26 = .ok (.aload_n 0, 1) := dTX5_rite_0_ok 13 (26, .aload_n 0, 1) rfl
theorem dX5_rite_27 : decode cX5_rite 27 = .ok (.getfield 10, 3) := dTX5_rite_0_ok 14 (27, .getfield 10, 3) rfl
theorem dX5_rite_30 : decode cX5_rite 30 = .ok (.iload_n 1, 1) := dTX5_rite_0_ok 15 (30, .iload_n 1, 1) rfl
theorem dX5_rite_31 : decode cX5_rite 31 = .ok (.iconst 5, 1) := dTX5_rite_0_ok 16 (31, .iconst 5, 1) rfl
theorem dX5_rite_32 : decode cX5_rite 32 = .ok (.iconst 1, 1) := dTX5_rite_0_ok 17 (32, .iconst 1, 1) rfl
theorem dX5_rite_33 : decode cX5_rite 33 = .ok (.invokevirtual 128, 3) := dTX5_rite_0_ok 18 (33, .invokevirtual 128, 3) rfl
theorem dX5_rite_36 : decode cX5_rite 36 = .ok (.aload_n 0, 1) := dTX5_rite_0_ok 19 (36, .aload_n 0, 1) rfl
theorem dX5_rite_37 : decode cX5_rite 37 = .ok (.getfield 10, 3) := dTX5_rite_0_ok 20 (37, .getfield 10, 3) rfl
theorem dX5_rite_40 : decode cX5_rite 40 = .ok (.iconst 5, 1) := dTX5_rite_0_ok 21 (40, .iconst 5, 1) rfl
theorem dX5_rite_41 : decode cX5_rite 41 = .ok (.invokevirtual 131, 3) := dTX5_rite_0_ok 22 (41, .invokevirtual 131, 3) rfl
theorem dX5_rite_44 : decode cX5_rite 44 = .ok (.ireturn, 1) := dTX5_rite_0_ok 23 (44, .ireturn, 1) rfl
noncomputable def dTX5_cell_0 : List (Nat × Instr × Nat) := [(0, .iload_n 1, 1), (1, .iload_n 2, 1), (2, .invokestatic 19, 3), (5, .istore 4, 2), (7, .iload_n 3, 1), (8, .iconst 5, 1), (9, .invokestatic 134, 3), (12, .aload_n 0, 1), (13, .getfield 10, 3), (16, .iload 4, 2), (18, .iload_n 3, 1), (19, .invokevirtual 137, 3), (22, .ireturn, 1)]
theorem dTX5_cell_0_ok : ∀ (k : Nat) (q : Nat × Instr × Nat), dTX5_cell_0[k]? = some q → decode cX5_cell q.1 = .ok q.2 := dT_of (by decide +kernel)
theorem dX5_cell_0 : decode cX5_cell 0 = .ok (.iload_n 1, 1) := dTX5_cell_0_ok 0 (0, .iload_n 1, 1) rfl
theorem dX5_cell_1 : decode cX5_cell 1 = .ok (.iload_n 2, 1) := dTX5_cell_0_ok 1 (1, .iload_n 2, 1) rfl
theorem dX5_cell_2 : decode cX5_cell 2 = .ok (.invokestatic 19, 3) := dTX5_cell_0_ok 2 (2, .invokestatic 19, 3) rfl
theorem dX5_cell_5 : decode cX5_cell 5 = .ok (.istore 4, 2) := dTX5_cell_0_ok 3 (5, .istore 4, 2) rfl
theorem dX5_cell_7 : decode cX5_cell 7 = .ok (.iload_n 3, 1) := dTX5_cell_0_ok 4 (7, .iload_n 3, 1) rfl
theorem dX5_cell_8 : decode cX5_cell 8 = .ok (.iconst 5, 1) := dTX5_cell_0_ok 5 (8, .iconst 5, 1) rfl
theorem dX5_cell_9 : decode cX5_cell 9 = .ok (.invokestatic 134, 3) := dTX5_cell_0_ok 6 (9, .invokestatic 134, 3) rfl
theorem dX5_cell_12 : decode cX5_cell 12 = .ok (.aload_n 0, 1) := dTX5_cell_0_ok 7 (12, .aload_n 0, 1) rfl
theorem dX5_cell_13 : decode cX5_cell 13 = .ok (.getfield 10, 3) := dTX5_cell_0_ok 8 (13, .getfield 10, 3) rfl
theorem dX5_cell_16 : decode cX5_cell 16 = .ok (.iload 4, 2) := dTX5_cell_0_ok 9 (16, .iload 4, 2) rfl
theorem dX5_cell_18 : decode cX5_cell 18 = .ok (.iload_n 3, 1) := dTX5_cell_0_ok 10 (18, .iload_n 3, 1) rfl
theorem dX5_cell_19 : decode cX5_cell 19 = .ok (.invokevirtual 137, 3) := dTX5_cell_0_ok 11 (19, .invokevirtual 137, 3) rfl
theorem dX5_cell_22 : decode cX5_cell 22 = .ok (.ireturn, 1) := dTX5_cell_0_ok 12 (22, .ireturn, 1) rfl
noncomputable def dTX5_walled_0 : List (Nat × Instr × Nat) := [(0, .iload_n 1, 1), (1, .iload_n 2, 1), (2, .invokestatic 19, 3), (5, .istore 4, 2), (7, .iload_n 3, 1), (8, .invokestatic 23, 3), (11, .iload 4, 2), (13, .iload_n 3, 1), (14, .invokestatic 27, 3), (17, .ifCond .ne 19, 3), (20, .aload_n 0, 1), (21, .getfield 10, 3), (24, .getfield 40, 3), (27, .iload 4, 2), (29, .iload_n 3, 1), (30, .invokevirtual 50, 3), (33, .ifCond .eq 7, 3), (36, .iconst 1, 1), (37, .goto 4, 3), (40, .iconst 0, 1), (41, .ireturn, 1)]
theorem dTX5_walled_0_ok : ∀ (k : Nat) (q : Nat × Instr × Nat), dTX5_walled_0[k]? = some q → decode cX5_walled q.1 = .ok q.2 := dT_of (by decide +kernel)
theorem dX5_walled_0 : decode cX5_walled 0 = .ok (.iload_n 1, 1) := dTX5_walled_0_ok 0 (0, .iload_n 1, 1) rfl
theorem dX5_walled_1 : decode cX5_walled 1 = .ok (.iload_n 2, 1) := dTX5_walled_0_ok 1 (1, .iload_n 2, 1) rfl
theorem dX5_walled_2 : decode cX5_walled 2 = .ok (.invokestatic 19, 3) := dTX5_walled_0_ok 2 (2, .invokestatic 19, 3) rfl
theorem dX5_walled_5 : decode cX5_walled 5 = .ok (.istore 4, 2) := dTX5_walled_0_ok 3 (5, .istore 4, 2) rfl
theorem dX5_walled_7 : decode cX5_walled 7 = .ok (.iload_n 3, 1) := dTX5_walled_0_ok 4 (7, .iload_n 3, 1) rfl
theorem dX5_walled_8 : decode cX5_walled 8 = .ok (.invokestatic 23, 3) := dTX5_walled_0_ok 5 (8, .invokestatic 23, 3) rfl
theorem dX5_walled_11 : decode cX5_walled 11 = .ok (.iload 4, 2) := dTX5_walled_0_ok 6 (11, .iload 4, 2) rfl
theorem dX5_walled_13 : decode cX5_walled 13 = .ok (.iload_n 3, 1) := dTX5_walled_0_ok 7 (13, .iload_n 3, 1) rfl
theorem dX5_walled_14 : decode cX5_walled 14 = .ok (.invokestatic 27, 3) := dTX5_walled_0_ok 8 (14, .invokestatic 27, 3) rfl
theorem dX5_walled_17 : decode cX5_walled 17 = .ok (.ifCond .ne 19, 3) := dTX5_walled_0_ok 9 (17, .ifCond .ne 19, 3) rfl
theorem dX5_walled_20 : decode cX5_walled 20 = .ok (.aload_n 0, 1) := dTX5_walled_0_ok 10 (20, .aload_n 0, 1) rfl
theorem dX5_walled_21 : decode cX5_walled 21 = .ok (.getfield 10, 3) := dTX5_walled_0_ok 11 (21, .getfield 10, 3) rfl
theorem dX5_walled_24 : decode cX5_walled 24 = .ok (.getfield 40, 3) := dTX5_walled_0_ok 12 (24, .getfield 40, 3) rfl
theorem dX5_walled_27 : decode cX5_walled 27 = .ok (.iload 4, 2) := dTX5_walled_0_ok 13 (27, .iload 4, 2) rfl
theorem dX5_walled_29 : decode cX5_walled 29 = .ok (.iload_n 3, 1) := dTX5_walled_0_ok 14 (29, .iload_n 3, 1) rfl
theorem dX5_walled_30 : decode cX5_walled 30 = .ok (.invokevirtual 50, 3) := dTX5_walled_0_ok 15 (30, .invokevirtual 50, 3) rfl
theorem dX5_walled_33 : decode cX5_walled 33 = .ok (.ifCond .eq 7, 3) := dTX5_walled_0_ok 16 (33, .ifCond .eq 7, 3) rfl
theorem dX5_walled_36 : decode cX5_walled 36 = .ok (.iconst 1, 1) := dTX5_walled_0_ok 17 (36, .iconst 1, 1) rfl
theorem dX5_walled_37 : decode cX5_walled 37 = .ok (.goto 4, 3) := dTX5_walled_0_ok 18 (37, .goto 4, 3) rfl
theorem dX5_walled_40 : decode cX5_walled 40 = .ok (.iconst 0, 1) := dTX5_walled_0_ok 19 (40, .iconst 0, 1) rfl
theorem dX5_walled_41 : decode cX5_walled 41 = .ok (.ireturn, 1) := dTX5_walled_0_ok 20 (41, .ireturn, 1) rfl
noncomputable def dTX5_ghost_0 : List (Nat × Instr × Nat) := [(0, .aload_n 0, 1), (1, .iload_n 1, 1), (2, .invokevirtual 114, 3), (5, .iload_n 2, 1), (6, .bipush 8, 2), (8, .invokestatic 134, 3), (11, .aload_n 0, 1), (12, .getfield 10, 3), (15, .iload_n 1, 1), (16, .iload_n 2, 1), (17, .invokevirtual 140, 3), (20, .ireturn, 1)]
theorem dTX5_ghost_0_ok : ∀ (k : Nat) (q : Nat × Instr × Nat), dTX5_ghost_0[k]? = some q → decode cX5_ghost q.1 = .ok q.2 := dT_of (by decide +kernel)
theorem dX5_ghost_0 : decode cX5_ghost 0 = .ok (.aload_n 0, 1) := dTX5_ghost_0_ok 0 (0, .aload_n 0, 1) rfl
theorem dX5_ghost_1 : decode cX5_ghost 1 = .ok (.iload_n 1, 1) := dTX5_ghost_0_ok 1 (1, .iload_n 1, 1) rfl
theorem dX5_ghost_2 : decode cX5_ghost 2 = .ok (.invokevirtual 114, 3) := dTX5_ghost_0_ok 2 (2, .invokevirtual 114, 3) rfl
theorem dX5_ghost_5 : decode cX5_ghost 5 = .ok (.iload_n 2, 1) := dTX5_ghost_0_ok 3 (5, .iload_n 2, 1) rfl
theorem dX5_ghost_6 : decode cX5_ghost 6 = .ok (.bipush 8, 2) := dTX5_ghost_0_ok 4 (6, .bipush 8, 2) rfl
theorem dX5_ghost_8 : decode cX5_ghost 8 = .ok (.invokestatic 134, 3) := dTX5_ghost_0_ok 5 (8, .invokestatic 134, 3) rfl
theorem dX5_ghost_11 : decode cX5_ghost 11 = .ok (.aload_n 0, 1) := dTX5_ghost_0_ok 6 (11, .aload_n 0, 1) rfl
theorem dX5_ghost_12 : decode cX5_ghost 12 = .ok (.getfield 10, 3) := dTX5_ghost_0_ok 7 (12, .getfield 10, 3) rfl
theorem dX5_ghost_15 : decode cX5_ghost 15 = .ok (.iload_n 1, 1) := dTX5_ghost_0_ok 8 (15, .iload_n 1, 1) rfl
theorem dX5_ghost_16 : decode cX5_ghost 16 = .ok (.iload_n 2, 1) := dTX5_ghost_0_ok 9 (16, .iload_n 2, 1) rfl
theorem dX5_ghost_17 : decode cX5_ghost 17 = .ok (.invokevirtual 140, 3) := dTX5_ghost_0_ok 10 (17, .invokevirtual 140, 3) rfl
theorem dX5_ghost_20 : decode cX5_ghost 20 = .ok (.ireturn, 1) := dTX5_ghost_0_ok 11 (20, .ireturn, 1) rfl
noncomputable def dTX5_count_0 : List (Nat × Instr × Nat) := [(0, .iload_n 1, 1), (1, .bipush 10, 2), (3, .invokestatic 134, 3), (6, .aload_n 0, 1), (7, .getfield 10, 3), (10, .iload_n 1, 1), (11, .invokevirtual 143, 3), (14, .ireturn, 1)]
theorem dTX5_count_0_ok : ∀ (k : Nat) (q : Nat × Instr × Nat), dTX5_count_0[k]? = some q → decode cX5_count q.1 = .ok q.2 := dT_of (by decide +kernel)
theorem dX5_count_0 : decode cX5_count 0 = .ok (.iload_n 1, 1) := dTX5_count_0_ok 0 (0, .iload_n 1, 1) rfl
theorem dX5_count_1 : decode cX5_count 1 = .ok (.bipush 10, 2) := dTX5_count_0_ok 1 (1, .bipush 10, 2) rfl
theorem dX5_count_3 : decode cX5_count 3 = .ok (.invokestatic 134, 3) := dTX5_count_0_ok 2 (3, .invokestatic 134, 3) rfl
theorem dX5_count_6 : decode cX5_count 6 = .ok (.aload_n 0, 1) := dTX5_count_0_ok 3 (6, .aload_n 0, 1) rfl
theorem dX5_count_7 : decode cX5_count 7 = .ok (.getfield 10, 3) := dTX5_count_0_ok 4 (7, .getfield 10, 3) rfl
theorem dX5_count_10 : decode cX5_count 10 = .ok (.iload_n 1, 1) := dTX5_count_0_ok 5 (10, .iload_n 1, 1) rfl
theorem dX5_count_11 : decode cX5_count 11 = .ok (.invokevirtual 143, 3) := dTX5_count_0_ok 6 (11, .invokevirtual 143, 3) rfl
theorem dX5_count_14 : decode cX5_count 14 = .ok (.ireturn, 1) := dTX5_count_0_ok 7 (14, .ireturn, 1) rfl
noncomputable def dTX5_shines_0 : List (Nat × Instr × Nat) := [(0, .iload_n 1, 1), (1, .iload_n 2, 1), (2, .invokestatic 19, 3), (5, .istore_n 3, 1), (6, .aload_n 0, 1), (7, .getfield 10, 3), (10, .getfield 40, 3), (13, .iload_n 3, 1), (14, .invokevirtual 146, 3), (17, .invokestatic 150, 3), (20, .ireturn, 1)]
theorem dTX5_shines_0_ok : ∀ (k : Nat) (q : Nat × Instr × Nat), dTX5_shines_0[k]? = some q → decode cX5_shines q.1 = .ok q.2 := dT_of (by decide +kernel)
theorem dX5_shines_0 : decode cX5_shines 0 = .ok (.iload_n 1, 1) := dTX5_shines_0_ok 0 (0, .iload_n 1, 1) rfl
theorem dX5_shines_1 : decode cX5_shines 1 = .ok (.iload_n 2, 1) := dTX5_shines_0_ok 1 (1, .iload_n 2, 1) rfl
theorem dX5_shines_2 : decode cX5_shines 2 = .ok (.invokestatic 19, 3) := dTX5_shines_0_ok 2 (2, .invokestatic 19, 3) rfl
theorem dX5_shines_5 : decode cX5_shines 5 = .ok (.istore_n 3, 1) := dTX5_shines_0_ok 3 (5, .istore_n 3, 1) rfl
theorem dX5_shines_6 : decode cX5_shines 6 = .ok (.aload_n 0, 1) := dTX5_shines_0_ok 4 (6, .aload_n 0, 1) rfl
theorem dX5_shines_7 : decode cX5_shines 7 = .ok (.getfield 10, 3) := dTX5_shines_0_ok 5 (7, .getfield 10, 3) rfl
theorem dX5_shines_10 : decode cX5_shines 10 = .ok (.getfield 40, 3) := dTX5_shines_0_ok 6 (10, .getfield 40, 3) rfl
theorem dX5_shines_13 : decode cX5_shines 13 = .ok (.iload_n 3, 1) := dTX5_shines_0_ok 7 (13, .iload_n 3, 1) rfl
theorem dX5_shines_14 : decode cX5_shines 14 = .ok (.invokevirtual 146, 3) := dTX5_shines_0_ok 8 (14, .invokevirtual 146, 3) rfl
theorem dX5_shines_17 : decode cX5_shines 17 = .ok (.invokestatic 150, 3) := dTX5_shines_0_ok 9 (17, .invokestatic 150, 3) rfl
theorem dX5_shines_20 : decode cX5_shines 20 = .ok (.ireturn, 1) := dTX5_shines_0_ok 10 (20, .ireturn, 1) rfl
noncomputable def dTX5_way_0 : List (Nat × Instr × Nat) := [(0, .aload_n 0, 1), (1, .iload_n 1, 1), (2, .invokevirtual 114, 3), (5, .iload_n 2, 1), (6, .iload_n 3, 1), (7, .invokestatic 19, 3), (10, .istore 4, 2), (12, .aload_n 0, 1), (13, .getfield 10, 3), (16, .iload_n 1, 1), (17, .iload 4, 2), (19, .invokevirtual 120, 3), (22, .ireturn, 1)]
theorem dTX5_way_0_ok : ∀ (k : Nat) (q : Nat × Instr × Nat), dTX5_way_0[k]? = some q → decode cX5_way q.1 = .ok q.2 := dT_of (by decide +kernel)
theorem dX5_way_0 : decode cX5_way 0 = .ok (.aload_n 0, 1) := dTX5_way_0_ok 0 (0, .aload_n 0, 1) rfl
theorem dX5_way_1 : decode cX5_way 1 = .ok (.iload_n 1, 1) := dTX5_way_0_ok 1 (1, .iload_n 1, 1) rfl
theorem dX5_way_2 : decode cX5_way 2 = .ok (.invokevirtual 114, 3) := dTX5_way_0_ok 2 (2, .invokevirtual 114, 3) rfl
theorem dX5_way_5 : decode cX5_way 5 = .ok (.iload_n 2, 1) := dTX5_way_0_ok 3 (5, .iload_n 2, 1) rfl
theorem dX5_way_6 : decode cX5_way 6 = .ok (.iload_n 3, 1) := dTX5_way_0_ok 4 (6, .iload_n 3, 1) rfl
theorem dX5_way_7 : decode cX5_way 7 = .ok (.invokestatic 19, 3) := dTX5_way_0_ok 5 (7, .invokestatic 19, 3) rfl
theorem dX5_way_10 : decode cX5_way 10 = .ok (.istore 4, 2) := dTX5_way_0_ok 6 (10, .istore 4, 2) rfl
theorem dX5_way_12 : decode cX5_way 12 = .ok (.aload_n 0, 1) := dTX5_way_0_ok 7 (12, .aload_n 0, 1) rfl
theorem dX5_way_13 : decode cX5_way 13 = .ok (.getfield 10, 3) := dTX5_way_0_ok 8 (13, .getfield 10, 3) rfl
theorem dX5_way_16 : decode cX5_way 16 = .ok (.iload_n 1, 1) := dTX5_way_0_ok 9 (16, .iload_n 1, 1) rfl
theorem dX5_way_17 : decode cX5_way 17 = .ok (.iload 4, 2) := dTX5_way_0_ok 10 (17, .iload 4, 2) rfl
theorem dX5_way_19 : decode cX5_way 19 = .ok (.invokevirtual 120, 3) := dTX5_way_0_ok 11 (19, .invokevirtual 120, 3) rfl
theorem dX5_way_22 : decode cX5_way 22 = .ok (.ireturn, 1) := dTX5_way_0_ok 12 (22, .ireturn, 1) rfl
noncomputable def dTX5_next_0 : List (Nat × Instr × Nat) := [(0, .aload_n 0, 1), (1, .iload_n 1, 1), (2, .invokevirtual 114, 3), (5, .aload_n 0, 1), (6, .getfield 10, 3), (9, .iload_n 1, 1), (10, .invokevirtual 156, 3), (13, .ireturn, 1)]
theorem dTX5_next_0_ok : ∀ (k : Nat) (q : Nat × Instr × Nat), dTX5_next_0[k]? = some q → decode cX5_next q.1 = .ok q.2 := dT_of (by decide +kernel)
theorem dX5_next_0 : decode cX5_next 0 = .ok (.aload_n 0, 1) := dTX5_next_0_ok 0 (0, .aload_n 0, 1) rfl
theorem dX5_next_1 : decode cX5_next 1 = .ok (.iload_n 1, 1) := dTX5_next_0_ok 1 (1, .iload_n 1, 1) rfl
theorem dX5_next_2 : decode cX5_next 2 = .ok (.invokevirtual 114, 3) := dTX5_next_0_ok 2 (2, .invokevirtual 114, 3) rfl
theorem dX5_next_5 : decode cX5_next 5 = .ok (.aload_n 0, 1) := dTX5_next_0_ok 3 (5, .aload_n 0, 1) rfl
theorem dX5_next_6 : decode cX5_next 6 = .ok (.getfield 10, 3) := dTX5_next_0_ok 4 (6, .getfield 10, 3) rfl
theorem dX5_next_9 : decode cX5_next 9 = .ok (.iload_n 1, 1) := dTX5_next_0_ok 5 (9, .iload_n 1, 1) rfl
theorem dX5_next_10 : decode cX5_next 10 = .ok (.invokevirtual 156, 3) := dTX5_next_0_ok 6 (10, .invokevirtual 156, 3) rfl
theorem dX5_next_13 : decode cX5_next 13 = .ok (.ireturn, 1) := dTX5_next_0_ok 7 (13, .ireturn, 1) rfl
noncomputable def dTX5_pass_0 : List (Nat × Instr × Nat) := [(0, .iload_n 1, 1), (1, .bipush 40, 2), (3, .invokestatic 159, 3), (6, .iconst 0, 1), (7, .istore_n 2, 1), (8, .iconst 0, 1), (9, .istore_n 3, 1), (10, .iload_n 3, 1), (11, .iload_n 1, 1), (12, .if_icmp .ge 19, 3), (15, .iload_n 2, 1), (16, .aload_n 0, 1), (17, .getfield 10, 3), (20, .invokevirtual 162, 3), (23, .iadd, 1), (24, .istore_n 2, 1), (25, .iinc 3 1, 3), (28, .goto (-18), 3), (31, .iload_n 2, 1), (32, .ireturn, 1)]
theorem dTX5_pass_0_ok : ∀ (k : Nat) (q : Nat × Instr × Nat), dTX5_pass_0[k]? = some q → decode cX5_pass q.1 = .ok q.2 := dT_of (by decide +kernel)
theorem dX5_pass_0 : decode cX5_pass 0 = .ok (.iload_n 1, 1) := dTX5_pass_0_ok 0 (0, .iload_n 1, 1) rfl
theorem dX5_pass_1 : decode cX5_pass 1 = .ok (.bipush 40, 2) := dTX5_pass_0_ok 1 (1, .bipush 40, 2) rfl
theorem dX5_pass_3 : decode cX5_pass 3 = .ok (.invokestatic 159, 3) := dTX5_pass_0_ok 2 (3, .invokestatic 159, 3) rfl
theorem dX5_pass_6 : decode cX5_pass 6 = .ok (.iconst 0, 1) := dTX5_pass_0_ok 3 (6, .iconst 0, 1) rfl
theorem dX5_pass_7 : decode cX5_pass 7 = .ok (.istore_n 2, 1) := dTX5_pass_0_ok 4 (7, .istore_n 2, 1) rfl
theorem dX5_pass_8 : decode cX5_pass 8 = .ok (.iconst 0, 1) := dTX5_pass_0_ok 5 (8, .iconst 0, 1) rfl
theorem dX5_pass_9 : decode cX5_pass 9 = .ok (.istore_n 3, 1) := dTX5_pass_0_ok 6 (9, .istore_n 3, 1) rfl
theorem dX5_pass_10 : decode cX5_pass 10 = .ok (.iload_n 3, 1) := dTX5_pass_0_ok 7 (10, .iload_n 3, 1) rfl
theorem dX5_pass_11 : decode cX5_pass 11 = .ok (.iload_n 1, 1) := dTX5_pass_0_ok 8 (11, .iload_n 1, 1) rfl
theorem dX5_pass_12 : decode cX5_pass 12 = .ok (.if_icmp .ge 19, 3) := dTX5_pass_0_ok 9 (12, .if_icmp .ge 19, 3) rfl
theorem dX5_pass_15 : decode cX5_pass 15 = .ok (.iload_n 2, 1) := dTX5_pass_0_ok 10 (15, .iload_n 2, 1) rfl
theorem dX5_pass_16 : decode cX5_pass 16 = .ok (.aload_n 0, 1) := dTX5_pass_0_ok 11 (16, .aload_n 0, 1) rfl
theorem dX5_pass_17 : decode cX5_pass 17 = .ok (.getfield 10, 3) := dTX5_pass_0_ok 12 (17, .getfield 10, 3) rfl
theorem dX5_pass_20 : decode cX5_pass 20 = .ok (.invokevirtual 162, 3) := dTX5_pass_0_ok 13 (20, .invokevirtual 162, 3) rfl
theorem dX5_pass_23 : decode cX5_pass 23 = .ok (.iadd, 1) := dTX5_pass_0_ok 14 (23, .iadd, 1) rfl
theorem dX5_pass_24 : decode cX5_pass 24 = .ok (.istore_n 2, 1) := dTX5_pass_0_ok 15 (24, .istore_n 2, 1) rfl
theorem dX5_pass_25 : decode cX5_pass 25 = .ok (.iinc 3 1, 3) := dTX5_pass_0_ok 16 (25, .iinc 3 1, 3) rfl
theorem dX5_pass_28 : decode cX5_pass 28 = .ok (.goto (-18), 3) := dTX5_pass_0_ok 17 (28, .goto (-18), 3) rfl
theorem dX5_pass_31 : decode cX5_pass 31 = .ok (.iload_n 2, 1) := dTX5_pass_0_ok 18 (31, .iload_n 2, 1) rfl
theorem dX5_pass_32 : decode cX5_pass 32 = .ok (.ireturn, 1) := dTX5_pass_0_ok 19 (32, .ireturn, 1) rfl
noncomputable def dTX5_foresee_0 : List (Nat × Instr × Nat) := [(0, .iload_n 1, 1), (1, .bipush 40, 2), (3, .invokestatic 159, 3), (6, .iload_n 2, 1), (7, .iconst 4, 1), (8, .invokestatic 134, 3), (11, .aload_n 0, 1), (12, .iload_n 1, 1), (13, .iconst (-1), 1), (14, .invokevirtual 165, 3), (17, .istore_n 3, 1), (18, .iload_n 2, 1), (19, .tableswitch 49 0 2 #[25, 27, 38], 25), (44, .iload_n 3, 1), (45, .ireturn, 1), (46, .aload_n 0, 1), (47, .getfield 16, 3), (50, .getfield 40, 3), (53, .invokevirtual 168, 3), (56, .ireturn, 1), (57, .aload_n 0, 1), (58, .getfield 16, 3), (61, .getfield 40, 3), (64, .invokevirtual 171, 3), (67, .ireturn, 1), (68, .aload_n 0, 1), (69, .getfield 16, 3), (72, .invokevirtual 174, 3), (75, .ireturn, 1)]
theorem dTX5_foresee_0_ok : ∀ (k : Nat) (q : Nat × Instr × Nat), dTX5_foresee_0[k]? = some q → decode cX5_foresee q.1 = .ok q.2 := dT_of (by decide +kernel)
theorem dX5_foresee_0 : decode cX5_foresee 0 = .ok (.iload_n 1, 1) := dTX5_foresee_0_ok 0 (0, .iload_n 1, 1) rfl
theorem dX5_foresee_1 : decode cX5_foresee 1 = .ok (.bipush 40, 2) := dTX5_foresee_0_ok 1 (1, .bipush 40, 2) rfl
theorem dX5_foresee_3 : decode cX5_foresee 3 = .ok (.invokestatic 159, 3) := dTX5_foresee_0_ok 2 (3, .invokestatic 159, 3) rfl
theorem dX5_foresee_6 : decode cX5_foresee 6 = .ok (.iload_n 2, 1) := dTX5_foresee_0_ok 3 (6, .iload_n 2, 1) rfl
theorem dX5_foresee_7 : decode cX5_foresee 7 = .ok (.iconst 4, 1) := dTX5_foresee_0_ok 4 (7, .iconst 4, 1) rfl
theorem dX5_foresee_8 : decode cX5_foresee 8 = .ok (.invokestatic 134, 3) := dTX5_foresee_0_ok 5 (8, .invokestatic 134, 3) rfl
theorem dX5_foresee_11 : decode cX5_foresee 11 = .ok (.aload_n 0, 1) := dTX5_foresee_0_ok 6 (11, .aload_n 0, 1) rfl
theorem dX5_foresee_12 : decode cX5_foresee 12 = .ok (.iload_n 1, 1) := dTX5_foresee_0_ok 7 (12, .iload_n 1, 1) rfl
theorem dX5_foresee_13 : decode cX5_foresee 13 = .ok (.iconst (-1), 1) := dTX5_foresee_0_ok 8 (13, .iconst (-1), 1) rfl
theorem dX5_foresee_14 : decode cX5_foresee 14 = .ok (.invokevirtual 165, 3) := dTX5_foresee_0_ok 9 (14, .invokevirtual 165, 3) rfl
theorem dX5_foresee_17 : decode cX5_foresee 17 = .ok (.istore_n 3, 1) := dTX5_foresee_0_ok 10 (17, .istore_n 3, 1) rfl
theorem dX5_foresee_18 : decode cX5_foresee 18 = .ok (.iload_n 2, 1) := dTX5_foresee_0_ok 11 (18, .iload_n 2, 1) rfl
theorem dX5_foresee_19 : decode cX5_foresee 19 = .ok (.tableswitch 49 0 2 #[25, 27, 38], 25) := dTX5_foresee_0_ok 12 (19, .tableswitch 49 0 2 #[25, 27, 38], 25) rfl
theorem dX5_foresee_44 : decode cX5_foresee 44 = .ok (.iload_n 3, 1) := dTX5_foresee_0_ok 13 (44, .iload_n 3, 1) rfl
theorem dX5_foresee_45 : decode cX5_foresee 45 = .ok (.ireturn, 1) := dTX5_foresee_0_ok 14 (45, .ireturn, 1) rfl
theorem dX5_foresee_46 : decode cX5_foresee 46 = .ok (.aload_n 0, 1) := dTX5_foresee_0_ok 15 (46, .aload_n 0, 1) rfl
theorem dX5_foresee_47 : decode cX5_foresee 47 = .ok (.getfield 16, 3) := dTX5_foresee_0_ok 16 (47, .getfield 16, 3) rfl
theorem dX5_foresee_50 : decode cX5_foresee 50 = .ok (.getfield 40, 3) := dTX5_foresee_0_ok 17 (50, .getfield 40, 3) rfl
theorem dX5_foresee_53 : decode cX5_foresee 53 = .ok (.invokevirtual 168, 3) := dTX5_foresee_0_ok 18 (53, .invokevirtual 168, 3) rfl
theorem dX5_foresee_56 : decode cX5_foresee 56 = .ok (.ireturn, 1) := dTX5_foresee_0_ok 19 (56, .ireturn, 1) rfl
theorem dX5_foresee_57 : decode cX5_foresee 57 = .ok (.aload_n 0, 1) := dTX5_foresee_0_ok 20 (57, .aload_n 0, 1) rfl
theorem dX5_foresee_58 : decode cX5_foresee 58 = .ok (.getfield 16, 3) := dTX5_foresee_0_ok 21 (58, .getfield 16, 3) rfl
theorem dX5_foresee_61 : decode cX5_foresee 61 = .ok (.getfield 40, 3) := dTX5_foresee_0_ok 22 (61, .getfield 40, 3) rfl
theorem dX5_foresee_64 : decode cX5_foresee 64 = .ok (.invokevirtual 171, 3) := dTX5_foresee_0_ok 23 (64, .invokevirtual 171, 3) rfl
theorem dX5_foresee_67 : decode cX5_foresee 67 = .ok (.ireturn, 1) := dTX5_foresee_0_ok 24 (67, .ireturn, 1) rfl
theorem dX5_foresee_68 : decode cX5_foresee 68 = .ok (.aload_n 0, 1) := dTX5_foresee_0_ok 25 (68, .aload_n 0, 1) rfl
theorem dX5_foresee_69 : decode cX5_foresee 69 = .ok (.getfield 16, 3) := dTX5_foresee_0_ok 26 (69, .getfield 16, 3) rfl
theorem dX5_foresee_72 : decode cX5_foresee 72 = .ok (.invokevirtual 174, 3) := dTX5_foresee_0_ok 27 (72, .invokevirtual 174, 3) rfl
theorem dX5_foresee_75 : decode cX5_foresee 75 = .ok (.ireturn, 1) := dTX5_foresee_0_ok 28 (75, .ireturn, 1) rfl
noncomputable def dTX5_reaches_0 : List (Nat × Instr × Nat) := [(0, .iload_n 1, 1), (1, .iload_n 2, 1), (2, .invokestatic 19, 3), (5, .istore 4, 2), (7, .iload_n 3, 1), (8, .ifCond .lt 9, 3), (11, .iload_n 3, 1), (12, .bipush 99, 2), (14, .if_icmp .le 13, 3), (17, .new 53, 3), (20, .dup, 1), (21, .ldc 177, 2), (23, .invokespecial 57, 3), (26, .athrow, 1), (27, .aload_n 0, 1), (28, .getfield 10, 3), (31, .getfield 40, 3), (34, .iload 4, 2), (36, .invokevirtual 179, 3), (39, .ifCond .ne 5, 3), (42, .iconst (-1), 1), (43, .ireturn, 1), (44, .aload_n 0, 1), (45, .getfield 16, 3), (48, .aload_n 0, 1), (49, .getfield 10, 3), (52, .invokevirtual 182, 3), (55, .iconst 0, 1), (56, .istore 5, 2), (58, .iload 5, 2), (60, .bipush 60, 2), (62, .if_icmp .ge 36, 3), (65, .aload_n 0, 1), (66, .getfield 16, 3), (69, .getfield 40, 3), (72, .iload 4, 2), (74, .invokevirtual 186, 3), (77, .iload_n 3, 1), (78, .if_icmp .ne 6, 3), (81, .iload 5, 2), (83, .ireturn, 1), (84, .aload_n 0, 1), (85, .getfield 16, 3), (88, .invokevirtual 162, 3), (91, .pop, 1), (92, .iinc 5 1, 3), (95, .goto (-37), 3), (98, .aload_n 0, 1), (99, .getfield 16, 3), (102, .getfield 40, 3), (105, .iload 4, 2), (107, .invokevirtual 186, 3), (110, .iload_n 3, 1), (111, .if_icmp .ne 8, 3), (114, .bipush 60, 2), (116, .goto 4, 3), (119, .iconst (-1), 1), (120, .ireturn, 1)]
theorem dTX5_reaches_0_ok : ∀ (k : Nat) (q : Nat × Instr × Nat), dTX5_reaches_0[k]? = some q → decode cX5_reaches q.1 = .ok q.2 := dT_of (by decide +kernel)
theorem dX5_reaches_0 : decode cX5_reaches 0 = .ok (.iload_n 1, 1) := dTX5_reaches_0_ok 0 (0, .iload_n 1, 1) rfl
theorem dX5_reaches_1 : decode cX5_reaches 1 = .ok (.iload_n 2, 1) := dTX5_reaches_0_ok 1 (1, .iload_n 2, 1) rfl
theorem dX5_reaches_2 : decode cX5_reaches 2 = .ok (.invokestatic 19, 3) := dTX5_reaches_0_ok 2 (2, .invokestatic 19, 3) rfl
theorem dX5_reaches_5 : decode cX5_reaches 5 = .ok (.istore 4, 2) := dTX5_reaches_0_ok 3 (5, .istore 4, 2) rfl
theorem dX5_reaches_7 : decode cX5_reaches 7 = .ok (.iload_n 3, 1) := dTX5_reaches_0_ok 4 (7, .iload_n 3, 1) rfl
theorem dX5_reaches_8 : decode cX5_reaches 8 = .ok (.ifCond .lt 9, 3) := dTX5_reaches_0_ok 5 (8, .ifCond .lt 9, 3) rfl
theorem dX5_reaches_11 : decode cX5_reaches 11 = .ok (.iload_n 3, 1) := dTX5_reaches_0_ok 6 (11, .iload_n 3, 1) rfl
theorem dX5_reaches_12 : decode cX5_reaches 12 = .ok (.bipush 99, 2) := dTX5_reaches_0_ok 7 (12, .bipush 99, 2) rfl
theorem dX5_reaches_14 : decode cX5_reaches 14 = .ok (.if_icmp .le 13, 3) := dTX5_reaches_0_ok 8 (14, .if_icmp .le 13, 3) rfl
theorem dX5_reaches_17 : decode cX5_reaches 17 = .ok (.new 53, 3) := dTX5_reaches_0_ok 9 (17, .new 53, 3) rfl
theorem dX5_reaches_20 : decode cX5_reaches 20 = .ok (.dup, 1) := dTX5_reaches_0_ok 10 (20, .dup, 1) rfl
theorem dX5_reaches_21 : decode cX5_reaches 21 = .ok (.ldc 177, 2) := dTX5_reaches_0_ok 11 (21, .ldc 177, 2) rfl
theorem dX5_reaches_23 : decode cX5_reaches 23 = .ok (.invokespecial 57, 3) := dTX5_reaches_0_ok 12 (23, .invokespecial 57, 3) rfl
theorem dX5_reaches_26 : decode cX5_reaches 26 = .ok (.athrow, 1) := dTX5_reaches_0_ok 13 (26, .athrow, 1) rfl
theorem dX5_reaches_27 : decode cX5_reaches 27 = .ok (.aload_n 0, 1) := dTX5_reaches_0_ok 14 (27, .aload_n 0, 1) rfl
theorem dX5_reaches_28 : decode cX5_reaches 28 = .ok (.getfield 10, 3) := dTX5_reaches_0_ok 15 (28, .getfield 10, 3) rfl
theorem dX5_reaches_31 : decode cX5_reaches 31 = .ok (.getfield 40, 3) := dTX5_reaches_0_ok 16 (31, .getfield 40, 3) rfl
theorem dX5_reaches_34 : decode cX5_reaches 34 = .ok (.iload 4, 2) := dTX5_reaches_0_ok 17 (34, .iload 4, 2) rfl
theorem dX5_reaches_36 : decode cX5_reaches 36 = .ok (.invokevirtual 179, 3) := dTX5_reaches_0_ok 18 (36, .invokevirtual 179, 3) rfl
theorem dX5_reaches_39 : decode cX5_reaches 39 = .ok (.ifCond .ne 5, 3) := dTX5_reaches_0_ok 19 (39, .ifCond .ne 5, 3) rfl
theorem dX5_reaches_42 : decode cX5_reaches 42 = .ok (.iconst (-1), 1) := dTX5_reaches_0_ok 20 (42, .iconst (-1), 1) rfl
theorem dX5_reaches_43 : decode cX5_reaches 43 = .ok (.ireturn, 1) := dTX5_reaches_0_ok 21 (43, .ireturn, 1) rfl
theorem dX5_reaches_44 : decode cX5_reaches 44 = .ok (.aload_n 0, 1) := dTX5_reaches_0_ok 22 (44, .aload_n 0, 1) rfl
theorem dX5_reaches_45 : decode cX5_reaches 45 = .ok (.getfield 16, 3) := dTX5_reaches_0_ok 23 (45, .getfield 16, 3) rfl
theorem dX5_reaches_48 : decode cX5_reaches 48 = .ok (.aload_n 0, 1) := dTX5_reaches_0_ok 24 (48, .aload_n 0, 1) rfl
theorem dX5_reaches_49 : decode cX5_reaches 49 = .ok (.getfield 10, 3) := dTX5_reaches_0_ok 25 (49, .getfield 10, 3) rfl
theorem dX5_reaches_52 : decode cX5_reaches 52 = .ok (.invokevirtual 182, 3) := dTX5_reaches_0_ok 26 (52, .invokevirtual 182, 3) rfl
theorem dX5_reaches_55 : decode cX5_reaches 55 = .ok (.iconst 0, 1) := dTX5_reaches_0_ok 27 (55, .iconst 0, 1) rfl
theorem dX5_reaches_56 : decode cX5_reaches 56 = .ok (.istore 5, 2) := dTX5_reaches_0_ok 28 (56, .istore 5, 2) rfl
theorem dX5_reaches_58 : decode cX5_reaches 58 = .ok (.iload 5, 2) := dTX5_reaches_0_ok 29 (58, .iload 5, 2) rfl
theorem dX5_reaches_60 : decode cX5_reaches 60 = .ok (.bipush 60, 2) := dTX5_reaches_0_ok 30 (60, .bipush 60, 2) rfl
theorem dX5_reaches_62 : decode cX5_reaches 62 = .ok (.if_icmp .ge 36, 3) := dTX5_reaches_0_ok 31 (62, .if_icmp .ge 36, 3) rfl
theorem dX5_reaches_65 : decode cX5_reaches 65 = .ok (.aload_n 0, 1) := dTX5_reaches_0_ok 32 (65, .aload_n 0, 1) rfl
theorem dX5_reaches_66 : decode cX5_reaches 66 = .ok (.getfield 16, 3) := dTX5_reaches_0_ok 33 (66, .getfield 16, 3) rfl
theorem dX5_reaches_69 : decode cX5_reaches 69 = .ok (.getfield 40, 3) := dTX5_reaches_0_ok 34 (69, .getfield 40, 3) rfl
theorem dX5_reaches_72 : decode cX5_reaches 72 = .ok (.iload 4, 2) := dTX5_reaches_0_ok 35 (72, .iload 4, 2) rfl
theorem dX5_reaches_74 : decode cX5_reaches 74 = .ok (.invokevirtual 186, 3) := dTX5_reaches_0_ok 36 (74, .invokevirtual 186, 3) rfl
theorem dX5_reaches_77 : decode cX5_reaches 77 = .ok (.iload_n 3, 1) := dTX5_reaches_0_ok 37 (77, .iload_n 3, 1) rfl
theorem dX5_reaches_78 : decode cX5_reaches 78 = .ok (.if_icmp .ne 6, 3) := dTX5_reaches_0_ok 38 (78, .if_icmp .ne 6, 3) rfl
theorem dX5_reaches_81 : decode cX5_reaches 81 = .ok (.iload 5, 2) := dTX5_reaches_0_ok 39 (81, .iload 5, 2) rfl
theorem dX5_reaches_83 : decode cX5_reaches 83 = .ok (.ireturn, 1) := dTX5_reaches_0_ok 40 (83, .ireturn, 1) rfl
theorem dX5_reaches_84 : decode cX5_reaches 84 = .ok (.aload_n 0, 1) := dTX5_reaches_0_ok 41 (84, .aload_n 0, 1) rfl
theorem dX5_reaches_85 : decode cX5_reaches 85 = .ok (.getfield 16, 3) := dTX5_reaches_0_ok 42 (85, .getfield 16, 3) rfl
theorem dX5_reaches_88 : decode cX5_reaches 88 = .ok (.invokevirtual 162, 3) := dTX5_reaches_0_ok 43 (88, .invokevirtual 162, 3) rfl
theorem dX5_reaches_91 : decode cX5_reaches 91 = .ok (.pop, 1) := dTX5_reaches_0_ok 44 (91, .pop, 1) rfl
theorem dX5_reaches_92 : decode cX5_reaches 92 = .ok (.iinc 5 1, 3) := dTX5_reaches_0_ok 45 (92, .iinc 5 1, 3) rfl
theorem dX5_reaches_95 : decode cX5_reaches 95 = .ok (.goto (-37), 3) := dTX5_reaches_0_ok 46 (95, .goto (-37), 3) rfl
theorem dX5_reaches_98 : decode cX5_reaches 98 = .ok (.aload_n 0, 1) := dTX5_reaches_0_ok 47 (98, .aload_n 0, 1) rfl
theorem dX5_reaches_99 : decode cX5_reaches 99 = .ok (.getfield 16, 3) := dTX5_reaches_0_ok 48 (99, .getfield 16, 3) rfl
theorem dX5_reaches_102 : decode cX5_reaches 102 = .ok (.getfield 40, 3) := dTX5_reaches_0_ok 49 (102, .getfield 40, 3) rfl
theorem dX5_reaches_105 : decode cX5_reaches 105 = .ok (.iload 4, 2) := dTX5_reaches_0_ok 50 (105, .iload 4, 2) rfl
theorem dX5_reaches_107 : decode cX5_reaches 107 = .ok (.invokevirtual 186, 3) := dTX5_reaches_0_ok 51 (107, .invokevirtual 186, 3) rfl
theorem dX5_reaches_110 : decode cX5_reaches 110 = .ok (.iload_n 3, 1) := dTX5_reaches_0_ok 52 (110, .iload_n 3, 1) rfl
theorem dX5_reaches_111 : decode cX5_reaches 111 = .ok (.if_icmp .ne 8, 3) := dTX5_reaches_0_ok 53 (111, .if_icmp .ne 8, 3) rfl
theorem dX5_reaches_114 : decode cX5_reaches 114 = .ok (.bipush 60, 2) := dTX5_reaches_0_ok 54 (114, .bipush 60, 2) rfl
theorem dX5_reaches_116 : decode cX5_reaches 116 = .ok (.goto 4, 3) := dTX5_reaches_0_ok 55 (116, .goto 4, 3) rfl
theorem dX5_reaches_119 : decode cX5_reaches 119 = .ok (.iconst (-1), 1) := dTX5_reaches_0_ok 56 (119, .iconst (-1), 1) rfl
theorem dX5_reaches_120 : decode cX5_reaches 120 = .ok (.ireturn, 1) := dTX5_reaches_0_ok 57 (120, .ireturn, 1) rfl
noncomputable def dTX5_advise_0 : List (Nat × Instr × Nat) := [(0, .iload_n 1, 1), (1, .bipush 8, 2), (3, .invokestatic 159, 3), (6, .aload_n 0, 1), (7, .iload_n 1, 1), (8, .iconst (-1), 1), (9, .invokevirtual 165, 3), (12, .istore_n 2, 1), (13, .iconst (-1), 1), (14, .istore_n 3, 1), (15, .iconst 0, 1), (16, .istore 4, 2), (18, .iload 4, 2), (20, .bipush 63, 2), (22, .if_icmp .ge 45, 3), (25, .aload_n 0, 1), (26, .getfield 10, 3), (29, .getfield 40, 3), (32, .iload 4, 2), (34, .invokevirtual 91, 3), (37, .ifCond .eq 24, 3), (40, .aload_n 0, 1), (41, .iload_n 1, 1), (42, .iload 4, 2), (44, .invokevirtual 165, 3), (47, .istore 5, 2), (49, .iload 5, 2), (51, .iload_n 2, 1), (52, .if_icmp .ge 9, 3), (55, .iload 5, 2), (57, .istore_n 2, 1), (58, .iload 4, 2), (60, .istore_n 3, 1), (61, .iinc 4 1, 3), (64, .goto (-46), 3), (67, .iload_n 3, 1), (68, .ireturn, 1)]
theorem dTX5_advise_0_ok : ∀ (k : Nat) (q : Nat × Instr × Nat), dTX5_advise_0[k]? = some q → decode cX5_advise q.1 = .ok q.2 := dT_of (by decide +kernel)
theorem dX5_advise_0 : decode cX5_advise 0 = .ok (.iload_n 1, 1) := dTX5_advise_0_ok 0 (0, .iload_n 1, 1) rfl
theorem dX5_advise_1 : decode cX5_advise 1 = .ok (.bipush 8, 2) := dTX5_advise_0_ok 1 (1, .bipush 8, 2) rfl
theorem dX5_advise_3 : decode cX5_advise 3 = .ok (.invokestatic 159, 3) := dTX5_advise_0_ok 2 (3, .invokestatic 159, 3) rfl
theorem dX5_advise_6 : decode cX5_advise 6 = .ok (.aload_n 0, 1) := dTX5_advise_0_ok 3 (6, .aload_n 0, 1) rfl
theorem dX5_advise_7 : decode cX5_advise 7 = .ok (.iload_n 1, 1) := dTX5_advise_0_ok 4 (7, .iload_n 1, 1) rfl
theorem dX5_advise_8 : decode cX5_advise 8 = .ok (.iconst (-1), 1) := dTX5_advise_0_ok 5 (8, .iconst (-1), 1) rfl
theorem dX5_advise_9 : decode cX5_advise 9 = .ok (.invokevirtual 165, 3) := dTX5_advise_0_ok 6 (9, .invokevirtual 165, 3) rfl
theorem dX5_advise_12 : decode cX5_advise 12 = .ok (.istore_n 2, 1) := dTX5_advise_0_ok 7 (12, .istore_n 2, 1) rfl
theorem dX5_advise_13 : decode cX5_advise 13 = .ok (.iconst (-1), 1) := dTX5_advise_0_ok 8 (13, .iconst (-1), 1) rfl
theorem dX5_advise_14 : decode cX5_advise 14 = .ok (.istore_n 3, 1) := dTX5_advise_0_ok 9 (14, .istore_n 3, 1) rfl
theorem dX5_advise_15 : decode cX5_advise 15 = .ok (.iconst 0, 1) := dTX5_advise_0_ok 10 (15, .iconst 0, 1) rfl
theorem dX5_advise_16 : decode cX5_advise 16 = .ok (.istore 4, 2) := dTX5_advise_0_ok 11 (16, .istore 4, 2) rfl
theorem dX5_advise_18 : decode cX5_advise 18 = .ok (.iload 4, 2) := dTX5_advise_0_ok 12 (18, .iload 4, 2) rfl
theorem dX5_advise_20 : decode cX5_advise 20 = .ok (.bipush 63, 2) := dTX5_advise_0_ok 13 (20, .bipush 63, 2) rfl
theorem dX5_advise_22 : decode cX5_advise 22 = .ok (.if_icmp .ge 45, 3) := dTX5_advise_0_ok 14 (22, .if_icmp .ge 45, 3) rfl
theorem dX5_advise_25 : decode cX5_advise 25 = .ok (.aload_n 0, 1) := dTX5_advise_0_ok 15 (25, .aload_n 0, 1) rfl
theorem dX5_advise_26 : decode cX5_advise 26 = .ok (.getfield 10, 3) := dTX5_advise_0_ok 16 (26, .getfield 10, 3) rfl
theorem dX5_advise_29 : decode cX5_advise 29 = .ok (.getfield 40, 3) := dTX5_advise_0_ok 17 (29, .getfield 40, 3) rfl
theorem dX5_advise_32 : decode cX5_advise 32 = .ok (.iload 4, 2) := dTX5_advise_0_ok 18 (32, .iload 4, 2) rfl
theorem dX5_advise_34 : decode cX5_advise 34 = .ok (.invokevirtual 91, 3) := dTX5_advise_0_ok 19 (34, .invokevirtual 91, 3) rfl
theorem dX5_advise_37 : decode cX5_advise 37 = .ok (.ifCond .eq 24, 3) := dTX5_advise_0_ok 20 (37, .ifCond .eq 24, 3) rfl
theorem dX5_advise_40 : decode cX5_advise 40 = .ok (.aload_n 0, 1) := dTX5_advise_0_ok 21 (40, .aload_n 0, 1) rfl
theorem dX5_advise_41 : decode cX5_advise 41 = .ok (.iload_n 1, 1) := dTX5_advise_0_ok 22 (41, .iload_n 1, 1) rfl
theorem dX5_advise_42 : decode cX5_advise 42 = .ok (.iload 4, 2) := dTX5_advise_0_ok 23 (42, .iload 4, 2) rfl
theorem dX5_advise_44 : decode cX5_advise 44 = .ok (.invokevirtual 165, 3) := dTX5_advise_0_ok 24 (44, .invokevirtual 165, 3) rfl
theorem dX5_advise_47 : decode cX5_advise 47 = .ok (.istore 5, 2) := dTX5_advise_0_ok 25 (47, .istore 5, 2) rfl
theorem dX5_advise_49 : decode cX5_advise 49 = .ok (.iload 5, 2) := dTX5_advise_0_ok 26 (49, .iload 5, 2) rfl
theorem dX5_advise_51 : decode cX5_advise 51 = .ok (.iload_n 2, 1) := dTX5_advise_0_ok 27 (51, .iload_n 2, 1) rfl
theorem dX5_advise_52 : decode cX5_advise 52 = .ok (.if_icmp .ge 9, 3) := dTX5_advise_0_ok 28 (52, .if_icmp .ge 9, 3) rfl
theorem dX5_advise_55 : decode cX5_advise 55 = .ok (.iload 5, 2) := dTX5_advise_0_ok 29 (55, .iload 5, 2) rfl
theorem dX5_advise_57 : decode cX5_advise 57 = .ok (.istore_n 2, 1) := dTX5_advise_0_ok 30 (57, .istore_n 2, 1) rfl
theorem dX5_advise_58 : decode cX5_advise 58 = .ok (.iload 4, 2) := dTX5_advise_0_ok 31 (58, .iload 4, 2) rfl
theorem dX5_advise_60 : decode cX5_advise 60 = .ok (.istore_n 3, 1) := dTX5_advise_0_ok 32 (60, .istore_n 3, 1) rfl
theorem dX5_advise_61 : decode cX5_advise 61 = .ok (.iinc 4 1, 3) := dTX5_advise_0_ok 33 (61, .iinc 4 1, 3) rfl
theorem dX5_advise_64 : decode cX5_advise 64 = .ok (.goto (-46), 3) := dTX5_advise_0_ok 34 (64, .goto (-46), 3) rfl
theorem dX5_advise_67 : decode cX5_advise 67 = .ok (.iload_n 3, 1) := dTX5_advise_0_ok 35 (67, .iload_n 3, 1) rfl
theorem dX5_advise_68 : decode cX5_advise 68 = .ok (.ireturn, 1) := dTX5_advise_0_ok 36 (68, .ireturn, 1) rfl
noncomputable def dTX5_mean_0 : List (Nat × Instr × Nat) := [(0, .aload_n 0, 1), (1, .getfield 10, 3), (4, .getfield 40, 3), (7, .invokevirtual 76, 3), (10, .istore_n 1, 1), (11, .iload_n 1, 1), (12, .ifCond .ne 7, 3), (15, .dconst 0, 1), (16, .goto 17, 3), (19, .aload_n 0, 1), (20, .getfield 10, 3), (23, .getfield 40, 3), (26, .invokevirtual 189, 3), (29, .i2d, 1), (30, .iload_n 1, 1), (31, .i2d, 1), (32, .ddiv, 1), (33, .dreturn, 1)]
theorem dTX5_mean_0_ok : ∀ (k : Nat) (q : Nat × Instr × Nat), dTX5_mean_0[k]? = some q → decode cX5_mean q.1 = .ok q.2 := dT_of (by decide +kernel)
theorem dX5_mean_0 : decode cX5_mean 0 = .ok (.aload_n 0, 1) := dTX5_mean_0_ok 0 (0, .aload_n 0, 1) rfl
theorem dX5_mean_1 : decode cX5_mean 1 = .ok (.getfield 10, 3) := dTX5_mean_0_ok 1 (1, .getfield 10, 3) rfl
theorem dX5_mean_4 : decode cX5_mean 4 = .ok (.getfield 40, 3) := dTX5_mean_0_ok 2 (4, .getfield 40, 3) rfl
theorem dX5_mean_7 : decode cX5_mean 7 = .ok (.invokevirtual 76, 3) := dTX5_mean_0_ok 3 (7, .invokevirtual 76, 3) rfl
theorem dX5_mean_10 : decode cX5_mean 10 = .ok (.istore_n 1, 1) := dTX5_mean_0_ok 4 (10, .istore_n 1, 1) rfl
theorem dX5_mean_11 : decode cX5_mean 11 = .ok (.iload_n 1, 1) := dTX5_mean_0_ok 5 (11, .iload_n 1, 1) rfl
theorem dX5_mean_12 : decode cX5_mean 12 = .ok (.ifCond .ne 7, 3) := dTX5_mean_0_ok 6 (12, .ifCond .ne 7, 3) rfl
theorem dX5_mean_15 : decode cX5_mean 15 = .ok (.dconst 0, 1) := dTX5_mean_0_ok 7 (15, .dconst 0, 1) rfl
theorem dX5_mean_16 : decode cX5_mean 16 = .ok (.goto 17, 3) := dTX5_mean_0_ok 8 (16, .goto 17, 3) rfl
theorem dX5_mean_19 : decode cX5_mean 19 = .ok (.aload_n 0, 1) := dTX5_mean_0_ok 9 (19, .aload_n 0, 1) rfl
theorem dX5_mean_20 : decode cX5_mean 20 = .ok (.getfield 10, 3) := dTX5_mean_0_ok 10 (20, .getfield 10, 3) rfl
theorem dX5_mean_23 : decode cX5_mean 23 = .ok (.getfield 40, 3) := dTX5_mean_0_ok 11 (23, .getfield 40, 3) rfl
theorem dX5_mean_26 : decode cX5_mean 26 = .ok (.invokevirtual 189, 3) := dTX5_mean_0_ok 12 (26, .invokevirtual 189, 3) rfl
theorem dX5_mean_29 : decode cX5_mean 29 = .ok (.i2d, 1) := dTX5_mean_0_ok 13 (29, .i2d, 1) rfl
theorem dX5_mean_30 : decode cX5_mean 30 = .ok (.iload_n 1, 1) := dTX5_mean_0_ok 14 (30, .iload_n 1, 1) rfl
theorem dX5_mean_31 : decode cX5_mean 31 = .ok (.i2d, 1) := dTX5_mean_0_ok 15 (31, .i2d, 1) rfl
theorem dX5_mean_32 : decode cX5_mean 32 = .ok (.ddiv, 1) := dTX5_mean_0_ok 16 (32, .ddiv, 1) rfl
theorem dX5_mean_33 : decode cX5_mean 33 = .ok (.dreturn, 1) := dTX5_mean_0_ok 17 (33, .dreturn, 1) rfl
noncomputable def dTX5_digest_0 : List (Nat × Instr × Nat) := [(0, .ldc2_w 192, 3), (3, .lstore_n 1, 1), (4, .iconst 0, 1), (5, .istore_n 3, 1), (6, .iload_n 3, 1), (7, .bipush 10, 2), (9, .if_icmp .ge 25, 3), (12, .lload_n 1, 1), (13, .ldc2_w 194, 3), (16, .lmul, 1), (17, .aload_n 0, 1), (18, .getfield 10, 3), (21, .iload_n 3, 1), (22, .invokevirtual 143, 3), (25, .i2l, 1), (26, .ladd, 1), (27, .lstore_n 1, 1), (28, .iinc 3 1, 3), (31, .goto (-25), 3), (34, .iconst 0, 1), (35, .istore_n 3, 1), (36, .iload_n 3, 1), (37, .bipush 63, 2), (39, .if_icmp .ge 98, 3), (42, .iconst 0, 1), (43, .istore 4, 2), (45, .iload 4, 2), (47, .iconst 5, 1), (48, .if_icmp .ge 27, 3), (51, .lload_n 1, 1), (52, .ldc2_w 194, 3), (55, .lmul, 1), (56, .aload_n 0, 1), (57, .getfield 10, 3), (60, .iload_n 3, 1), (61, .iload 4, 2), (63, .invokevirtual 137, 3), (66, .i2l, 1), (67, .ladd, 1), (68, .lstore_n 1, 1), (69, .iinc 4 1, 3), (72, .goto (-27), 3), (75, .lload_n 1, 1), (76, .ldc2_w 194, 3), (79, .lmul, 1), (80, .aload_n 0, 1), (81, .getfield 10, 3), (84, .getfield 40, 3), (87, .iload_n 3, 1), (88, .iconst 1, 1), (89, .invokevirtual 50, 3), (92, .ifCond .eq 7, 3), (95, .iconst 1, 1), (96, .goto 4, 3), (99, .iconst 0, 1), (100, .i2l, 1), (101, .ladd, 1), (102, .lstore_n 1, 1), (103, .lload_n 1, 1), (104, .ldc2_w 194, 3)]
theorem dTX5_digest_0_ok : ∀ (k : Nat) (q : Nat × Instr × Nat), dTX5_digest_0[k]? = some q → decode cX5_digest q.1 = .ok q.2 := dT_of (by decide +kernel)
theorem dX5_digest_0 : decode cX5_digest 0 = .ok (.ldc2_w 192, 3) := dTX5_digest_0_ok 0 (0, .ldc2_w 192, 3) rfl
theorem dX5_digest_3 : decode cX5_digest 3 = .ok (.lstore_n 1, 1) := dTX5_digest_0_ok 1 (3, .lstore_n 1, 1) rfl
theorem dX5_digest_4 : decode cX5_digest 4 = .ok (.iconst 0, 1) := dTX5_digest_0_ok 2 (4, .iconst 0, 1) rfl
theorem dX5_digest_5 : decode cX5_digest 5 = .ok (.istore_n 3, 1) := dTX5_digest_0_ok 3 (5, .istore_n 3, 1) rfl
theorem dX5_digest_6 : decode cX5_digest 6 = .ok (.iload_n 3, 1) := dTX5_digest_0_ok 4 (6, .iload_n 3, 1) rfl
theorem dX5_digest_7 : decode cX5_digest 7 = .ok (.bipush 10, 2) := dTX5_digest_0_ok 5 (7, .bipush 10, 2) rfl
theorem dX5_digest_9 : decode cX5_digest 9 = .ok (.if_icmp .ge 25, 3) := dTX5_digest_0_ok 6 (9, .if_icmp .ge 25, 3) rfl
theorem dX5_digest_12 : decode cX5_digest 12 = .ok (.lload_n 1, 1) := dTX5_digest_0_ok 7 (12, .lload_n 1, 1) rfl
theorem dX5_digest_13 : decode cX5_digest 13 = .ok (.ldc2_w 194, 3) := dTX5_digest_0_ok 8 (13, .ldc2_w 194, 3) rfl
theorem dX5_digest_16 : decode cX5_digest 16 = .ok (.lmul, 1) := dTX5_digest_0_ok 9 (16, .lmul, 1) rfl
theorem dX5_digest_17 : decode cX5_digest 17 = .ok (.aload_n 0, 1) := dTX5_digest_0_ok 10 (17, .aload_n 0, 1) rfl
theorem dX5_digest_18 : decode cX5_digest 18 = .ok (.getfield 10, 3) := dTX5_digest_0_ok 11 (18, .getfield 10, 3) rfl
theorem dX5_digest_21 : decode cX5_digest 21 = .ok (.iload_n 3, 1) := dTX5_digest_0_ok 12 (21, .iload_n 3, 1) rfl
theorem dX5_digest_22 : decode cX5_digest 22 = .ok (.invokevirtual 143, 3) := dTX5_digest_0_ok 13 (22, .invokevirtual 143, 3) rfl
theorem dX5_digest_25 : decode cX5_digest 25 = .ok (.i2l, 1) := dTX5_digest_0_ok 14 (25, .i2l, 1) rfl
theorem dX5_digest_26 : decode cX5_digest 26 = .ok (.ladd, 1) := dTX5_digest_0_ok 15 (26, .ladd, 1) rfl
theorem dX5_digest_27 : decode cX5_digest 27 = .ok (.lstore_n 1, 1) := dTX5_digest_0_ok 16 (27, .lstore_n 1, 1) rfl
theorem dX5_digest_28 : decode cX5_digest 28 = .ok (.iinc 3 1, 3) := dTX5_digest_0_ok 17 (28, .iinc 3 1, 3) rfl
theorem dX5_digest_31 : decode cX5_digest 31 = .ok (.goto (-25), 3) := dTX5_digest_0_ok 18 (31, .goto (-25), 3) rfl
theorem dX5_digest_34 : decode cX5_digest 34 = .ok (.iconst 0, 1) := dTX5_digest_0_ok 19 (34, .iconst 0, 1) rfl
theorem dX5_digest_35 : decode cX5_digest 35 = .ok (.istore_n 3, 1) := dTX5_digest_0_ok 20 (35, .istore_n 3, 1) rfl
theorem dX5_digest_36 : decode cX5_digest 36 = .ok (.iload_n 3, 1) := dTX5_digest_0_ok 21 (36, .iload_n 3, 1) rfl
theorem dX5_digest_37 : decode cX5_digest 37 = .ok (.bipush 63, 2) := dTX5_digest_0_ok 22 (37, .bipush 63, 2) rfl
theorem dX5_digest_39 : decode cX5_digest 39 = .ok (.if_icmp .ge 98, 3) := dTX5_digest_0_ok 23 (39, .if_icmp .ge 98, 3) rfl
theorem dX5_digest_42 : decode cX5_digest 42 = .ok (.iconst 0, 1) := dTX5_digest_0_ok 24 (42, .iconst 0, 1) rfl
theorem dX5_digest_43 : decode cX5_digest 43 = .ok (.istore 4, 2) := dTX5_digest_0_ok 25 (43, .istore 4, 2) rfl
theorem dX5_digest_45 : decode cX5_digest 45 = .ok (.iload 4, 2) := dTX5_digest_0_ok 26 (45, .iload 4, 2) rfl
theorem dX5_digest_47 : decode cX5_digest 47 = .ok (.iconst 5, 1) := dTX5_digest_0_ok 27 (47, .iconst 5, 1) rfl
theorem dX5_digest_48 : decode cX5_digest 48 = .ok (.if_icmp .ge 27, 3) := dTX5_digest_0_ok 28 (48, .if_icmp .ge 27, 3) rfl
theorem dX5_digest_51 : decode cX5_digest 51 = .ok (.lload_n 1, 1) := dTX5_digest_0_ok 29 (51, .lload_n 1, 1) rfl
theorem dX5_digest_52 : decode cX5_digest 52 = .ok (.ldc2_w 194, 3) := dTX5_digest_0_ok 30 (52, .ldc2_w 194, 3) rfl
theorem dX5_digest_55 : decode cX5_digest 55 = .ok (.lmul, 1) := dTX5_digest_0_ok 31 (55, .lmul, 1) rfl
theorem dX5_digest_56 : decode cX5_digest 56 = .ok (.aload_n 0, 1) := dTX5_digest_0_ok 32 (56, .aload_n 0, 1) rfl
theorem dX5_digest_57 : decode cX5_digest 57 = .ok (.getfield 10, 3) := dTX5_digest_0_ok 33 (57, .getfield 10, 3) rfl
theorem dX5_digest_60 : decode cX5_digest 60 = .ok (.iload_n 3, 1) := dTX5_digest_0_ok 34 (60, .iload_n 3, 1) rfl
theorem dX5_digest_61 : decode cX5_digest 61 = .ok (.iload 4, 2) := dTX5_digest_0_ok 35 (61, .iload 4, 2) rfl
theorem dX5_digest_63 : decode cX5_digest 63 = .ok (.invokevirtual 137, 3) := dTX5_digest_0_ok 36 (63, .invokevirtual 137, 3) rfl
theorem dX5_digest_66 : decode cX5_digest 66 = .ok (.i2l, 1) := dTX5_digest_0_ok 37 (66, .i2l, 1) rfl
theorem dX5_digest_67 : decode cX5_digest 67 = .ok (.ladd, 1) := dTX5_digest_0_ok 38 (67, .ladd, 1) rfl
theorem dX5_digest_68 : decode cX5_digest 68 = .ok (.lstore_n 1, 1) := dTX5_digest_0_ok 39 (68, .lstore_n 1, 1) rfl
theorem dX5_digest_69 : decode cX5_digest 69 = .ok (.iinc 4 1, 3) := dTX5_digest_0_ok 40 (69, .iinc 4 1, 3) rfl
theorem dX5_digest_72 : decode cX5_digest 72 = .ok (.goto (-27), 3) := dTX5_digest_0_ok 41 (72, .goto (-27), 3) rfl
theorem dX5_digest_75 : decode cX5_digest 75 = .ok (.lload_n 1, 1) := dTX5_digest_0_ok 42 (75, .lload_n 1, 1) rfl
theorem dX5_digest_76 : decode cX5_digest 76 = .ok (.ldc2_w 194, 3) := dTX5_digest_0_ok 43 (76, .ldc2_w 194, 3) rfl
theorem dX5_digest_79 : decode cX5_digest 79 = .ok (.lmul, 1) := dTX5_digest_0_ok 44 (79, .lmul, 1) rfl
theorem dX5_digest_80 : decode cX5_digest 80 = .ok (.aload_n 0, 1) := dTX5_digest_0_ok 45 (80, .aload_n 0, 1) rfl
theorem dX5_digest_81 : decode cX5_digest 81 = .ok (.getfield 10, 3) := dTX5_digest_0_ok 46 (81, .getfield 10, 3) rfl
theorem dX5_digest_84 : decode cX5_digest 84 = .ok (.getfield 40, 3) := dTX5_digest_0_ok 47 (84, .getfield 40, 3) rfl
theorem dX5_digest_87 : decode cX5_digest 87 = .ok (.iload_n 3, 1) := dTX5_digest_0_ok 48 (87, .iload_n 3, 1) rfl
theorem dX5_digest_88 : decode cX5_digest 88 = .ok (.iconst 1, 1) := dTX5_digest_0_ok 49 (88, .iconst 1, 1) rfl
theorem dX5_digest_89 : decode cX5_digest 89 = .ok (.invokevirtual 50, 3) := dTX5_digest_0_ok 50 (89, .invokevirtual 50, 3) rfl
theorem dX5_digest_92 : decode cX5_digest 92 = .ok (.ifCond .eq 7, 3) := dTX5_digest_0_ok 51 (92, .ifCond .eq 7, 3) rfl
theorem dX5_digest_95 : decode cX5_digest 95 = .ok (.iconst 1, 1) := dTX5_digest_0_ok 52 (95, .iconst 1, 1) rfl
theorem dX5_digest_96 : decode cX5_digest 96 = .ok (.goto 4, 3) := dTX5_digest_0_ok 53 (96, .goto 4, 3) rfl
theorem dX5_digest_99 : decode cX5_digest 99 = .ok (.iconst 0, 1) := dTX5_digest_0_ok 54 (99, .iconst 0, 1) rfl
theorem dX5_digest_100 : decode cX5_digest 100 = .ok (.i2l, 1) := dTX5_digest_0_ok 55 (100, .i2l, 1) rfl
theorem dX5_digest_101 : decode cX5_digest 101 = .ok (.ladd, 1) := dTX5_digest_0_ok 56 (101, .ladd, 1) rfl
theorem dX5_digest_102 : decode cX5_digest 102 = .ok (.lstore_n 1, 1) := dTX5_digest_0_ok 57 (102, .lstore_n 1, 1) rfl
theorem dX5_digest_103 : decode cX5_digest 103 = .ok (.lload_n 1, 1) := dTX5_digest_0_ok 58 (103, .lload_n 1, 1) rfl
theorem dX5_digest_104 : decode cX5_digest 104 = .ok (.ldc2_w 194, 3) := dTX5_digest_0_ok 59 (104, .ldc2_w 194, 3) rfl
noncomputable def dTX5_digest_1 : List (Nat × Instr × Nat) := [(107, .lmul, 1), (108, .aload_n 0, 1), (109, .getfield 10, 3), (112, .getfield 40, 3), (115, .iload_n 3, 1), (116, .iconst 2, 1), (117, .invokevirtual 50, 3), (120, .ifCond .eq 7, 3), (123, .iconst 1, 1), (124, .goto 4, 3), (127, .iconst 0, 1), (128, .i2l, 1), (129, .ladd, 1), (130, .lstore_n 1, 1), (131, .iinc 3 1, 3), (134, .goto (-98), 3), (137, .iconst 0, 1), (138, .istore_n 3, 1), (139, .iload_n 3, 1), (140, .aload_n 0, 1), (141, .getfield 10, 3), (144, .getfield 105, 3), (147, .if_icmp .ge 43, 3), (150, .iconst 0, 1), (151, .istore 4, 2), (153, .iload 4, 2), (155, .bipush 8, 2), (157, .if_icmp .ge 27, 3), (160, .lload_n 1, 1), (161, .ldc2_w 194, 3), (164, .lmul, 1), (165, .aload_n 0, 1), (166, .getfield 10, 3), (169, .iload_n 3, 1), (170, .iload 4, 2), (172, .invokevirtual 140, 3), (175, .i2l, 1), (176, .ladd, 1), (177, .lstore_n 1, 1), (178, .iinc 4 1, 3), (181, .goto (-28), 3), (184, .iinc 3 1, 3), (187, .goto (-48), 3), (190, .lload_n 1, 1), (191, .lreturn, 1)]
theorem dTX5_digest_1_ok : ∀ (k : Nat) (q : Nat × Instr × Nat), dTX5_digest_1[k]? = some q → decode cX5_digest q.1 = .ok q.2 := dT_of (by decide +kernel)
theorem dX5_digest_107 : decode cX5_digest 107 = .ok (.lmul, 1) := dTX5_digest_1_ok 0 (107, .lmul, 1) rfl
theorem dX5_digest_108 : decode cX5_digest 108 = .ok (.aload_n 0, 1) := dTX5_digest_1_ok 1 (108, .aload_n 0, 1) rfl
theorem dX5_digest_109 : decode cX5_digest 109 = .ok (.getfield 10, 3) := dTX5_digest_1_ok 2 (109, .getfield 10, 3) rfl
theorem dX5_digest_112 : decode cX5_digest 112 = .ok (.getfield 40, 3) := dTX5_digest_1_ok 3 (112, .getfield 40, 3) rfl
theorem dX5_digest_115 : decode cX5_digest 115 = .ok (.iload_n 3, 1) := dTX5_digest_1_ok 4 (115, .iload_n 3, 1) rfl
theorem dX5_digest_116 : decode cX5_digest 116 = .ok (.iconst 2, 1) := dTX5_digest_1_ok 5 (116, .iconst 2, 1) rfl
theorem dX5_digest_117 : decode cX5_digest 117 = .ok (.invokevirtual 50, 3) := dTX5_digest_1_ok 6 (117, .invokevirtual 50, 3) rfl
theorem dX5_digest_120 : decode cX5_digest 120 = .ok (.ifCond .eq 7, 3) := dTX5_digest_1_ok 7 (120, .ifCond .eq 7, 3) rfl
theorem dX5_digest_123 : decode cX5_digest 123 = .ok (.iconst 1, 1) := dTX5_digest_1_ok 8 (123, .iconst 1, 1) rfl
theorem dX5_digest_124 : decode cX5_digest 124 = .ok (.goto 4, 3) := dTX5_digest_1_ok 9 (124, .goto 4, 3) rfl
theorem dX5_digest_127 : decode cX5_digest 127 = .ok (.iconst 0, 1) := dTX5_digest_1_ok 10 (127, .iconst 0, 1) rfl
theorem dX5_digest_128 : decode cX5_digest 128 = .ok (.i2l, 1) := dTX5_digest_1_ok 11 (128, .i2l, 1) rfl
theorem dX5_digest_129 : decode cX5_digest 129 = .ok (.ladd, 1) := dTX5_digest_1_ok 12 (129, .ladd, 1) rfl
theorem dX5_digest_130 : decode cX5_digest 130 = .ok (.lstore_n 1, 1) := dTX5_digest_1_ok 13 (130, .lstore_n 1, 1) rfl
theorem dX5_digest_131 : decode cX5_digest 131 = .ok (.iinc 3 1, 3) := dTX5_digest_1_ok 14 (131, .iinc 3 1, 3) rfl
theorem dX5_digest_134 : decode cX5_digest 134 = .ok (.goto (-98), 3) := dTX5_digest_1_ok 15 (134, .goto (-98), 3) rfl
theorem dX5_digest_137 : decode cX5_digest 137 = .ok (.iconst 0, 1) := dTX5_digest_1_ok 16 (137, .iconst 0, 1) rfl
theorem dX5_digest_138 : decode cX5_digest 138 = .ok (.istore_n 3, 1) := dTX5_digest_1_ok 17 (138, .istore_n 3, 1) rfl
theorem dX5_digest_139 : decode cX5_digest 139 = .ok (.iload_n 3, 1) := dTX5_digest_1_ok 18 (139, .iload_n 3, 1) rfl
theorem dX5_digest_140 : decode cX5_digest 140 = .ok (.aload_n 0, 1) := dTX5_digest_1_ok 19 (140, .aload_n 0, 1) rfl
theorem dX5_digest_141 : decode cX5_digest 141 = .ok (.getfield 10, 3) := dTX5_digest_1_ok 20 (141, .getfield 10, 3) rfl
theorem dX5_digest_144 : decode cX5_digest 144 = .ok (.getfield 105, 3) := dTX5_digest_1_ok 21 (144, .getfield 105, 3) rfl
theorem dX5_digest_147 : decode cX5_digest 147 = .ok (.if_icmp .ge 43, 3) := dTX5_digest_1_ok 22 (147, .if_icmp .ge 43, 3) rfl
theorem dX5_digest_150 : decode cX5_digest 150 = .ok (.iconst 0, 1) := dTX5_digest_1_ok 23 (150, .iconst 0, 1) rfl
theorem dX5_digest_151 : decode cX5_digest 151 = .ok (.istore 4, 2) := dTX5_digest_1_ok 24 (151, .istore 4, 2) rfl
theorem dX5_digest_153 : decode cX5_digest 153 = .ok (.iload 4, 2) := dTX5_digest_1_ok 25 (153, .iload 4, 2) rfl
theorem dX5_digest_155 : decode cX5_digest 155 = .ok (.bipush 8, 2) := dTX5_digest_1_ok 26 (155, .bipush 8, 2) rfl
theorem dX5_digest_157 : decode cX5_digest 157 = .ok (.if_icmp .ge 27, 3) := dTX5_digest_1_ok 27 (157, .if_icmp .ge 27, 3) rfl
theorem dX5_digest_160 : decode cX5_digest 160 = .ok (.lload_n 1, 1) := dTX5_digest_1_ok 28 (160, .lload_n 1, 1) rfl
theorem dX5_digest_161 : decode cX5_digest 161 = .ok (.ldc2_w 194, 3) := dTX5_digest_1_ok 29 (161, .ldc2_w 194, 3) rfl
theorem dX5_digest_164 : decode cX5_digest 164 = .ok (.lmul, 1) := dTX5_digest_1_ok 30 (164, .lmul, 1) rfl
theorem dX5_digest_165 : decode cX5_digest 165 = .ok (.aload_n 0, 1) := dTX5_digest_1_ok 31 (165, .aload_n 0, 1) rfl
theorem dX5_digest_166 : decode cX5_digest 166 = .ok (.getfield 10, 3) := dTX5_digest_1_ok 32 (166, .getfield 10, 3) rfl
theorem dX5_digest_169 : decode cX5_digest 169 = .ok (.iload_n 3, 1) := dTX5_digest_1_ok 33 (169, .iload_n 3, 1) rfl
theorem dX5_digest_170 : decode cX5_digest 170 = .ok (.iload 4, 2) := dTX5_digest_1_ok 34 (170, .iload 4, 2) rfl
theorem dX5_digest_172 : decode cX5_digest 172 = .ok (.invokevirtual 140, 3) := dTX5_digest_1_ok 35 (172, .invokevirtual 140, 3) rfl
theorem dX5_digest_175 : decode cX5_digest 175 = .ok (.i2l, 1) := dTX5_digest_1_ok 36 (175, .i2l, 1) rfl
theorem dX5_digest_176 : decode cX5_digest 176 = .ok (.ladd, 1) := dTX5_digest_1_ok 37 (176, .ladd, 1) rfl
theorem dX5_digest_177 : decode cX5_digest 177 = .ok (.lstore_n 1, 1) := dTX5_digest_1_ok 38 (177, .lstore_n 1, 1) rfl
theorem dX5_digest_178 : decode cX5_digest 178 = .ok (.iinc 4 1, 3) := dTX5_digest_1_ok 39 (178, .iinc 4 1, 3) rfl
theorem dX5_digest_181 : decode cX5_digest 181 = .ok (.goto (-28), 3) := dTX5_digest_1_ok 40 (181, .goto (-28), 3) rfl
theorem dX5_digest_184 : decode cX5_digest 184 = .ok (.iinc 3 1, 3) := dTX5_digest_1_ok 41 (184, .iinc 3 1, 3) rfl
theorem dX5_digest_187 : decode cX5_digest 187 = .ok (.goto (-48), 3) := dTX5_digest_1_ok 42 (187, .goto (-48), 3) rfl
theorem dX5_digest_190 : decode cX5_digest 190 = .ok (.lload_n 1, 1) := dTX5_digest_1_ok 43 (190, .lload_n 1, 1) rfl
theorem dX5_digest_191 : decode cX5_digest 191 = .ok (.lreturn, 1) := dTX5_digest_1_ok 44 (191, .lreturn, 1) rfl
noncomputable def dTX5_hauntsAhead_0 : List (Nat × Instr × Nat) := [(0, .aload_n 0, 1), (1, .getfield 16, 3), (4, .aload_n 0, 1), (5, .getfield 10, 3), (8, .invokevirtual 182, 3), (11, .iload_n 2, 1), (12, .iconst (-1), 1), (13, .if_icmp .eq 14, 3), (16, .aload_n 0, 1), (17, .getfield 16, 3), (20, .getfield 40, 3), (23, .iload_n 2, 1), (24, .invokevirtual 97, 3), (27, .iconst 0, 1), (28, .istore_n 3, 1), (29, .iconst 0, 1), (30, .istore 4, 2), (32, .iload 4, 2), (34, .iload_n 1, 1), (35, .if_icmp .ge 19, 3), (38, .iload_n 3, 1), (39, .aload_n 0, 1), (40, .getfield 16, 3), (43, .invokevirtual 162, 3), (46, .iadd, 1), (47, .istore_n 3, 1), (48, .iinc 4 1, 3), (51, .goto (-19), 3), (54, .iload_n 3, 1), (55, .ireturn, 1)]
theorem dTX5_hauntsAhead_0_ok : ∀ (k : Nat) (q : Nat × Instr × Nat), dTX5_hauntsAhead_0[k]? = some q → decode cX5_hauntsAhead q.1 = .ok q.2 := dT_of (by decide +kernel)
theorem dX5_hauntsAhead_0 : decode cX5_hauntsAhead 0 = .ok (.aload_n 0, 1) := dTX5_hauntsAhead_0_ok 0 (0, .aload_n 0, 1) rfl
theorem dX5_hauntsAhead_1 : decode cX5_hauntsAhead 1 = .ok (.getfield 16, 3) := dTX5_hauntsAhead_0_ok 1 (1, .getfield 16, 3) rfl
theorem dX5_hauntsAhead_4 : decode cX5_hauntsAhead 4 = .ok (.aload_n 0, 1) := dTX5_hauntsAhead_0_ok 2 (4, .aload_n 0, 1) rfl
theorem dX5_hauntsAhead_5 : decode cX5_hauntsAhead 5 = .ok (.getfield 10, 3) := dTX5_hauntsAhead_0_ok 3 (5, .getfield 10, 3) rfl
theorem dX5_hauntsAhead_8 : decode cX5_hauntsAhead 8 = .ok (.invokevirtual 182, 3) := dTX5_hauntsAhead_0_ok 4 (8, .invokevirtual 182, 3) rfl
theorem dX5_hauntsAhead_11 : decode cX5_hauntsAhead 11 = .ok (.iload_n 2, 1) := dTX5_hauntsAhead_0_ok 5 (11, .iload_n 2, 1) rfl
theorem dX5_hauntsAhead_12 : decode cX5_hauntsAhead 12 = .ok (.iconst (-1), 1) := dTX5_hauntsAhead_0_ok 6 (12, .iconst (-1), 1) rfl
theorem dX5_hauntsAhead_13 : decode cX5_hauntsAhead 13 = .ok (.if_icmp .eq 14, 3) := dTX5_hauntsAhead_0_ok 7 (13, .if_icmp .eq 14, 3) rfl
theorem dX5_hauntsAhead_16 : decode cX5_hauntsAhead 16 = .ok (.aload_n 0, 1) := dTX5_hauntsAhead_0_ok 8 (16, .aload_n 0, 1) rfl
theorem dX5_hauntsAhead_17 : decode cX5_hauntsAhead 17 = .ok (.getfield 16, 3) := dTX5_hauntsAhead_0_ok 9 (17, .getfield 16, 3) rfl
theorem dX5_hauntsAhead_20 : decode cX5_hauntsAhead 20 = .ok (.getfield 40, 3) := dTX5_hauntsAhead_0_ok 10 (20, .getfield 40, 3) rfl
theorem dX5_hauntsAhead_23 : decode cX5_hauntsAhead 23 = .ok (.iload_n 2, 1) := dTX5_hauntsAhead_0_ok 11 (23, .iload_n 2, 1) rfl
theorem dX5_hauntsAhead_24 : decode cX5_hauntsAhead 24 = .ok (.invokevirtual 97, 3) := dTX5_hauntsAhead_0_ok 12 (24, .invokevirtual 97, 3) rfl
theorem dX5_hauntsAhead_27 : decode cX5_hauntsAhead 27 = .ok (.iconst 0, 1) := dTX5_hauntsAhead_0_ok 13 (27, .iconst 0, 1) rfl
theorem dX5_hauntsAhead_28 : decode cX5_hauntsAhead 28 = .ok (.istore_n 3, 1) := dTX5_hauntsAhead_0_ok 14 (28, .istore_n 3, 1) rfl
theorem dX5_hauntsAhead_29 : decode cX5_hauntsAhead 29 = .ok (.iconst 0, 1) := dTX5_hauntsAhead_0_ok 15 (29, .iconst 0, 1) rfl
theorem dX5_hauntsAhead_30 : decode cX5_hauntsAhead 30 = .ok (.istore 4, 2) := dTX5_hauntsAhead_0_ok 16 (30, .istore 4, 2) rfl
theorem dX5_hauntsAhead_32 : decode cX5_hauntsAhead 32 = .ok (.iload 4, 2) := dTX5_hauntsAhead_0_ok 17 (32, .iload 4, 2) rfl
theorem dX5_hauntsAhead_34 : decode cX5_hauntsAhead 34 = .ok (.iload_n 1, 1) := dTX5_hauntsAhead_0_ok 18 (34, .iload_n 1, 1) rfl
theorem dX5_hauntsAhead_35 : decode cX5_hauntsAhead 35 = .ok (.if_icmp .ge 19, 3) := dTX5_hauntsAhead_0_ok 19 (35, .if_icmp .ge 19, 3) rfl
theorem dX5_hauntsAhead_38 : decode cX5_hauntsAhead 38 = .ok (.iload_n 3, 1) := dTX5_hauntsAhead_0_ok 20 (38, .iload_n 3, 1) rfl
theorem dX5_hauntsAhead_39 : decode cX5_hauntsAhead 39 = .ok (.aload_n 0, 1) := dTX5_hauntsAhead_0_ok 21 (39, .aload_n 0, 1) rfl
theorem dX5_hauntsAhead_40 : decode cX5_hauntsAhead 40 = .ok (.getfield 16, 3) := dTX5_hauntsAhead_0_ok 22 (40, .getfield 16, 3) rfl
theorem dX5_hauntsAhead_43 : decode cX5_hauntsAhead 43 = .ok (.invokevirtual 162, 3) := dTX5_hauntsAhead_0_ok 23 (43, .invokevirtual 162, 3) rfl
theorem dX5_hauntsAhead_46 : decode cX5_hauntsAhead 46 = .ok (.iadd, 1) := dTX5_hauntsAhead_0_ok 24 (46, .iadd, 1) rfl
theorem dX5_hauntsAhead_47 : decode cX5_hauntsAhead 47 = .ok (.istore_n 3, 1) := dTX5_hauntsAhead_0_ok 25 (47, .istore_n 3, 1) rfl
theorem dX5_hauntsAhead_48 : decode cX5_hauntsAhead 48 = .ok (.iinc 4 1, 3) := dTX5_hauntsAhead_0_ok 26 (48, .iinc 4 1, 3) rfl
theorem dX5_hauntsAhead_51 : decode cX5_hauntsAhead 51 = .ok (.goto (-19), 3) := dTX5_hauntsAhead_0_ok 27 (51, .goto (-19), 3) rfl
theorem dX5_hauntsAhead_54 : decode cX5_hauntsAhead 54 = .ok (.iload_n 3, 1) := dTX5_hauntsAhead_0_ok 28 (54, .iload_n 3, 1) rfl
theorem dX5_hauntsAhead_55 : decode cX5_hauntsAhead 55 = .ok (.ireturn, 1) := dTX5_hauntsAhead_0_ok 29 (55, .ireturn, 1) rfl
noncomputable def dTX5_checkedCell_0 : List (Nat × Instr × Nat) := [(0, .iload_n 0, 1), (1, .ifCond .lt 19, 3), (4, .iload_n 0, 1), (5, .bipush 9, 2), (7, .if_icmp .ge 13, 3), (10, .iload_n 1, 1), (11, .ifCond .lt 9, 3), (14, .iload_n 1, 1), (15, .bipush 7, 2), (17, .if_icmp .lt 13, 3), (20, .new 196, 3), (23, .dup, 1), (24, .ldc 198, 2), (26, .invokespecial 200, 3), (29, .athrow, 1), (30, .bipush 9, 2), (32, .iload_n 1, 1), (33, .imul, 1), (34, .iload_n 0, 1), (35, .iadd, 1), (36, .ireturn, 1)]
theorem dTX5_checkedCell_0_ok : ∀ (k : Nat) (q : Nat × Instr × Nat), dTX5_checkedCell_0[k]? = some q → decode cX5_checkedCell q.1 = .ok q.2 := dT_of (by decide +kernel)
theorem dX5_checkedCell_0 : decode cX5_checkedCell 0 = .ok (.iload_n 0, 1) := dTX5_checkedCell_0_ok 0 (0, .iload_n 0, 1) rfl
theorem dX5_checkedCell_1 : decode cX5_checkedCell 1 = .ok (.ifCond .lt 19, 3) := dTX5_checkedCell_0_ok 1 (1, .ifCond .lt 19, 3) rfl
theorem dX5_checkedCell_4 : decode cX5_checkedCell 4 = .ok (.iload_n 0, 1) := dTX5_checkedCell_0_ok 2 (4, .iload_n 0, 1) rfl
theorem dX5_checkedCell_5 : decode cX5_checkedCell 5 = .ok (.bipush 9, 2) := dTX5_checkedCell_0_ok 3 (5, .bipush 9, 2) rfl
theorem dX5_checkedCell_7 : decode cX5_checkedCell 7 = .ok (.if_icmp .ge 13, 3) := dTX5_checkedCell_0_ok 4 (7, .if_icmp .ge 13, 3) rfl
theorem dX5_checkedCell_10 : decode cX5_checkedCell 10 = .ok (.iload_n 1, 1) := dTX5_checkedCell_0_ok 5 (10, .iload_n 1, 1) rfl
theorem dX5_checkedCell_11 : decode cX5_checkedCell 11 = .ok (.ifCond .lt 9, 3) := dTX5_checkedCell_0_ok 6 (11, .ifCond .lt 9, 3) rfl
theorem dX5_checkedCell_14 : decode cX5_checkedCell 14 = .ok (.iload_n 1, 1) := dTX5_checkedCell_0_ok 7 (14, .iload_n 1, 1) rfl
theorem dX5_checkedCell_15 : decode cX5_checkedCell 15 = .ok (.bipush 7, 2) := dTX5_checkedCell_0_ok 8 (15, .bipush 7, 2) rfl
theorem dX5_checkedCell_17 : decode cX5_checkedCell 17 = .ok (.if_icmp .lt 13, 3) := dTX5_checkedCell_0_ok 9 (17, .if_icmp .lt 13, 3) rfl
theorem dX5_checkedCell_20 : decode cX5_checkedCell 20 = .ok (.new 196, 3) := dTX5_checkedCell_0_ok 10 (20, .new 196, 3) rfl
theorem dX5_checkedCell_23 : decode cX5_checkedCell 23 = .ok (.dup, 1) := dTX5_checkedCell_0_ok 11 (23, .dup, 1) rfl
theorem dX5_checkedCell_24 : decode cX5_checkedCell 24 = .ok (.ldc 198, 2) := dTX5_checkedCell_0_ok 12 (24, .ldc 198, 2) rfl
theorem dX5_checkedCell_26 : decode cX5_checkedCell 26 = .ok (.invokespecial 200, 3) := dTX5_checkedCell_0_ok 13 (26, .invokespecial 200, 3) rfl
theorem dX5_checkedCell_29 : decode cX5_checkedCell 29 = .ok (.athrow, 1) := dTX5_checkedCell_0_ok 14 (29, .athrow, 1) rfl
theorem dX5_checkedCell_30 : decode cX5_checkedCell 30 = .ok (.bipush 9, 2) := dTX5_checkedCell_0_ok 15 (30, .bipush 9, 2) rfl
theorem dX5_checkedCell_32 : decode cX5_checkedCell 32 = .ok (.iload_n 1, 1) := dTX5_checkedCell_0_ok 16 (32, .iload_n 1, 1) rfl
theorem dX5_checkedCell_33 : decode cX5_checkedCell 33 = .ok (.imul, 1) := dTX5_checkedCell_0_ok 17 (33, .imul, 1) rfl
theorem dX5_checkedCell_34 : decode cX5_checkedCell 34 = .ok (.iload_n 0, 1) := dTX5_checkedCell_0_ok 18 (34, .iload_n 0, 1) rfl
theorem dX5_checkedCell_35 : decode cX5_checkedCell 35 = .ok (.iadd, 1) := dTX5_checkedCell_0_ok 19 (35, .iadd, 1) rfl
theorem dX5_checkedCell_36 : decode cX5_checkedCell 36 = .ok (.ireturn, 1) := dTX5_checkedCell_0_ok 20 (36, .ireturn, 1) rfl
noncomputable def dTX5_checkDirection_0 : List (Nat × Instr × Nat) := [(0, .iload_n 0, 1), (1, .ifCond .lt 8, 3), (4, .iload_n 0, 1), (5, .iconst 4, 1), (6, .if_icmp .lt 13, 3), (9, .new 53, 3), (12, .dup, 1), (13, .ldc 201, 2), (15, .invokespecial 57, 3), (18, .athrow, 1), (19, .return_, 1)]
theorem dTX5_checkDirection_0_ok : ∀ (k : Nat) (q : Nat × Instr × Nat), dTX5_checkDirection_0[k]? = some q → decode cX5_checkDirection q.1 = .ok q.2 := dT_of (by decide +kernel)
theorem dX5_checkDirection_0 : decode cX5_checkDirection 0 = .ok (.iload_n 0, 1) := dTX5_checkDirection_0_ok 0 (0, .iload_n 0, 1) rfl
theorem dX5_checkDirection_1 : decode cX5_checkDirection 1 = .ok (.ifCond .lt 8, 3) := dTX5_checkDirection_0_ok 1 (1, .ifCond .lt 8, 3) rfl
theorem dX5_checkDirection_4 : decode cX5_checkDirection 4 = .ok (.iload_n 0, 1) := dTX5_checkDirection_0_ok 2 (4, .iload_n 0, 1) rfl
theorem dX5_checkDirection_5 : decode cX5_checkDirection 5 = .ok (.iconst 4, 1) := dTX5_checkDirection_0_ok 3 (5, .iconst 4, 1) rfl
theorem dX5_checkDirection_6 : decode cX5_checkDirection 6 = .ok (.if_icmp .lt 13, 3) := dTX5_checkDirection_0_ok 4 (6, .if_icmp .lt 13, 3) rfl
theorem dX5_checkDirection_9 : decode cX5_checkDirection 9 = .ok (.new 53, 3) := dTX5_checkDirection_0_ok 5 (9, .new 53, 3) rfl
theorem dX5_checkDirection_12 : decode cX5_checkDirection 12 = .ok (.dup, 1) := dTX5_checkDirection_0_ok 6 (12, .dup, 1) rfl
theorem dX5_checkDirection_13 : decode cX5_checkDirection 13 = .ok (.ldc 201, 2) := dTX5_checkDirection_0_ok 7 (13, .ldc 201, 2) rfl
theorem dX5_checkDirection_15 : decode cX5_checkDirection 15 = .ok (.invokespecial 57, 3) := dTX5_checkDirection_0_ok 8 (15, .invokespecial 57, 3) rfl
theorem dX5_checkDirection_18 : decode cX5_checkDirection 18 = .ok (.athrow, 1) := dTX5_checkDirection_0_ok 9 (18, .athrow, 1) rfl
theorem dX5_checkDirection_19 : decode cX5_checkDirection 19 = .ok (.return_, 1) := dTX5_checkDirection_0_ok 10 (19, .return_, 1) rfl
noncomputable def dTX5_checkWhat_0 : List (Nat × Instr × Nat) := [(0, .iload_n 0, 1), (1, .ifCond .lt 8, 3), (4, .iload_n 0, 1), (5, .iload_n 1, 1), (6, .if_icmp .lt 13, 3), (9, .new 196, 3), (12, .dup, 1), (13, .ldc 203, 2), (15, .invokespecial 200, 3), (18, .athrow, 1), (19, .return_, 1)]
theorem dTX5_checkWhat_0_ok : ∀ (k : Nat) (q : Nat × Instr × Nat), dTX5_checkWhat_0[k]? = some q → decode cX5_checkWhat q.1 = .ok q.2 := dT_of (by decide +kernel)
theorem dX5_checkWhat_0 : decode cX5_checkWhat 0 = .ok (.iload_n 0, 1) := dTX5_checkWhat_0_ok 0 (0, .iload_n 0, 1) rfl
theorem dX5_checkWhat_1 : decode cX5_checkWhat 1 = .ok (.ifCond .lt 8, 3) := dTX5_checkWhat_0_ok 1 (1, .ifCond .lt 8, 3) rfl
theorem dX5_checkWhat_4 : decode cX5_checkWhat 4 = .ok (.iload_n 0, 1) := dTX5_checkWhat_0_ok 2 (4, .iload_n 0, 1) rfl
theorem dX5_checkWhat_5 : decode cX5_checkWhat 5 = .ok (.iload_n 1, 1) := dTX5_checkWhat_0_ok 3 (5, .iload_n 1, 1) rfl
theorem dX5_checkWhat_6 : decode cX5_checkWhat 6 = .ok (.if_icmp .lt 13, 3) := dTX5_checkWhat_0_ok 4 (6, .if_icmp .lt 13, 3) rfl
theorem dX5_checkWhat_9 : decode cX5_checkWhat 9 = .ok (.new 196, 3) := dTX5_checkWhat_0_ok 5 (9, .new 196, 3) rfl
theorem dX5_checkWhat_12 : decode cX5_checkWhat 12 = .ok (.dup, 1) := dTX5_checkWhat_0_ok 6 (12, .dup, 1) rfl
theorem dX5_checkWhat_13 : decode cX5_checkWhat 13 = .ok (.ldc 203, 2) := dTX5_checkWhat_0_ok 7 (13, .ldc 203, 2) rfl
theorem dX5_checkWhat_15 : decode cX5_checkWhat 15 = .ok (.invokespecial 200, 3) := dTX5_checkWhat_0_ok 8 (15, .invokespecial 200, 3) rfl
theorem dX5_checkWhat_18 : decode cX5_checkWhat 18 = .ok (.athrow, 1) := dTX5_checkWhat_0_ok 9 (18, .athrow, 1) rfl
theorem dX5_checkWhat_19 : decode cX5_checkWhat 19 = .ok (.return_, 1) := dTX5_checkWhat_0_ok 10 (19, .return_, 1) rfl
noncomputable def dTX5_checkHours_0 : List (Nat × Instr × Nat) := [(0, .iload_n 0, 1), (1, .iconst 1, 1), (2, .if_icmp .lt 8, 3), (5, .iload_n 0, 1), (6, .iload_n 1, 1), (7, .if_icmp .le 13, 3), (10, .new 53, 3), (13, .dup, 1), (14, .ldc 205, 2), (16, .invokespecial 57, 3), (19, .athrow, 1), (20, .return_, 1)]
theorem dTX5_checkHours_0_ok : ∀ (k : Nat) (q : Nat × Instr × Nat), dTX5_checkHours_0[k]? = some q → decode cX5_checkHours q.1 = .ok q.2 := dT_of (by decide +kernel)
theorem dX5_checkHours_0 : decode cX5_checkHours 0 = .ok (.iload_n 0, 1) := dTX5_checkHours_0_ok 0 (0, .iload_n 0, 1) rfl
theorem dX5_checkHours_1 : decode cX5_checkHours 1 = .ok (.iconst 1, 1) := dTX5_checkHours_0_ok 1 (1, .iconst 1, 1) rfl
theorem dX5_checkHours_2 : decode cX5_checkHours 2 = .ok (.if_icmp .lt 8, 3) := dTX5_checkHours_0_ok 2 (2, .if_icmp .lt 8, 3) rfl
theorem dX5_checkHours_5 : decode cX5_checkHours 5 = .ok (.iload_n 0, 1) := dTX5_checkHours_0_ok 3 (5, .iload_n 0, 1) rfl
theorem dX5_checkHours_6 : decode cX5_checkHours 6 = .ok (.iload_n 1, 1) := dTX5_checkHours_0_ok 4 (6, .iload_n 1, 1) rfl
theorem dX5_checkHours_7 : decode cX5_checkHours 7 = .ok (.if_icmp .le 13, 3) := dTX5_checkHours_0_ok 5 (7, .if_icmp .le 13, 3) rfl
theorem dX5_checkHours_10 : decode cX5_checkHours 10 = .ok (.new 53, 3) := dTX5_checkHours_0_ok 6 (10, .new 53, 3) rfl
theorem dX5_checkHours_13 : decode cX5_checkHours 13 = .ok (.dup, 1) := dTX5_checkHours_0_ok 7 (13, .dup, 1) rfl
theorem dX5_checkHours_14 : decode cX5_checkHours 14 = .ok (.ldc 205, 2) := dTX5_checkHours_0_ok 8 (14, .ldc 205, 2) rfl
theorem dX5_checkHours_16 : decode cX5_checkHours 16 = .ok (.invokespecial 57, 3) := dTX5_checkHours_0_ok 9 (16, .invokespecial 57, 3) rfl
theorem dX5_checkHours_19 : decode cX5_checkHours 19 = .ok (.athrow, 1) := dTX5_checkHours_0_ok 10 (19, .athrow, 1) rfl
theorem dX5_checkHours_20 : decode cX5_checkHours 20 = .ok (.return_, 1) := dTX5_checkHours_0_ok 11 (20, .return_, 1) rfl
noncomputable def dTX5_checkGhost_0 : List (Nat × Instr × Nat) := [(0, .iload_n 1, 1), (1, .ifCond .lt 14, 3), (4, .iload_n 1, 1), (5, .aload_n 0, 1), (6, .getfield 10, 3), (9, .getfield 105, 3), (12, .if_icmp .lt 13, 3), (15, .new 196, 3), (18, .dup, 1), (19, .ldc 207, 2), (21, .invokespecial 200, 3), (24, .athrow, 1), (25, .return_, 1)]
theorem dTX5_checkGhost_0_ok : ∀ (k : Nat) (q : Nat × Instr × Nat), dTX5_checkGhost_0[k]? = some q → decode cX5_checkGhost q.1 = .ok q.2 := dT_of (by decide +kernel)
theorem dX5_checkGhost_0 : decode cX5_checkGhost 0 = .ok (.iload_n 1, 1) := dTX5_checkGhost_0_ok 0 (0, .iload_n 1, 1) rfl
theorem dX5_checkGhost_1 : decode cX5_checkGhost 1 = .ok (.ifCond .lt 14, 3) := dTX5_checkGhost_0_ok 1 (1, .ifCond .lt 14, 3) rfl
theorem dX5_checkGhost_4 : decode cX5_checkGhost 4 = .ok (.iload_n 1, 1) := dTX5_checkGhost_0_ok 2 (4, .iload_n 1, 1) rfl
theorem dX5_checkGhost_5 : decode cX5_checkGhost 5 = .ok (.aload_n 0, 1) := dTX5_checkGhost_0_ok 3 (5, .aload_n 0, 1) rfl
theorem dX5_checkGhost_6 : decode cX5_checkGhost 6 = .ok (.getfield 10, 3) := dTX5_checkGhost_0_ok 4 (6, .getfield 10, 3) rfl
theorem dX5_checkGhost_9 : decode cX5_checkGhost 9 = .ok (.getfield 105, 3) := dTX5_checkGhost_0_ok 5 (9, .getfield 105, 3) rfl
theorem dX5_checkGhost_12 : decode cX5_checkGhost 12 = .ok (.if_icmp .lt 13, 3) := dTX5_checkGhost_0_ok 6 (12, .if_icmp .lt 13, 3) rfl
theorem dX5_checkGhost_15 : decode cX5_checkGhost 15 = .ok (.new 196, 3) := dTX5_checkGhost_0_ok 7 (15, .new 196, 3) rfl
theorem dX5_checkGhost_18 : decode cX5_checkGhost 18 = .ok (.dup, 1) := dTX5_checkGhost_0_ok 8 (18, .dup, 1) rfl
theorem dX5_checkGhost_19 : decode cX5_checkGhost 19 = .ok (.ldc 207, 2) := dTX5_checkGhost_0_ok 9 (19, .ldc 207, 2) rfl
theorem dX5_checkGhost_21 : decode cX5_checkGhost 21 = .ok (.invokespecial 200, 3) := dTX5_checkGhost_0_ok 10 (21, .invokespecial 200, 3) rfl
theorem dX5_checkGhost_24 : decode cX5_checkGhost 24 = .ok (.athrow, 1) := dTX5_checkGhost_0_ok 11 (24, .athrow, 1) rfl
theorem dX5_checkGhost_25 : decode cX5_checkGhost 25 = .ok (.return_, 1) := dTX5_checkGhost_0_ok 12 (25, .return_, 1) rfl
noncomputable def dTX5_checkRoomFor_0 : List (Nat × Instr × Nat) := [(0, .iload_n 1, 1), (1, .iload_n 2, 1), (2, .if_icmp .ge 17, 3), (5, .aload_n 0, 1), (6, .getfield 10, 3), (9, .getfield 40, 3), (12, .iload_n 3, 1), (13, .invokevirtual 82, 3), (16, .ifCond .eq 13, 3), (19, .new 33, 3), (22, .dup, 1), (23, .ldc 209, 2), (25, .invokespecial 37, 3), (28, .athrow, 1), (29, .return_, 1)]
theorem dTX5_checkRoomFor_0_ok : ∀ (k : Nat) (q : Nat × Instr × Nat), dTX5_checkRoomFor_0[k]? = some q → decode cX5_checkRoomFor q.1 = .ok q.2 := dT_of (by decide +kernel)
theorem dX5_checkRoomFor_0 : decode cX5_checkRoomFor 0 = .ok (.iload_n 1, 1) := dTX5_checkRoomFor_0_ok 0 (0, .iload_n 1, 1) rfl
theorem dX5_checkRoomFor_1 : decode cX5_checkRoomFor 1 = .ok (.iload_n 2, 1) := dTX5_checkRoomFor_0_ok 1 (1, .iload_n 2, 1) rfl
theorem dX5_checkRoomFor_2 : decode cX5_checkRoomFor 2 = .ok (.if_icmp .ge 17, 3) := dTX5_checkRoomFor_0_ok 2 (2, .if_icmp .ge 17, 3) rfl
theorem dX5_checkRoomFor_5 : decode cX5_checkRoomFor 5 = .ok (.aload_n 0, 1) := dTX5_checkRoomFor_0_ok 3 (5, .aload_n 0, 1) rfl
theorem dX5_checkRoomFor_6 : decode cX5_checkRoomFor 6 = .ok (.getfield 10, 3) := dTX5_checkRoomFor_0_ok 4 (6, .getfield 10, 3) rfl
theorem dX5_checkRoomFor_9 : decode cX5_checkRoomFor 9 = .ok (.getfield 40, 3) := dTX5_checkRoomFor_0_ok 5 (9, .getfield 40, 3) rfl
theorem dX5_checkRoomFor_12 : decode cX5_checkRoomFor 12 = .ok (.iload_n 3, 1) := dTX5_checkRoomFor_0_ok 6 (12, .iload_n 3, 1) rfl
theorem dX5_checkRoomFor_13 : decode cX5_checkRoomFor 13 = .ok (.invokevirtual 82, 3) := dTX5_checkRoomFor_0_ok 7 (13, .invokevirtual 82, 3) rfl
theorem dX5_checkRoomFor_16 : decode cX5_checkRoomFor 16 = .ok (.ifCond .eq 13, 3) := dTX5_checkRoomFor_0_ok 8 (16, .ifCond .eq 13, 3) rfl
theorem dX5_checkRoomFor_19 : decode cX5_checkRoomFor 19 = .ok (.new 33, 3) := dTX5_checkRoomFor_0_ok 9 (19, .new 33, 3) rfl
theorem dX5_checkRoomFor_22 : decode cX5_checkRoomFor 22 = .ok (.dup, 1) := dTX5_checkRoomFor_0_ok 10 (22, .dup, 1) rfl
theorem dX5_checkRoomFor_23 : decode cX5_checkRoomFor 23 = .ok (.ldc 209, 2) := dTX5_checkRoomFor_0_ok 11 (23, .ldc 209, 2) rfl
theorem dX5_checkRoomFor_25 : decode cX5_checkRoomFor 25 = .ok (.invokespecial 37, 3) := dTX5_checkRoomFor_0_ok 12 (25, .invokespecial 37, 3) rfl
theorem dX5_checkRoomFor_28 : decode cX5_checkRoomFor 28 = .ok (.athrow, 1) := dTX5_checkRoomFor_0_ok 13 (28, .athrow, 1) rfl
theorem dX5_checkRoomFor_29 : decode cX5_checkRoomFor 29 = .ok (.return_, 1) := dTX5_checkRoomFor_0_ok 14 (29, .return_, 1) rfl
noncomputable def dTX6_init_0 : List (Nat × Instr × Nat) := [(0, .aload_n 0, 1), (1, .invokespecial 1, 3), (4, .aload_n 0, 1), (5, .bipush 63, 2), (7, .newarray .boolean, 2), (9, .putfield 9, 3), (12, .aload_n 0, 1), (13, .bipush 63, 2), (15, .newarray .boolean, 2), (17, .putfield 13, 3), (20, .aload_n 0, 1), (21, .bipush 63, 2), (23, .newarray .int, 2), (25, .putfield 16, 3), (28, .aload_n 0, 1), (29, .bipush 63, 2), (31, .newarray .int, 2), (33, .putfield 20, 3), (36, .aload_n 0, 1), (37, .bipush 63, 2), (39, .newarray .int, 2), (41, .putfield 23, 3), (44, .aload_n 0, 1), (45, .bipush 36, 2), (47, .newarray .int, 2), (49, .putfield 26, 3), (52, .aload_n 0, 1), (53, .iconst 2, 1), (54, .newarray .int, 2), (56, .putfield 29, 3), (59, .aload_n 0, 1), (60, .bipush 63, 2), (62, .newarray .boolean, 2), (64, .putfield 32, 3), (67, .aload_n 0, 1), (68, .bipush 126, 2), (70, .newarray .int, 2), (72, .putfield 35, 3), (75, .aload_n 0, 1), (76, .bipush 126, 2), (78, .newarray .int, 2), (80, .putfield 38, 3), (83, .return_, 1)]
theorem dTX6_init_0_ok : ∀ (k : Nat) (q : Nat × Instr × Nat), dTX6_init_0[k]? = some q → decode cX6_init q.1 = .ok q.2 := dT_of (by decide +kernel)
theorem dX6_init_0 : decode cX6_init 0 = .ok (.aload_n 0, 1) := dTX6_init_0_ok 0 (0, .aload_n 0, 1) rfl
theorem dX6_init_1 : decode cX6_init 1 = .ok (.invokespecial 1, 3) := dTX6_init_0_ok 1 (1, .invokespecial 1, 3) rfl
theorem dX6_init_4 : decode cX6_init 4 = .ok (.aload_n 0, 1) := dTX6_init_0_ok 2 (4, .aload_n 0, 1) rfl
theorem dX6_init_5 : decode cX6_init 5 = .ok (.bipush 63, 2) := dTX6_init_0_ok 3 (5, .bipush 63, 2) rfl
theorem dX6_init_7 : decode cX6_init 7 = .ok (.newarray .boolean, 2) := dTX6_init_0_ok 4 (7, .newarray .boolean, 2) rfl
theorem dX6_init_9 : decode cX6_init 9 = .ok (.putfield 9, 3) := dTX6_init_0_ok 5 (9, .putfield 9, 3) rfl
theorem dX6_init_12 : decode cX6_init 12 = .ok (.aload_n 0, 1) := dTX6_init_0_ok 6 (12, .aload_n 0, 1) rfl
theorem dX6_init_13 : decode cX6_init 13 = .ok (.bipush 63, 2) := dTX6_init_0_ok 7 (13, .bipush 63, 2) rfl
theorem dX6_init_15 : decode cX6_init 15 = .ok (.newarray .boolean, 2) := dTX6_init_0_ok 8 (15, .newarray .boolean, 2) rfl
theorem dX6_init_17 : decode cX6_init 17 = .ok (.putfield 13, 3) := dTX6_init_0_ok 9 (17, .putfield 13, 3) rfl
theorem dX6_init_20 : decode cX6_init 20 = .ok (.aload_n 0, 1) := dTX6_init_0_ok 10 (20, .aload_n 0, 1) rfl
theorem dX6_init_21 : decode cX6_init 21 = .ok (.bipush 63, 2) := dTX6_init_0_ok 11 (21, .bipush 63, 2) rfl
theorem dX6_init_23 : decode cX6_init 23 = .ok (.newarray .int, 2) := dTX6_init_0_ok 12 (23, .newarray .int, 2) rfl
theorem dX6_init_25 : decode cX6_init 25 = .ok (.putfield 16, 3) := dTX6_init_0_ok 13 (25, .putfield 16, 3) rfl
theorem dX6_init_28 : decode cX6_init 28 = .ok (.aload_n 0, 1) := dTX6_init_0_ok 14 (28, .aload_n 0, 1) rfl
theorem dX6_init_29 : decode cX6_init 29 = .ok (.bipush 63, 2) := dTX6_init_0_ok 15 (29, .bipush 63, 2) rfl
theorem dX6_init_31 : decode cX6_init 31 = .ok (.newarray .int, 2) := dTX6_init_0_ok 16 (31, .newarray .int, 2) rfl
theorem dX6_init_33 : decode cX6_init 33 = .ok (.putfield 20, 3) := dTX6_init_0_ok 17 (33, .putfield 20, 3) rfl
theorem dX6_init_36 : decode cX6_init 36 = .ok (.aload_n 0, 1) := dTX6_init_0_ok 18 (36, .aload_n 0, 1) rfl
theorem dX6_init_37 : decode cX6_init 37 = .ok (.bipush 63, 2) := dTX6_init_0_ok 19 (37, .bipush 63, 2) rfl
theorem dX6_init_39 : decode cX6_init 39 = .ok (.newarray .int, 2) := dTX6_init_0_ok 20 (39, .newarray .int, 2) rfl
theorem dX6_init_41 : decode cX6_init 41 = .ok (.putfield 23, 3) := dTX6_init_0_ok 21 (41, .putfield 23, 3) rfl
theorem dX6_init_44 : decode cX6_init 44 = .ok (.aload_n 0, 1) := dTX6_init_0_ok 22 (44, .aload_n 0, 1) rfl
theorem dX6_init_45 : decode cX6_init 45 = .ok (.bipush 36, 2) := dTX6_init_0_ok 23 (45, .bipush 36, 2) rfl
theorem dX6_init_47 : decode cX6_init 47 = .ok (.newarray .int, 2) := dTX6_init_0_ok 24 (47, .newarray .int, 2) rfl
theorem dX6_init_49 : decode cX6_init 49 = .ok (.putfield 26, 3) := dTX6_init_0_ok 25 (49, .putfield 26, 3) rfl
theorem dX6_init_52 : decode cX6_init 52 = .ok (.aload_n 0, 1) := dTX6_init_0_ok 26 (52, .aload_n 0, 1) rfl
theorem dX6_init_53 : decode cX6_init 53 = .ok (.iconst 2, 1) := dTX6_init_0_ok 27 (53, .iconst 2, 1) rfl
theorem dX6_init_54 : decode cX6_init 54 = .ok (.newarray .int, 2) := dTX6_init_0_ok 28 (54, .newarray .int, 2) rfl
theorem dX6_init_56 : decode cX6_init 56 = .ok (.putfield 29, 3) := dTX6_init_0_ok 29 (56, .putfield 29, 3) rfl
theorem dX6_init_59 : decode cX6_init 59 = .ok (.aload_n 0, 1) := dTX6_init_0_ok 30 (59, .aload_n 0, 1) rfl
theorem dX6_init_60 : decode cX6_init 60 = .ok (.bipush 63, 2) := dTX6_init_0_ok 31 (60, .bipush 63, 2) rfl
theorem dX6_init_62 : decode cX6_init 62 = .ok (.newarray .boolean, 2) := dTX6_init_0_ok 32 (62, .newarray .boolean, 2) rfl
theorem dX6_init_64 : decode cX6_init 64 = .ok (.putfield 32, 3) := dTX6_init_0_ok 33 (64, .putfield 32, 3) rfl
theorem dX6_init_67 : decode cX6_init 67 = .ok (.aload_n 0, 1) := dTX6_init_0_ok 34 (67, .aload_n 0, 1) rfl
theorem dX6_init_68 : decode cX6_init 68 = .ok (.bipush 126, 2) := dTX6_init_0_ok 35 (68, .bipush 126, 2) rfl
theorem dX6_init_70 : decode cX6_init 70 = .ok (.newarray .int, 2) := dTX6_init_0_ok 36 (70, .newarray .int, 2) rfl
theorem dX6_init_72 : decode cX6_init 72 = .ok (.putfield 35, 3) := dTX6_init_0_ok 37 (72, .putfield 35, 3) rfl
theorem dX6_init_75 : decode cX6_init 75 = .ok (.aload_n 0, 1) := dTX6_init_0_ok 38 (75, .aload_n 0, 1) rfl
theorem dX6_init_76 : decode cX6_init 76 = .ok (.bipush 126, 2) := dTX6_init_0_ok 39 (76, .bipush 126, 2) rfl
theorem dX6_init_78 : decode cX6_init 78 = .ok (.newarray .int, 2) := dTX6_init_0_ok 40 (78, .newarray .int, 2) rfl
theorem dX6_init_80 : decode cX6_init 80 = .ok (.putfield 38, 3) := dTX6_init_0_ok 41 (80, .putfield 38, 3) rfl
theorem dX6_init_83 : decode cX6_init 83 = .ok (.return_, 1) := dTX6_init_0_ok 42 (83, .return_, 1) rfl
noncomputable def dTX6_thrown_0 : List (Nat × Instr × Nat) := [(0, .aload_n 0, 1), (1, .getfield 41, 3), (4, .ireturn, 1)]
theorem dTX6_thrown_0_ok : ∀ (k : Nat) (q : Nat × Instr × Nat), dTX6_thrown_0[k]? = some q → decode cX6_thrown q.1 = .ok q.2 := dT_of (by decide +kernel)
theorem dX6_thrown_0 : decode cX6_thrown 0 = .ok (.aload_n 0, 1) := dTX6_thrown_0_ok 0 (0, .aload_n 0, 1) rfl
theorem dX6_thrown_1 : decode cX6_thrown 1 = .ok (.getfield 41, 3) := dTX6_thrown_0_ok 1 (1, .getfield 41, 3) rfl
theorem dX6_thrown_4 : decode cX6_thrown 4 = .ok (.ireturn, 1) := dTX6_thrown_0_ok 2 (4, .ireturn, 1) rfl
noncomputable def dTX6_fail_0 : List (Nat × Instr × Nat) := [(0, .aload_n 0, 1), (1, .iload_n 1, 1), (2, .putfield 41, 3), (5, .iconst 0, 1), (6, .ireturn, 1)]
theorem dTX6_fail_0_ok : ∀ (k : Nat) (q : Nat × Instr × Nat), dTX6_fail_0[k]? = some q → decode cX6_fail q.1 = .ok q.2 := dT_of (by decide +kernel)
theorem dX6_fail_0 : decode cX6_fail 0 = .ok (.aload_n 0, 1) := dTX6_fail_0_ok 0 (0, .aload_n 0, 1) rfl
theorem dX6_fail_1 : decode cX6_fail 1 = .ok (.iload_n 1, 1) := dTX6_fail_0_ok 1 (1, .iload_n 1, 1) rfl
theorem dX6_fail_2 : decode cX6_fail 2 = .ok (.putfield 41, 3) := dTX6_fail_0_ok 2 (2, .putfield 41, 3) rfl
theorem dX6_fail_5 : decode cX6_fail 5 = .ok (.iconst 0, 1) := dTX6_fail_0_ok 3 (5, .iconst 0, 1) rfl
theorem dX6_fail_6 : decode cX6_fail 6 = .ok (.ireturn, 1) := dTX6_fail_0_ok 4 (6, .ireturn, 1) rfl
noncomputable def dTX6_isIn_0 : List (Nat × Instr × Nat) := [(0, .iload_n 0, 1), (1, .iload_n 1, 1), (2, .if_icmp .lt 12, 3), (5, .iload_n 0, 1), (6, .iload_n 2, 1), (7, .if_icmp .gt 7, 3), (10, .iconst 1, 1), (11, .goto 4, 3), (14, .iconst 0, 1), (15, .ireturn, 1)]
theorem dTX6_isIn_0_ok : ∀ (k : Nat) (q : Nat × Instr × Nat), dTX6_isIn_0[k]? = some q → decode cX6_isIn q.1 = .ok q.2 := dT_of (by decide +kernel)
theorem dX6_isIn_0 : decode cX6_isIn 0 = .ok (.iload_n 0, 1) := dTX6_isIn_0_ok 0 (0, .iload_n 0, 1) rfl
theorem dX6_isIn_1 : decode cX6_isIn 1 = .ok (.iload_n 1, 1) := dTX6_isIn_0_ok 1 (1, .iload_n 1, 1) rfl
theorem dX6_isIn_2 : decode cX6_isIn 2 = .ok (.if_icmp .lt 12, 3) := dTX6_isIn_0_ok 2 (2, .if_icmp .lt 12, 3) rfl
theorem dX6_isIn_5 : decode cX6_isIn 5 = .ok (.iload_n 0, 1) := dTX6_isIn_0_ok 3 (5, .iload_n 0, 1) rfl
theorem dX6_isIn_6 : decode cX6_isIn 6 = .ok (.iload_n 2, 1) := dTX6_isIn_0_ok 4 (6, .iload_n 2, 1) rfl
theorem dX6_isIn_7 : decode cX6_isIn 7 = .ok (.if_icmp .gt 7, 3) := dTX6_isIn_0_ok 5 (7, .if_icmp .gt 7, 3) rfl
theorem dX6_isIn_10 : decode cX6_isIn 10 = .ok (.iconst 1, 1) := dTX6_isIn_0_ok 6 (10, .iconst 1, 1) rfl
theorem dX6_isIn_11 : decode cX6_isIn 11 = .ok (.goto 4, 3) := dTX6_isIn_0_ok 7 (11, .goto 4, 3) rfl
theorem dX6_isIn_14 : decode cX6_isIn 14 = .ok (.iconst 0, 1) := dTX6_isIn_0_ok 8 (14, .iconst 0, 1) rfl
theorem dX6_isIn_15 : decode cX6_isIn 15 = .ok (.ireturn, 1) := dTX6_isIn_0_ok 9 (15, .ireturn, 1) rfl
noncomputable def dTX6_isCell_0 : List (Nat × Instr × Nat) := [(0, .iload_n 0, 1), (1, .iconst 0, 1), (2, .bipush 8, 2), (4, .invokestatic 45, 3), (7, .ifCond .eq 17, 3), (10, .iload_n 1, 1), (11, .iconst 0, 1), (12, .bipush 6, 2), (14, .invokestatic 45, 3), (17, .ifCond .eq 7, 3), (20, .iconst 1, 1), (21, .goto 4, 3), (24, .iconst 0, 1), (25, .ireturn, 1)]
theorem dTX6_isCell_0_ok : ∀ (k : Nat) (q : Nat × Instr × Nat), dTX6_isCell_0[k]? = some q → decode cX6_isCell q.1 = .ok q.2 := dT_of (by decide +kernel)
theorem dX6_isCell_0 : decode cX6_isCell 0 = .ok (.iload_n 0, 1) := dTX6_isCell_0_ok 0 (0, .iload_n 0, 1) rfl
theorem dX6_isCell_1 : decode cX6_isCell 1 = .ok (.iconst 0, 1) := dTX6_isCell_0_ok 1 (1, .iconst 0, 1) rfl
theorem dX6_isCell_2 : decode cX6_isCell 2 = .ok (.bipush 8, 2) := dTX6_isCell_0_ok 2 (2, .bipush 8, 2) rfl
theorem dX6_isCell_4 : decode cX6_isCell 4 = .ok (.invokestatic 45, 3) := dTX6_isCell_0_ok 3 (4, .invokestatic 45, 3) rfl
theorem dX6_isCell_7 : decode cX6_isCell 7 = .ok (.ifCond .eq 17, 3) := dTX6_isCell_0_ok 4 (7, .ifCond .eq 17, 3) rfl
theorem dX6_isCell_10 : decode cX6_isCell 10 = .ok (.iload_n 1, 1) := dTX6_isCell_0_ok 5 (10, .iload_n 1, 1) rfl
theorem dX6_isCell_11 : decode cX6_isCell 11 = .ok (.iconst 0, 1) := dTX6_isCell_0_ok 6 (11, .iconst 0, 1) rfl
theorem dX6_isCell_12 : decode cX6_isCell 12 = .ok (.bipush 6, 2) := dTX6_isCell_0_ok 7 (12, .bipush 6, 2) rfl
theorem dX6_isCell_14 : decode cX6_isCell 14 = .ok (.invokestatic 45, 3) := dTX6_isCell_0_ok 8 (14, .invokestatic 45, 3) rfl
theorem dX6_isCell_17 : decode cX6_isCell 17 = .ok (.ifCond .eq 7, 3) := dTX6_isCell_0_ok 9 (17, .ifCond .eq 7, 3) rfl
theorem dX6_isCell_20 : decode cX6_isCell 20 = .ok (.iconst 1, 1) := dTX6_isCell_0_ok 10 (20, .iconst 1, 1) rfl
theorem dX6_isCell_21 : decode cX6_isCell 21 = .ok (.goto 4, 3) := dTX6_isCell_0_ok 11 (21, .goto 4, 3) rfl
theorem dX6_isCell_24 : decode cX6_isCell 24 = .ok (.iconst 0, 1) := dTX6_isCell_0_ok 12 (24, .iconst 0, 1) rfl
theorem dX6_isCell_25 : decode cX6_isCell 25 = .ok (.ireturn, 1) := dTX6_isCell_0_ok 13 (25, .ireturn, 1) rfl
noncomputable def dTX6_isGhost_0 : List (Nat × Instr × Nat) := [(0, .iload_n 1, 1), (1, .iconst 0, 1), (2, .aload_n 0, 1), (3, .getfield 49, 3), (6, .iconst 1, 1), (7, .isub, 1), (8, .invokestatic 45, 3), (11, .ireturn, 1)]
theorem dTX6_isGhost_0_ok : ∀ (k : Nat) (q : Nat × Instr × Nat), dTX6_isGhost_0[k]? = some q → decode cX6_isGhost q.1 = .ok q.2 := dT_of (by decide +kernel)
theorem dX6_isGhost_0 : decode cX6_isGhost 0 = .ok (.iload_n 1, 1) := dTX6_isGhost_0_ok 0 (0, .iload_n 1, 1) rfl
theorem dX6_isGhost_1 : decode cX6_isGhost 1 = .ok (.iconst 0, 1) := dTX6_isGhost_0_ok 1 (1, .iconst 0, 1) rfl
theorem dX6_isGhost_2 : decode cX6_isGhost 2 = .ok (.aload_n 0, 1) := dTX6_isGhost_0_ok 2 (2, .aload_n 0, 1) rfl
theorem dX6_isGhost_3 : decode cX6_isGhost 3 = .ok (.getfield 49, 3) := dTX6_isGhost_0_ok 3 (3, .getfield 49, 3) rfl
theorem dX6_isGhost_6 : decode cX6_isGhost 6 = .ok (.iconst 1, 1) := dTX6_isGhost_0_ok 4 (6, .iconst 1, 1) rfl
theorem dX6_isGhost_7 : decode cX6_isGhost 7 = .ok (.isub, 1) := dTX6_isGhost_0_ok 5 (7, .isub, 1) rfl
theorem dX6_isGhost_8 : decode cX6_isGhost 8 = .ok (.invokestatic 45, 3) := dTX6_isGhost_0_ok 6 (8, .invokestatic 45, 3) rfl
theorem dX6_isGhost_11 : decode cX6_isGhost 11 = .ok (.ireturn, 1) := dTX6_isGhost_0_ok 7 (11, .ireturn, 1) rfl
noncomputable def dTX6_sp_0 : List (Nat × Instr × Nat) := [(0, .aload_n 0, 1), (1, .getfield 26, 3), (4, .bipush 6, 2), (6, .iload_n 1, 1), (7, .imul, 1), (8, .iload_n 2, 1), (9, .iadd, 1), (10, .iaload, 1), (11, .ireturn, 1)]
theorem dTX6_sp_0_ok : ∀ (k : Nat) (q : Nat × Instr × Nat), dTX6_sp_0[k]? = some q → decode cX6_sp q.1 = .ok q.2 := dT_of (by decide +kernel)
theorem dX6_sp_0 : decode cX6_sp 0 = .ok (.aload_n 0, 1) := dTX6_sp_0_ok 0 (0, .aload_n 0, 1) rfl
theorem dX6_sp_1 : decode cX6_sp 1 = .ok (.getfield 26, 3) := dTX6_sp_0_ok 1 (1, .getfield 26, 3) rfl
theorem dX6_sp_4 : decode cX6_sp 4 = .ok (.bipush 6, 2) := dTX6_sp_0_ok 2 (4, .bipush 6, 2) rfl
theorem dX6_sp_6 : decode cX6_sp 6 = .ok (.iload_n 1, 1) := dTX6_sp_0_ok 3 (6, .iload_n 1, 1) rfl
theorem dX6_sp_7 : decode cX6_sp 7 = .ok (.imul, 1) := dTX6_sp_0_ok 4 (7, .imul, 1) rfl
theorem dX6_sp_8 : decode cX6_sp 8 = .ok (.iload_n 2, 1) := dTX6_sp_0_ok 5 (8, .iload_n 2, 1) rfl
theorem dX6_sp_9 : decode cX6_sp 9 = .ok (.iadd, 1) := dTX6_sp_0_ok 6 (9, .iadd, 1) rfl
theorem dX6_sp_10 : decode cX6_sp 10 = .ok (.iaload, 1) := dTX6_sp_0_ok 7 (10, .iaload, 1) rfl
theorem dX6_sp_11 : decode cX6_sp 11 = .ok (.ireturn, 1) := dTX6_sp_0_ok 8 (11, .ireturn, 1) rfl
noncomputable def dTX6_put_0 : List (Nat × Instr × Nat) := [(0, .aload_n 0, 1), (1, .getfield 26, 3), (4, .bipush 6, 2), (6, .iload_n 1, 1), (7, .imul, 1), (8, .iload_n 2, 1), (9, .iadd, 1), (10, .iload_n 3, 1), (11, .iastore, 1), (12, .return_, 1)]
theorem dTX6_put_0_ok : ∀ (k : Nat) (q : Nat × Instr × Nat), dTX6_put_0[k]? = some q → decode cX6_put q.1 = .ok q.2 := dT_of (by decide +kernel)
theorem dX6_put_0 : decode cX6_put 0 = .ok (.aload_n 0, 1) := dTX6_put_0_ok 0 (0, .aload_n 0, 1) rfl
theorem dX6_put_1 : decode cX6_put 1 = .ok (.getfield 26, 3) := dTX6_put_0_ok 1 (1, .getfield 26, 3) rfl
theorem dX6_put_4 : decode cX6_put 4 = .ok (.bipush 6, 2) := dTX6_put_0_ok 2 (4, .bipush 6, 2) rfl
theorem dX6_put_6 : decode cX6_put 6 = .ok (.iload_n 1, 1) := dTX6_put_0_ok 3 (6, .iload_n 1, 1) rfl
theorem dX6_put_7 : decode cX6_put 7 = .ok (.imul, 1) := dTX6_put_0_ok 4 (7, .imul, 1) rfl
theorem dX6_put_8 : decode cX6_put 8 = .ok (.iload_n 2, 1) := dTX6_put_0_ok 5 (8, .iload_n 2, 1) rfl
theorem dX6_put_9 : decode cX6_put 9 = .ok (.iadd, 1) := dTX6_put_0_ok 6 (9, .iadd, 1) rfl
theorem dX6_put_10 : decode cX6_put 10 = .ok (.iload_n 3, 1) := dTX6_put_0_ok 7 (10, .iload_n 3, 1) rfl
theorem dX6_put_11 : decode cX6_put 11 = .ok (.iastore, 1) := dTX6_put_0_ok 8 (11, .iastore, 1) rfl
theorem dX6_put_12 : decode cX6_put 12 = .ok (.return_, 1) := dTX6_put_0_ok 9 (12, .return_, 1) rfl
noncomputable def dTX6_beside_0 : List (Nat × Instr × Nat) := [(0, .iload_n 0, 1), (1, .bipush 9, 2), (3, .irem, 1), (4, .iload_n 1, 1), (5, .iconst 1, 1), (6, .if_icmp .ne 7, 3), (9, .iconst 1, 1), (10, .goto 13, 3), (13, .iload_n 1, 1), (14, .iconst 3, 1), (15, .if_icmp .ne 7, 3), (18, .iconst (-1), 1), (19, .goto 4, 3), (22, .iconst 0, 1), (23, .iadd, 1), (24, .istore_n 2, 1), (25, .iload_n 0, 1), (26, .bipush 9, 2), (28, .idiv, 1), (29, .iload_n 1, 1), (30, .iconst 2, 1), (31, .if_icmp .ne 7, 3), (34, .iconst 1, 1), (35, .goto 12, 3), (38, .iload_n 1, 1), (39, .ifCond .ne 7, 3), (42, .iconst (-1), 1), (43, .goto 4, 3), (46, .iconst 0, 1), (47, .iadd, 1), (48, .istore_n 3, 1), (49, .iload_n 2, 1), (50, .iload_n 3, 1), (51, .invokestatic 52, 3), (54, .ifCond .eq 12, 3), (57, .bipush 9, 2), (59, .iload_n 3, 1), (60, .imul, 1), (61, .iload_n 2, 1), (62, .iadd, 1), (63, .goto 4, 3), (66, .iconst (-1), 1), (67, .ireturn, 1)]
theorem dTX6_beside_0_ok : ∀ (k : Nat) (q : Nat × Instr × Nat), dTX6_beside_0[k]? = some q → decode cX6_beside q.1 = .ok q.2 := dT_of (by decide +kernel)
theorem dX6_beside_0 : decode cX6_beside 0 = .ok (.iload_n 0, 1) := dTX6_beside_0_ok 0 (0, .iload_n 0, 1) rfl
theorem dX6_beside_1 : decode cX6_beside 1 = .ok (.bipush 9, 2) := dTX6_beside_0_ok 1 (1, .bipush 9, 2) rfl
theorem dX6_beside_3 : decode cX6_beside 3 = .ok (.irem, 1) := dTX6_beside_0_ok 2 (3, .irem, 1) rfl
theorem dX6_beside_4 : decode cX6_beside 4 = .ok (.iload_n 1, 1) := dTX6_beside_0_ok 3 (4, .iload_n 1, 1) rfl
theorem dX6_beside_5 : decode cX6_beside 5 = .ok (.iconst 1, 1) := dTX6_beside_0_ok 4 (5, .iconst 1, 1) rfl
theorem dX6_beside_6 : decode cX6_beside 6 = .ok (.if_icmp .ne 7, 3) := dTX6_beside_0_ok 5 (6, .if_icmp .ne 7, 3) rfl
theorem dX6_beside_9 : decode cX6_beside 9 = .ok (.iconst 1, 1) := dTX6_beside_0_ok 6 (9, .iconst 1, 1) rfl
theorem dX6_beside_10 : decode cX6_beside 10 = .ok (.goto 13, 3) := dTX6_beside_0_ok 7 (10, .goto 13, 3) rfl
theorem dX6_beside_13 : decode cX6_beside 13 = .ok (.iload_n 1, 1) := dTX6_beside_0_ok 8 (13, .iload_n 1, 1) rfl
theorem dX6_beside_14 : decode cX6_beside 14 = .ok (.iconst 3, 1) := dTX6_beside_0_ok 9 (14, .iconst 3, 1) rfl
theorem dX6_beside_15 : decode cX6_beside 15 = .ok (.if_icmp .ne 7, 3) := dTX6_beside_0_ok 10 (15, .if_icmp .ne 7, 3) rfl
theorem dX6_beside_18 : decode cX6_beside 18 = .ok (.iconst (-1), 1) := dTX6_beside_0_ok 11 (18, .iconst (-1), 1) rfl
theorem dX6_beside_19 : decode cX6_beside 19 = .ok (.goto 4, 3) := dTX6_beside_0_ok 12 (19, .goto 4, 3) rfl
theorem dX6_beside_22 : decode cX6_beside 22 = .ok (.iconst 0, 1) := dTX6_beside_0_ok 13 (22, .iconst 0, 1) rfl
theorem dX6_beside_23 : decode cX6_beside 23 = .ok (.iadd, 1) := dTX6_beside_0_ok 14 (23, .iadd, 1) rfl
theorem dX6_beside_24 : decode cX6_beside 24 = .ok (.istore_n 2, 1) := dTX6_beside_0_ok 15 (24, .istore_n 2, 1) rfl
theorem dX6_beside_25 : decode cX6_beside 25 = .ok (.iload_n 0, 1) := dTX6_beside_0_ok 16 (25, .iload_n 0, 1) rfl
theorem dX6_beside_26 : decode cX6_beside 26 = .ok (.bipush 9, 2) := dTX6_beside_0_ok 17 (26, .bipush 9, 2) rfl
theorem dX6_beside_28 : decode cX6_beside 28 = .ok (.idiv, 1) := dTX6_beside_0_ok 18 (28, .idiv, 1) rfl
theorem dX6_beside_29 : decode cX6_beside 29 = .ok (.iload_n 1, 1) := dTX6_beside_0_ok 19 (29, .iload_n 1, 1) rfl
theorem dX6_beside_30 : decode cX6_beside 30 = .ok (.iconst 2, 1) := dTX6_beside_0_ok 20 (30, .iconst 2, 1) rfl
theorem dX6_beside_31 : decode cX6_beside 31 = .ok (.if_icmp .ne 7, 3) := dTX6_beside_0_ok 21 (31, .if_icmp .ne 7, 3) rfl
theorem dX6_beside_34 : decode cX6_beside 34 = .ok (.iconst 1, 1) := dTX6_beside_0_ok 22 (34, .iconst 1, 1) rfl
theorem dX6_beside_35 : decode cX6_beside 35 = .ok (.goto 12, 3) := dTX6_beside_0_ok 23 (35, .goto 12, 3) rfl
theorem dX6_beside_38 : decode cX6_beside 38 = .ok (.iload_n 1, 1) := dTX6_beside_0_ok 24 (38, .iload_n 1, 1) rfl
theorem dX6_beside_39 : decode cX6_beside 39 = .ok (.ifCond .ne 7, 3) := dTX6_beside_0_ok 25 (39, .ifCond .ne 7, 3) rfl
theorem dX6_beside_42 : decode cX6_beside 42 = .ok (.iconst (-1), 1) := dTX6_beside_0_ok 26 (42, .iconst (-1), 1) rfl
theorem dX6_beside_43 : decode cX6_beside 43 = .ok (.goto 4, 3) := dTX6_beside_0_ok 27 (43, .goto 4, 3) rfl
theorem dX6_beside_46 : decode cX6_beside 46 = .ok (.iconst 0, 1) := dTX6_beside_0_ok 28 (46, .iconst 0, 1) rfl
theorem dX6_beside_47 : decode cX6_beside 47 = .ok (.iadd, 1) := dTX6_beside_0_ok 29 (47, .iadd, 1) rfl
theorem dX6_beside_48 : decode cX6_beside 48 = .ok (.istore_n 3, 1) := dTX6_beside_0_ok 30 (48, .istore_n 3, 1) rfl
theorem dX6_beside_49 : decode cX6_beside 49 = .ok (.iload_n 2, 1) := dTX6_beside_0_ok 31 (49, .iload_n 2, 1) rfl
theorem dX6_beside_50 : decode cX6_beside 50 = .ok (.iload_n 3, 1) := dTX6_beside_0_ok 32 (50, .iload_n 3, 1) rfl
theorem dX6_beside_51 : decode cX6_beside 51 = .ok (.invokestatic 52, 3) := dTX6_beside_0_ok 33 (51, .invokestatic 52, 3) rfl
theorem dX6_beside_54 : decode cX6_beside 54 = .ok (.ifCond .eq 12, 3) := dTX6_beside_0_ok 34 (54, .ifCond .eq 12, 3) rfl
theorem dX6_beside_57 : decode cX6_beside 57 = .ok (.bipush 9, 2) := dTX6_beside_0_ok 35 (57, .bipush 9, 2) rfl
theorem dX6_beside_59 : decode cX6_beside 59 = .ok (.iload_n 3, 1) := dTX6_beside_0_ok 36 (59, .iload_n 3, 1) rfl
theorem dX6_beside_60 : decode cX6_beside 60 = .ok (.imul, 1) := dTX6_beside_0_ok 37 (60, .imul, 1) rfl
theorem dX6_beside_61 : decode cX6_beside 61 = .ok (.iload_n 2, 1) := dTX6_beside_0_ok 38 (61, .iload_n 2, 1) rfl
theorem dX6_beside_62 : decode cX6_beside 62 = .ok (.iadd, 1) := dTX6_beside_0_ok 39 (62, .iadd, 1) rfl
theorem dX6_beside_63 : decode cX6_beside 63 = .ok (.goto 4, 3) := dTX6_beside_0_ok 40 (63, .goto 4, 3) rfl
theorem dX6_beside_66 : decode cX6_beside 66 = .ok (.iconst (-1), 1) := dTX6_beside_0_ok 41 (66, .iconst (-1), 1) rfl
theorem dX6_beside_67 : decode cX6_beside 67 = .ok (.ireturn, 1) := dTX6_beside_0_ok 42 (67, .ireturn, 1) rfl
noncomputable def dTX6_hasWall_0 : List (Nat × Instr × Nat) := [(0, .iload_n 2, 1), (1, .iconst 1, 1), (2, .if_icmp .ne 10, 3), (5, .aload_n 0, 1), (6, .getfield 9, 3), (9, .iload_n 1, 1), (10, .baload, 1), (11, .ireturn, 1), (12, .iload_n 2, 1), (13, .iconst 2, 1), (14, .if_icmp .ne 10, 3), (17, .aload_n 0, 1), (18, .getfield 13, 3), (21, .iload_n 1, 1), (22, .baload, 1), (23, .ireturn, 1), (24, .iload_n 1, 1), (25, .iload_n 2, 1), (26, .invokestatic 56, 3), (29, .istore_n 3, 1), (30, .iload_n 3, 1), (31, .iconst (-1), 1), (32, .if_icmp .eq 33, 3), (35, .iload_n 2, 1), (36, .iconst 3, 1), (37, .if_icmp .ne 15, 3), (40, .aload_n 0, 1), (41, .getfield 9, 3), (44, .iload_n 3, 1), (45, .baload, 1), (46, .ifCond .eq 19, 3), (49, .goto 12, 3), (52, .aload_n 0, 1), (53, .getfield 13, 3), (56, .iload_n 3, 1), (57, .baload, 1), (58, .ifCond .eq 7, 3), (61, .iconst 1, 1), (62, .goto 4, 3), (65, .iconst 0, 1), (66, .ireturn, 1)]
theorem dTX6_hasWall_0_ok : ∀ (k : Nat) (q : Nat × Instr × Nat), dTX6_hasWall_0[k]? = some q → decode cX6_hasWall q.1 = .ok q.2 := dT_of (by decide +kernel)
theorem dX6_hasWall_0 : decode cX6_hasWall 0 = .ok (.iload_n 2, 1) := dTX6_hasWall_0_ok 0 (0, .iload_n 2, 1) rfl
theorem dX6_hasWall_1 : decode cX6_hasWall 1 = .ok (.iconst 1, 1) := dTX6_hasWall_0_ok 1 (1, .iconst 1, 1) rfl
theorem dX6_hasWall_2 : decode cX6_hasWall 2 = .ok (.if_icmp .ne 10, 3) := dTX6_hasWall_0_ok 2 (2, .if_icmp .ne 10, 3) rfl
theorem dX6_hasWall_5 : decode cX6_hasWall 5 = .ok (.aload_n 0, 1) := dTX6_hasWall_0_ok 3 (5, .aload_n 0, 1) rfl
theorem dX6_hasWall_6 : decode cX6_hasWall 6 = .ok (.getfield 9, 3) := dTX6_hasWall_0_ok 4 (6, .getfield 9, 3) rfl
theorem dX6_hasWall_9 : decode cX6_hasWall 9 = .ok (.iload_n 1, 1) := dTX6_hasWall_0_ok 5 (9, .iload_n 1, 1) rfl
theorem dX6_hasWall_10 : decode cX6_hasWall 10 = .ok (.baload, 1) := dTX6_hasWall_0_ok 6 (10, .baload, 1) rfl
theorem dX6_hasWall_11 : decode cX6_hasWall 11 = .ok (.ireturn, 1) := dTX6_hasWall_0_ok 7 (11, .ireturn, 1) rfl
theorem dX6_hasWall_12 : decode cX6_hasWall 12 = .ok (.iload_n 2, 1) := dTX6_hasWall_0_ok 8 (12, .iload_n 2, 1) rfl
theorem dX6_hasWall_13 : decode cX6_hasWall 13 = .ok (.iconst 2, 1) := dTX6_hasWall_0_ok 9 (13, .iconst 2, 1) rfl
theorem dX6_hasWall_14 : decode cX6_hasWall 14 = .ok (.if_icmp .ne 10, 3) := dTX6_hasWall_0_ok 10 (14, .if_icmp .ne 10, 3) rfl
theorem dX6_hasWall_17 : decode cX6_hasWall 17 = .ok (.aload_n 0, 1) := dTX6_hasWall_0_ok 11 (17, .aload_n 0, 1) rfl
theorem dX6_hasWall_18 : decode cX6_hasWall 18 = .ok (.getfield 13, 3) := dTX6_hasWall_0_ok 12 (18, .getfield 13, 3) rfl
theorem dX6_hasWall_21 : decode cX6_hasWall 21 = .ok (.iload_n 1, 1) := dTX6_hasWall_0_ok 13 (21, .iload_n 1, 1) rfl
theorem dX6_hasWall_22 : decode cX6_hasWall 22 = .ok (.baload, 1) := dTX6_hasWall_0_ok 14 (22, .baload, 1) rfl
theorem dX6_hasWall_23 : decode cX6_hasWall 23 = .ok (.ireturn, 1) := dTX6_hasWall_0_ok 15 (23, .ireturn, 1) rfl
theorem dX6_hasWall_24 : decode cX6_hasWall 24 = .ok (.iload_n 1, 1) := dTX6_hasWall_0_ok 16 (24, .iload_n 1, 1) rfl
theorem dX6_hasWall_25 : decode cX6_hasWall 25 = .ok (.iload_n 2, 1) := dTX6_hasWall_0_ok 17 (25, .iload_n 2, 1) rfl
theorem dX6_hasWall_26 : decode cX6_hasWall 26 = .ok (.invokestatic 56, 3) := dTX6_hasWall_0_ok 18 (26, .invokestatic 56, 3) rfl
theorem dX6_hasWall_29 : decode cX6_hasWall 29 = .ok (.istore_n 3, 1) := dTX6_hasWall_0_ok 19 (29, .istore_n 3, 1) rfl
theorem dX6_hasWall_30 : decode cX6_hasWall 30 = .ok (.iload_n 3, 1) := dTX6_hasWall_0_ok 20 (30, .iload_n 3, 1) rfl
theorem dX6_hasWall_31 : decode cX6_hasWall 31 = .ok (.iconst (-1), 1) := dTX6_hasWall_0_ok 21 (31, .iconst (-1), 1) rfl
theorem dX6_hasWall_32 : decode cX6_hasWall 32 = .ok (.if_icmp .eq 33, 3) := dTX6_hasWall_0_ok 22 (32, .if_icmp .eq 33, 3) rfl
theorem dX6_hasWall_35 : decode cX6_hasWall 35 = .ok (.iload_n 2, 1) := dTX6_hasWall_0_ok 23 (35, .iload_n 2, 1) rfl
theorem dX6_hasWall_36 : decode cX6_hasWall 36 = .ok (.iconst 3, 1) := dTX6_hasWall_0_ok 24 (36, .iconst 3, 1) rfl
theorem dX6_hasWall_37 : decode cX6_hasWall 37 = .ok (.if_icmp .ne 15, 3) := dTX6_hasWall_0_ok 25 (37, .if_icmp .ne 15, 3) rfl
theorem dX6_hasWall_40 : decode cX6_hasWall 40 = .ok (.aload_n 0, 1) := dTX6_hasWall_0_ok 26 (40, .aload_n 0, 1) rfl
theorem dX6_hasWall_41 : decode cX6_hasWall 41 = .ok (.getfield 9, 3) := dTX6_hasWall_0_ok 27 (41, .getfield 9, 3) rfl
theorem dX6_hasWall_44 : decode cX6_hasWall 44 = .ok (.iload_n 3, 1) := dTX6_hasWall_0_ok 28 (44, .iload_n 3, 1) rfl
theorem dX6_hasWall_45 : decode cX6_hasWall 45 = .ok (.baload, 1) := dTX6_hasWall_0_ok 29 (45, .baload, 1) rfl
theorem dX6_hasWall_46 : decode cX6_hasWall 46 = .ok (.ifCond .eq 19, 3) := dTX6_hasWall_0_ok 30 (46, .ifCond .eq 19, 3) rfl
theorem dX6_hasWall_49 : decode cX6_hasWall 49 = .ok (.goto 12, 3) := dTX6_hasWall_0_ok 31 (49, .goto 12, 3) rfl
theorem dX6_hasWall_52 : decode cX6_hasWall 52 = .ok (.aload_n 0, 1) := dTX6_hasWall_0_ok 32 (52, .aload_n 0, 1) rfl
theorem dX6_hasWall_53 : decode cX6_hasWall 53 = .ok (.getfield 13, 3) := dTX6_hasWall_0_ok 33 (53, .getfield 13, 3) rfl
theorem dX6_hasWall_56 : decode cX6_hasWall 56 = .ok (.iload_n 3, 1) := dTX6_hasWall_0_ok 34 (56, .iload_n 3, 1) rfl
theorem dX6_hasWall_57 : decode cX6_hasWall 57 = .ok (.baload, 1) := dTX6_hasWall_0_ok 35 (57, .baload, 1) rfl
theorem dX6_hasWall_58 : decode cX6_hasWall 58 = .ok (.ifCond .eq 7, 3) := dTX6_hasWall_0_ok 36 (58, .ifCond .eq 7, 3) rfl
theorem dX6_hasWall_61 : decode cX6_hasWall 61 = .ok (.iconst 1, 1) := dTX6_hasWall_0_ok 37 (61, .iconst 1, 1) rfl
theorem dX6_hasWall_62 : decode cX6_hasWall 62 = .ok (.goto 4, 3) := dTX6_hasWall_0_ok 38 (62, .goto 4, 3) rfl
theorem dX6_hasWall_65 : decode cX6_hasWall 65 = .ok (.iconst 0, 1) := dTX6_hasWall_0_ok 39 (65, .iconst 0, 1) rfl
theorem dX6_hasWall_66 : decode cX6_hasWall 66 = .ok (.ireturn, 1) := dTX6_hasWall_0_ok 40 (66, .ireturn, 1) rfl
noncomputable def dTX6_wall_0 : List (Nat × Instr × Nat) := [(0, .aload_n 0, 1), (1, .iload_n 1, 1), (2, .iload_n 2, 1), (3, .invokestatic 52, 3), (6, .ifCond .ne 7, 3), (9, .iconst 1, 1), (10, .goto 35, 3), (13, .iload_n 3, 1), (14, .iconst 0, 1), (15, .iconst 3, 1), (16, .invokestatic 45, 3), (19, .ifCond .ne 7, 3), (22, .iconst 2, 1), (23, .goto 22, 3), (26, .bipush 9, 2), (28, .iload_n 2, 1), (29, .imul, 1), (30, .iload_n 1, 1), (31, .iadd, 1), (32, .iload_n 3, 1), (33, .invokestatic 56, 3), (36, .iconst (-1), 1), (37, .if_icmp .ne 7, 3), (40, .iconst 3, 1), (41, .goto 4, 3), (44, .iconst 0, 1), (45, .putfield 41, 3), (48, .aload_n 0, 1), (49, .getfield 41, 3), (52, .ifCond .eq 5, 3), (55, .iconst 0, 1), (56, .ireturn, 1), (57, .bipush 9, 2), (59, .iload_n 2, 1), (60, .imul, 1), (61, .iload_n 1, 1), (62, .iadd, 1), (63, .istore 4, 2), (65, .iload_n 3, 1), (66, .ifCond .eq 8, 3), (69, .iload_n 3, 1), (70, .iconst 3, 1), (71, .if_icmp .ne 12, 3), (74, .iload 4, 2), (76, .iload_n 3, 1), (77, .invokestatic 56, 3), (80, .goto 5, 3), (83, .iload 4, 2), (85, .istore 5, 2), (87, .iload_n 3, 1), (88, .iconst 2, 1), (89, .irem, 1), (90, .iconst 1, 1), (91, .if_icmp .ne 10, 3), (94, .aload_n 0, 1), (95, .getfield 9, 3), (98, .goto 7, 3), (101, .aload_n 0, 1), (102, .getfield 13, 3), (105, .astore 6, 2)]
theorem dTX6_wall_0_ok : ∀ (k : Nat) (q : Nat × Instr × Nat), dTX6_wall_0[k]? = some q → decode cX6_wall q.1 = .ok q.2 := dT_of (by decide +kernel)
theorem dX6_wall_0 : decode cX6_wall 0 = .ok (.aload_n 0, 1) := dTX6_wall_0_ok 0 (0, .aload_n 0, 1) rfl
theorem dX6_wall_1 : decode cX6_wall 1 = .ok (.iload_n 1, 1) := dTX6_wall_0_ok 1 (1, .iload_n 1, 1) rfl
theorem dX6_wall_2 : decode cX6_wall 2 = .ok (.iload_n 2, 1) := dTX6_wall_0_ok 2 (2, .iload_n 2, 1) rfl
theorem dX6_wall_3 : decode cX6_wall 3 = .ok (.invokestatic 52, 3) := dTX6_wall_0_ok 3 (3, .invokestatic 52, 3) rfl
theorem dX6_wall_6 : decode cX6_wall 6 = .ok (.ifCond .ne 7, 3) := dTX6_wall_0_ok 4 (6, .ifCond .ne 7, 3) rfl
theorem dX6_wall_9 : decode cX6_wall 9 = .ok (.iconst 1, 1) := dTX6_wall_0_ok 5 (9, .iconst 1, 1) rfl
theorem dX6_wall_10 : decode cX6_wall 10 = .ok (.goto 35, 3) := dTX6_wall_0_ok 6 (10, .goto 35, 3) rfl
theorem dX6_wall_13 : decode cX6_wall 13 = .ok (.iload_n 3, 1) := dTX6_wall_0_ok 7 (13, .iload_n 3, 1) rfl
theorem dX6_wall_14 : decode cX6_wall 14 = .ok (.iconst 0, 1) := dTX6_wall_0_ok 8 (14, .iconst 0, 1) rfl
theorem dX6_wall_15 : decode cX6_wall 15 = .ok (.iconst 3, 1) := dTX6_wall_0_ok 9 (15, .iconst 3, 1) rfl
theorem dX6_wall_16 : decode cX6_wall 16 = .ok (.invokestatic 45, 3) := dTX6_wall_0_ok 10 (16, .invokestatic 45, 3) rfl
theorem dX6_wall_19 : decode cX6_wall 19 = .ok (.ifCond .ne 7, 3) := dTX6_wall_0_ok 11 (19, .ifCond .ne 7, 3) rfl
theorem dX6_wall_22 : decode cX6_wall 22 = .ok (.iconst 2, 1) := dTX6_wall_0_ok 12 (22, .iconst 2, 1) rfl
theorem dX6_wall_23 : decode cX6_wall 23 = .ok (.goto 22, 3) := dTX6_wall_0_ok 13 (23, .goto 22, 3) rfl
theorem dX6_wall_26 : decode cX6_wall 26 = .ok (.bipush 9, 2) := dTX6_wall_0_ok 14 (26, .bipush 9, 2) rfl
theorem dX6_wall_28 : decode cX6_wall 28 = .ok (.iload_n 2, 1) := dTX6_wall_0_ok 15 (28, .iload_n 2, 1) rfl
theorem dX6_wall_29 : decode cX6_wall 29 = .ok (.imul, 1) := dTX6_wall_0_ok 16 (29, .imul, 1) rfl
theorem dX6_wall_30 : decode cX6_wall 30 = .ok (.iload_n 1, 1) := dTX6_wall_0_ok 17 (30, .iload_n 1, 1) rfl
theorem dX6_wall_31 : decode cX6_wall 31 = .ok (.iadd, 1) := dTX6_wall_0_ok 18 (31, .iadd, 1) rfl
theorem dX6_wall_32 : decode cX6_wall 32 = .ok (.iload_n 3, 1) := dTX6_wall_0_ok 19 (32, .iload_n 3, 1) rfl
theorem dX6_wall_33 : decode cX6_wall 33 = .ok (.invokestatic 56, 3) := dTX6_wall_0_ok 20 (33, .invokestatic 56, 3) rfl
theorem dX6_wall_36 : decode cX6_wall 36 = .ok (.iconst (-1), 1) := dTX6_wall_0_ok 21 (36, .iconst (-1), 1) rfl
theorem dX6_wall_37 : decode cX6_wall 37 = .ok (.if_icmp .ne 7, 3) := dTX6_wall_0_ok 22 (37, .if_icmp .ne 7, 3) rfl
theorem dX6_wall_40 : decode cX6_wall 40 = .ok (.iconst 3, 1) := dTX6_wall_0_ok 23 (40, .iconst 3, 1) rfl
theorem dX6_wall_41 : decode cX6_wall 41 = .ok (.goto 4, 3) := dTX6_wall_0_ok 24 (41, .goto 4, 3) rfl
theorem dX6_wall_44 : decode cX6_wall 44 = .ok (.iconst 0, 1) := dTX6_wall_0_ok 25 (44, .iconst 0, 1) rfl
theorem dX6_wall_45 : decode cX6_wall 45 = .ok (.putfield 41, 3) := dTX6_wall_0_ok 26 (45, .putfield 41, 3) rfl
theorem dX6_wall_48 : decode cX6_wall 48 = .ok (.aload_n 0, 1) := dTX6_wall_0_ok 27 (48, .aload_n 0, 1) rfl
theorem dX6_wall_49 : decode cX6_wall 49 = .ok (.getfield 41, 3) := dTX6_wall_0_ok 28 (49, .getfield 41, 3) rfl
theorem dX6_wall_52 : decode cX6_wall 52 = .ok (.ifCond .eq 5, 3) := dTX6_wall_0_ok 29 (52, .ifCond .eq 5, 3) rfl
theorem dX6_wall_55 : decode cX6_wall 55 = .ok (.iconst 0, 1) := dTX6_wall_0_ok 30 (55, .iconst 0, 1) rfl
theorem dX6_wall_56 : decode cX6_wall 56 = .ok (.ireturn, 1) := dTX6_wall_0_ok 31 (56, .ireturn, 1) rfl
theorem dX6_wall_57 : decode cX6_wall 57 = .ok (.bipush 9, 2) := dTX6_wall_0_ok 32 (57, .bipush 9, 2) rfl
theorem dX6_wall_59 : decode cX6_wall 59 = .ok (.iload_n 2, 1) := dTX6_wall_0_ok 33 (59, .iload_n 2, 1) rfl
theorem dX6_wall_60 : decode cX6_wall 60 = .ok (.imul, 1) := dTX6_wall_0_ok 34 (60, .imul, 1) rfl
theorem dX6_wall_61 : decode cX6_wall 61 = .ok (.iload_n 1, 1) := dTX6_wall_0_ok 35 (61, .iload_n 1, 1) rfl
theorem dX6_wall_62 : decode cX6_wall 62 = .ok (.iadd, 1) := dTX6_wall_0_ok 36 (62, .iadd, 1) rfl
theorem dX6_wall_63 : decode cX6_wall 63 = .ok (.istore 4, 2) := dTX6_wall_0_ok 37 (63, .istore 4, 2) rfl
theorem dX6_wall_65 : decode cX6_wall 65 = .ok (.iload_n 3, 1) := dTX6_wall_0_ok 38 (65, .iload_n 3, 1) rfl
theorem dX6_wall_66 : decode cX6_wall 66 = .ok (.ifCond .eq 8, 3) := dTX6_wall_0_ok 39 (66, .ifCond .eq 8, 3) rfl
theorem dX6_wall_69 : decode cX6_wall 69 = .ok (.iload_n 3, 1) := dTX6_wall_0_ok 40 (69, .iload_n 3, 1) rfl
theorem dX6_wall_70 : decode cX6_wall 70 = .ok (.iconst 3, 1) := dTX6_wall_0_ok 41 (70, .iconst 3, 1) rfl
theorem dX6_wall_71 : decode cX6_wall 71 = .ok (.if_icmp .ne 12, 3) := dTX6_wall_0_ok 42 (71, .if_icmp .ne 12, 3) rfl
theorem dX6_wall_74 : decode cX6_wall 74 = .ok (.iload 4, 2) := dTX6_wall_0_ok 43 (74, .iload 4, 2) rfl
theorem dX6_wall_76 : decode cX6_wall 76 = .ok (.iload_n 3, 1) := dTX6_wall_0_ok 44 (76, .iload_n 3, 1) rfl
theorem dX6_wall_77 : decode cX6_wall 77 = .ok (.invokestatic 56, 3) := dTX6_wall_0_ok 45 (77, .invokestatic 56, 3) rfl
theorem dX6_wall_80 : decode cX6_wall 80 = .ok (.goto 5, 3) := dTX6_wall_0_ok 46 (80, .goto 5, 3) rfl
theorem dX6_wall_83 : decode cX6_wall 83 = .ok (.iload 4, 2) := dTX6_wall_0_ok 47 (83, .iload 4, 2) rfl
theorem dX6_wall_85 : decode cX6_wall 85 = .ok (.istore 5, 2) := dTX6_wall_0_ok 48 (85, .istore 5, 2) rfl
theorem dX6_wall_87 : decode cX6_wall 87 = .ok (.iload_n 3, 1) := dTX6_wall_0_ok 49 (87, .iload_n 3, 1) rfl
theorem dX6_wall_88 : decode cX6_wall 88 = .ok (.iconst 2, 1) := dTX6_wall_0_ok 50 (88, .iconst 2, 1) rfl
theorem dX6_wall_89 : decode cX6_wall 89 = .ok (.irem, 1) := dTX6_wall_0_ok 51 (89, .irem, 1) rfl
theorem dX6_wall_90 : decode cX6_wall 90 = .ok (.iconst 1, 1) := dTX6_wall_0_ok 52 (90, .iconst 1, 1) rfl
theorem dX6_wall_91 : decode cX6_wall 91 = .ok (.if_icmp .ne 10, 3) := dTX6_wall_0_ok 53 (91, .if_icmp .ne 10, 3) rfl
theorem dX6_wall_94 : decode cX6_wall 94 = .ok (.aload_n 0, 1) := dTX6_wall_0_ok 54 (94, .aload_n 0, 1) rfl
theorem dX6_wall_95 : decode cX6_wall 95 = .ok (.getfield 9, 3) := dTX6_wall_0_ok 55 (95, .getfield 9, 3) rfl
theorem dX6_wall_98 : decode cX6_wall 98 = .ok (.goto 7, 3) := dTX6_wall_0_ok 56 (98, .goto 7, 3) rfl
theorem dX6_wall_101 : decode cX6_wall 101 = .ok (.aload_n 0, 1) := dTX6_wall_0_ok 57 (101, .aload_n 0, 1) rfl
theorem dX6_wall_102 : decode cX6_wall 102 = .ok (.getfield 13, 3) := dTX6_wall_0_ok 58 (102, .getfield 13, 3) rfl
theorem dX6_wall_105 : decode cX6_wall 105 = .ok (.astore 6, 2) := dTX6_wall_0_ok 59 (105, .astore 6, 2) rfl
noncomputable def dTX6_wall_1 : List (Nat × Instr × Nat) := [(107, .aload 6, 2), (109, .iload 5, 2), (111, .aload 6, 2), (113, .iload 5, 2), (115, .baload, 1), (116, .ifCond .ne 7, 3), (119, .iconst 1, 1), (120, .goto 4, 3), (123, .iconst 0, 1), (124, .bastore, 1), (125, .aload 6, 2), (127, .iload 5, 2), (129, .baload, 1), (130, .ireturn, 1)]
theorem dTX6_wall_1_ok : ∀ (k : Nat) (q : Nat × Instr × Nat), dTX6_wall_1[k]? = some q → decode cX6_wall q.1 = .ok q.2 := dT_of (by decide +kernel)
theorem dX6_wall_107 : decode cX6_wall 107 = .ok (.aload 6, 2) := dTX6_wall_1_ok 0 (107, .aload 6, 2) rfl
theorem dX6_wall_109 : decode cX6_wall 109 = .ok (.iload 5, 2) := dTX6_wall_1_ok 1 (109, .iload 5, 2) rfl
theorem dX6_wall_111 : decode cX6_wall 111 = .ok (.aload 6, 2) := dTX6_wall_1_ok 2 (111, .aload 6, 2) rfl
theorem dX6_wall_113 : decode cX6_wall 113 = .ok (.iload 5, 2) := dTX6_wall_1_ok 3 (113, .iload 5, 2) rfl
theorem dX6_wall_115 : decode cX6_wall 115 = .ok (.baload, 1) := dTX6_wall_1_ok 4 (115, .baload, 1) rfl
theorem dX6_wall_116 : decode cX6_wall 116 = .ok (.ifCond .ne 7, 3) := dTX6_wall_1_ok 5 (116, .ifCond .ne 7, 3) rfl
theorem dX6_wall_119 : decode cX6_wall 119 = .ok (.iconst 1, 1) := dTX6_wall_1_ok 6 (119, .iconst 1, 1) rfl
theorem dX6_wall_120 : decode cX6_wall 120 = .ok (.goto 4, 3) := dTX6_wall_1_ok 7 (120, .goto 4, 3) rfl
theorem dX6_wall_123 : decode cX6_wall 123 = .ok (.iconst 0, 1) := dTX6_wall_1_ok 8 (123, .iconst 0, 1) rfl
theorem dX6_wall_124 : decode cX6_wall 124 = .ok (.bastore, 1) := dTX6_wall_1_ok 9 (124, .bastore, 1) rfl
theorem dX6_wall_125 : decode cX6_wall 125 = .ok (.aload 6, 2) := dTX6_wall_1_ok 10 (125, .aload 6, 2) rfl
theorem dX6_wall_127 : decode cX6_wall 127 = .ok (.iload 5, 2) := dTX6_wall_1_ok 11 (127, .iload 5, 2) rfl
theorem dX6_wall_129 : decode cX6_wall 129 = .ok (.baload, 1) := dTX6_wall_1_ok 12 (129, .baload, 1) rfl
theorem dX6_wall_130 : decode cX6_wall 130 = .ok (.ireturn, 1) := dTX6_wall_1_ok 13 (130, .ireturn, 1) rfl
noncomputable def dTX6_things_0 : List (Nat × Instr × Nat) := [(0, .iconst 0, 1), (1, .istore_n 3, 1), (2, .aload_n 0, 1), (3, .getfield 16, 3), (6, .astore 4, 2), (8, .aload 4, 2), (10, .arraylength, 1), (11, .istore 5, 2), (13, .iconst 0, 1), (14, .istore 6, 2), (16, .iload 6, 2), (18, .iload 5, 2), (20, .if_icmp .ge 34, 3), (23, .aload 4, 2), (25, .iload 6, 2), (27, .iaload, 1), (28, .istore 7, 2), (30, .iload_n 3, 1), (31, .iload 7, 2), (33, .iload_n 1, 1), (34, .iload_n 2, 1), (35, .invokestatic 45, 3), (38, .ifCond .eq 7, 3), (41, .iconst 1, 1), (42, .goto 4, 3), (45, .iconst 0, 1), (46, .iadd, 1), (47, .istore_n 3, 1), (48, .iinc 6 1, 3), (51, .goto (-35), 3), (54, .iload_n 3, 1), (55, .ireturn, 1)]
theorem dTX6_things_0_ok : ∀ (k : Nat) (q : Nat × Instr × Nat), dTX6_things_0[k]? = some q → decode cX6_things q.1 = .ok q.2 := dT_of (by decide +kernel)
theorem dX6_things_0 : decode cX6_things 0 = .ok (.iconst 0, 1) := dTX6_things_0_ok 0 (0, .iconst 0, 1) rfl
theorem dX6_things_1 : decode cX6_things 1 = .ok (.istore_n 3, 1) := dTX6_things_0_ok 1 (1, .istore_n 3, 1) rfl
theorem dX6_things_2 : decode cX6_things 2 = .ok (.aload_n 0, 1) := dTX6_things_0_ok 2 (2, .aload_n 0, 1) rfl
theorem dX6_things_3 : decode cX6_things 3 = .ok (.getfield 16, 3) := dTX6_things_0_ok 3 (3, .getfield 16, 3) rfl
theorem dX6_things_6 : decode cX6_things 6 = .ok (.astore 4, 2) := dTX6_things_0_ok 4 (6, .astore 4, 2) rfl
theorem dX6_things_8 : decode cX6_things 8 = .ok (.aload 4, 2) := dTX6_things_0_ok 5 (8, .aload 4, 2) rfl
theorem dX6_things_10 : decode cX6_things 10 = .ok (.arraylength, 1) := dTX6_things_0_ok 6 (10, .arraylength, 1) rfl
theorem dX6_things_11 : decode cX6_things 11 = .ok (.istore 5, 2) := dTX6_things_0_ok 7 (11, .istore 5, 2) rfl
theorem dX6_things_13 : decode cX6_things 13 = .ok (.iconst 0, 1) := dTX6_things_0_ok 8 (13, .iconst 0, 1) rfl
theorem dX6_things_14 : decode cX6_things 14 = .ok (.istore 6, 2) := dTX6_things_0_ok 9 (14, .istore 6, 2) rfl
theorem dX6_things_16 : decode cX6_things 16 = .ok (.iload 6, 2) := dTX6_things_0_ok 10 (16, .iload 6, 2) rfl
theorem dX6_things_18 : decode cX6_things 18 = .ok (.iload 5, 2) := dTX6_things_0_ok 11 (18, .iload 5, 2) rfl
theorem dX6_things_20 : decode cX6_things 20 = .ok (.if_icmp .ge 34, 3) := dTX6_things_0_ok 12 (20, .if_icmp .ge 34, 3) rfl
theorem dX6_things_23 : decode cX6_things 23 = .ok (.aload 4, 2) := dTX6_things_0_ok 13 (23, .aload 4, 2) rfl
theorem dX6_things_25 : decode cX6_things 25 = .ok (.iload 6, 2) := dTX6_things_0_ok 14 (25, .iload 6, 2) rfl
theorem dX6_things_27 : decode cX6_things 27 = .ok (.iaload, 1) := dTX6_things_0_ok 15 (27, .iaload, 1) rfl
theorem dX6_things_28 : decode cX6_things 28 = .ok (.istore 7, 2) := dTX6_things_0_ok 16 (28, .istore 7, 2) rfl
theorem dX6_things_30 : decode cX6_things 30 = .ok (.iload_n 3, 1) := dTX6_things_0_ok 17 (30, .iload_n 3, 1) rfl
theorem dX6_things_31 : decode cX6_things 31 = .ok (.iload 7, 2) := dTX6_things_0_ok 18 (31, .iload 7, 2) rfl
theorem dX6_things_33 : decode cX6_things 33 = .ok (.iload_n 1, 1) := dTX6_things_0_ok 19 (33, .iload_n 1, 1) rfl
theorem dX6_things_34 : decode cX6_things 34 = .ok (.iload_n 2, 1) := dTX6_things_0_ok 20 (34, .iload_n 2, 1) rfl
theorem dX6_things_35 : decode cX6_things 35 = .ok (.invokestatic 45, 3) := dTX6_things_0_ok 21 (35, .invokestatic 45, 3) rfl
theorem dX6_things_38 : decode cX6_things 38 = .ok (.ifCond .eq 7, 3) := dTX6_things_0_ok 22 (38, .ifCond .eq 7, 3) rfl
theorem dX6_things_41 : decode cX6_things 41 = .ok (.iconst 1, 1) := dTX6_things_0_ok 23 (41, .iconst 1, 1) rfl
theorem dX6_things_42 : decode cX6_things 42 = .ok (.goto 4, 3) := dTX6_things_0_ok 24 (42, .goto 4, 3) rfl
theorem dX6_things_45 : decode cX6_things 45 = .ok (.iconst 0, 1) := dTX6_things_0_ok 25 (45, .iconst 0, 1) rfl
theorem dX6_things_46 : decode cX6_things 46 = .ok (.iadd, 1) := dTX6_things_0_ok 26 (46, .iadd, 1) rfl
theorem dX6_things_47 : decode cX6_things 47 = .ok (.istore_n 3, 1) := dTX6_things_0_ok 27 (47, .istore_n 3, 1) rfl
theorem dX6_things_48 : decode cX6_things 48 = .ok (.iinc 6 1, 3) := dTX6_things_0_ok 28 (48, .iinc 6 1, 3) rfl
theorem dX6_things_51 : decode cX6_things 51 = .ok (.goto (-35), 3) := dTX6_things_0_ok 29 (51, .goto (-35), 3) rfl
theorem dX6_things_54 : decode cX6_things 54 = .ok (.iload_n 3, 1) := dTX6_things_0_ok 30 (54, .iload_n 3, 1) rfl
theorem dX6_things_55 : decode cX6_things 55 = .ok (.ireturn, 1) := dTX6_things_0_ok 31 (55, .ireturn, 1) rfl
noncomputable def dTX6_set_0 : List (Nat × Instr × Nat) := [(0, .aload_n 0, 1), (1, .getfield 16, 3), (4, .iload_n 1, 1), (5, .iload_n 2, 1), (6, .iastore, 1), (7, .aload_n 0, 1), (8, .getfield 20, 3), (11, .iload_n 1, 1), (12, .iload_n 3, 1), (13, .iastore, 1), (14, .aload_n 0, 1), (15, .getfield 23, 3), (18, .iload_n 1, 1), (19, .iload 4, 2), (21, .iastore, 1), (22, .iload_n 2, 1), (23, .iconst 2, 1), (24, .if_icmp .eq 8, 3), (27, .iload_n 2, 1), (28, .iconst 3, 1), (29, .if_icmp .ne 12, 3), (32, .aload_n 0, 1), (33, .iconst 2, 1), (34, .iconst 3, 1), (35, .invokevirtual 60, 3), (38, .goto 9, 3), (41, .aload_n 0, 1), (42, .iload_n 2, 1), (43, .iload_n 2, 1), (44, .invokevirtual 60, 3), (47, .ireturn, 1)]
theorem dTX6_set_0_ok : ∀ (k : Nat) (q : Nat × Instr × Nat), dTX6_set_0[k]? = some q → decode cX6_set q.1 = .ok q.2 := dT_of (by decide +kernel)
theorem dX6_set_0 : decode cX6_set 0 = .ok (.aload_n 0, 1) := dTX6_set_0_ok 0 (0, .aload_n 0, 1) rfl
theorem dX6_set_1 : decode cX6_set 1 = .ok (.getfield 16, 3) := dTX6_set_0_ok 1 (1, .getfield 16, 3) rfl
theorem dX6_set_4 : decode cX6_set 4 = .ok (.iload_n 1, 1) := dTX6_set_0_ok 2 (4, .iload_n 1, 1) rfl
theorem dX6_set_5 : decode cX6_set 5 = .ok (.iload_n 2, 1) := dTX6_set_0_ok 3 (5, .iload_n 2, 1) rfl
theorem dX6_set_6 : decode cX6_set 6 = .ok (.iastore, 1) := dTX6_set_0_ok 4 (6, .iastore, 1) rfl
theorem dX6_set_7 : decode cX6_set 7 = .ok (.aload_n 0, 1) := dTX6_set_0_ok 5 (7, .aload_n 0, 1) rfl
theorem dX6_set_8 : decode cX6_set 8 = .ok (.getfield 20, 3) := dTX6_set_0_ok 6 (8, .getfield 20, 3) rfl
theorem dX6_set_11 : decode cX6_set 11 = .ok (.iload_n 1, 1) := dTX6_set_0_ok 7 (11, .iload_n 1, 1) rfl
theorem dX6_set_12 : decode cX6_set 12 = .ok (.iload_n 3, 1) := dTX6_set_0_ok 8 (12, .iload_n 3, 1) rfl
theorem dX6_set_13 : decode cX6_set 13 = .ok (.iastore, 1) := dTX6_set_0_ok 9 (13, .iastore, 1) rfl
theorem dX6_set_14 : decode cX6_set 14 = .ok (.aload_n 0, 1) := dTX6_set_0_ok 10 (14, .aload_n 0, 1) rfl
theorem dX6_set_15 : decode cX6_set 15 = .ok (.getfield 23, 3) := dTX6_set_0_ok 11 (15, .getfield 23, 3) rfl
theorem dX6_set_18 : decode cX6_set 18 = .ok (.iload_n 1, 1) := dTX6_set_0_ok 12 (18, .iload_n 1, 1) rfl
theorem dX6_set_19 : decode cX6_set 19 = .ok (.iload 4, 2) := dTX6_set_0_ok 13 (19, .iload 4, 2) rfl
theorem dX6_set_21 : decode cX6_set 21 = .ok (.iastore, 1) := dTX6_set_0_ok 14 (21, .iastore, 1) rfl
theorem dX6_set_22 : decode cX6_set 22 = .ok (.iload_n 2, 1) := dTX6_set_0_ok 15 (22, .iload_n 2, 1) rfl
theorem dX6_set_23 : decode cX6_set 23 = .ok (.iconst 2, 1) := dTX6_set_0_ok 16 (23, .iconst 2, 1) rfl
theorem dX6_set_24 : decode cX6_set 24 = .ok (.if_icmp .eq 8, 3) := dTX6_set_0_ok 17 (24, .if_icmp .eq 8, 3) rfl
theorem dX6_set_27 : decode cX6_set 27 = .ok (.iload_n 2, 1) := dTX6_set_0_ok 18 (27, .iload_n 2, 1) rfl
theorem dX6_set_28 : decode cX6_set 28 = .ok (.iconst 3, 1) := dTX6_set_0_ok 19 (28, .iconst 3, 1) rfl
theorem dX6_set_29 : decode cX6_set 29 = .ok (.if_icmp .ne 12, 3) := dTX6_set_0_ok 20 (29, .if_icmp .ne 12, 3) rfl
theorem dX6_set_32 : decode cX6_set 32 = .ok (.aload_n 0, 1) := dTX6_set_0_ok 21 (32, .aload_n 0, 1) rfl
theorem dX6_set_33 : decode cX6_set 33 = .ok (.iconst 2, 1) := dTX6_set_0_ok 22 (33, .iconst 2, 1) rfl
theorem dX6_set_34 : decode cX6_set 34 = .ok (.iconst 3, 1) := dTX6_set_0_ok 23 (34, .iconst 3, 1) rfl
theorem dX6_set_35 : decode cX6_set 35 = .ok (.invokevirtual 60, 3) := dTX6_set_0_ok 24 (35, .invokevirtual 60, 3) rfl
theorem dX6_set_38 : decode cX6_set 38 = .ok (.goto 9, 3) := dTX6_set_0_ok 25 (38, .goto 9, 3) rfl
theorem dX6_set_41 : decode cX6_set 41 = .ok (.aload_n 0, 1) := dTX6_set_0_ok 26 (41, .aload_n 0, 1) rfl
theorem dX6_set_42 : decode cX6_set 42 = .ok (.iload_n 2, 1) := dTX6_set_0_ok 27 (42, .iload_n 2, 1) rfl
theorem dX6_set_43 : decode cX6_set 43 = .ok (.iload_n 2, 1) := dTX6_set_0_ok 28 (43, .iload_n 2, 1) rfl
theorem dX6_set_44 : decode cX6_set 44 = .ok (.invokevirtual 60, 3) := dTX6_set_0_ok 29 (44, .invokevirtual 60, 3) rfl
theorem dX6_set_47 : decode cX6_set 47 = .ok (.ireturn, 1) := dTX6_set_0_ok 30 (47, .ireturn, 1) rfl
noncomputable def dTX6_candle_0 : List (Nat × Instr × Nat) := [(0, .aload_n 0, 1), (1, .iconst 0, 1), (2, .putfield 41, 3), (5, .iload_n 1, 1), (6, .iload_n 2, 1), (7, .invokestatic 52, 3), (10, .ifCond .ne 9, 3), (13, .aload_n 0, 1), (14, .iconst 1, 1), (15, .invokevirtual 62, 3), (18, .ireturn, 1), (19, .iload_n 3, 1), (20, .iconst 1, 1), (21, .bipush 60, 2), (23, .invokestatic 45, 3), (26, .ifCond .ne 9, 3), (29, .aload_n 0, 1), (30, .iconst 2, 1), (31, .invokevirtual 62, 3), (34, .ireturn, 1), (35, .aload_n 0, 1), (36, .iconst 1, 1), (37, .iconst 1, 1), (38, .invokevirtual 60, 3), (41, .bipush 10, 2), (43, .if_icmp .eq 17, 3), (46, .aload_n 0, 1), (47, .getfield 16, 3), (50, .bipush 9, 2), (52, .iload_n 2, 1), (53, .imul, 1), (54, .iload_n 1, 1), (55, .iadd, 1), (56, .iaload, 1), (57, .ifCond .eq 11, 3), (60, .aload_n 0, 1), (61, .iconst 3, 1), (62, .invokevirtual 62, 3), (65, .goto 16, 3), (68, .aload_n 0, 1), (69, .bipush 9, 2), (71, .iload_n 2, 1), (72, .imul, 1), (73, .iload_n 1, 1), (74, .iadd, 1), (75, .iconst 1, 1), (76, .iload_n 3, 1), (77, .iconst 1, 1), (78, .invokevirtual 66, 3), (81, .ireturn, 1)]
theorem dTX6_candle_0_ok : ∀ (k : Nat) (q : Nat × Instr × Nat), dTX6_candle_0[k]? = some q → decode cX6_candle q.1 = .ok q.2 := dT_of (by decide +kernel)
theorem dX6_candle_0 : decode cX6_candle 0 = .ok (.aload_n 0, 1) := dTX6_candle_0_ok 0 (0, .aload_n 0, 1) rfl
theorem dX6_candle_1 : decode cX6_candle 1 = .ok (.iconst 0, 1) := dTX6_candle_0_ok 1 (1, .iconst 0, 1) rfl
theorem dX6_candle_2 : decode cX6_candle 2 = .ok (.putfield 41, 3) := dTX6_candle_0_ok 2 (2, .putfield 41, 3) rfl
theorem dX6_candle_5 : decode cX6_candle 5 = .ok (.iload_n 1, 1) := dTX6_candle_0_ok 3 (5, .iload_n 1, 1) rfl
theorem dX6_candle_6 : decode cX6_candle 6 = .ok (.iload_n 2, 1) := dTX6_candle_0_ok 4 (6, .iload_n 2, 1) rfl
theorem dX6_candle_7 : decode cX6_candle 7 = .ok (.invokestatic 52, 3) := dTX6_candle_0_ok 5 (7, .invokestatic 52, 3) rfl
theorem dX6_candle_10 : decode cX6_candle 10 = .ok (.ifCond .ne 9, 3) := dTX6_candle_0_ok 6 (10, .ifCond .ne 9, 3) rfl
theorem dX6_candle_13 : decode cX6_candle 13 = .ok (.aload_n 0, 1) := dTX6_candle_0_ok 7 (13, .aload_n 0, 1) rfl
theorem dX6_candle_14 : decode cX6_candle 14 = .ok (.iconst 1, 1) := dTX6_candle_0_ok 8 (14, .iconst 1, 1) rfl
theorem dX6_candle_15 : decode cX6_candle 15 = .ok (.invokevirtual 62, 3) := dTX6_candle_0_ok 9 (15, .invokevirtual 62, 3) rfl
theorem dX6_candle_18 : decode cX6_candle 18 = .ok (.ireturn, 1) := dTX6_candle_0_ok 10 (18, .ireturn, 1) rfl
theorem dX6_candle_19 : decode cX6_candle 19 = .ok (.iload_n 3, 1) := dTX6_candle_0_ok 11 (19, .iload_n 3, 1) rfl
theorem dX6_candle_20 : decode cX6_candle 20 = .ok (.iconst 1, 1) := dTX6_candle_0_ok 12 (20, .iconst 1, 1) rfl
theorem dX6_candle_21 : decode cX6_candle 21 = .ok (.bipush 60, 2) := dTX6_candle_0_ok 13 (21, .bipush 60, 2) rfl
theorem dX6_candle_23 : decode cX6_candle 23 = .ok (.invokestatic 45, 3) := dTX6_candle_0_ok 14 (23, .invokestatic 45, 3) rfl
theorem dX6_candle_26 : decode cX6_candle 26 = .ok (.ifCond .ne 9, 3) := dTX6_candle_0_ok 15 (26, .ifCond .ne 9, 3) rfl
theorem dX6_candle_29 : decode cX6_candle 29 = .ok (.aload_n 0, 1) := dTX6_candle_0_ok 16 (29, .aload_n 0, 1) rfl
theorem dX6_candle_30 : decode cX6_candle 30 = .ok (.iconst 2, 1) := dTX6_candle_0_ok 17 (30, .iconst 2, 1) rfl
theorem dX6_candle_31 : decode cX6_candle 31 = .ok (.invokevirtual 62, 3) := dTX6_candle_0_ok 18 (31, .invokevirtual 62, 3) rfl
theorem dX6_candle_34 : decode cX6_candle 34 = .ok (.ireturn, 1) := dTX6_candle_0_ok 19 (34, .ireturn, 1) rfl
theorem dX6_candle_35 : decode cX6_candle 35 = .ok (.aload_n 0, 1) := dTX6_candle_0_ok 20 (35, .aload_n 0, 1) rfl
theorem dX6_candle_36 : decode cX6_candle 36 = .ok (.iconst 1, 1) := dTX6_candle_0_ok 21 (36, .iconst 1, 1) rfl
theorem dX6_candle_37 : decode cX6_candle 37 = .ok (.iconst 1, 1) := dTX6_candle_0_ok 22 (37, .iconst 1, 1) rfl
theorem dX6_candle_38 : decode cX6_candle 38 = .ok (.invokevirtual 60, 3) := dTX6_candle_0_ok 23 (38, .invokevirtual 60, 3) rfl
theorem dX6_candle_41 : decode cX6_candle 41 = .ok (.bipush 10, 2) := dTX6_candle_0_ok 24 (41, .bipush 10, 2) rfl
theorem dX6_candle_43 : decode cX6_candle 43 = .ok (.if_icmp .eq 17, 3) := dTX6_candle_0_ok 25 (43, .if_icmp .eq 17, 3) rfl
theorem dX6_candle_46 : decode cX6_candle 46 = .ok (.aload_n 0, 1) := dTX6_candle_0_ok 26 (46, .aload_n 0, 1) rfl
theorem dX6_candle_47 : decode cX6_candle 47 = .ok (.getfield 16, 3) := dTX6_candle_0_ok 27 (47, .getfield 16, 3) rfl
theorem dX6_candle_50 : decode cX6_candle 50 = .ok (.bipush 9, 2) := dTX6_candle_0_ok 28 (50, .bipush 9, 2) rfl
theorem dX6_candle_52 : decode cX6_candle 52 = .ok (.iload_n 2, 1) := dTX6_candle_0_ok 29 (52, .iload_n 2, 1) rfl
theorem dX6_candle_53 : decode cX6_candle 53 = .ok (.imul, 1) := dTX6_candle_0_ok 30 (53, .imul, 1) rfl
theorem dX6_candle_54 : decode cX6_candle 54 = .ok (.iload_n 1, 1) := dTX6_candle_0_ok 31 (54, .iload_n 1, 1) rfl
theorem dX6_candle_55 : decode cX6_candle 55 = .ok (.iadd, 1) := dTX6_candle_0_ok 32 (55, .iadd, 1) rfl
theorem dX6_candle_56 : decode cX6_candle 56 = .ok (.iaload, 1) := dTX6_candle_0_ok 33 (56, .iaload, 1) rfl
theorem dX6_candle_57 : decode cX6_candle 57 = .ok (.ifCond .eq 11, 3) := dTX6_candle_0_ok 34 (57, .ifCond .eq 11, 3) rfl
theorem dX6_candle_60 : decode cX6_candle 60 = .ok (.aload_n 0, 1) := dTX6_candle_0_ok 35 (60, .aload_n 0, 1) rfl
theorem dX6_candle_61 : decode cX6_candle 61 = .ok (.iconst 3, 1) := dTX6_candle_0_ok 36 (61, .iconst 3, 1) rfl
theorem dX6_candle_62 : decode cX6_candle 62 = .ok (.invokevirtual 62, 3) := dTX6_candle_0_ok 37 (62, .invokevirtual 62, 3) rfl
theorem dX6_candle_65 : decode cX6_candle 65 = .ok (.goto 16, 3) := dTX6_candle_0_ok 38 (65, .goto 16, 3) rfl
theorem dX6_candle_68 : decode cX6_candle 68 = .ok (.aload_n 0, 1) := dTX6_candle_0_ok 39 (68, .aload_n 0, 1) rfl
theorem dX6_candle_69 : decode cX6_candle 69 = .ok (.bipush 9, 2) := dTX6_candle_0_ok 40 (69, .bipush 9, 2) rfl
theorem dX6_candle_71 : decode cX6_candle 71 = .ok (.iload_n 2, 1) := dTX6_candle_0_ok 41 (71, .iload_n 2, 1) rfl
theorem dX6_candle_72 : decode cX6_candle 72 = .ok (.imul, 1) := dTX6_candle_0_ok 42 (72, .imul, 1) rfl
theorem dX6_candle_73 : decode cX6_candle 73 = .ok (.iload_n 1, 1) := dTX6_candle_0_ok 43 (73, .iload_n 1, 1) rfl
theorem dX6_candle_74 : decode cX6_candle 74 = .ok (.iadd, 1) := dTX6_candle_0_ok 44 (74, .iadd, 1) rfl
theorem dX6_candle_75 : decode cX6_candle 75 = .ok (.iconst 1, 1) := dTX6_candle_0_ok 45 (75, .iconst 1, 1) rfl
theorem dX6_candle_76 : decode cX6_candle 76 = .ok (.iload_n 3, 1) := dTX6_candle_0_ok 46 (76, .iload_n 3, 1) rfl
theorem dX6_candle_77 : decode cX6_candle 77 = .ok (.iconst 1, 1) := dTX6_candle_0_ok 47 (77, .iconst 1, 1) rfl
theorem dX6_candle_78 : decode cX6_candle 78 = .ok (.invokevirtual 66, 3) := dTX6_candle_0_ok 48 (78, .invokevirtual 66, 3) rfl
theorem dX6_candle_81 : decode cX6_candle 81 = .ok (.ireturn, 1) := dTX6_candle_0_ok 49 (81, .ireturn, 1) rfl
noncomputable def dTX6_mirror_0 : List (Nat × Instr × Nat) := [(0, .aload_n 0, 1), (1, .iconst 0, 1), (2, .putfield 41, 3), (5, .iload_n 1, 1), (6, .iload_n 2, 1), (7, .invokestatic 52, 3), (10, .ifCond .ne 9, 3), (13, .aload_n 0, 1), (14, .iconst 1, 1), (15, .invokevirtual 62, 3), (18, .ireturn, 1), (19, .aload_n 0, 1), (20, .iconst 2, 1), (21, .iconst 3, 1), (22, .invokevirtual 60, 3), (25, .bipush 10, 2), (27, .if_icmp .eq 17, 3), (30, .aload_n 0, 1), (31, .getfield 16, 3), (34, .bipush 9, 2), (36, .iload_n 2, 1), (37, .imul, 1), (38, .iload_n 1, 1), (39, .iadd, 1), (40, .iaload, 1), (41, .ifCond .eq 11, 3), (44, .aload_n 0, 1), (45, .iconst 2, 1), (46, .invokevirtual 62, 3), (49, .goto 24, 3), (52, .aload_n 0, 1), (53, .bipush 9, 2), (55, .iload_n 2, 1), (56, .imul, 1), (57, .iload_n 1, 1), (58, .iadd, 1), (59, .iload_n 3, 1), (60, .ifCond .eq 7, 3), (63, .iconst 2, 1), (64, .goto 4, 3), (67, .iconst 3, 1), (68, .iconst 0, 1), (69, .iconst 0, 1), (70, .invokevirtual 66, 3), (73, .ireturn, 1)]
theorem dTX6_mirror_0_ok : ∀ (k : Nat) (q : Nat × Instr × Nat), dTX6_mirror_0[k]? = some q → decode cX6_mirror q.1 = .ok q.2 := dT_of (by decide +kernel)
theorem dX6_mirror_0 : decode cX6_mirror 0 = .ok (.aload_n 0, 1) := dTX6_mirror_0_ok 0 (0, .aload_n 0, 1) rfl
theorem dX6_mirror_1 : decode cX6_mirror 1 = .ok (.iconst 0, 1) := dTX6_mirror_0_ok 1 (1, .iconst 0, 1) rfl
theorem dX6_mirror_2 : decode cX6_mirror 2 = .ok (.putfield 41, 3) := dTX6_mirror_0_ok 2 (2, .putfield 41, 3) rfl
theorem dX6_mirror_5 : decode cX6_mirror 5 = .ok (.iload_n 1, 1) := dTX6_mirror_0_ok 3 (5, .iload_n 1, 1) rfl
theorem dX6_mirror_6 : decode cX6_mirror 6 = .ok (.iload_n 2, 1) := dTX6_mirror_0_ok 4 (6, .iload_n 2, 1) rfl
theorem dX6_mirror_7 : decode cX6_mirror 7 = .ok (.invokestatic 52, 3) := dTX6_mirror_0_ok 5 (7, .invokestatic 52, 3) rfl
theorem dX6_mirror_10 : decode cX6_mirror 10 = .ok (.ifCond .ne 9, 3) := dTX6_mirror_0_ok 6 (10, .ifCond .ne 9, 3) rfl
theorem dX6_mirror_13 : decode cX6_mirror 13 = .ok (.aload_n 0, 1) := dTX6_mirror_0_ok 7 (13, .aload_n 0, 1) rfl
theorem dX6_mirror_14 : decode cX6_mirror 14 = .ok (.iconst 1, 1) := dTX6_mirror_0_ok 8 (14, .iconst 1, 1) rfl
theorem dX6_mirror_15 : decode cX6_mirror 15 = .ok (.invokevirtual 62, 3) := dTX6_mirror_0_ok 9 (15, .invokevirtual 62, 3) rfl
theorem dX6_mirror_18 : decode cX6_mirror 18 = .ok (.ireturn, 1) := dTX6_mirror_0_ok 10 (18, .ireturn, 1) rfl
theorem dX6_mirror_19 : decode cX6_mirror 19 = .ok (.aload_n 0, 1) := dTX6_mirror_0_ok 11 (19, .aload_n 0, 1) rfl
theorem dX6_mirror_20 : decode cX6_mirror 20 = .ok (.iconst 2, 1) := dTX6_mirror_0_ok 12 (20, .iconst 2, 1) rfl
theorem dX6_mirror_21 : decode cX6_mirror 21 = .ok (.iconst 3, 1) := dTX6_mirror_0_ok 13 (21, .iconst 3, 1) rfl
theorem dX6_mirror_22 : decode cX6_mirror 22 = .ok (.invokevirtual 60, 3) := dTX6_mirror_0_ok 14 (22, .invokevirtual 60, 3) rfl
theorem dX6_mirror_25 : decode cX6_mirror 25 = .ok (.bipush 10, 2) := dTX6_mirror_0_ok 15 (25, .bipush 10, 2) rfl
theorem dX6_mirror_27 : decode cX6_mirror 27 = .ok (.if_icmp .eq 17, 3) := dTX6_mirror_0_ok 16 (27, .if_icmp .eq 17, 3) rfl
theorem dX6_mirror_30 : decode cX6_mirror 30 = .ok (.aload_n 0, 1) := dTX6_mirror_0_ok 17 (30, .aload_n 0, 1) rfl
theorem dX6_mirror_31 : decode cX6_mirror 31 = .ok (.getfield 16, 3) := dTX6_mirror_0_ok 18 (31, .getfield 16, 3) rfl
theorem dX6_mirror_34 : decode cX6_mirror 34 = .ok (.bipush 9, 2) := dTX6_mirror_0_ok 19 (34, .bipush 9, 2) rfl
theorem dX6_mirror_36 : decode cX6_mirror 36 = .ok (.iload_n 2, 1) := dTX6_mirror_0_ok 20 (36, .iload_n 2, 1) rfl
theorem dX6_mirror_37 : decode cX6_mirror 37 = .ok (.imul, 1) := dTX6_mirror_0_ok 21 (37, .imul, 1) rfl
theorem dX6_mirror_38 : decode cX6_mirror 38 = .ok (.iload_n 1, 1) := dTX6_mirror_0_ok 22 (38, .iload_n 1, 1) rfl
theorem dX6_mirror_39 : decode cX6_mirror 39 = .ok (.iadd, 1) := dTX6_mirror_0_ok 23 (39, .iadd, 1) rfl
theorem dX6_mirror_40 : decode cX6_mirror 40 = .ok (.iaload, 1) := dTX6_mirror_0_ok 24 (40, .iaload, 1) rfl
theorem dX6_mirror_41 : decode cX6_mirror 41 = .ok (.ifCond .eq 11, 3) := dTX6_mirror_0_ok 25 (41, .ifCond .eq 11, 3) rfl
theorem dX6_mirror_44 : decode cX6_mirror 44 = .ok (.aload_n 0, 1) := dTX6_mirror_0_ok 26 (44, .aload_n 0, 1) rfl
theorem dX6_mirror_45 : decode cX6_mirror 45 = .ok (.iconst 2, 1) := dTX6_mirror_0_ok 27 (45, .iconst 2, 1) rfl
theorem dX6_mirror_46 : decode cX6_mirror 46 = .ok (.invokevirtual 62, 3) := dTX6_mirror_0_ok 28 (46, .invokevirtual 62, 3) rfl
theorem dX6_mirror_49 : decode cX6_mirror 49 = .ok (.goto 24, 3) := dTX6_mirror_0_ok 29 (49, .goto 24, 3) rfl
theorem dX6_mirror_52 : decode cX6_mirror 52 = .ok (.aload_n 0, 1) := dTX6_mirror_0_ok 30 (52, .aload_n 0, 1) rfl
theorem dX6_mirror_53 : decode cX6_mirror 53 = .ok (.bipush 9, 2) := dTX6_mirror_0_ok 31 (53, .bipush 9, 2) rfl
theorem dX6_mirror_55 : decode cX6_mirror 55 = .ok (.iload_n 2, 1) := dTX6_mirror_0_ok 32 (55, .iload_n 2, 1) rfl
theorem dX6_mirror_56 : decode cX6_mirror 56 = .ok (.imul, 1) := dTX6_mirror_0_ok 33 (56, .imul, 1) rfl
theorem dX6_mirror_57 : decode cX6_mirror 57 = .ok (.iload_n 1, 1) := dTX6_mirror_0_ok 34 (57, .iload_n 1, 1) rfl
theorem dX6_mirror_58 : decode cX6_mirror 58 = .ok (.iadd, 1) := dTX6_mirror_0_ok 35 (58, .iadd, 1) rfl
theorem dX6_mirror_59 : decode cX6_mirror 59 = .ok (.iload_n 3, 1) := dTX6_mirror_0_ok 36 (59, .iload_n 3, 1) rfl
theorem dX6_mirror_60 : decode cX6_mirror 60 = .ok (.ifCond .eq 7, 3) := dTX6_mirror_0_ok 37 (60, .ifCond .eq 7, 3) rfl
theorem dX6_mirror_63 : decode cX6_mirror 63 = .ok (.iconst 2, 1) := dTX6_mirror_0_ok 38 (63, .iconst 2, 1) rfl
theorem dX6_mirror_64 : decode cX6_mirror 64 = .ok (.goto 4, 3) := dTX6_mirror_0_ok 39 (64, .goto 4, 3) rfl
theorem dX6_mirror_67 : decode cX6_mirror 67 = .ok (.iconst 3, 1) := dTX6_mirror_0_ok 40 (67, .iconst 3, 1) rfl
theorem dX6_mirror_68 : decode cX6_mirror 68 = .ok (.iconst 0, 1) := dTX6_mirror_0_ok 41 (68, .iconst 0, 1) rfl
theorem dX6_mirror_69 : decode cX6_mirror 69 = .ok (.iconst 0, 1) := dTX6_mirror_0_ok 42 (69, .iconst 0, 1) rfl
theorem dX6_mirror_70 : decode cX6_mirror 70 = .ok (.invokevirtual 66, 3) := dTX6_mirror_0_ok 43 (70, .invokevirtual 66, 3) rfl
theorem dX6_mirror_73 : decode cX6_mirror 73 = .ok (.ireturn, 1) := dTX6_mirror_0_ok 44 (73, .ireturn, 1) rfl
noncomputable def dTX6_tally_0 : List (Nat × Instr × Nat) := [(0, .aload_n 0, 1), (1, .iconst 0, 1), (2, .putfield 41, 3), (5, .iload_n 1, 1), (6, .iload_n 2, 1), (7, .invokestatic 52, 3), (10, .ifCond .ne 9, 3), (13, .aload_n 0, 1), (14, .iconst 1, 1), (15, .invokevirtual 62, 3), (18, .ireturn, 1), (19, .aload_n 0, 1), (20, .iconst 4, 1), (21, .iconst 4, 1), (22, .invokevirtual 60, 3), (25, .bipush 6, 2), (27, .if_icmp .eq 17, 3), (30, .aload_n 0, 1), (31, .getfield 16, 3), (34, .bipush 9, 2), (36, .iload_n 2, 1), (37, .imul, 1), (38, .iload_n 1, 1), (39, .iadd, 1), (40, .iaload, 1), (41, .ifCond .eq 11, 3), (44, .aload_n 0, 1), (45, .iconst 2, 1), (46, .invokevirtual 62, 3), (49, .goto 16, 3), (52, .aload_n 0, 1), (53, .bipush 9, 2), (55, .iload_n 2, 1), (56, .imul, 1), (57, .iload_n 1, 1), (58, .iadd, 1), (59, .iconst 4, 1), (60, .iconst 0, 1), (61, .iconst 0, 1), (62, .invokevirtual 66, 3), (65, .ireturn, 1)]
theorem dTX6_tally_0_ok : ∀ (k : Nat) (q : Nat × Instr × Nat), dTX6_tally_0[k]? = some q → decode cX6_tally q.1 = .ok q.2 := dT_of (by decide +kernel)
theorem dX6_tally_0 : decode cX6_tally 0 = .ok (.aload_n 0, 1) := dTX6_tally_0_ok 0 (0, .aload_n 0, 1) rfl
theorem dX6_tally_1 : decode cX6_tally 1 = .ok (.iconst 0, 1) := dTX6_tally_0_ok 1 (1, .iconst 0, 1) rfl
theorem dX6_tally_2 : decode cX6_tally 2 = .ok (.putfield 41, 3) := dTX6_tally_0_ok 2 (2, .putfield 41, 3) rfl
theorem dX6_tally_5 : decode cX6_tally 5 = .ok (.iload_n 1, 1) := dTX6_tally_0_ok 3 (5, .iload_n 1, 1) rfl
theorem dX6_tally_6 : decode cX6_tally 6 = .ok (.iload_n 2, 1) := dTX6_tally_0_ok 4 (6, .iload_n 2, 1) rfl
theorem dX6_tally_7 : decode cX6_tally 7 = .ok (.invokestatic 52, 3) := dTX6_tally_0_ok 5 (7, .invokestatic 52, 3) rfl
theorem dX6_tally_10 : decode cX6_tally 10 = .ok (.ifCond .ne 9, 3) := dTX6_tally_0_ok 6 (10, .ifCond .ne 9, 3) rfl
theorem dX6_tally_13 : decode cX6_tally 13 = .ok (.aload_n 0, 1) := dTX6_tally_0_ok 7 (13, .aload_n 0, 1) rfl
theorem dX6_tally_14 : decode cX6_tally 14 = .ok (.iconst 1, 1) := dTX6_tally_0_ok 8 (14, .iconst 1, 1) rfl
theorem dX6_tally_15 : decode cX6_tally 15 = .ok (.invokevirtual 62, 3) := dTX6_tally_0_ok 9 (15, .invokevirtual 62, 3) rfl
theorem dX6_tally_18 : decode cX6_tally 18 = .ok (.ireturn, 1) := dTX6_tally_0_ok 10 (18, .ireturn, 1) rfl
theorem dX6_tally_19 : decode cX6_tally 19 = .ok (.aload_n 0, 1) := dTX6_tally_0_ok 11 (19, .aload_n 0, 1) rfl
theorem dX6_tally_20 : decode cX6_tally 20 = .ok (.iconst 4, 1) := dTX6_tally_0_ok 12 (20, .iconst 4, 1) rfl
theorem dX6_tally_21 : decode cX6_tally 21 = .ok (.iconst 4, 1) := dTX6_tally_0_ok 13 (21, .iconst 4, 1) rfl
theorem dX6_tally_22 : decode cX6_tally 22 = .ok (.invokevirtual 60, 3) := dTX6_tally_0_ok 14 (22, .invokevirtual 60, 3) rfl
theorem dX6_tally_25 : decode cX6_tally 25 = .ok (.bipush 6, 2) := dTX6_tally_0_ok 15 (25, .bipush 6, 2) rfl
theorem dX6_tally_27 : decode cX6_tally 27 = .ok (.if_icmp .eq 17, 3) := dTX6_tally_0_ok 16 (27, .if_icmp .eq 17, 3) rfl
theorem dX6_tally_30 : decode cX6_tally 30 = .ok (.aload_n 0, 1) := dTX6_tally_0_ok 17 (30, .aload_n 0, 1) rfl
theorem dX6_tally_31 : decode cX6_tally 31 = .ok (.getfield 16, 3) := dTX6_tally_0_ok 18 (31, .getfield 16, 3) rfl
theorem dX6_tally_34 : decode cX6_tally 34 = .ok (.bipush 9, 2) := dTX6_tally_0_ok 19 (34, .bipush 9, 2) rfl
theorem dX6_tally_36 : decode cX6_tally 36 = .ok (.iload_n 2, 1) := dTX6_tally_0_ok 20 (36, .iload_n 2, 1) rfl
theorem dX6_tally_37 : decode cX6_tally 37 = .ok (.imul, 1) := dTX6_tally_0_ok 21 (37, .imul, 1) rfl
theorem dX6_tally_38 : decode cX6_tally 38 = .ok (.iload_n 1, 1) := dTX6_tally_0_ok 22 (38, .iload_n 1, 1) rfl
theorem dX6_tally_39 : decode cX6_tally 39 = .ok (.iadd, 1) := dTX6_tally_0_ok 23 (39, .iadd, 1) rfl
theorem dX6_tally_40 : decode cX6_tally 40 = .ok (.iaload, 1) := dTX6_tally_0_ok 24 (40, .iaload, 1) rfl
theorem dX6_tally_41 : decode cX6_tally 41 = .ok (.ifCond .eq 11, 3) := dTX6_tally_0_ok 25 (41, .ifCond .eq 11, 3) rfl
theorem dX6_tally_44 : decode cX6_tally 44 = .ok (.aload_n 0, 1) := dTX6_tally_0_ok 26 (44, .aload_n 0, 1) rfl
theorem dX6_tally_45 : decode cX6_tally 45 = .ok (.iconst 2, 1) := dTX6_tally_0_ok 27 (45, .iconst 2, 1) rfl
theorem dX6_tally_46 : decode cX6_tally 46 = .ok (.invokevirtual 62, 3) := dTX6_tally_0_ok 28 (46, .invokevirtual 62, 3) rfl
theorem dX6_tally_49 : decode cX6_tally 49 = .ok (.goto 16, 3) := dTX6_tally_0_ok 29 (49, .goto 16, 3) rfl
theorem dX6_tally_52 : decode cX6_tally 52 = .ok (.aload_n 0, 1) := dTX6_tally_0_ok 30 (52, .aload_n 0, 1) rfl
theorem dX6_tally_53 : decode cX6_tally 53 = .ok (.bipush 9, 2) := dTX6_tally_0_ok 31 (53, .bipush 9, 2) rfl
theorem dX6_tally_55 : decode cX6_tally 55 = .ok (.iload_n 2, 1) := dTX6_tally_0_ok 32 (55, .iload_n 2, 1) rfl
theorem dX6_tally_56 : decode cX6_tally 56 = .ok (.imul, 1) := dTX6_tally_0_ok 33 (56, .imul, 1) rfl
theorem dX6_tally_57 : decode cX6_tally 57 = .ok (.iload_n 1, 1) := dTX6_tally_0_ok 34 (57, .iload_n 1, 1) rfl
theorem dX6_tally_58 : decode cX6_tally 58 = .ok (.iadd, 1) := dTX6_tally_0_ok 35 (58, .iadd, 1) rfl
theorem dX6_tally_59 : decode cX6_tally 59 = .ok (.iconst 4, 1) := dTX6_tally_0_ok 36 (59, .iconst 4, 1) rfl
theorem dX6_tally_60 : decode cX6_tally 60 = .ok (.iconst 0, 1) := dTX6_tally_0_ok 37 (60, .iconst 0, 1) rfl
theorem dX6_tally_61 : decode cX6_tally 61 = .ok (.iconst 0, 1) := dTX6_tally_0_ok 38 (61, .iconst 0, 1) rfl
theorem dX6_tally_62 : decode cX6_tally 62 = .ok (.invokevirtual 66, 3) := dTX6_tally_0_ok 39 (62, .invokevirtual 66, 3) rfl
theorem dX6_tally_65 : decode cX6_tally 65 = .ok (.ireturn, 1) := dTX6_tally_0_ok 40 (65, .ireturn, 1) rfl
noncomputable def dTX6_remove_0 : List (Nat × Instr × Nat) := [(0, .aload_n 0, 1), (1, .iconst 0, 1), (2, .putfield 41, 3), (5, .iload_n 1, 1), (6, .iload_n 2, 1), (7, .invokestatic 52, 3), (10, .ifCond .ne 9, 3), (13, .aload_n 0, 1), (14, .iconst 1, 1), (15, .invokevirtual 62, 3), (18, .ireturn, 1), (19, .aload_n 0, 1), (20, .getfield 16, 3), (23, .bipush 9, 2), (25, .iload_n 2, 1), (26, .imul, 1), (27, .iload_n 1, 1), (28, .iadd, 1), (29, .iaload, 1), (30, .istore_n 3, 1), (31, .iload_n 3, 1), (32, .ifCond .ne 9, 3), (35, .aload_n 0, 1), (36, .iconst 2, 1), (37, .invokevirtual 62, 3), (40, .ireturn, 1), (41, .aload_n 0, 1), (42, .bipush 9, 2), (44, .iload_n 2, 1), (45, .imul, 1), (46, .iload_n 1, 1), (47, .iadd, 1), (48, .iconst 0, 1), (49, .iconst 0, 1), (50, .iconst 0, 1), (51, .invokevirtual 66, 3), (54, .pop, 1), (55, .iload_n 3, 1), (56, .ireturn, 1)]
theorem dTX6_remove_0_ok : ∀ (k : Nat) (q : Nat × Instr × Nat), dTX6_remove_0[k]? = some q → decode cX6_remove q.1 = .ok q.2 := dT_of (by decide +kernel)
theorem dX6_remove_0 : decode cX6_remove 0 = .ok (.aload_n 0, 1) := dTX6_remove_0_ok 0 (0, .aload_n 0, 1) rfl
theorem dX6_remove_1 : decode cX6_remove 1 = .ok (.iconst 0, 1) := dTX6_remove_0_ok 1 (1, .iconst 0, 1) rfl
theorem dX6_remove_2 : decode cX6_remove 2 = .ok (.putfield 41, 3) := dTX6_remove_0_ok 2 (2, .putfield 41, 3) rfl
theorem dX6_remove_5 : decode cX6_remove 5 = .ok (.iload_n 1, 1) := dTX6_remove_0_ok 3 (5, .iload_n 1, 1) rfl
theorem dX6_remove_6 : decode cX6_remove 6 = .ok (.iload_n 2, 1) := dTX6_remove_0_ok 4 (6, .iload_n 2, 1) rfl
theorem dX6_remove_7 : decode cX6_remove 7 = .ok (.invokestatic 52, 3) := dTX6_remove_0_ok 5 (7, .invokestatic 52, 3) rfl
theorem dX6_remove_10 : decode cX6_remove 10 = .ok (.ifCond .ne 9, 3) := dTX6_remove_0_ok 6 (10, .ifCond .ne 9, 3) rfl
theorem dX6_remove_13 : decode cX6_remove 13 = .ok (.aload_n 0, 1) := dTX6_remove_0_ok 7 (13, .aload_n 0, 1) rfl
theorem dX6_remove_14 : decode cX6_remove 14 = .ok (.iconst 1, 1) := dTX6_remove_0_ok 8 (14, .iconst 1, 1) rfl
theorem dX6_remove_15 : decode cX6_remove 15 = .ok (.invokevirtual 62, 3) := dTX6_remove_0_ok 9 (15, .invokevirtual 62, 3) rfl
theorem dX6_remove_18 : decode cX6_remove 18 = .ok (.ireturn, 1) := dTX6_remove_0_ok 10 (18, .ireturn, 1) rfl
theorem dX6_remove_19 : decode cX6_remove 19 = .ok (.aload_n 0, 1) := dTX6_remove_0_ok 11 (19, .aload_n 0, 1) rfl
theorem dX6_remove_20 : decode cX6_remove 20 = .ok (.getfield 16, 3) := dTX6_remove_0_ok 12 (20, .getfield 16, 3) rfl
theorem dX6_remove_23 : decode cX6_remove 23 = .ok (.bipush 9, 2) := dTX6_remove_0_ok 13 (23, .bipush 9, 2) rfl
theorem dX6_remove_25 : decode cX6_remove 25 = .ok (.iload_n 2, 1) := dTX6_remove_0_ok 14 (25, .iload_n 2, 1) rfl
theorem dX6_remove_26 : decode cX6_remove 26 = .ok (.imul, 1) := dTX6_remove_0_ok 15 (26, .imul, 1) rfl
theorem dX6_remove_27 : decode cX6_remove 27 = .ok (.iload_n 1, 1) := dTX6_remove_0_ok 16 (27, .iload_n 1, 1) rfl
theorem dX6_remove_28 : decode cX6_remove 28 = .ok (.iadd, 1) := dTX6_remove_0_ok 17 (28, .iadd, 1) rfl
theorem dX6_remove_29 : decode cX6_remove 29 = .ok (.iaload, 1) := dTX6_remove_0_ok 18 (29, .iaload, 1) rfl
theorem dX6_remove_30 : decode cX6_remove 30 = .ok (.istore_n 3, 1) := dTX6_remove_0_ok 19 (30, .istore_n 3, 1) rfl
theorem dX6_remove_31 : decode cX6_remove 31 = .ok (.iload_n 3, 1) := dTX6_remove_0_ok 20 (31, .iload_n 3, 1) rfl
theorem dX6_remove_32 : decode cX6_remove 32 = .ok (.ifCond .ne 9, 3) := dTX6_remove_0_ok 21 (32, .ifCond .ne 9, 3) rfl
theorem dX6_remove_35 : decode cX6_remove 35 = .ok (.aload_n 0, 1) := dTX6_remove_0_ok 22 (35, .aload_n 0, 1) rfl
theorem dX6_remove_36 : decode cX6_remove 36 = .ok (.iconst 2, 1) := dTX6_remove_0_ok 23 (36, .iconst 2, 1) rfl
theorem dX6_remove_37 : decode cX6_remove 37 = .ok (.invokevirtual 62, 3) := dTX6_remove_0_ok 24 (37, .invokevirtual 62, 3) rfl
theorem dX6_remove_40 : decode cX6_remove 40 = .ok (.ireturn, 1) := dTX6_remove_0_ok 25 (40, .ireturn, 1) rfl
theorem dX6_remove_41 : decode cX6_remove 41 = .ok (.aload_n 0, 1) := dTX6_remove_0_ok 26 (41, .aload_n 0, 1) rfl
theorem dX6_remove_42 : decode cX6_remove 42 = .ok (.bipush 9, 2) := dTX6_remove_0_ok 27 (42, .bipush 9, 2) rfl
theorem dX6_remove_44 : decode cX6_remove 44 = .ok (.iload_n 2, 1) := dTX6_remove_0_ok 28 (44, .iload_n 2, 1) rfl
theorem dX6_remove_45 : decode cX6_remove 45 = .ok (.imul, 1) := dTX6_remove_0_ok 29 (45, .imul, 1) rfl
theorem dX6_remove_46 : decode cX6_remove 46 = .ok (.iload_n 1, 1) := dTX6_remove_0_ok 30 (46, .iload_n 1, 1) rfl
theorem dX6_remove_47 : decode cX6_remove 47 = .ok (.iadd, 1) := dTX6_remove_0_ok 31 (47, .iadd, 1) rfl
theorem dX6_remove_48 : decode cX6_remove 48 = .ok (.iconst 0, 1) := dTX6_remove_0_ok 32 (48, .iconst 0, 1) rfl
theorem dX6_remove_49 : decode cX6_remove 49 = .ok (.iconst 0, 1) := dTX6_remove_0_ok 33 (49, .iconst 0, 1) rfl
theorem dX6_remove_50 : decode cX6_remove 50 = .ok (.iconst 0, 1) := dTX6_remove_0_ok 34 (50, .iconst 0, 1) rfl
theorem dX6_remove_51 : decode cX6_remove 51 = .ok (.invokevirtual 66, 3) := dTX6_remove_0_ok 35 (51, .invokevirtual 66, 3) rfl
theorem dX6_remove_54 : decode cX6_remove 54 = .ok (.pop, 1) := dTX6_remove_0_ok 36 (54, .pop, 1) rfl
theorem dX6_remove_55 : decode cX6_remove 55 = .ok (.iload_n 3, 1) := dTX6_remove_0_ok 37 (55, .iload_n 3, 1) rfl
theorem dX6_remove_56 : decode cX6_remove 56 = .ok (.ireturn, 1) := dTX6_remove_0_ok 38 (56, .ireturn, 1) rfl
noncomputable def dTX6_light_0 : List (Nat × Instr × Nat) := [(0, .aload_n 0, 1), (1, .iload_n 1, 1), (2, .iload_n 2, 1), (3, .invokestatic 52, 3), (6, .ifCond .ne 7, 3), (9, .iconst 1, 1), (10, .goto 37, 3), (13, .aload_n 0, 1), (14, .getfield 16, 3), (17, .bipush 9, 2), (19, .iload_n 2, 1), (20, .imul, 1), (21, .iload_n 1, 1), (22, .iadd, 1), (23, .iaload, 1), (24, .iconst 1, 1), (25, .if_icmp .ne 17, 3), (28, .aload_n 0, 1), (29, .getfield 20, 3), (32, .bipush 9, 2), (34, .iload_n 2, 1), (35, .imul, 1), (36, .iload_n 1, 1), (37, .iadd, 1), (38, .iaload, 1), (39, .ifCond .ne 7, 3), (42, .iconst 2, 1), (43, .goto 4, 3), (46, .iconst 0, 1), (47, .putfield 41, 3), (50, .aload_n 0, 1), (51, .getfield 41, 3), (54, .ifCond .eq 5, 3), (57, .iconst 0, 1), (58, .ireturn, 1), (59, .aload_n 0, 1), (60, .getfield 23, 3), (63, .bipush 9, 2), (65, .iload_n 2, 1), (66, .imul, 1), (67, .iload_n 1, 1), (68, .iadd, 1), (69, .iconst 1, 1), (70, .aload_n 0, 1), (71, .getfield 23, 3), (74, .bipush 9, 2), (76, .iload_n 2, 1), (77, .imul, 1), (78, .iload_n 1, 1), (79, .iadd, 1), (80, .iaload, 1), (81, .isub, 1), (82, .iastore, 1), (83, .aload_n 0, 1), (84, .getfield 23, 3), (87, .bipush 9, 2), (89, .iload_n 2, 1), (90, .imul, 1), (91, .iload_n 1, 1), (92, .iadd, 1)]
theorem dTX6_light_0_ok : ∀ (k : Nat) (q : Nat × Instr × Nat), dTX6_light_0[k]? = some q → decode cX6_light q.1 = .ok q.2 := dT_of (by decide +kernel)
theorem dX6_light_0 : decode cX6_light 0 = .ok (.aload_n 0, 1) := dTX6_light_0_ok 0 (0, .aload_n 0, 1) rfl
theorem dX6_light_1 : decode cX6_light 1 = .ok (.iload_n 1, 1) := dTX6_light_0_ok 1 (1, .iload_n 1, 1) rfl
theorem dX6_light_2 : decode cX6_light 2 = .ok (.iload_n 2, 1) := dTX6_light_0_ok 2 (2, .iload_n 2, 1) rfl
theorem dX6_light_3 : decode cX6_light 3 = .ok (.invokestatic 52, 3) := dTX6_light_0_ok 3 (3, .invokestatic 52, 3) rfl
theorem dX6_light_6 : decode cX6_light 6 = .ok (.ifCond .ne 7, 3) := dTX6_light_0_ok 4 (6, .ifCond .ne 7, 3) rfl
theorem dX6_light_9 : decode cX6_light 9 = .ok (.iconst 1, 1) := dTX6_light_0_ok 5 (9, .iconst 1, 1) rfl
theorem dX6_light_10 : decode cX6_light 10 = .ok (.goto 37, 3) := dTX6_light_0_ok 6 (10, .goto 37, 3) rfl
theorem dX6_light_13 : decode cX6_light 13 = .ok (.aload_n 0, 1) := dTX6_light_0_ok 7 (13, .aload_n 0, 1) rfl
theorem dX6_light_14 : decode cX6_light 14 = .ok (.getfield 16, 3) := dTX6_light_0_ok 8 (14, .getfield 16, 3) rfl
theorem dX6_light_17 : decode cX6_light 17 = .ok (.bipush 9, 2) := dTX6_light_0_ok 9 (17, .bipush 9, 2) rfl
theorem dX6_light_19 : decode cX6_light 19 = .ok (.iload_n 2, 1) := dTX6_light_0_ok 10 (19, .iload_n 2, 1) rfl
theorem dX6_light_20 : decode cX6_light 20 = .ok (.imul, 1) := dTX6_light_0_ok 11 (20, .imul, 1) rfl
theorem dX6_light_21 : decode cX6_light 21 = .ok (.iload_n 1, 1) := dTX6_light_0_ok 12 (21, .iload_n 1, 1) rfl
theorem dX6_light_22 : decode cX6_light 22 = .ok (.iadd, 1) := dTX6_light_0_ok 13 (22, .iadd, 1) rfl
theorem dX6_light_23 : decode cX6_light 23 = .ok (.iaload, 1) := dTX6_light_0_ok 14 (23, .iaload, 1) rfl
theorem dX6_light_24 : decode cX6_light 24 = .ok (.iconst 1, 1) := dTX6_light_0_ok 15 (24, .iconst 1, 1) rfl
theorem dX6_light_25 : decode cX6_light 25 = .ok (.if_icmp .ne 17, 3) := dTX6_light_0_ok 16 (25, .if_icmp .ne 17, 3) rfl
theorem dX6_light_28 : decode cX6_light 28 = .ok (.aload_n 0, 1) := dTX6_light_0_ok 17 (28, .aload_n 0, 1) rfl
theorem dX6_light_29 : decode cX6_light 29 = .ok (.getfield 20, 3) := dTX6_light_0_ok 18 (29, .getfield 20, 3) rfl
theorem dX6_light_32 : decode cX6_light 32 = .ok (.bipush 9, 2) := dTX6_light_0_ok 19 (32, .bipush 9, 2) rfl
theorem dX6_light_34 : decode cX6_light 34 = .ok (.iload_n 2, 1) := dTX6_light_0_ok 20 (34, .iload_n 2, 1) rfl
theorem dX6_light_35 : decode cX6_light 35 = .ok (.imul, 1) := dTX6_light_0_ok 21 (35, .imul, 1) rfl
theorem dX6_light_36 : decode cX6_light 36 = .ok (.iload_n 1, 1) := dTX6_light_0_ok 22 (36, .iload_n 1, 1) rfl
theorem dX6_light_37 : decode cX6_light 37 = .ok (.iadd, 1) := dTX6_light_0_ok 23 (37, .iadd, 1) rfl
theorem dX6_light_38 : decode cX6_light 38 = .ok (.iaload, 1) := dTX6_light_0_ok 24 (38, .iaload, 1) rfl
theorem dX6_light_39 : decode cX6_light 39 = .ok (.ifCond .ne 7, 3) := dTX6_light_0_ok 25 (39, .ifCond .ne 7, 3) rfl
theorem dX6_light_42 : decode cX6_light 42 = .ok (.iconst 2, 1) := dTX6_light_0_ok 26 (42, .iconst 2, 1) rfl
theorem dX6_light_43 : decode cX6_light 43 = .ok (.goto 4, 3) := dTX6_light_0_ok 27 (43, .goto 4, 3) rfl
theorem dX6_light_46 : decode cX6_light 46 = .ok (.iconst 0, 1) := dTX6_light_0_ok 28 (46, .iconst 0, 1) rfl
theorem dX6_light_47 : decode cX6_light 47 = .ok (.putfield 41, 3) := dTX6_light_0_ok 29 (47, .putfield 41, 3) rfl
theorem dX6_light_50 : decode cX6_light 50 = .ok (.aload_n 0, 1) := dTX6_light_0_ok 30 (50, .aload_n 0, 1) rfl
theorem dX6_light_51 : decode cX6_light 51 = .ok (.getfield 41, 3) := dTX6_light_0_ok 31 (51, .getfield 41, 3) rfl
theorem dX6_light_54 : decode cX6_light 54 = .ok (.ifCond .eq 5, 3) := dTX6_light_0_ok 32 (54, .ifCond .eq 5, 3) rfl
theorem dX6_light_57 : decode cX6_light 57 = .ok (.iconst 0, 1) := dTX6_light_0_ok 33 (57, .iconst 0, 1) rfl
theorem dX6_light_58 : decode cX6_light 58 = .ok (.ireturn, 1) := dTX6_light_0_ok 34 (58, .ireturn, 1) rfl
theorem dX6_light_59 : decode cX6_light 59 = .ok (.aload_n 0, 1) := dTX6_light_0_ok 35 (59, .aload_n 0, 1) rfl
theorem dX6_light_60 : decode cX6_light 60 = .ok (.getfield 23, 3) := dTX6_light_0_ok 36 (60, .getfield 23, 3) rfl
theorem dX6_light_63 : decode cX6_light 63 = .ok (.bipush 9, 2) := dTX6_light_0_ok 37 (63, .bipush 9, 2) rfl
theorem dX6_light_65 : decode cX6_light 65 = .ok (.iload_n 2, 1) := dTX6_light_0_ok 38 (65, .iload_n 2, 1) rfl
theorem dX6_light_66 : decode cX6_light 66 = .ok (.imul, 1) := dTX6_light_0_ok 39 (66, .imul, 1) rfl
theorem dX6_light_67 : decode cX6_light 67 = .ok (.iload_n 1, 1) := dTX6_light_0_ok 40 (67, .iload_n 1, 1) rfl
theorem dX6_light_68 : decode cX6_light 68 = .ok (.iadd, 1) := dTX6_light_0_ok 41 (68, .iadd, 1) rfl
theorem dX6_light_69 : decode cX6_light 69 = .ok (.iconst 1, 1) := dTX6_light_0_ok 42 (69, .iconst 1, 1) rfl
theorem dX6_light_70 : decode cX6_light 70 = .ok (.aload_n 0, 1) := dTX6_light_0_ok 43 (70, .aload_n 0, 1) rfl
theorem dX6_light_71 : decode cX6_light 71 = .ok (.getfield 23, 3) := dTX6_light_0_ok 44 (71, .getfield 23, 3) rfl
theorem dX6_light_74 : decode cX6_light 74 = .ok (.bipush 9, 2) := dTX6_light_0_ok 45 (74, .bipush 9, 2) rfl
theorem dX6_light_76 : decode cX6_light 76 = .ok (.iload_n 2, 1) := dTX6_light_0_ok 46 (76, .iload_n 2, 1) rfl
theorem dX6_light_77 : decode cX6_light 77 = .ok (.imul, 1) := dTX6_light_0_ok 47 (77, .imul, 1) rfl
theorem dX6_light_78 : decode cX6_light 78 = .ok (.iload_n 1, 1) := dTX6_light_0_ok 48 (78, .iload_n 1, 1) rfl
theorem dX6_light_79 : decode cX6_light 79 = .ok (.iadd, 1) := dTX6_light_0_ok 49 (79, .iadd, 1) rfl
theorem dX6_light_80 : decode cX6_light 80 = .ok (.iaload, 1) := dTX6_light_0_ok 50 (80, .iaload, 1) rfl
theorem dX6_light_81 : decode cX6_light 81 = .ok (.isub, 1) := dTX6_light_0_ok 51 (81, .isub, 1) rfl
theorem dX6_light_82 : decode cX6_light 82 = .ok (.iastore, 1) := dTX6_light_0_ok 52 (82, .iastore, 1) rfl
theorem dX6_light_83 : decode cX6_light 83 = .ok (.aload_n 0, 1) := dTX6_light_0_ok 53 (83, .aload_n 0, 1) rfl
theorem dX6_light_84 : decode cX6_light 84 = .ok (.getfield 23, 3) := dTX6_light_0_ok 54 (84, .getfield 23, 3) rfl
theorem dX6_light_87 : decode cX6_light 87 = .ok (.bipush 9, 2) := dTX6_light_0_ok 55 (87, .bipush 9, 2) rfl
theorem dX6_light_89 : decode cX6_light 89 = .ok (.iload_n 2, 1) := dTX6_light_0_ok 56 (89, .iload_n 2, 1) rfl
theorem dX6_light_90 : decode cX6_light 90 = .ok (.imul, 1) := dTX6_light_0_ok 57 (90, .imul, 1) rfl
theorem dX6_light_91 : decode cX6_light 91 = .ok (.iload_n 1, 1) := dTX6_light_0_ok 58 (91, .iload_n 1, 1) rfl
theorem dX6_light_92 : decode cX6_light 92 = .ok (.iadd, 1) := dTX6_light_0_ok 59 (92, .iadd, 1) rfl
noncomputable def dTX6_light_1 : List (Nat × Instr × Nat) := [(93, .iaload, 1), (94, .iconst 1, 1), (95, .if_icmp .ne 7, 3), (98, .iconst 1, 1), (99, .goto 4, 3), (102, .iconst 0, 1), (103, .ireturn, 1)]
theorem dTX6_light_1_ok : ∀ (k : Nat) (q : Nat × Instr × Nat), dTX6_light_1[k]? = some q → decode cX6_light q.1 = .ok q.2 := dT_of (by decide +kernel)
theorem dX6_light_93 : decode cX6_light 93 = .ok (.iaload, 1) := dTX6_light_1_ok 0 (93, .iaload, 1) rfl
theorem dX6_light_94 : decode cX6_light 94 = .ok (.iconst 1, 1) := dTX6_light_1_ok 1 (94, .iconst 1, 1) rfl
theorem dX6_light_95 : decode cX6_light 95 = .ok (.if_icmp .ne 7, 3) := dTX6_light_1_ok 2 (95, .if_icmp .ne 7, 3) rfl
theorem dX6_light_98 : decode cX6_light 98 = .ok (.iconst 1, 1) := dTX6_light_1_ok 3 (98, .iconst 1, 1) rfl
theorem dX6_light_99 : decode cX6_light 99 = .ok (.goto 4, 3) := dTX6_light_1_ok 4 (99, .goto 4, 3) rfl
theorem dX6_light_102 : decode cX6_light 102 = .ok (.iconst 0, 1) := dTX6_light_1_ok 5 (102, .iconst 0, 1) rfl
theorem dX6_light_103 : decode cX6_light 103 = .ok (.ireturn, 1) := dTX6_light_1_ok 6 (103, .ireturn, 1) rfl
noncomputable def dTX6_turned_0 : List (Nat × Instr × Nat) := [(0, .iload_n 2, 1), (1, .iconst 2, 1), (2, .if_icmp .ne 7, 3), (5, .iload_n 1, 1), (6, .iconst 1, 1), (7, .ixor, 1), (8, .ireturn, 1), (9, .iload_n 2, 1), (10, .iconst 3, 1), (11, .if_icmp .ne 9, 3), (14, .iconst 3, 1), (15, .iload_n 1, 1), (16, .isub, 1), (17, .goto 4, 3), (20, .iload_n 1, 1), (21, .ireturn, 1)]
theorem dTX6_turned_0_ok : ∀ (k : Nat) (q : Nat × Instr × Nat), dTX6_turned_0[k]? = some q → decode cX6_turned q.1 = .ok q.2 := dT_of (by decide +kernel)
theorem dX6_turned_0 : decode cX6_turned 0 = .ok (.iload_n 2, 1) := dTX6_turned_0_ok 0 (0, .iload_n 2, 1) rfl
theorem dX6_turned_1 : decode cX6_turned 1 = .ok (.iconst 2, 1) := dTX6_turned_0_ok 1 (1, .iconst 2, 1) rfl
theorem dX6_turned_2 : decode cX6_turned 2 = .ok (.if_icmp .ne 7, 3) := dTX6_turned_0_ok 2 (2, .if_icmp .ne 7, 3) rfl
theorem dX6_turned_5 : decode cX6_turned 5 = .ok (.iload_n 1, 1) := dTX6_turned_0_ok 3 (5, .iload_n 1, 1) rfl
theorem dX6_turned_6 : decode cX6_turned 6 = .ok (.iconst 1, 1) := dTX6_turned_0_ok 4 (6, .iconst 1, 1) rfl
theorem dX6_turned_7 : decode cX6_turned 7 = .ok (.ixor, 1) := dTX6_turned_0_ok 5 (7, .ixor, 1) rfl
theorem dX6_turned_8 : decode cX6_turned 8 = .ok (.ireturn, 1) := dTX6_turned_0_ok 6 (8, .ireturn, 1) rfl
theorem dX6_turned_9 : decode cX6_turned 9 = .ok (.iload_n 2, 1) := dTX6_turned_0_ok 7 (9, .iload_n 2, 1) rfl
theorem dX6_turned_10 : decode cX6_turned 10 = .ok (.iconst 3, 1) := dTX6_turned_0_ok 8 (10, .iconst 3, 1) rfl
theorem dX6_turned_11 : decode cX6_turned 11 = .ok (.if_icmp .ne 9, 3) := dTX6_turned_0_ok 9 (11, .if_icmp .ne 9, 3) rfl
theorem dX6_turned_14 : decode cX6_turned 14 = .ok (.iconst 3, 1) := dTX6_turned_0_ok 10 (14, .iconst 3, 1) rfl
theorem dX6_turned_15 : decode cX6_turned 15 = .ok (.iload_n 1, 1) := dTX6_turned_0_ok 11 (15, .iload_n 1, 1) rfl
theorem dX6_turned_16 : decode cX6_turned 16 = .ok (.isub, 1) := dTX6_turned_0_ok 12 (16, .isub, 1) rfl
theorem dX6_turned_17 : decode cX6_turned 17 = .ok (.goto 4, 3) := dTX6_turned_0_ok 13 (17, .goto 4, 3) rfl
theorem dX6_turned_20 : decode cX6_turned 20 = .ok (.iload_n 1, 1) := dTX6_turned_0_ok 14 (20, .iload_n 1, 1) rfl
theorem dX6_turned_21 : decode cX6_turned 21 = .ok (.ireturn, 1) := dTX6_turned_0_ok 15 (21, .ireturn, 1) rfl
noncomputable def dTX6_shine_0 : List (Nat × Instr × Nat) := [(0, .aload_n 0, 1), (1, .getfield 32, 3), (4, .iload_n 1, 1), (5, .iconst 1, 1), (6, .bastore, 1), (7, .iconst 0, 1), (8, .istore_n 2, 1), (9, .iload_n 2, 1), (10, .iconst 4, 1), (11, .if_icmp .ge 86, 3), (14, .iload_n 1, 1), (15, .istore_n 3, 1), (16, .iload_n 2, 1), (17, .istore 4, 2), (19, .iconst 0, 1), (20, .istore 5, 2), (22, .iload 5, 2), (24, .bipush 6, 2), (26, .if_icmp .ge 65, 3), (29, .aload_n 0, 1), (30, .iload_n 3, 1), (31, .iload 4, 2), (33, .invokevirtual 70, 3), (36, .ifCond .ne 55, 3), (39, .iload_n 3, 1), (40, .iload 4, 2), (42, .invokestatic 56, 3), (45, .iconst (-1), 1), (46, .if_icmp .ne 6, 3), (49, .goto 42, 3), (52, .iload_n 3, 1), (53, .iload 4, 2), (55, .invokestatic 56, 3), (58, .istore_n 3, 1), (59, .aload_n 0, 1), (60, .getfield 32, 3), (63, .iload_n 3, 1), (64, .iconst 1, 1), (65, .bastore, 1), (66, .iload_n 3, 1), (67, .iload_n 1, 1), (68, .if_icmp .eq 17, 3), (71, .aload_n 0, 1), (72, .iload 4, 2), (74, .aload_n 0, 1), (75, .getfield 16, 3), (78, .iload_n 3, 1), (79, .iaload, 1), (80, .invokevirtual 73, 3), (83, .istore 4, 2), (85, .iinc 5 1, 3), (88, .goto (-66), 3), (91, .iinc 2 1, 3), (94, .goto (-85), 3), (97, .return_, 1)]
theorem dTX6_shine_0_ok : ∀ (k : Nat) (q : Nat × Instr × Nat), dTX6_shine_0[k]? = some q → decode cX6_shine q.1 = .ok q.2 := dT_of (by decide +kernel)
theorem dX6_shine_0 : decode cX6_shine 0 = .ok (.aload_n 0, 1) := dTX6_shine_0_ok 0 (0, .aload_n 0, 1) rfl
theorem dX6_shine_1 : decode cX6_shine 1 = .ok (.getfield 32, 3) := dTX6_shine_0_ok 1 (1, .getfield 32, 3) rfl
theorem dX6_shine_4 : decode cX6_shine 4 = .ok (.iload_n 1, 1) := dTX6_shine_0_ok 2 (4, .iload_n 1, 1) rfl
theorem dX6_shine_5 : decode cX6_shine 5 = .ok (.iconst 1, 1) := dTX6_shine_0_ok 3 (5, .iconst 1, 1) rfl
theorem dX6_shine_6 : decode cX6_shine 6 = .ok (.bastore, 1) := dTX6_shine_0_ok 4 (6, .bastore, 1) rfl
theorem dX6_shine_7 : decode cX6_shine 7 = .ok (.iconst 0, 1) := dTX6_shine_0_ok 5 (7, .iconst 0, 1) rfl
theorem dX6_shine_8 : decode cX6_shine 8 = .ok (.istore_n 2, 1) := dTX6_shine_0_ok 6 (8, .istore_n 2, 1) rfl
theorem dX6_shine_9 : decode cX6_shine 9 = .ok (.iload_n 2, 1) := dTX6_shine_0_ok 7 (9, .iload_n 2, 1) rfl
theorem dX6_shine_10 : decode cX6_shine 10 = .ok (.iconst 4, 1) := dTX6_shine_0_ok 8 (10, .iconst 4, 1) rfl
theorem dX6_shine_11 : decode cX6_shine 11 = .ok (.if_icmp .ge 86, 3) := dTX6_shine_0_ok 9 (11, .if_icmp .ge 86, 3) rfl
theorem dX6_shine_14 : decode cX6_shine 14 = .ok (.iload_n 1, 1) := dTX6_shine_0_ok 10 (14, .iload_n 1, 1) rfl
theorem dX6_shine_15 : decode cX6_shine 15 = .ok (.istore_n 3, 1) := dTX6_shine_0_ok 11 (15, .istore_n 3, 1) rfl
theorem dX6_shine_16 : decode cX6_shine 16 = .ok (.iload_n 2, 1) := dTX6_shine_0_ok 12 (16, .iload_n 2, 1) rfl
theorem dX6_shine_17 : decode cX6_shine 17 = .ok (.istore 4, 2) := dTX6_shine_0_ok 13 (17, .istore 4, 2) rfl
theorem dX6_shine_19 : decode cX6_shine 19 = .ok (.iconst 0, 1) := dTX6_shine_0_ok 14 (19, .iconst 0, 1) rfl
theorem dX6_shine_20 : decode cX6_shine 20 = .ok (.istore 5, 2) := dTX6_shine_0_ok 15 (20, .istore 5, 2) rfl
theorem dX6_shine_22 : decode cX6_shine 22 = .ok (.iload 5, 2) := dTX6_shine_0_ok 16 (22, .iload 5, 2) rfl
theorem dX6_shine_24 : decode cX6_shine 24 = .ok (.bipush 6, 2) := dTX6_shine_0_ok 17 (24, .bipush 6, 2) rfl
theorem dX6_shine_26 : decode cX6_shine 26 = .ok (.if_icmp .ge 65, 3) := dTX6_shine_0_ok 18 (26, .if_icmp .ge 65, 3) rfl
theorem dX6_shine_29 : decode cX6_shine 29 = .ok (.aload_n 0, 1) := dTX6_shine_0_ok 19 (29, .aload_n 0, 1) rfl
theorem dX6_shine_30 : decode cX6_shine 30 = .ok (.iload_n 3, 1) := dTX6_shine_0_ok 20 (30, .iload_n 3, 1) rfl
theorem dX6_shine_31 : decode cX6_shine 31 = .ok (.iload 4, 2) := dTX6_shine_0_ok 21 (31, .iload 4, 2) rfl
theorem dX6_shine_33 : decode cX6_shine 33 = .ok (.invokevirtual 70, 3) := dTX6_shine_0_ok 22 (33, .invokevirtual 70, 3) rfl
theorem dX6_shine_36 : decode cX6_shine 36 = .ok (.ifCond .ne 55, 3) := dTX6_shine_0_ok 23 (36, .ifCond .ne 55, 3) rfl
theorem dX6_shine_39 : decode cX6_shine 39 = .ok (.iload_n 3, 1) := dTX6_shine_0_ok 24 (39, .iload_n 3, 1) rfl
theorem dX6_shine_40 : decode cX6_shine 40 = .ok (.iload 4, 2) := dTX6_shine_0_ok 25 (40, .iload 4, 2) rfl
theorem dX6_shine_42 : decode cX6_shine 42 = .ok (.invokestatic 56, 3) := dTX6_shine_0_ok 26 (42, .invokestatic 56, 3) rfl
theorem dX6_shine_45 : decode cX6_shine 45 = .ok (.iconst (-1), 1) := dTX6_shine_0_ok 27 (45, .iconst (-1), 1) rfl
theorem dX6_shine_46 : decode cX6_shine 46 = .ok (.if_icmp .ne 6, 3) := dTX6_shine_0_ok 28 (46, .if_icmp .ne 6, 3) rfl
theorem dX6_shine_49 : decode cX6_shine 49 = .ok (.goto 42, 3) := dTX6_shine_0_ok 29 (49, .goto 42, 3) rfl
theorem dX6_shine_52 : decode cX6_shine 52 = .ok (.iload_n 3, 1) := dTX6_shine_0_ok 30 (52, .iload_n 3, 1) rfl
theorem dX6_shine_53 : decode cX6_shine 53 = .ok (.iload 4, 2) := dTX6_shine_0_ok 31 (53, .iload 4, 2) rfl
theorem dX6_shine_55 : decode cX6_shine 55 = .ok (.invokestatic 56, 3) := dTX6_shine_0_ok 32 (55, .invokestatic 56, 3) rfl
theorem dX6_shine_58 : decode cX6_shine 58 = .ok (.istore_n 3, 1) := dTX6_shine_0_ok 33 (58, .istore_n 3, 1) rfl
theorem dX6_shine_59 : decode cX6_shine 59 = .ok (.aload_n 0, 1) := dTX6_shine_0_ok 34 (59, .aload_n 0, 1) rfl
theorem dX6_shine_60 : decode cX6_shine 60 = .ok (.getfield 32, 3) := dTX6_shine_0_ok 35 (60, .getfield 32, 3) rfl
theorem dX6_shine_63 : decode cX6_shine 63 = .ok (.iload_n 3, 1) := dTX6_shine_0_ok 36 (63, .iload_n 3, 1) rfl
theorem dX6_shine_64 : decode cX6_shine 64 = .ok (.iconst 1, 1) := dTX6_shine_0_ok 37 (64, .iconst 1, 1) rfl
theorem dX6_shine_65 : decode cX6_shine 65 = .ok (.bastore, 1) := dTX6_shine_0_ok 38 (65, .bastore, 1) rfl
theorem dX6_shine_66 : decode cX6_shine 66 = .ok (.iload_n 3, 1) := dTX6_shine_0_ok 39 (66, .iload_n 3, 1) rfl
theorem dX6_shine_67 : decode cX6_shine 67 = .ok (.iload_n 1, 1) := dTX6_shine_0_ok 40 (67, .iload_n 1, 1) rfl
theorem dX6_shine_68 : decode cX6_shine 68 = .ok (.if_icmp .eq 17, 3) := dTX6_shine_0_ok 41 (68, .if_icmp .eq 17, 3) rfl
theorem dX6_shine_71 : decode cX6_shine 71 = .ok (.aload_n 0, 1) := dTX6_shine_0_ok 42 (71, .aload_n 0, 1) rfl
theorem dX6_shine_72 : decode cX6_shine 72 = .ok (.iload 4, 2) := dTX6_shine_0_ok 43 (72, .iload 4, 2) rfl
theorem dX6_shine_74 : decode cX6_shine 74 = .ok (.aload_n 0, 1) := dTX6_shine_0_ok 44 (74, .aload_n 0, 1) rfl
theorem dX6_shine_75 : decode cX6_shine 75 = .ok (.getfield 16, 3) := dTX6_shine_0_ok 45 (75, .getfield 16, 3) rfl
theorem dX6_shine_78 : decode cX6_shine 78 = .ok (.iload_n 3, 1) := dTX6_shine_0_ok 46 (78, .iload_n 3, 1) rfl
theorem dX6_shine_79 : decode cX6_shine 79 = .ok (.iaload, 1) := dTX6_shine_0_ok 47 (79, .iaload, 1) rfl
theorem dX6_shine_80 : decode cX6_shine 80 = .ok (.invokevirtual 73, 3) := dTX6_shine_0_ok 48 (80, .invokevirtual 73, 3) rfl
theorem dX6_shine_83 : decode cX6_shine 83 = .ok (.istore 4, 2) := dTX6_shine_0_ok 49 (83, .istore 4, 2) rfl
theorem dX6_shine_85 : decode cX6_shine 85 = .ok (.iinc 5 1, 3) := dTX6_shine_0_ok 50 (85, .iinc 5 1, 3) rfl
theorem dX6_shine_88 : decode cX6_shine 88 = .ok (.goto (-66), 3) := dTX6_shine_0_ok 51 (88, .goto (-66), 3) rfl
theorem dX6_shine_91 : decode cX6_shine 91 = .ok (.iinc 2 1, 3) := dTX6_shine_0_ok 52 (91, .iinc 2 1, 3) rfl
theorem dX6_shine_94 : decode cX6_shine 94 = .ok (.goto (-85), 3) := dTX6_shine_0_ok 53 (94, .goto (-85), 3) rfl
theorem dX6_shine_97 : decode cX6_shine 97 = .ok (.return_, 1) := dTX6_shine_0_ok 54 (97, .return_, 1) rfl
noncomputable def dTX6_reckonLight_0 : List (Nat × Instr × Nat) := [(0, .iconst 0, 1), (1, .istore_n 1, 1), (2, .iload_n 1, 1), (3, .bipush 63, 2), (5, .if_icmp .ge 16, 3), (8, .aload_n 0, 1), (9, .getfield 32, 3), (12, .iload_n 1, 1), (13, .iconst 0, 1), (14, .bastore, 1), (15, .iinc 1 1, 3), (18, .goto (-16), 3), (21, .iconst 0, 1), (22, .istore_n 1, 1), (23, .iload_n 1, 1), (24, .bipush 63, 2), (26, .if_icmp .ge 24, 3), (29, .aload_n 0, 1), (30, .getfield 23, 3), (33, .iload_n 1, 1), (34, .iaload, 1), (35, .iconst 1, 1), (36, .if_icmp .ne 8, 3), (39, .aload_n 0, 1), (40, .iload_n 1, 1), (41, .invokevirtual 76, 3), (44, .iinc 1 1, 3), (47, .goto (-24), 3), (50, .return_, 1)]
theorem dTX6_reckonLight_0_ok : ∀ (k : Nat) (q : Nat × Instr × Nat), dTX6_reckonLight_0[k]? = some q → decode cX6_reckonLight q.1 = .ok q.2 := dT_of (by decide +kernel)
theorem dX6_reckonLight_0 : decode cX6_reckonLight 0 = .ok (.iconst 0, 1) := dTX6_reckonLight_0_ok 0 (0, .iconst 0, 1) rfl
theorem dX6_reckonLight_1 : decode cX6_reckonLight 1 = .ok (.istore_n 1, 1) := dTX6_reckonLight_0_ok 1 (1, .istore_n 1, 1) rfl
theorem dX6_reckonLight_2 : decode cX6_reckonLight 2 = .ok (.iload_n 1, 1) := dTX6_reckonLight_0_ok 2 (2, .iload_n 1, 1) rfl
theorem dX6_reckonLight_3 : decode cX6_reckonLight 3 = .ok (.bipush 63, 2) := dTX6_reckonLight_0_ok 3 (3, .bipush 63, 2) rfl
theorem dX6_reckonLight_5 : decode cX6_reckonLight 5 = .ok (.if_icmp .ge 16, 3) := dTX6_reckonLight_0_ok 4 (5, .if_icmp .ge 16, 3) rfl
theorem dX6_reckonLight_8 : decode cX6_reckonLight 8 = .ok (.aload_n 0, 1) := dTX6_reckonLight_0_ok 5 (8, .aload_n 0, 1) rfl
theorem dX6_reckonLight_9 : decode cX6_reckonLight 9 = .ok (.getfield 32, 3) := dTX6_reckonLight_0_ok 6 (9, .getfield 32, 3) rfl
theorem dX6_reckonLight_12 : decode cX6_reckonLight 12 = .ok (.iload_n 1, 1) := dTX6_reckonLight_0_ok 7 (12, .iload_n 1, 1) rfl
theorem dX6_reckonLight_13 : decode cX6_reckonLight 13 = .ok (.iconst 0, 1) := dTX6_reckonLight_0_ok 8 (13, .iconst 0, 1) rfl
theorem dX6_reckonLight_14 : decode cX6_reckonLight 14 = .ok (.bastore, 1) := dTX6_reckonLight_0_ok 9 (14, .bastore, 1) rfl
theorem dX6_reckonLight_15 : decode cX6_reckonLight 15 = .ok (.iinc 1 1, 3) := dTX6_reckonLight_0_ok 10 (15, .iinc 1 1, 3) rfl
theorem dX6_reckonLight_18 : decode cX6_reckonLight 18 = .ok (.goto (-16), 3) := dTX6_reckonLight_0_ok 11 (18, .goto (-16), 3) rfl
theorem dX6_reckonLight_21 : decode cX6_reckonLight 21 = .ok (.iconst 0, 1) := dTX6_reckonLight_0_ok 12 (21, .iconst 0, 1) rfl
theorem dX6_reckonLight_22 : decode cX6_reckonLight 22 = .ok (.istore_n 1, 1) := dTX6_reckonLight_0_ok 13 (22, .istore_n 1, 1) rfl
theorem dX6_reckonLight_23 : decode cX6_reckonLight 23 = .ok (.iload_n 1, 1) := dTX6_reckonLight_0_ok 14 (23, .iload_n 1, 1) rfl
theorem dX6_reckonLight_24 : decode cX6_reckonLight 24 = .ok (.bipush 63, 2) := dTX6_reckonLight_0_ok 15 (24, .bipush 63, 2) rfl
theorem dX6_reckonLight_26 : decode cX6_reckonLight 26 = .ok (.if_icmp .ge 24, 3) := dTX6_reckonLight_0_ok 16 (26, .if_icmp .ge 24, 3) rfl
theorem dX6_reckonLight_29 : decode cX6_reckonLight 29 = .ok (.aload_n 0, 1) := dTX6_reckonLight_0_ok 17 (29, .aload_n 0, 1) rfl
theorem dX6_reckonLight_30 : decode cX6_reckonLight 30 = .ok (.getfield 23, 3) := dTX6_reckonLight_0_ok 18 (30, .getfield 23, 3) rfl
theorem dX6_reckonLight_33 : decode cX6_reckonLight 33 = .ok (.iload_n 1, 1) := dTX6_reckonLight_0_ok 19 (33, .iload_n 1, 1) rfl
theorem dX6_reckonLight_34 : decode cX6_reckonLight 34 = .ok (.iaload, 1) := dTX6_reckonLight_0_ok 20 (34, .iaload, 1) rfl
theorem dX6_reckonLight_35 : decode cX6_reckonLight 35 = .ok (.iconst 1, 1) := dTX6_reckonLight_0_ok 21 (35, .iconst 1, 1) rfl
theorem dX6_reckonLight_36 : decode cX6_reckonLight 36 = .ok (.if_icmp .ne 8, 3) := dTX6_reckonLight_0_ok 22 (36, .if_icmp .ne 8, 3) rfl
theorem dX6_reckonLight_39 : decode cX6_reckonLight 39 = .ok (.aload_n 0, 1) := dTX6_reckonLight_0_ok 23 (39, .aload_n 0, 1) rfl
theorem dX6_reckonLight_40 : decode cX6_reckonLight 40 = .ok (.iload_n 1, 1) := dTX6_reckonLight_0_ok 24 (40, .iload_n 1, 1) rfl
theorem dX6_reckonLight_41 : decode cX6_reckonLight 41 = .ok (.invokevirtual 76, 3) := dTX6_reckonLight_0_ok 25 (41, .invokevirtual 76, 3) rfl
theorem dX6_reckonLight_44 : decode cX6_reckonLight 44 = .ok (.iinc 1 1, 3) := dTX6_reckonLight_0_ok 26 (44, .iinc 1 1, 3) rfl
theorem dX6_reckonLight_47 : decode cX6_reckonLight 47 = .ok (.goto (-24), 3) := dTX6_reckonLight_0_ok 27 (47, .goto (-24), 3) rfl
theorem dX6_reckonLight_50 : decode cX6_reckonLight 50 = .ok (.return_, 1) := dTX6_reckonLight_0_ok 28 (50, .return_, 1) rfl
noncomputable def dTX6_litCells_0 : List (Nat × Instr × Nat) := [(0, .iconst 0, 1), (1, .istore_n 1, 1), (2, .aload_n 0, 1), (3, .getfield 32, 3), (6, .astore_n 2, 1), (7, .aload_n 2, 1), (8, .arraylength, 1), (9, .istore_n 3, 1), (10, .iconst 0, 1), (11, .istore 4, 2), (13, .iload 4, 2), (15, .iload_n 3, 1), (16, .if_icmp .ge 28, 3), (19, .aload_n 2, 1), (20, .iload 4, 2), (22, .baload, 1), (23, .istore 5, 2), (25, .iload_n 1, 1), (26, .iload 5, 2), (28, .ifCond .eq 7, 3), (31, .iconst 1, 1), (32, .goto 4, 3), (35, .iconst 0, 1), (36, .iadd, 1), (37, .istore_n 1, 1), (38, .iinc 4 1, 3), (41, .goto (-28), 3), (44, .iload_n 1, 1), (45, .ireturn, 1)]
theorem dTX6_litCells_0_ok : ∀ (k : Nat) (q : Nat × Instr × Nat), dTX6_litCells_0[k]? = some q → decode cX6_litCells q.1 = .ok q.2 := dT_of (by decide +kernel)
theorem dX6_litCells_0 : decode cX6_litCells 0 = .ok (.iconst 0, 1) := dTX6_litCells_0_ok 0 (0, .iconst 0, 1) rfl
theorem dX6_litCells_1 : decode cX6_litCells 1 = .ok (.istore_n 1, 1) := dTX6_litCells_0_ok 1 (1, .istore_n 1, 1) rfl
theorem dX6_litCells_2 : decode cX6_litCells 2 = .ok (.aload_n 0, 1) := dTX6_litCells_0_ok 2 (2, .aload_n 0, 1) rfl
theorem dX6_litCells_3 : decode cX6_litCells 3 = .ok (.getfield 32, 3) := dTX6_litCells_0_ok 3 (3, .getfield 32, 3) rfl
theorem dX6_litCells_6 : decode cX6_litCells 6 = .ok (.astore_n 2, 1) := dTX6_litCells_0_ok 4 (6, .astore_n 2, 1) rfl
theorem dX6_litCells_7 : decode cX6_litCells 7 = .ok (.aload_n 2, 1) := dTX6_litCells_0_ok 5 (7, .aload_n 2, 1) rfl
theorem dX6_litCells_8 : decode cX6_litCells 8 = .ok (.arraylength, 1) := dTX6_litCells_0_ok 6 (8, .arraylength, 1) rfl
theorem dX6_litCells_9 : decode cX6_litCells 9 = .ok (.istore_n 3, 1) := dTX6_litCells_0_ok 7 (9, .istore_n 3, 1) rfl
theorem dX6_litCells_10 : decode cX6_litCells 10 = .ok (.iconst 0, 1) := dTX6_litCells_0_ok 8 (10, .iconst 0, 1) rfl
theorem dX6_litCells_11 : decode cX6_litCells 11 = .ok (.istore 4, 2) := dTX6_litCells_0_ok 9 (11, .istore 4, 2) rfl
theorem dX6_litCells_13 : decode cX6_litCells 13 = .ok (.iload 4, 2) := dTX6_litCells_0_ok 10 (13, .iload 4, 2) rfl
theorem dX6_litCells_15 : decode cX6_litCells 15 = .ok (.iload_n 3, 1) := dTX6_litCells_0_ok 11 (15, .iload_n 3, 1) rfl
theorem dX6_litCells_16 : decode cX6_litCells 16 = .ok (.if_icmp .ge 28, 3) := dTX6_litCells_0_ok 12 (16, .if_icmp .ge 28, 3) rfl
theorem dX6_litCells_19 : decode cX6_litCells 19 = .ok (.aload_n 2, 1) := dTX6_litCells_0_ok 13 (19, .aload_n 2, 1) rfl
theorem dX6_litCells_20 : decode cX6_litCells 20 = .ok (.iload 4, 2) := dTX6_litCells_0_ok 14 (20, .iload 4, 2) rfl
theorem dX6_litCells_22 : decode cX6_litCells 22 = .ok (.baload, 1) := dTX6_litCells_0_ok 15 (22, .baload, 1) rfl
theorem dX6_litCells_23 : decode cX6_litCells 23 = .ok (.istore 5, 2) := dTX6_litCells_0_ok 16 (23, .istore 5, 2) rfl
theorem dX6_litCells_25 : decode cX6_litCells 25 = .ok (.iload_n 1, 1) := dTX6_litCells_0_ok 17 (25, .iload_n 1, 1) rfl
theorem dX6_litCells_26 : decode cX6_litCells 26 = .ok (.iload 5, 2) := dTX6_litCells_0_ok 18 (26, .iload 5, 2) rfl
theorem dX6_litCells_28 : decode cX6_litCells 28 = .ok (.ifCond .eq 7, 3) := dTX6_litCells_0_ok 19 (28, .ifCond .eq 7, 3) rfl
theorem dX6_litCells_31 : decode cX6_litCells 31 = .ok (.iconst 1, 1) := dTX6_litCells_0_ok 20 (31, .iconst 1, 1) rfl
theorem dX6_litCells_32 : decode cX6_litCells 32 = .ok (.goto 4, 3) := dTX6_litCells_0_ok 21 (32, .goto 4, 3) rfl
theorem dX6_litCells_35 : decode cX6_litCells 35 = .ok (.iconst 0, 1) := dTX6_litCells_0_ok 22 (35, .iconst 0, 1) rfl
theorem dX6_litCells_36 : decode cX6_litCells 36 = .ok (.iadd, 1) := dTX6_litCells_0_ok 23 (36, .iadd, 1) rfl
theorem dX6_litCells_37 : decode cX6_litCells 37 = .ok (.istore_n 1, 1) := dTX6_litCells_0_ok 24 (37, .istore_n 1, 1) rfl
theorem dX6_litCells_38 : decode cX6_litCells 38 = .ok (.iinc 4 1, 3) := dTX6_litCells_0_ok 25 (38, .iinc 4 1, 3) rfl
theorem dX6_litCells_41 : decode cX6_litCells 41 = .ok (.goto (-28), 3) := dTX6_litCells_0_ok 26 (41, .goto (-28), 3) rfl
theorem dX6_litCells_44 : decode cX6_litCells 44 = .ok (.iload_n 1, 1) := dTX6_litCells_0_ok 27 (44, .iload_n 1, 1) rfl
theorem dX6_litCells_45 : decode cX6_litCells 45 = .ok (.ireturn, 1) := dTX6_litCells_0_ok 28 (45, .ireturn, 1) rfl
noncomputable def dTX6_shines_0 : List (Nat × Instr × Nat) := [(0, .aload_n 0, 1), (1, .iconst 0, 1), (2, .putfield 41, 3), (5, .iload_n 1, 1), (6, .iload_n 2, 1), (7, .invokestatic 52, 3), (10, .ifCond .ne 9, 3), (13, .aload_n 0, 1), (14, .iconst 1, 1), (15, .invokevirtual 62, 3), (18, .ireturn, 1), (19, .iconst 0, 1), (20, .istore_n 3, 1), (21, .iload_n 3, 1), (22, .bipush 63, 2), (24, .if_icmp .ge 16, 3), (27, .aload_n 0, 1), (28, .getfield 32, 3), (31, .iload_n 3, 1), (32, .iconst 0, 1), (33, .bastore, 1), (34, .iinc 3 1, 3), (37, .goto (-16), 3), (40, .aload_n 0, 1), (41, .bipush 9, 2), (43, .iload_n 2, 1), (44, .imul, 1), (45, .iload_n 1, 1), (46, .iadd, 1), (47, .invokevirtual 76, 3), (50, .aload_n 0, 1), (51, .invokevirtual 80, 3), (54, .ireturn, 1)]
theorem dTX6_shines_0_ok : ∀ (k : Nat) (q : Nat × Instr × Nat), dTX6_shines_0[k]? = some q → decode cX6_shines q.1 = .ok q.2 := dT_of (by decide +kernel)
theorem dX6_shines_0 : decode cX6_shines 0 = .ok (.aload_n 0, 1) := dTX6_shines_0_ok 0 (0, .aload_n 0, 1) rfl
theorem dX6_shines_1 : decode cX6_shines 1 = .ok (.iconst 0, 1) := dTX6_shines_0_ok 1 (1, .iconst 0, 1) rfl
theorem dX6_shines_2 : decode cX6_shines 2 = .ok (.putfield 41, 3) := dTX6_shines_0_ok 2 (2, .putfield 41, 3) rfl
theorem dX6_shines_5 : decode cX6_shines 5 = .ok (.iload_n 1, 1) := dTX6_shines_0_ok 3 (5, .iload_n 1, 1) rfl
theorem dX6_shines_6 : decode cX6_shines 6 = .ok (.iload_n 2, 1) := dTX6_shines_0_ok 4 (6, .iload_n 2, 1) rfl
theorem dX6_shines_7 : decode cX6_shines 7 = .ok (.invokestatic 52, 3) := dTX6_shines_0_ok 5 (7, .invokestatic 52, 3) rfl
theorem dX6_shines_10 : decode cX6_shines 10 = .ok (.ifCond .ne 9, 3) := dTX6_shines_0_ok 6 (10, .ifCond .ne 9, 3) rfl
theorem dX6_shines_13 : decode cX6_shines 13 = .ok (.aload_n 0, 1) := dTX6_shines_0_ok 7 (13, .aload_n 0, 1) rfl
theorem dX6_shines_14 : decode cX6_shines 14 = .ok (.iconst 1, 1) := dTX6_shines_0_ok 8 (14, .iconst 1, 1) rfl
theorem dX6_shines_15 : decode cX6_shines 15 = .ok (.invokevirtual 62, 3) := dTX6_shines_0_ok 9 (15, .invokevirtual 62, 3) rfl
theorem dX6_shines_18 : decode cX6_shines 18 = .ok (.ireturn, 1) := dTX6_shines_0_ok 10 (18, .ireturn, 1) rfl
theorem dX6_shines_19 : decode cX6_shines 19 = .ok (.iconst 0, 1) := dTX6_shines_0_ok 11 (19, .iconst 0, 1) rfl
theorem dX6_shines_20 : decode cX6_shines 20 = .ok (.istore_n 3, 1) := dTX6_shines_0_ok 12 (20, .istore_n 3, 1) rfl
theorem dX6_shines_21 : decode cX6_shines 21 = .ok (.iload_n 3, 1) := dTX6_shines_0_ok 13 (21, .iload_n 3, 1) rfl
theorem dX6_shines_22 : decode cX6_shines 22 = .ok (.bipush 63, 2) := dTX6_shines_0_ok 14 (22, .bipush 63, 2) rfl
theorem dX6_shines_24 : decode cX6_shines 24 = .ok (.if_icmp .ge 16, 3) := dTX6_shines_0_ok 15 (24, .if_icmp .ge 16, 3) rfl
theorem dX6_shines_27 : decode cX6_shines 27 = .ok (.aload_n 0, 1) := dTX6_shines_0_ok 16 (27, .aload_n 0, 1) rfl
theorem dX6_shines_28 : decode cX6_shines 28 = .ok (.getfield 32, 3) := dTX6_shines_0_ok 17 (28, .getfield 32, 3) rfl
theorem dX6_shines_31 : decode cX6_shines 31 = .ok (.iload_n 3, 1) := dTX6_shines_0_ok 18 (31, .iload_n 3, 1) rfl
theorem dX6_shines_32 : decode cX6_shines 32 = .ok (.iconst 0, 1) := dTX6_shines_0_ok 19 (32, .iconst 0, 1) rfl
theorem dX6_shines_33 : decode cX6_shines 33 = .ok (.bastore, 1) := dTX6_shines_0_ok 20 (33, .bastore, 1) rfl
theorem dX6_shines_34 : decode cX6_shines 34 = .ok (.iinc 3 1, 3) := dTX6_shines_0_ok 21 (34, .iinc 3 1, 3) rfl
theorem dX6_shines_37 : decode cX6_shines 37 = .ok (.goto (-16), 3) := dTX6_shines_0_ok 22 (37, .goto (-16), 3) rfl
theorem dX6_shines_40 : decode cX6_shines 40 = .ok (.aload_n 0, 1) := dTX6_shines_0_ok 23 (40, .aload_n 0, 1) rfl
theorem dX6_shines_41 : decode cX6_shines 41 = .ok (.bipush 9, 2) := dTX6_shines_0_ok 24 (41, .bipush 9, 2) rfl
theorem dX6_shines_43 : decode cX6_shines 43 = .ok (.iload_n 2, 1) := dTX6_shines_0_ok 25 (43, .iload_n 2, 1) rfl
theorem dX6_shines_44 : decode cX6_shines 44 = .ok (.imul, 1) := dTX6_shines_0_ok 26 (44, .imul, 1) rfl
theorem dX6_shines_45 : decode cX6_shines 45 = .ok (.iload_n 1, 1) := dTX6_shines_0_ok 27 (45, .iload_n 1, 1) rfl
theorem dX6_shines_46 : decode cX6_shines 46 = .ok (.iadd, 1) := dTX6_shines_0_ok 28 (46, .iadd, 1) rfl
theorem dX6_shines_47 : decode cX6_shines 47 = .ok (.invokevirtual 76, 3) := dTX6_shines_0_ok 29 (47, .invokevirtual 76, 3) rfl
theorem dX6_shines_50 : decode cX6_shines 50 = .ok (.aload_n 0, 1) := dTX6_shines_0_ok 30 (50, .aload_n 0, 1) rfl
theorem dX6_shines_51 : decode cX6_shines 51 = .ok (.invokevirtual 80, 3) := dTX6_shines_0_ok 31 (51, .invokevirtual 80, 3) rfl
theorem dX6_shines_54 : decode cX6_shines 54 = .ok (.ireturn, 1) := dTX6_shines_0_ok 32 (54, .ireturn, 1) rfl
noncomputable def dTX6_reckonWays_0 : List (Nat × Instr × Nat) := [(0, .iconst 0, 1), (1, .istore_n 2, 1), (2, .iload_n 2, 1), (3, .bipush 126, 2), (5, .if_icmp .ge 16, 3), (8, .aload_n 0, 1), (9, .getfield 35, 3), (12, .iload_n 2, 1), (13, .iconst (-1), 1), (14, .iastore, 1), (15, .iinc 2 1, 3), (18, .goto (-16), 3), (21, .aload_n 0, 1), (22, .getfield 35, 3), (25, .iconst 2, 1), (26, .iload_n 1, 1), (27, .imul, 1), (28, .iconst 0, 1), (29, .iastore, 1), (30, .aload_n 0, 1), (31, .getfield 35, 3), (34, .iconst 2, 1), (35, .iload_n 1, 1), (36, .imul, 1), (37, .iconst 1, 1), (38, .iadd, 1), (39, .iconst 0, 1), (40, .iastore, 1), (41, .iconst 0, 1), (42, .istore_n 2, 1), (43, .aload_n 0, 1), (44, .getfield 32, 3), (47, .iload_n 1, 1), (48, .baload, 1), (49, .ifCond .ne 25, 3), (52, .aload_n 0, 1), (53, .getfield 38, 3), (56, .iconst 0, 1), (57, .iconst 2, 1), (58, .iload_n 1, 1), (59, .imul, 1), (60, .iastore, 1), (61, .aload_n 0, 1), (62, .getfield 38, 3), (65, .iconst 1, 1), (66, .iconst 2, 1), (67, .iload_n 1, 1), (68, .imul, 1), (69, .iconst 1, 1), (70, .iadd, 1), (71, .iastore, 1), (72, .iconst 2, 1), (73, .istore_n 2, 1), (74, .iconst 0, 1), (75, .istore_n 3, 1), (76, .iload_n 3, 1), (77, .iload_n 2, 1), (78, .if_icmp .ge 162, 3), (81, .aload_n 0, 1), (82, .getfield 38, 3)]
theorem dTX6_reckonWays_0_ok : ∀ (k : Nat) (q : Nat × Instr × Nat), dTX6_reckonWays_0[k]? = some q → decode cX6_reckonWays q.1 = .ok q.2 := dT_of (by decide +kernel)
theorem dX6_reckonWays_0 : decode cX6_reckonWays 0 = .ok (.iconst 0, 1) := dTX6_reckonWays_0_ok 0 (0, .iconst 0, 1) rfl
theorem dX6_reckonWays_1 : decode cX6_reckonWays 1 = .ok (.istore_n 2, 1) := dTX6_reckonWays_0_ok 1 (1, .istore_n 2, 1) rfl
theorem dX6_reckonWays_2 : decode cX6_reckonWays 2 = .ok (.iload_n 2, 1) := dTX6_reckonWays_0_ok 2 (2, .iload_n 2, 1) rfl
theorem dX6_reckonWays_3 : decode cX6_reckonWays 3 = .ok (.bipush 126, 2) := dTX6_reckonWays_0_ok 3 (3, .bipush 126, 2) rfl
theorem dX6_reckonWays_5 : decode cX6_reckonWays 5 = .ok (.if_icmp .ge 16, 3) := dTX6_reckonWays_0_ok 4 (5, .if_icmp .ge 16, 3) rfl
theorem dX6_reckonWays_8 : decode cX6_reckonWays 8 = .ok (.aload_n 0, 1) := dTX6_reckonWays_0_ok 5 (8, .aload_n 0, 1) rfl
theorem dX6_reckonWays_9 : decode cX6_reckonWays 9 = .ok (.getfield 35, 3) := dTX6_reckonWays_0_ok 6 (9, .getfield 35, 3) rfl
theorem dX6_reckonWays_12 : decode cX6_reckonWays 12 = .ok (.iload_n 2, 1) := dTX6_reckonWays_0_ok 7 (12, .iload_n 2, 1) rfl
theorem dX6_reckonWays_13 : decode cX6_reckonWays 13 = .ok (.iconst (-1), 1) := dTX6_reckonWays_0_ok 8 (13, .iconst (-1), 1) rfl
theorem dX6_reckonWays_14 : decode cX6_reckonWays 14 = .ok (.iastore, 1) := dTX6_reckonWays_0_ok 9 (14, .iastore, 1) rfl
theorem dX6_reckonWays_15 : decode cX6_reckonWays 15 = .ok (.iinc 2 1, 3) := dTX6_reckonWays_0_ok 10 (15, .iinc 2 1, 3) rfl
theorem dX6_reckonWays_18 : decode cX6_reckonWays 18 = .ok (.goto (-16), 3) := dTX6_reckonWays_0_ok 11 (18, .goto (-16), 3) rfl
theorem dX6_reckonWays_21 : decode cX6_reckonWays 21 = .ok (.aload_n 0, 1) := dTX6_reckonWays_0_ok 12 (21, .aload_n 0, 1) rfl
theorem dX6_reckonWays_22 : decode cX6_reckonWays 22 = .ok (.getfield 35, 3) := dTX6_reckonWays_0_ok 13 (22, .getfield 35, 3) rfl
theorem dX6_reckonWays_25 : decode cX6_reckonWays 25 = .ok (.iconst 2, 1) := dTX6_reckonWays_0_ok 14 (25, .iconst 2, 1) rfl
theorem dX6_reckonWays_26 : decode cX6_reckonWays 26 = .ok (.iload_n 1, 1) := dTX6_reckonWays_0_ok 15 (26, .iload_n 1, 1) rfl
theorem dX6_reckonWays_27 : decode cX6_reckonWays 27 = .ok (.imul, 1) := dTX6_reckonWays_0_ok 16 (27, .imul, 1) rfl
theorem dX6_reckonWays_28 : decode cX6_reckonWays 28 = .ok (.iconst 0, 1) := dTX6_reckonWays_0_ok 17 (28, .iconst 0, 1) rfl
theorem dX6_reckonWays_29 : decode cX6_reckonWays 29 = .ok (.iastore, 1) := dTX6_reckonWays_0_ok 18 (29, .iastore, 1) rfl
theorem dX6_reckonWays_30 : decode cX6_reckonWays 30 = .ok (.aload_n 0, 1) := dTX6_reckonWays_0_ok 19 (30, .aload_n 0, 1) rfl
theorem dX6_reckonWays_31 : decode cX6_reckonWays 31 = .ok (.getfield 35, 3) := dTX6_reckonWays_0_ok 20 (31, .getfield 35, 3) rfl
theorem dX6_reckonWays_34 : decode cX6_reckonWays 34 = .ok (.iconst 2, 1) := dTX6_reckonWays_0_ok 21 (34, .iconst 2, 1) rfl
theorem dX6_reckonWays_35 : decode cX6_reckonWays 35 = .ok (.iload_n 1, 1) := dTX6_reckonWays_0_ok 22 (35, .iload_n 1, 1) rfl
theorem dX6_reckonWays_36 : decode cX6_reckonWays 36 = .ok (.imul, 1) := dTX6_reckonWays_0_ok 23 (36, .imul, 1) rfl
theorem dX6_reckonWays_37 : decode cX6_reckonWays 37 = .ok (.iconst 1, 1) := dTX6_reckonWays_0_ok 24 (37, .iconst 1, 1) rfl
theorem dX6_reckonWays_38 : decode cX6_reckonWays 38 = .ok (.iadd, 1) := dTX6_reckonWays_0_ok 25 (38, .iadd, 1) rfl
theorem dX6_reckonWays_39 : decode cX6_reckonWays 39 = .ok (.iconst 0, 1) := dTX6_reckonWays_0_ok 26 (39, .iconst 0, 1) rfl
theorem dX6_reckonWays_40 : decode cX6_reckonWays 40 = .ok (.iastore, 1) := dTX6_reckonWays_0_ok 27 (40, .iastore, 1) rfl
theorem dX6_reckonWays_41 : decode cX6_reckonWays 41 = .ok (.iconst 0, 1) := dTX6_reckonWays_0_ok 28 (41, .iconst 0, 1) rfl
theorem dX6_reckonWays_42 : decode cX6_reckonWays 42 = .ok (.istore_n 2, 1) := dTX6_reckonWays_0_ok 29 (42, .istore_n 2, 1) rfl
theorem dX6_reckonWays_43 : decode cX6_reckonWays 43 = .ok (.aload_n 0, 1) := dTX6_reckonWays_0_ok 30 (43, .aload_n 0, 1) rfl
theorem dX6_reckonWays_44 : decode cX6_reckonWays 44 = .ok (.getfield 32, 3) := dTX6_reckonWays_0_ok 31 (44, .getfield 32, 3) rfl
theorem dX6_reckonWays_47 : decode cX6_reckonWays 47 = .ok (.iload_n 1, 1) := dTX6_reckonWays_0_ok 32 (47, .iload_n 1, 1) rfl
theorem dX6_reckonWays_48 : decode cX6_reckonWays 48 = .ok (.baload, 1) := dTX6_reckonWays_0_ok 33 (48, .baload, 1) rfl
theorem dX6_reckonWays_49 : decode cX6_reckonWays 49 = .ok (.ifCond .ne 25, 3) := dTX6_reckonWays_0_ok 34 (49, .ifCond .ne 25, 3) rfl
theorem dX6_reckonWays_52 : decode cX6_reckonWays 52 = .ok (.aload_n 0, 1) := dTX6_reckonWays_0_ok 35 (52, .aload_n 0, 1) rfl
theorem dX6_reckonWays_53 : decode cX6_reckonWays 53 = .ok (.getfield 38, 3) := dTX6_reckonWays_0_ok 36 (53, .getfield 38, 3) rfl
theorem dX6_reckonWays_56 : decode cX6_reckonWays 56 = .ok (.iconst 0, 1) := dTX6_reckonWays_0_ok 37 (56, .iconst 0, 1) rfl
theorem dX6_reckonWays_57 : decode cX6_reckonWays 57 = .ok (.iconst 2, 1) := dTX6_reckonWays_0_ok 38 (57, .iconst 2, 1) rfl
theorem dX6_reckonWays_58 : decode cX6_reckonWays 58 = .ok (.iload_n 1, 1) := dTX6_reckonWays_0_ok 39 (58, .iload_n 1, 1) rfl
theorem dX6_reckonWays_59 : decode cX6_reckonWays 59 = .ok (.imul, 1) := dTX6_reckonWays_0_ok 40 (59, .imul, 1) rfl
theorem dX6_reckonWays_60 : decode cX6_reckonWays 60 = .ok (.iastore, 1) := dTX6_reckonWays_0_ok 41 (60, .iastore, 1) rfl
theorem dX6_reckonWays_61 : decode cX6_reckonWays 61 = .ok (.aload_n 0, 1) := dTX6_reckonWays_0_ok 42 (61, .aload_n 0, 1) rfl
theorem dX6_reckonWays_62 : decode cX6_reckonWays 62 = .ok (.getfield 38, 3) := dTX6_reckonWays_0_ok 43 (62, .getfield 38, 3) rfl
theorem dX6_reckonWays_65 : decode cX6_reckonWays 65 = .ok (.iconst 1, 1) := dTX6_reckonWays_0_ok 44 (65, .iconst 1, 1) rfl
theorem dX6_reckonWays_66 : decode cX6_reckonWays 66 = .ok (.iconst 2, 1) := dTX6_reckonWays_0_ok 45 (66, .iconst 2, 1) rfl
theorem dX6_reckonWays_67 : decode cX6_reckonWays 67 = .ok (.iload_n 1, 1) := dTX6_reckonWays_0_ok 46 (67, .iload_n 1, 1) rfl
theorem dX6_reckonWays_68 : decode cX6_reckonWays 68 = .ok (.imul, 1) := dTX6_reckonWays_0_ok 47 (68, .imul, 1) rfl
theorem dX6_reckonWays_69 : decode cX6_reckonWays 69 = .ok (.iconst 1, 1) := dTX6_reckonWays_0_ok 48 (69, .iconst 1, 1) rfl
theorem dX6_reckonWays_70 : decode cX6_reckonWays 70 = .ok (.iadd, 1) := dTX6_reckonWays_0_ok 49 (70, .iadd, 1) rfl
theorem dX6_reckonWays_71 : decode cX6_reckonWays 71 = .ok (.iastore, 1) := dTX6_reckonWays_0_ok 50 (71, .iastore, 1) rfl
theorem dX6_reckonWays_72 : decode cX6_reckonWays 72 = .ok (.iconst 2, 1) := dTX6_reckonWays_0_ok 51 (72, .iconst 2, 1) rfl
theorem dX6_reckonWays_73 : decode cX6_reckonWays 73 = .ok (.istore_n 2, 1) := dTX6_reckonWays_0_ok 52 (73, .istore_n 2, 1) rfl
theorem dX6_reckonWays_74 : decode cX6_reckonWays 74 = .ok (.iconst 0, 1) := dTX6_reckonWays_0_ok 53 (74, .iconst 0, 1) rfl
theorem dX6_reckonWays_75 : decode cX6_reckonWays 75 = .ok (.istore_n 3, 1) := dTX6_reckonWays_0_ok 54 (75, .istore_n 3, 1) rfl
theorem dX6_reckonWays_76 : decode cX6_reckonWays 76 = .ok (.iload_n 3, 1) := dTX6_reckonWays_0_ok 55 (76, .iload_n 3, 1) rfl
theorem dX6_reckonWays_77 : decode cX6_reckonWays 77 = .ok (.iload_n 2, 1) := dTX6_reckonWays_0_ok 56 (77, .iload_n 2, 1) rfl
theorem dX6_reckonWays_78 : decode cX6_reckonWays 78 = .ok (.if_icmp .ge 162, 3) := dTX6_reckonWays_0_ok 57 (78, .if_icmp .ge 162, 3) rfl
theorem dX6_reckonWays_81 : decode cX6_reckonWays 81 = .ok (.aload_n 0, 1) := dTX6_reckonWays_0_ok 58 (81, .aload_n 0, 1) rfl
theorem dX6_reckonWays_82 : decode cX6_reckonWays 82 = .ok (.getfield 38, 3) := dTX6_reckonWays_0_ok 59 (82, .getfield 38, 3) rfl
noncomputable def dTX6_reckonWays_1 : List (Nat × Instr × Nat) := [(85, .iload_n 3, 1), (86, .iaload, 1), (87, .iconst 2, 1), (88, .idiv, 1), (89, .istore 4, 2), (91, .aload_n 0, 1), (92, .getfield 38, 3), (95, .iload_n 3, 1), (96, .iaload, 1), (97, .iconst 2, 1), (98, .irem, 1), (99, .istore 5, 2), (101, .aload_n 0, 1), (102, .getfield 32, 3), (105, .iload 4, 2), (107, .baload, 1), (108, .ifCond .eq 6, 3), (111, .goto 123, 3), (114, .iconst 0, 1), (115, .istore 6, 2), (117, .iload 6, 2), (119, .iconst 4, 1), (120, .if_icmp .ge 114, 3), (123, .iload 4, 2), (125, .iload 6, 2), (127, .invokestatic 56, 3), (130, .istore 7, 2), (132, .iload 7, 2), (134, .iconst (-1), 1), (135, .if_icmp .ne 6, 3), (138, .goto 90, 3), (141, .aload_n 0, 1), (142, .iload 4, 2), (144, .iload 6, 2), (146, .invokevirtual 70, 3), (149, .istore 8, 2), (151, .iload 8, 2), (153, .ifCond .eq 12, 3), (156, .iload 5, 2), (158, .iconst 1, 1), (159, .if_icmp .ne 6, 3), (162, .goto 66, 3), (165, .iconst 2, 1), (166, .iload 7, 2), (168, .imul, 1), (169, .iload 8, 2), (171, .ifCond .eq 7, 3), (174, .iconst 1, 1), (175, .goto 5, 3), (178, .iload 5, 2), (180, .iadd, 1), (181, .istore 9, 2), (183, .aload_n 0, 1), (184, .getfield 35, 3), (187, .iload 9, 2), (189, .iaload, 1), (190, .iconst (-1), 1), (191, .if_icmp .eq 6, 3), (194, .goto 34, 3), (197, .aload_n 0, 1)]
theorem dTX6_reckonWays_1_ok : ∀ (k : Nat) (q : Nat × Instr × Nat), dTX6_reckonWays_1[k]? = some q → decode cX6_reckonWays q.1 = .ok q.2 := dT_of (by decide +kernel)
theorem dX6_reckonWays_85 : decode cX6_reckonWays 85 = .ok (.iload_n 3, 1) := dTX6_reckonWays_1_ok 0 (85, .iload_n 3, 1) rfl
theorem dX6_reckonWays_86 : decode cX6_reckonWays 86 = .ok (.iaload, 1) := dTX6_reckonWays_1_ok 1 (86, .iaload, 1) rfl
theorem dX6_reckonWays_87 : decode cX6_reckonWays 87 = .ok (.iconst 2, 1) := dTX6_reckonWays_1_ok 2 (87, .iconst 2, 1) rfl
theorem dX6_reckonWays_88 : decode cX6_reckonWays 88 = .ok (.idiv, 1) := dTX6_reckonWays_1_ok 3 (88, .idiv, 1) rfl
theorem dX6_reckonWays_89 : decode cX6_reckonWays 89 = .ok (.istore 4, 2) := dTX6_reckonWays_1_ok 4 (89, .istore 4, 2) rfl
theorem dX6_reckonWays_91 : decode cX6_reckonWays 91 = .ok (.aload_n 0, 1) := dTX6_reckonWays_1_ok 5 (91, .aload_n 0, 1) rfl
theorem dX6_reckonWays_92 : decode cX6_reckonWays 92 = .ok (.getfield 38, 3) := dTX6_reckonWays_1_ok 6 (92, .getfield 38, 3) rfl
theorem dX6_reckonWays_95 : decode cX6_reckonWays 95 = .ok (.iload_n 3, 1) := dTX6_reckonWays_1_ok 7 (95, .iload_n 3, 1) rfl
theorem dX6_reckonWays_96 : decode cX6_reckonWays 96 = .ok (.iaload, 1) := dTX6_reckonWays_1_ok 8 (96, .iaload, 1) rfl
theorem dX6_reckonWays_97 : decode cX6_reckonWays 97 = .ok (.iconst 2, 1) := dTX6_reckonWays_1_ok 9 (97, .iconst 2, 1) rfl
theorem dX6_reckonWays_98 : decode cX6_reckonWays 98 = .ok (.irem, 1) := dTX6_reckonWays_1_ok 10 (98, .irem, 1) rfl
theorem dX6_reckonWays_99 : decode cX6_reckonWays 99 = .ok (.istore 5, 2) := dTX6_reckonWays_1_ok 11 (99, .istore 5, 2) rfl
theorem dX6_reckonWays_101 : decode cX6_reckonWays 101 = .ok (.aload_n 0, 1) := dTX6_reckonWays_1_ok 12 (101, .aload_n 0, 1) rfl
theorem dX6_reckonWays_102 : decode cX6_reckonWays 102 = .ok (.getfield 32, 3) := dTX6_reckonWays_1_ok 13 (102, .getfield 32, 3) rfl
theorem dX6_reckonWays_105 : decode cX6_reckonWays 105 = .ok (.iload 4, 2) := dTX6_reckonWays_1_ok 14 (105, .iload 4, 2) rfl
theorem dX6_reckonWays_107 : decode cX6_reckonWays 107 = .ok (.baload, 1) := dTX6_reckonWays_1_ok 15 (107, .baload, 1) rfl
theorem dX6_reckonWays_108 : decode cX6_reckonWays 108 = .ok (.ifCond .eq 6, 3) := dTX6_reckonWays_1_ok 16 (108, .ifCond .eq 6, 3) rfl
theorem dX6_reckonWays_111 : decode cX6_reckonWays 111 = .ok (.goto 123, 3) := dTX6_reckonWays_1_ok 17 (111, .goto 123, 3) rfl
theorem dX6_reckonWays_114 : decode cX6_reckonWays 114 = .ok (.iconst 0, 1) := dTX6_reckonWays_1_ok 18 (114, .iconst 0, 1) rfl
theorem dX6_reckonWays_115 : decode cX6_reckonWays 115 = .ok (.istore 6, 2) := dTX6_reckonWays_1_ok 19 (115, .istore 6, 2) rfl
theorem dX6_reckonWays_117 : decode cX6_reckonWays 117 = .ok (.iload 6, 2) := dTX6_reckonWays_1_ok 20 (117, .iload 6, 2) rfl
theorem dX6_reckonWays_119 : decode cX6_reckonWays 119 = .ok (.iconst 4, 1) := dTX6_reckonWays_1_ok 21 (119, .iconst 4, 1) rfl
theorem dX6_reckonWays_120 : decode cX6_reckonWays 120 = .ok (.if_icmp .ge 114, 3) := dTX6_reckonWays_1_ok 22 (120, .if_icmp .ge 114, 3) rfl
theorem dX6_reckonWays_123 : decode cX6_reckonWays 123 = .ok (.iload 4, 2) := dTX6_reckonWays_1_ok 23 (123, .iload 4, 2) rfl
theorem dX6_reckonWays_125 : decode cX6_reckonWays 125 = .ok (.iload 6, 2) := dTX6_reckonWays_1_ok 24 (125, .iload 6, 2) rfl
theorem dX6_reckonWays_127 : decode cX6_reckonWays 127 = .ok (.invokestatic 56, 3) := dTX6_reckonWays_1_ok 25 (127, .invokestatic 56, 3) rfl
theorem dX6_reckonWays_130 : decode cX6_reckonWays 130 = .ok (.istore 7, 2) := dTX6_reckonWays_1_ok 26 (130, .istore 7, 2) rfl
theorem dX6_reckonWays_132 : decode cX6_reckonWays 132 = .ok (.iload 7, 2) := dTX6_reckonWays_1_ok 27 (132, .iload 7, 2) rfl
theorem dX6_reckonWays_134 : decode cX6_reckonWays 134 = .ok (.iconst (-1), 1) := dTX6_reckonWays_1_ok 28 (134, .iconst (-1), 1) rfl
theorem dX6_reckonWays_135 : decode cX6_reckonWays 135 = .ok (.if_icmp .ne 6, 3) := dTX6_reckonWays_1_ok 29 (135, .if_icmp .ne 6, 3) rfl
theorem dX6_reckonWays_138 : decode cX6_reckonWays 138 = .ok (.goto 90, 3) := dTX6_reckonWays_1_ok 30 (138, .goto 90, 3) rfl
theorem dX6_reckonWays_141 : decode cX6_reckonWays 141 = .ok (.aload_n 0, 1) := dTX6_reckonWays_1_ok 31 (141, .aload_n 0, 1) rfl
theorem dX6_reckonWays_142 : decode cX6_reckonWays 142 = .ok (.iload 4, 2) := dTX6_reckonWays_1_ok 32 (142, .iload 4, 2) rfl
theorem dX6_reckonWays_144 : decode cX6_reckonWays 144 = .ok (.iload 6, 2) := dTX6_reckonWays_1_ok 33 (144, .iload 6, 2) rfl
theorem dX6_reckonWays_146 : decode cX6_reckonWays 146 = .ok (.invokevirtual 70, 3) := dTX6_reckonWays_1_ok 34 (146, .invokevirtual 70, 3) rfl
theorem dX6_reckonWays_149 : decode cX6_reckonWays 149 = .ok (.istore 8, 2) := dTX6_reckonWays_1_ok 35 (149, .istore 8, 2) rfl
theorem dX6_reckonWays_151 : decode cX6_reckonWays 151 = .ok (.iload 8, 2) := dTX6_reckonWays_1_ok 36 (151, .iload 8, 2) rfl
theorem dX6_reckonWays_153 : decode cX6_reckonWays 153 = .ok (.ifCond .eq 12, 3) := dTX6_reckonWays_1_ok 37 (153, .ifCond .eq 12, 3) rfl
theorem dX6_reckonWays_156 : decode cX6_reckonWays 156 = .ok (.iload 5, 2) := dTX6_reckonWays_1_ok 38 (156, .iload 5, 2) rfl
theorem dX6_reckonWays_158 : decode cX6_reckonWays 158 = .ok (.iconst 1, 1) := dTX6_reckonWays_1_ok 39 (158, .iconst 1, 1) rfl
theorem dX6_reckonWays_159 : decode cX6_reckonWays 159 = .ok (.if_icmp .ne 6, 3) := dTX6_reckonWays_1_ok 40 (159, .if_icmp .ne 6, 3) rfl
theorem dX6_reckonWays_162 : decode cX6_reckonWays 162 = .ok (.goto 66, 3) := dTX6_reckonWays_1_ok 41 (162, .goto 66, 3) rfl
theorem dX6_reckonWays_165 : decode cX6_reckonWays 165 = .ok (.iconst 2, 1) := dTX6_reckonWays_1_ok 42 (165, .iconst 2, 1) rfl
theorem dX6_reckonWays_166 : decode cX6_reckonWays 166 = .ok (.iload 7, 2) := dTX6_reckonWays_1_ok 43 (166, .iload 7, 2) rfl
theorem dX6_reckonWays_168 : decode cX6_reckonWays 168 = .ok (.imul, 1) := dTX6_reckonWays_1_ok 44 (168, .imul, 1) rfl
theorem dX6_reckonWays_169 : decode cX6_reckonWays 169 = .ok (.iload 8, 2) := dTX6_reckonWays_1_ok 45 (169, .iload 8, 2) rfl
theorem dX6_reckonWays_171 : decode cX6_reckonWays 171 = .ok (.ifCond .eq 7, 3) := dTX6_reckonWays_1_ok 46 (171, .ifCond .eq 7, 3) rfl
theorem dX6_reckonWays_174 : decode cX6_reckonWays 174 = .ok (.iconst 1, 1) := dTX6_reckonWays_1_ok 47 (174, .iconst 1, 1) rfl
theorem dX6_reckonWays_175 : decode cX6_reckonWays 175 = .ok (.goto 5, 3) := dTX6_reckonWays_1_ok 48 (175, .goto 5, 3) rfl
theorem dX6_reckonWays_178 : decode cX6_reckonWays 178 = .ok (.iload 5, 2) := dTX6_reckonWays_1_ok 49 (178, .iload 5, 2) rfl
theorem dX6_reckonWays_180 : decode cX6_reckonWays 180 = .ok (.iadd, 1) := dTX6_reckonWays_1_ok 50 (180, .iadd, 1) rfl
theorem dX6_reckonWays_181 : decode cX6_reckonWays 181 = .ok (.istore 9, 2) := dTX6_reckonWays_1_ok 51 (181, .istore 9, 2) rfl
theorem dX6_reckonWays_183 : decode cX6_reckonWays 183 = .ok (.aload_n 0, 1) := dTX6_reckonWays_1_ok 52 (183, .aload_n 0, 1) rfl
theorem dX6_reckonWays_184 : decode cX6_reckonWays 184 = .ok (.getfield 35, 3) := dTX6_reckonWays_1_ok 53 (184, .getfield 35, 3) rfl
theorem dX6_reckonWays_187 : decode cX6_reckonWays 187 = .ok (.iload 9, 2) := dTX6_reckonWays_1_ok 54 (187, .iload 9, 2) rfl
theorem dX6_reckonWays_189 : decode cX6_reckonWays 189 = .ok (.iaload, 1) := dTX6_reckonWays_1_ok 55 (189, .iaload, 1) rfl
theorem dX6_reckonWays_190 : decode cX6_reckonWays 190 = .ok (.iconst (-1), 1) := dTX6_reckonWays_1_ok 56 (190, .iconst (-1), 1) rfl
theorem dX6_reckonWays_191 : decode cX6_reckonWays 191 = .ok (.if_icmp .eq 6, 3) := dTX6_reckonWays_1_ok 57 (191, .if_icmp .eq 6, 3) rfl
theorem dX6_reckonWays_194 : decode cX6_reckonWays 194 = .ok (.goto 34, 3) := dTX6_reckonWays_1_ok 58 (194, .goto 34, 3) rfl
theorem dX6_reckonWays_197 : decode cX6_reckonWays 197 = .ok (.aload_n 0, 1) := dTX6_reckonWays_1_ok 59 (197, .aload_n 0, 1) rfl
noncomputable def dTX6_reckonWays_2 : List (Nat × Instr × Nat) := [(198, .getfield 35, 3), (201, .iload 9, 2), (203, .aload_n 0, 1), (204, .getfield 35, 3), (207, .aload_n 0, 1), (208, .getfield 38, 3), (211, .iload_n 3, 1), (212, .iaload, 1), (213, .iaload, 1), (214, .iconst 1, 1), (215, .iadd, 1), (216, .iastore, 1), (217, .aload_n 0, 1), (218, .getfield 38, 3), (221, .iload_n 2, 1), (222, .iload 9, 2), (224, .iastore, 1), (225, .iinc 2 1, 3), (228, .iinc 6 1, 3), (231, .goto (-114), 3), (234, .iinc 3 1, 3), (237, .goto (-161), 3), (240, .return_, 1)]
theorem dTX6_reckonWays_2_ok : ∀ (k : Nat) (q : Nat × Instr × Nat), dTX6_reckonWays_2[k]? = some q → decode cX6_reckonWays q.1 = .ok q.2 := dT_of (by decide +kernel)
theorem dX6_reckonWays_198 : decode cX6_reckonWays 198 = .ok (.getfield 35, 3) := dTX6_reckonWays_2_ok 0 (198, .getfield 35, 3) rfl
theorem dX6_reckonWays_201 : decode cX6_reckonWays 201 = .ok (.iload 9, 2) := dTX6_reckonWays_2_ok 1 (201, .iload 9, 2) rfl
theorem dX6_reckonWays_203 : decode cX6_reckonWays 203 = .ok (.aload_n 0, 1) := dTX6_reckonWays_2_ok 2 (203, .aload_n 0, 1) rfl
theorem dX6_reckonWays_204 : decode cX6_reckonWays 204 = .ok (.getfield 35, 3) := dTX6_reckonWays_2_ok 3 (204, .getfield 35, 3) rfl
theorem dX6_reckonWays_207 : decode cX6_reckonWays 207 = .ok (.aload_n 0, 1) := dTX6_reckonWays_2_ok 4 (207, .aload_n 0, 1) rfl
theorem dX6_reckonWays_208 : decode cX6_reckonWays 208 = .ok (.getfield 38, 3) := dTX6_reckonWays_2_ok 5 (208, .getfield 38, 3) rfl
theorem dX6_reckonWays_211 : decode cX6_reckonWays 211 = .ok (.iload_n 3, 1) := dTX6_reckonWays_2_ok 6 (211, .iload_n 3, 1) rfl
theorem dX6_reckonWays_212 : decode cX6_reckonWays 212 = .ok (.iaload, 1) := dTX6_reckonWays_2_ok 7 (212, .iaload, 1) rfl
theorem dX6_reckonWays_213 : decode cX6_reckonWays 213 = .ok (.iaload, 1) := dTX6_reckonWays_2_ok 8 (213, .iaload, 1) rfl
theorem dX6_reckonWays_214 : decode cX6_reckonWays 214 = .ok (.iconst 1, 1) := dTX6_reckonWays_2_ok 9 (214, .iconst 1, 1) rfl
theorem dX6_reckonWays_215 : decode cX6_reckonWays 215 = .ok (.iadd, 1) := dTX6_reckonWays_2_ok 10 (215, .iadd, 1) rfl
theorem dX6_reckonWays_216 : decode cX6_reckonWays 216 = .ok (.iastore, 1) := dTX6_reckonWays_2_ok 11 (216, .iastore, 1) rfl
theorem dX6_reckonWays_217 : decode cX6_reckonWays 217 = .ok (.aload_n 0, 1) := dTX6_reckonWays_2_ok 12 (217, .aload_n 0, 1) rfl
theorem dX6_reckonWays_218 : decode cX6_reckonWays 218 = .ok (.getfield 38, 3) := dTX6_reckonWays_2_ok 13 (218, .getfield 38, 3) rfl
theorem dX6_reckonWays_221 : decode cX6_reckonWays 221 = .ok (.iload_n 2, 1) := dTX6_reckonWays_2_ok 14 (221, .iload_n 2, 1) rfl
theorem dX6_reckonWays_222 : decode cX6_reckonWays 222 = .ok (.iload 9, 2) := dTX6_reckonWays_2_ok 15 (222, .iload 9, 2) rfl
theorem dX6_reckonWays_224 : decode cX6_reckonWays 224 = .ok (.iastore, 1) := dTX6_reckonWays_2_ok 16 (224, .iastore, 1) rfl
theorem dX6_reckonWays_225 : decode cX6_reckonWays 225 = .ok (.iinc 2 1, 3) := dTX6_reckonWays_2_ok 17 (225, .iinc 2 1, 3) rfl
theorem dX6_reckonWays_228 : decode cX6_reckonWays 228 = .ok (.iinc 6 1, 3) := dTX6_reckonWays_2_ok 18 (228, .iinc 6 1, 3) rfl
theorem dX6_reckonWays_231 : decode cX6_reckonWays 231 = .ok (.goto (-114), 3) := dTX6_reckonWays_2_ok 19 (231, .goto (-114), 3) rfl
theorem dX6_reckonWays_234 : decode cX6_reckonWays 234 = .ok (.iinc 3 1, 3) := dTX6_reckonWays_2_ok 20 (234, .iinc 3 1, 3) rfl
theorem dX6_reckonWays_237 : decode cX6_reckonWays 237 = .ok (.goto (-161), 3) := dTX6_reckonWays_2_ok 21 (237, .goto (-161), 3) rfl
theorem dX6_reckonWays_240 : decode cX6_reckonWays 240 = .ok (.return_, 1) := dTX6_reckonWays_2_ok 22 (240, .return_, 1) rfl
noncomputable def dTX6_from_0 : List (Nat × Instr × Nat) := [(0, .aload_n 0, 1), (1, .getfield 35, 3), (4, .iconst 2, 1), (5, .iload_n 1, 1), (6, .imul, 1), (7, .iaload, 1), (8, .istore_n 3, 1), (9, .iload_n 2, 1), (10, .iconst 1, 1), (11, .if_icmp .ne 16, 3), (14, .aload_n 0, 1), (15, .getfield 35, 3), (18, .iconst 2, 1), (19, .iload_n 1, 1), (20, .imul, 1), (21, .iconst 1, 1), (22, .iadd, 1), (23, .iaload, 1), (24, .goto 4, 3), (27, .iconst (-1), 1), (28, .istore 4, 2), (30, .iload_n 3, 1), (31, .iconst (-1), 1), (32, .if_icmp .ne 8, 3), (35, .iload 4, 2), (37, .goto 19, 3), (40, .iload 4, 2), (42, .iconst (-1), 1), (43, .if_icmp .ne 7, 3), (46, .iload_n 3, 1), (47, .goto 9, 3), (50, .iload_n 3, 1), (51, .iload 4, 2), (53, .invokestatic 84, 3), (56, .ireturn, 1)]
theorem dTX6_from_0_ok : ∀ (k : Nat) (q : Nat × Instr × Nat), dTX6_from_0[k]? = some q → decode cX6_from q.1 = .ok q.2 := dT_of (by decide +kernel)
theorem dX6_from_0 : decode cX6_from 0 = .ok (.aload_n 0, 1) := dTX6_from_0_ok 0 (0, .aload_n 0, 1) rfl
theorem dX6_from_1 : decode cX6_from 1 = .ok (.getfield 35, 3) := dTX6_from_0_ok 1 (1, .getfield 35, 3) rfl
theorem dX6_from_4 : decode cX6_from 4 = .ok (.iconst 2, 1) := dTX6_from_0_ok 2 (4, .iconst 2, 1) rfl
theorem dX6_from_5 : decode cX6_from 5 = .ok (.iload_n 1, 1) := dTX6_from_0_ok 3 (5, .iload_n 1, 1) rfl
theorem dX6_from_6 : decode cX6_from 6 = .ok (.imul, 1) := dTX6_from_0_ok 4 (6, .imul, 1) rfl
theorem dX6_from_7 : decode cX6_from 7 = .ok (.iaload, 1) := dTX6_from_0_ok 5 (7, .iaload, 1) rfl
theorem dX6_from_8 : decode cX6_from 8 = .ok (.istore_n 3, 1) := dTX6_from_0_ok 6 (8, .istore_n 3, 1) rfl
theorem dX6_from_9 : decode cX6_from 9 = .ok (.iload_n 2, 1) := dTX6_from_0_ok 7 (9, .iload_n 2, 1) rfl
theorem dX6_from_10 : decode cX6_from 10 = .ok (.iconst 1, 1) := dTX6_from_0_ok 8 (10, .iconst 1, 1) rfl
theorem dX6_from_11 : decode cX6_from 11 = .ok (.if_icmp .ne 16, 3) := dTX6_from_0_ok 9 (11, .if_icmp .ne 16, 3) rfl
theorem dX6_from_14 : decode cX6_from 14 = .ok (.aload_n 0, 1) := dTX6_from_0_ok 10 (14, .aload_n 0, 1) rfl
theorem dX6_from_15 : decode cX6_from 15 = .ok (.getfield 35, 3) := dTX6_from_0_ok 11 (15, .getfield 35, 3) rfl
theorem dX6_from_18 : decode cX6_from 18 = .ok (.iconst 2, 1) := dTX6_from_0_ok 12 (18, .iconst 2, 1) rfl
theorem dX6_from_19 : decode cX6_from 19 = .ok (.iload_n 1, 1) := dTX6_from_0_ok 13 (19, .iload_n 1, 1) rfl
theorem dX6_from_20 : decode cX6_from 20 = .ok (.imul, 1) := dTX6_from_0_ok 14 (20, .imul, 1) rfl
theorem dX6_from_21 : decode cX6_from 21 = .ok (.iconst 1, 1) := dTX6_from_0_ok 15 (21, .iconst 1, 1) rfl
theorem dX6_from_22 : decode cX6_from 22 = .ok (.iadd, 1) := dTX6_from_0_ok 16 (22, .iadd, 1) rfl
theorem dX6_from_23 : decode cX6_from 23 = .ok (.iaload, 1) := dTX6_from_0_ok 17 (23, .iaload, 1) rfl
theorem dX6_from_24 : decode cX6_from 24 = .ok (.goto 4, 3) := dTX6_from_0_ok 18 (24, .goto 4, 3) rfl
theorem dX6_from_27 : decode cX6_from 27 = .ok (.iconst (-1), 1) := dTX6_from_0_ok 19 (27, .iconst (-1), 1) rfl
theorem dX6_from_28 : decode cX6_from 28 = .ok (.istore 4, 2) := dTX6_from_0_ok 20 (28, .istore 4, 2) rfl
theorem dX6_from_30 : decode cX6_from 30 = .ok (.iload_n 3, 1) := dTX6_from_0_ok 21 (30, .iload_n 3, 1) rfl
theorem dX6_from_31 : decode cX6_from 31 = .ok (.iconst (-1), 1) := dTX6_from_0_ok 22 (31, .iconst (-1), 1) rfl
theorem dX6_from_32 : decode cX6_from 32 = .ok (.if_icmp .ne 8, 3) := dTX6_from_0_ok 23 (32, .if_icmp .ne 8, 3) rfl
theorem dX6_from_35 : decode cX6_from 35 = .ok (.iload 4, 2) := dTX6_from_0_ok 24 (35, .iload 4, 2) rfl
theorem dX6_from_37 : decode cX6_from 37 = .ok (.goto 19, 3) := dTX6_from_0_ok 25 (37, .goto 19, 3) rfl
theorem dX6_from_40 : decode cX6_from 40 = .ok (.iload 4, 2) := dTX6_from_0_ok 26 (40, .iload 4, 2) rfl
theorem dX6_from_42 : decode cX6_from 42 = .ok (.iconst (-1), 1) := dTX6_from_0_ok 27 (42, .iconst (-1), 1) rfl
theorem dX6_from_43 : decode cX6_from 43 = .ok (.if_icmp .ne 7, 3) := dTX6_from_0_ok 28 (43, .if_icmp .ne 7, 3) rfl
theorem dX6_from_46 : decode cX6_from 46 = .ok (.iload_n 3, 1) := dTX6_from_0_ok 29 (46, .iload_n 3, 1) rfl
theorem dX6_from_47 : decode cX6_from 47 = .ok (.goto 9, 3) := dTX6_from_0_ok 30 (47, .goto 9, 3) rfl
theorem dX6_from_50 : decode cX6_from 50 = .ok (.iload_n 3, 1) := dTX6_from_0_ok 31 (50, .iload_n 3, 1) rfl
theorem dX6_from_51 : decode cX6_from 51 = .ok (.iload 4, 2) := dTX6_from_0_ok 32 (51, .iload 4, 2) rfl
theorem dX6_from_53 : decode cX6_from 53 = .ok (.invokestatic 84, 3) := dTX6_from_0_ok 33 (53, .invokestatic 84, 3) rfl
theorem dX6_from_56 : decode cX6_from 56 = .ok (.ireturn, 1) := dTX6_from_0_ok 34 (56, .ireturn, 1) rfl
noncomputable def dTX6_wayOf_0 : List (Nat × Instr × Nat) := [(0, .aload_n 0, 1), (1, .invokevirtual 89, 3), (4, .aload_n 0, 1), (5, .iload_n 2, 1), (6, .invokevirtual 92, 3), (9, .aload_n 0, 1), (10, .aload_n 0, 1), (11, .iload_n 1, 1), (12, .iconst 0, 1), (13, .invokevirtual 95, 3), (16, .aload_n 0, 1), (17, .iload_n 1, 1), (18, .iconst 3, 1), (19, .invokevirtual 95, 3), (22, .invokevirtual 98, 3), (25, .ireturn, 1)]
theorem dTX6_wayOf_0_ok : ∀ (k : Nat) (q : Nat × Instr × Nat), dTX6_wayOf_0[k]? = some q → decode cX6_wayOf q.1 = .ok q.2 := dT_of (by decide +kernel)
theorem dX6_wayOf_0 : decode cX6_wayOf 0 = .ok (.aload_n 0, 1) := dTX6_wayOf_0_ok 0 (0, .aload_n 0, 1) rfl
theorem dX6_wayOf_1 : decode cX6_wayOf 1 = .ok (.invokevirtual 89, 3) := dTX6_wayOf_0_ok 1 (1, .invokevirtual 89, 3) rfl
theorem dX6_wayOf_4 : decode cX6_wayOf 4 = .ok (.aload_n 0, 1) := dTX6_wayOf_0_ok 2 (4, .aload_n 0, 1) rfl
theorem dX6_wayOf_5 : decode cX6_wayOf 5 = .ok (.iload_n 2, 1) := dTX6_wayOf_0_ok 3 (5, .iload_n 2, 1) rfl
theorem dX6_wayOf_6 : decode cX6_wayOf 6 = .ok (.invokevirtual 92, 3) := dTX6_wayOf_0_ok 4 (6, .invokevirtual 92, 3) rfl
theorem dX6_wayOf_9 : decode cX6_wayOf 9 = .ok (.aload_n 0, 1) := dTX6_wayOf_0_ok 5 (9, .aload_n 0, 1) rfl
theorem dX6_wayOf_10 : decode cX6_wayOf 10 = .ok (.aload_n 0, 1) := dTX6_wayOf_0_ok 6 (10, .aload_n 0, 1) rfl
theorem dX6_wayOf_11 : decode cX6_wayOf 11 = .ok (.iload_n 1, 1) := dTX6_wayOf_0_ok 7 (11, .iload_n 1, 1) rfl
theorem dX6_wayOf_12 : decode cX6_wayOf 12 = .ok (.iconst 0, 1) := dTX6_wayOf_0_ok 8 (12, .iconst 0, 1) rfl
theorem dX6_wayOf_13 : decode cX6_wayOf 13 = .ok (.invokevirtual 95, 3) := dTX6_wayOf_0_ok 9 (13, .invokevirtual 95, 3) rfl
theorem dX6_wayOf_16 : decode cX6_wayOf 16 = .ok (.aload_n 0, 1) := dTX6_wayOf_0_ok 10 (16, .aload_n 0, 1) rfl
theorem dX6_wayOf_17 : decode cX6_wayOf 17 = .ok (.iload_n 1, 1) := dTX6_wayOf_0_ok 11 (17, .iload_n 1, 1) rfl
theorem dX6_wayOf_18 : decode cX6_wayOf 18 = .ok (.iconst 3, 1) := dTX6_wayOf_0_ok 12 (18, .iconst 3, 1) rfl
theorem dX6_wayOf_19 : decode cX6_wayOf 19 = .ok (.invokevirtual 95, 3) := dTX6_wayOf_0_ok 13 (19, .invokevirtual 95, 3) rfl
theorem dX6_wayOf_22 : decode cX6_wayOf 22 = .ok (.invokevirtual 98, 3) := dTX6_wayOf_0_ok 14 (22, .invokevirtual 98, 3) rfl
theorem dX6_wayOf_25 : decode cX6_wayOf 25 = .ok (.ireturn, 1) := dTX6_wayOf_0_ok 15 (25, .ireturn, 1) rfl
noncomputable def dTX6_nextOf_0 : List (Nat × Instr × Nat) := [(0, .aload_n 0, 1), (1, .iload_n 1, 1), (2, .aload_n 0, 1), (3, .iload_n 1, 1), (4, .iconst 2, 1), (5, .invokevirtual 95, 3), (8, .invokevirtual 101, 3), (11, .istore_n 2, 1), (12, .iload_n 2, 1), (13, .iconst 1, 1), (14, .if_icmp .ge 5, 3), (17, .iconst (-1), 1), (18, .ireturn, 1), (19, .iconst (-1), 1), (20, .istore_n 3, 1), (21, .iconst 0, 1), (22, .istore 4, 2), (24, .iload 4, 2), (26, .iconst 2, 1), (27, .if_icmp .ge 128, 3), (30, .iload_n 3, 1), (31, .iconst (-1), 1), (32, .if_icmp .ne 123, 3), (35, .iconst 3, 1), (36, .istore 5, 2), (38, .iload 5, 2), (40, .ifCond .lt 109, 3), (43, .aload_n 0, 1), (44, .iload_n 1, 1), (45, .iconst 0, 1), (46, .invokevirtual 95, 3), (49, .iload 5, 2), (51, .invokestatic 56, 3), (54, .istore 6, 2), (56, .iload 6, 2), (58, .iconst (-1), 1), (59, .if_icmp .eq 84, 3), (62, .aload_n 0, 1), (63, .getfield 32, 3), (66, .iload 6, 2), (68, .baload, 1), (69, .ifCond .ne 74, 3), (72, .aload_n 0, 1), (73, .aload_n 0, 1), (74, .iload_n 1, 1), (75, .iconst 0, 1), (76, .invokevirtual 95, 3), (79, .iload 5, 2), (81, .invokevirtual 70, 3), (84, .iload 4, 2), (86, .iconst 1, 1), (87, .if_icmp .ne 7, 3), (90, .iconst 1, 1), (91, .goto 4, 3), (94, .iconst 0, 1), (95, .if_icmp .ne 48, 3), (98, .iload 4, 2), (100, .aload_n 0, 1), (101, .iload_n 1, 1), (102, .iconst 3, 1)]
theorem dTX6_nextOf_0_ok : ∀ (k : Nat) (q : Nat × Instr × Nat), dTX6_nextOf_0[k]? = some q → decode cX6_nextOf q.1 = .ok q.2 := dT_of (by decide +kernel)
theorem dX6_nextOf_0 : decode cX6_nextOf 0 = .ok (.aload_n 0, 1) := dTX6_nextOf_0_ok 0 (0, .aload_n 0, 1) rfl
theorem dX6_nextOf_1 : decode cX6_nextOf 1 = .ok (.iload_n 1, 1) := dTX6_nextOf_0_ok 1 (1, .iload_n 1, 1) rfl
theorem dX6_nextOf_2 : decode cX6_nextOf 2 = .ok (.aload_n 0, 1) := dTX6_nextOf_0_ok 2 (2, .aload_n 0, 1) rfl
theorem dX6_nextOf_3 : decode cX6_nextOf 3 = .ok (.iload_n 1, 1) := dTX6_nextOf_0_ok 3 (3, .iload_n 1, 1) rfl
theorem dX6_nextOf_4 : decode cX6_nextOf 4 = .ok (.iconst 2, 1) := dTX6_nextOf_0_ok 4 (4, .iconst 2, 1) rfl
theorem dX6_nextOf_5 : decode cX6_nextOf 5 = .ok (.invokevirtual 95, 3) := dTX6_nextOf_0_ok 5 (5, .invokevirtual 95, 3) rfl
theorem dX6_nextOf_8 : decode cX6_nextOf 8 = .ok (.invokevirtual 101, 3) := dTX6_nextOf_0_ok 6 (8, .invokevirtual 101, 3) rfl
theorem dX6_nextOf_11 : decode cX6_nextOf 11 = .ok (.istore_n 2, 1) := dTX6_nextOf_0_ok 7 (11, .istore_n 2, 1) rfl
theorem dX6_nextOf_12 : decode cX6_nextOf 12 = .ok (.iload_n 2, 1) := dTX6_nextOf_0_ok 8 (12, .iload_n 2, 1) rfl
theorem dX6_nextOf_13 : decode cX6_nextOf 13 = .ok (.iconst 1, 1) := dTX6_nextOf_0_ok 9 (13, .iconst 1, 1) rfl
theorem dX6_nextOf_14 : decode cX6_nextOf 14 = .ok (.if_icmp .ge 5, 3) := dTX6_nextOf_0_ok 10 (14, .if_icmp .ge 5, 3) rfl
theorem dX6_nextOf_17 : decode cX6_nextOf 17 = .ok (.iconst (-1), 1) := dTX6_nextOf_0_ok 11 (17, .iconst (-1), 1) rfl
theorem dX6_nextOf_18 : decode cX6_nextOf 18 = .ok (.ireturn, 1) := dTX6_nextOf_0_ok 12 (18, .ireturn, 1) rfl
theorem dX6_nextOf_19 : decode cX6_nextOf 19 = .ok (.iconst (-1), 1) := dTX6_nextOf_0_ok 13 (19, .iconst (-1), 1) rfl
theorem dX6_nextOf_20 : decode cX6_nextOf 20 = .ok (.istore_n 3, 1) := dTX6_nextOf_0_ok 14 (20, .istore_n 3, 1) rfl
theorem dX6_nextOf_21 : decode cX6_nextOf 21 = .ok (.iconst 0, 1) := dTX6_nextOf_0_ok 15 (21, .iconst 0, 1) rfl
theorem dX6_nextOf_22 : decode cX6_nextOf 22 = .ok (.istore 4, 2) := dTX6_nextOf_0_ok 16 (22, .istore 4, 2) rfl
theorem dX6_nextOf_24 : decode cX6_nextOf 24 = .ok (.iload 4, 2) := dTX6_nextOf_0_ok 17 (24, .iload 4, 2) rfl
theorem dX6_nextOf_26 : decode cX6_nextOf 26 = .ok (.iconst 2, 1) := dTX6_nextOf_0_ok 18 (26, .iconst 2, 1) rfl
theorem dX6_nextOf_27 : decode cX6_nextOf 27 = .ok (.if_icmp .ge 128, 3) := dTX6_nextOf_0_ok 19 (27, .if_icmp .ge 128, 3) rfl
theorem dX6_nextOf_30 : decode cX6_nextOf 30 = .ok (.iload_n 3, 1) := dTX6_nextOf_0_ok 20 (30, .iload_n 3, 1) rfl
theorem dX6_nextOf_31 : decode cX6_nextOf 31 = .ok (.iconst (-1), 1) := dTX6_nextOf_0_ok 21 (31, .iconst (-1), 1) rfl
theorem dX6_nextOf_32 : decode cX6_nextOf 32 = .ok (.if_icmp .ne 123, 3) := dTX6_nextOf_0_ok 22 (32, .if_icmp .ne 123, 3) rfl
theorem dX6_nextOf_35 : decode cX6_nextOf 35 = .ok (.iconst 3, 1) := dTX6_nextOf_0_ok 23 (35, .iconst 3, 1) rfl
theorem dX6_nextOf_36 : decode cX6_nextOf 36 = .ok (.istore 5, 2) := dTX6_nextOf_0_ok 24 (36, .istore 5, 2) rfl
theorem dX6_nextOf_38 : decode cX6_nextOf 38 = .ok (.iload 5, 2) := dTX6_nextOf_0_ok 25 (38, .iload 5, 2) rfl
theorem dX6_nextOf_40 : decode cX6_nextOf 40 = .ok (.ifCond .lt 109, 3) := dTX6_nextOf_0_ok 26 (40, .ifCond .lt 109, 3) rfl
theorem dX6_nextOf_43 : decode cX6_nextOf 43 = .ok (.aload_n 0, 1) := dTX6_nextOf_0_ok 27 (43, .aload_n 0, 1) rfl
theorem dX6_nextOf_44 : decode cX6_nextOf 44 = .ok (.iload_n 1, 1) := dTX6_nextOf_0_ok 28 (44, .iload_n 1, 1) rfl
theorem dX6_nextOf_45 : decode cX6_nextOf 45 = .ok (.iconst 0, 1) := dTX6_nextOf_0_ok 29 (45, .iconst 0, 1) rfl
theorem dX6_nextOf_46 : decode cX6_nextOf 46 = .ok (.invokevirtual 95, 3) := dTX6_nextOf_0_ok 30 (46, .invokevirtual 95, 3) rfl
theorem dX6_nextOf_49 : decode cX6_nextOf 49 = .ok (.iload 5, 2) := dTX6_nextOf_0_ok 31 (49, .iload 5, 2) rfl
theorem dX6_nextOf_51 : decode cX6_nextOf 51 = .ok (.invokestatic 56, 3) := dTX6_nextOf_0_ok 32 (51, .invokestatic 56, 3) rfl
theorem dX6_nextOf_54 : decode cX6_nextOf 54 = .ok (.istore 6, 2) := dTX6_nextOf_0_ok 33 (54, .istore 6, 2) rfl
theorem dX6_nextOf_56 : decode cX6_nextOf 56 = .ok (.iload 6, 2) := dTX6_nextOf_0_ok 34 (56, .iload 6, 2) rfl
theorem dX6_nextOf_58 : decode cX6_nextOf 58 = .ok (.iconst (-1), 1) := dTX6_nextOf_0_ok 35 (58, .iconst (-1), 1) rfl
theorem dX6_nextOf_59 : decode cX6_nextOf 59 = .ok (.if_icmp .eq 84, 3) := dTX6_nextOf_0_ok 36 (59, .if_icmp .eq 84, 3) rfl
theorem dX6_nextOf_62 : decode cX6_nextOf 62 = .ok (.aload_n 0, 1) := dTX6_nextOf_0_ok 37 (62, .aload_n 0, 1) rfl
theorem dX6_nextOf_63 : decode cX6_nextOf 63 = .ok (.getfield 32, 3) := dTX6_nextOf_0_ok 38 (63, .getfield 32, 3) rfl
theorem dX6_nextOf_66 : decode cX6_nextOf 66 = .ok (.iload 6, 2) := dTX6_nextOf_0_ok 39 (66, .iload 6, 2) rfl
theorem dX6_nextOf_68 : decode cX6_nextOf 68 = .ok (.baload, 1) := dTX6_nextOf_0_ok 40 (68, .baload, 1) rfl
theorem dX6_nextOf_69 : decode cX6_nextOf 69 = .ok (.ifCond .ne 74, 3) := dTX6_nextOf_0_ok 41 (69, .ifCond .ne 74, 3) rfl
theorem dX6_nextOf_72 : decode cX6_nextOf 72 = .ok (.aload_n 0, 1) := dTX6_nextOf_0_ok 42 (72, .aload_n 0, 1) rfl
theorem dX6_nextOf_73 : decode cX6_nextOf 73 = .ok (.aload_n 0, 1) := dTX6_nextOf_0_ok 43 (73, .aload_n 0, 1) rfl
theorem dX6_nextOf_74 : decode cX6_nextOf 74 = .ok (.iload_n 1, 1) := dTX6_nextOf_0_ok 44 (74, .iload_n 1, 1) rfl
theorem dX6_nextOf_75 : decode cX6_nextOf 75 = .ok (.iconst 0, 1) := dTX6_nextOf_0_ok 45 (75, .iconst 0, 1) rfl
theorem dX6_nextOf_76 : decode cX6_nextOf 76 = .ok (.invokevirtual 95, 3) := dTX6_nextOf_0_ok 46 (76, .invokevirtual 95, 3) rfl
theorem dX6_nextOf_79 : decode cX6_nextOf 79 = .ok (.iload 5, 2) := dTX6_nextOf_0_ok 47 (79, .iload 5, 2) rfl
theorem dX6_nextOf_81 : decode cX6_nextOf 81 = .ok (.invokevirtual 70, 3) := dTX6_nextOf_0_ok 48 (81, .invokevirtual 70, 3) rfl
theorem dX6_nextOf_84 : decode cX6_nextOf 84 = .ok (.iload 4, 2) := dTX6_nextOf_0_ok 49 (84, .iload 4, 2) rfl
theorem dX6_nextOf_86 : decode cX6_nextOf 86 = .ok (.iconst 1, 1) := dTX6_nextOf_0_ok 50 (86, .iconst 1, 1) rfl
theorem dX6_nextOf_87 : decode cX6_nextOf 87 = .ok (.if_icmp .ne 7, 3) := dTX6_nextOf_0_ok 51 (87, .if_icmp .ne 7, 3) rfl
theorem dX6_nextOf_90 : decode cX6_nextOf 90 = .ok (.iconst 1, 1) := dTX6_nextOf_0_ok 52 (90, .iconst 1, 1) rfl
theorem dX6_nextOf_91 : decode cX6_nextOf 91 = .ok (.goto 4, 3) := dTX6_nextOf_0_ok 53 (91, .goto 4, 3) rfl
theorem dX6_nextOf_94 : decode cX6_nextOf 94 = .ok (.iconst 0, 1) := dTX6_nextOf_0_ok 54 (94, .iconst 0, 1) rfl
theorem dX6_nextOf_95 : decode cX6_nextOf 95 = .ok (.if_icmp .ne 48, 3) := dTX6_nextOf_0_ok 55 (95, .if_icmp .ne 48, 3) rfl
theorem dX6_nextOf_98 : decode cX6_nextOf 98 = .ok (.iload 4, 2) := dTX6_nextOf_0_ok 56 (98, .iload 4, 2) rfl
theorem dX6_nextOf_100 : decode cX6_nextOf 100 = .ok (.aload_n 0, 1) := dTX6_nextOf_0_ok 57 (100, .aload_n 0, 1) rfl
theorem dX6_nextOf_101 : decode cX6_nextOf 101 = .ok (.iload_n 1, 1) := dTX6_nextOf_0_ok 58 (101, .iload_n 1, 1) rfl
theorem dX6_nextOf_102 : decode cX6_nextOf 102 = .ok (.iconst 3, 1) := dTX6_nextOf_0_ok 59 (102, .iconst 3, 1) rfl
noncomputable def dTX6_nextOf_1 : List (Nat × Instr × Nat) := [(103, .invokevirtual 95, 3), (106, .if_icmp .le 6, 3), (109, .goto 34, 3), (112, .aload_n 0, 1), (113, .iload 6, 2), (115, .iload 4, 2), (117, .iconst 1, 1), (118, .if_icmp .ne 7, 3), (121, .iconst 0, 1), (122, .goto 9, 3), (125, .aload_n 0, 1), (126, .iload_n 1, 1), (127, .iconst 3, 1), (128, .invokevirtual 95, 3), (131, .invokevirtual 98, 3), (134, .iload_n 2, 1), (135, .iconst 1, 1), (136, .isub, 1), (137, .if_icmp .ne 6, 3), (140, .iload 5, 2), (142, .istore_n 3, 1), (143, .iinc 5 (-1), 3), (146, .goto (-108), 3), (149, .iinc 4 1, 3), (152, .goto (-128), 3), (155, .iload_n 3, 1), (156, .ireturn, 1)]
theorem dTX6_nextOf_1_ok : ∀ (k : Nat) (q : Nat × Instr × Nat), dTX6_nextOf_1[k]? = some q → decode cX6_nextOf q.1 = .ok q.2 := dT_of (by decide +kernel)
theorem dX6_nextOf_103 : decode cX6_nextOf 103 = .ok (.invokevirtual 95, 3) := dTX6_nextOf_1_ok 0 (103, .invokevirtual 95, 3) rfl
theorem dX6_nextOf_106 : decode cX6_nextOf 106 = .ok (.if_icmp .le 6, 3) := dTX6_nextOf_1_ok 1 (106, .if_icmp .le 6, 3) rfl
theorem dX6_nextOf_109 : decode cX6_nextOf 109 = .ok (.goto 34, 3) := dTX6_nextOf_1_ok 2 (109, .goto 34, 3) rfl
theorem dX6_nextOf_112 : decode cX6_nextOf 112 = .ok (.aload_n 0, 1) := dTX6_nextOf_1_ok 3 (112, .aload_n 0, 1) rfl
theorem dX6_nextOf_113 : decode cX6_nextOf 113 = .ok (.iload 6, 2) := dTX6_nextOf_1_ok 4 (113, .iload 6, 2) rfl
theorem dX6_nextOf_115 : decode cX6_nextOf 115 = .ok (.iload 4, 2) := dTX6_nextOf_1_ok 5 (115, .iload 4, 2) rfl
theorem dX6_nextOf_117 : decode cX6_nextOf 117 = .ok (.iconst 1, 1) := dTX6_nextOf_1_ok 6 (117, .iconst 1, 1) rfl
theorem dX6_nextOf_118 : decode cX6_nextOf 118 = .ok (.if_icmp .ne 7, 3) := dTX6_nextOf_1_ok 7 (118, .if_icmp .ne 7, 3) rfl
theorem dX6_nextOf_121 : decode cX6_nextOf 121 = .ok (.iconst 0, 1) := dTX6_nextOf_1_ok 8 (121, .iconst 0, 1) rfl
theorem dX6_nextOf_122 : decode cX6_nextOf 122 = .ok (.goto 9, 3) := dTX6_nextOf_1_ok 9 (122, .goto 9, 3) rfl
theorem dX6_nextOf_125 : decode cX6_nextOf 125 = .ok (.aload_n 0, 1) := dTX6_nextOf_1_ok 10 (125, .aload_n 0, 1) rfl
theorem dX6_nextOf_126 : decode cX6_nextOf 126 = .ok (.iload_n 1, 1) := dTX6_nextOf_1_ok 11 (126, .iload_n 1, 1) rfl
theorem dX6_nextOf_127 : decode cX6_nextOf 127 = .ok (.iconst 3, 1) := dTX6_nextOf_1_ok 12 (127, .iconst 3, 1) rfl
theorem dX6_nextOf_128 : decode cX6_nextOf 128 = .ok (.invokevirtual 95, 3) := dTX6_nextOf_1_ok 13 (128, .invokevirtual 95, 3) rfl
theorem dX6_nextOf_131 : decode cX6_nextOf 131 = .ok (.invokevirtual 98, 3) := dTX6_nextOf_1_ok 14 (131, .invokevirtual 98, 3) rfl
theorem dX6_nextOf_134 : decode cX6_nextOf 134 = .ok (.iload_n 2, 1) := dTX6_nextOf_1_ok 15 (134, .iload_n 2, 1) rfl
theorem dX6_nextOf_135 : decode cX6_nextOf 135 = .ok (.iconst 1, 1) := dTX6_nextOf_1_ok 16 (135, .iconst 1, 1) rfl
theorem dX6_nextOf_136 : decode cX6_nextOf 136 = .ok (.isub, 1) := dTX6_nextOf_1_ok 17 (136, .isub, 1) rfl
theorem dX6_nextOf_137 : decode cX6_nextOf 137 = .ok (.if_icmp .ne 6, 3) := dTX6_nextOf_1_ok 18 (137, .if_icmp .ne 6, 3) rfl
theorem dX6_nextOf_140 : decode cX6_nextOf 140 = .ok (.iload 5, 2) := dTX6_nextOf_1_ok 19 (140, .iload 5, 2) rfl
theorem dX6_nextOf_142 : decode cX6_nextOf 142 = .ok (.istore_n 3, 1) := dTX6_nextOf_1_ok 20 (142, .istore_n 3, 1) rfl
theorem dX6_nextOf_143 : decode cX6_nextOf 143 = .ok (.iinc 5 (-1), 3) := dTX6_nextOf_1_ok 21 (143, .iinc 5 (-1), 3) rfl
theorem dX6_nextOf_146 : decode cX6_nextOf 146 = .ok (.goto (-108), 3) := dTX6_nextOf_1_ok 22 (146, .goto (-108), 3) rfl
theorem dX6_nextOf_149 : decode cX6_nextOf 149 = .ok (.iinc 4 1, 3) := dTX6_nextOf_1_ok 23 (149, .iinc 4 1, 3) rfl
theorem dX6_nextOf_152 : decode cX6_nextOf 152 = .ok (.goto (-128), 3) := dTX6_nextOf_1_ok 24 (152, .goto (-128), 3) rfl
theorem dX6_nextOf_155 : decode cX6_nextOf 155 = .ok (.iload_n 3, 1) := dTX6_nextOf_1_ok 25 (155, .iload_n 3, 1) rfl
theorem dX6_nextOf_156 : decode cX6_nextOf 156 = .ok (.ireturn, 1) := dTX6_nextOf_1_ok 26 (156, .ireturn, 1) rfl
noncomputable def dTX6_way_0 : List (Nat × Instr × Nat) := [(0, .aload_n 0, 1), (1, .iconst 0, 1), (2, .putfield 41, 3), (5, .aload_n 0, 1), (6, .iload_n 1, 1), (7, .invokevirtual 104, 3), (10, .ifCond .eq 25, 3), (13, .iload_n 2, 1), (14, .iload_n 3, 1), (15, .invokestatic 52, 3), (18, .ifCond .eq 17, 3), (21, .aload_n 0, 1), (22, .iload_n 1, 1), (23, .bipush 9, 2), (25, .iload_n 3, 1), (26, .imul, 1), (27, .iload_n 2, 1), (28, .iadd, 1), (29, .invokevirtual 101, 3), (32, .goto 8, 3), (35, .aload_n 0, 1), (36, .iconst 1, 1), (37, .invokevirtual 62, 3), (40, .ireturn, 1)]
theorem dTX6_way_0_ok : ∀ (k : Nat) (q : Nat × Instr × Nat), dTX6_way_0[k]? = some q → decode cX6_way q.1 = .ok q.2 := dT_of (by decide +kernel)
theorem dX6_way_0 : decode cX6_way 0 = .ok (.aload_n 0, 1) := dTX6_way_0_ok 0 (0, .aload_n 0, 1) rfl
theorem dX6_way_1 : decode cX6_way 1 = .ok (.iconst 0, 1) := dTX6_way_0_ok 1 (1, .iconst 0, 1) rfl
theorem dX6_way_2 : decode cX6_way 2 = .ok (.putfield 41, 3) := dTX6_way_0_ok 2 (2, .putfield 41, 3) rfl
theorem dX6_way_5 : decode cX6_way 5 = .ok (.aload_n 0, 1) := dTX6_way_0_ok 3 (5, .aload_n 0, 1) rfl
theorem dX6_way_6 : decode cX6_way 6 = .ok (.iload_n 1, 1) := dTX6_way_0_ok 4 (6, .iload_n 1, 1) rfl
theorem dX6_way_7 : decode cX6_way 7 = .ok (.invokevirtual 104, 3) := dTX6_way_0_ok 5 (7, .invokevirtual 104, 3) rfl
theorem dX6_way_10 : decode cX6_way 10 = .ok (.ifCond .eq 25, 3) := dTX6_way_0_ok 6 (10, .ifCond .eq 25, 3) rfl
theorem dX6_way_13 : decode cX6_way 13 = .ok (.iload_n 2, 1) := dTX6_way_0_ok 7 (13, .iload_n 2, 1) rfl
theorem dX6_way_14 : decode cX6_way 14 = .ok (.iload_n 3, 1) := dTX6_way_0_ok 8 (14, .iload_n 3, 1) rfl
theorem dX6_way_15 : decode cX6_way 15 = .ok (.invokestatic 52, 3) := dTX6_way_0_ok 9 (15, .invokestatic 52, 3) rfl
theorem dX6_way_18 : decode cX6_way 18 = .ok (.ifCond .eq 17, 3) := dTX6_way_0_ok 10 (18, .ifCond .eq 17, 3) rfl
theorem dX6_way_21 : decode cX6_way 21 = .ok (.aload_n 0, 1) := dTX6_way_0_ok 11 (21, .aload_n 0, 1) rfl
theorem dX6_way_22 : decode cX6_way 22 = .ok (.iload_n 1, 1) := dTX6_way_0_ok 12 (22, .iload_n 1, 1) rfl
theorem dX6_way_23 : decode cX6_way 23 = .ok (.bipush 9, 2) := dTX6_way_0_ok 13 (23, .bipush 9, 2) rfl
theorem dX6_way_25 : decode cX6_way 25 = .ok (.iload_n 3, 1) := dTX6_way_0_ok 14 (25, .iload_n 3, 1) rfl
theorem dX6_way_26 : decode cX6_way 26 = .ok (.imul, 1) := dTX6_way_0_ok 15 (26, .imul, 1) rfl
theorem dX6_way_27 : decode cX6_way 27 = .ok (.iload_n 2, 1) := dTX6_way_0_ok 16 (27, .iload_n 2, 1) rfl
theorem dX6_way_28 : decode cX6_way 28 = .ok (.iadd, 1) := dTX6_way_0_ok 17 (28, .iadd, 1) rfl
theorem dX6_way_29 : decode cX6_way 29 = .ok (.invokevirtual 101, 3) := dTX6_way_0_ok 18 (29, .invokevirtual 101, 3) rfl
theorem dX6_way_32 : decode cX6_way 32 = .ok (.goto 8, 3) := dTX6_way_0_ok 19 (32, .goto 8, 3) rfl
theorem dX6_way_35 : decode cX6_way 35 = .ok (.aload_n 0, 1) := dTX6_way_0_ok 20 (35, .aload_n 0, 1) rfl
theorem dX6_way_36 : decode cX6_way 36 = .ok (.iconst 1, 1) := dTX6_way_0_ok 21 (36, .iconst 1, 1) rfl
theorem dX6_way_37 : decode cX6_way 37 = .ok (.invokevirtual 62, 3) := dTX6_way_0_ok 22 (37, .invokevirtual 62, 3) rfl
theorem dX6_way_40 : decode cX6_way 40 = .ok (.ireturn, 1) := dTX6_way_0_ok 23 (40, .ireturn, 1) rfl
noncomputable def dTX6_next_0 : List (Nat × Instr × Nat) := [(0, .aload_n 0, 1), (1, .iconst 0, 1), (2, .putfield 41, 3), (5, .aload_n 0, 1), (6, .iload_n 1, 1), (7, .invokevirtual 104, 3), (10, .ifCond .eq 11, 3), (13, .aload_n 0, 1), (14, .iload_n 1, 1), (15, .invokevirtual 108, 3), (18, .goto 8, 3), (21, .aload_n 0, 1), (22, .iconst 1, 1), (23, .invokevirtual 62, 3), (26, .ireturn, 1)]
theorem dTX6_next_0_ok : ∀ (k : Nat) (q : Nat × Instr × Nat), dTX6_next_0[k]? = some q → decode cX6_next q.1 = .ok q.2 := dT_of (by decide +kernel)
theorem dX6_next_0 : decode cX6_next 0 = .ok (.aload_n 0, 1) := dTX6_next_0_ok 0 (0, .aload_n 0, 1) rfl
theorem dX6_next_1 : decode cX6_next 1 = .ok (.iconst 0, 1) := dTX6_next_0_ok 1 (1, .iconst 0, 1) rfl
theorem dX6_next_2 : decode cX6_next 2 = .ok (.putfield 41, 3) := dTX6_next_0_ok 2 (2, .putfield 41, 3) rfl
theorem dX6_next_5 : decode cX6_next 5 = .ok (.aload_n 0, 1) := dTX6_next_0_ok 3 (5, .aload_n 0, 1) rfl
theorem dX6_next_6 : decode cX6_next 6 = .ok (.iload_n 1, 1) := dTX6_next_0_ok 4 (6, .iload_n 1, 1) rfl
theorem dX6_next_7 : decode cX6_next 7 = .ok (.invokevirtual 104, 3) := dTX6_next_0_ok 5 (7, .invokevirtual 104, 3) rfl
theorem dX6_next_10 : decode cX6_next 10 = .ok (.ifCond .eq 11, 3) := dTX6_next_0_ok 6 (10, .ifCond .eq 11, 3) rfl
theorem dX6_next_13 : decode cX6_next 13 = .ok (.aload_n 0, 1) := dTX6_next_0_ok 7 (13, .aload_n 0, 1) rfl
theorem dX6_next_14 : decode cX6_next 14 = .ok (.iload_n 1, 1) := dTX6_next_0_ok 8 (14, .iload_n 1, 1) rfl
theorem dX6_next_15 : decode cX6_next 15 = .ok (.invokevirtual 108, 3) := dTX6_next_0_ok 9 (15, .invokevirtual 108, 3) rfl
theorem dX6_next_18 : decode cX6_next 18 = .ok (.goto 8, 3) := dTX6_next_0_ok 10 (18, .goto 8, 3) rfl
theorem dX6_next_21 : decode cX6_next 21 = .ok (.aload_n 0, 1) := dTX6_next_0_ok 11 (21, .aload_n 0, 1) rfl
theorem dX6_next_22 : decode cX6_next 22 = .ok (.iconst 1, 1) := dTX6_next_0_ok 12 (22, .iconst 1, 1) rfl
theorem dX6_next_23 : decode cX6_next 23 = .ok (.invokevirtual 62, 3) := dTX6_next_0_ok 13 (23, .invokevirtual 62, 3) rfl
theorem dX6_next_26 : decode cX6_next 26 = .ok (.ireturn, 1) := dTX6_next_0_ok 14 (26, .ireturn, 1) rfl
noncomputable def dTX6_come_0 : List (Nat × Instr × Nat) := [(0, .aload_n 0, 1), (1, .iconst 0, 1), (2, .putfield 41, 3), (5, .iload_n 1, 1), (6, .iload_n 2, 1), (7, .invokestatic 52, 3), (10, .ifCond .ne 9, 3), (13, .aload_n 0, 1), (14, .iconst 1, 1), (15, .invokevirtual 62, 3), (18, .ireturn, 1), (19, .iload_n 3, 1), (20, .iconst 1, 1), (21, .iconst 3, 1), (22, .invokestatic 45, 3), (25, .ifCond .ne 9, 3), (28, .aload_n 0, 1), (29, .iconst 2, 1), (30, .invokevirtual 62, 3), (33, .ireturn, 1), (34, .aload_n 0, 1), (35, .getfield 49, 3), (38, .bipush 6, 2), (40, .if_icmp .ne 9, 3), (43, .aload_n 0, 1), (44, .iconst 3, 1), (45, .invokevirtual 62, 3), (48, .ireturn, 1), (49, .bipush 6, 2), (51, .newarray .int, 2), (53, .dup, 1), (54, .iconst 0, 1), (55, .bipush 9, 2), (57, .iload_n 2, 1), (58, .imul, 1), (59, .iload_n 1, 1), (60, .iadd, 1), (61, .iastore, 1), (62, .dup, 1), (63, .iconst 1, 1), (64, .iload_n 3, 1), (65, .iastore, 1), (66, .dup, 1), (67, .iconst 2, 1), (68, .bipush 9, 2), (70, .iload_n 2, 1), (71, .imul, 1), (72, .iload_n 1, 1), (73, .iadd, 1), (74, .iastore, 1), (75, .dup, 1), (76, .iconst 3, 1), (77, .iconst 1, 1), (78, .iastore, 1), (79, .dup, 1), (80, .iconst 4, 1), (81, .iconst 0, 1), (82, .iastore, 1), (83, .dup, 1), (84, .iconst 5, 1)]
theorem dTX6_come_0_ok : ∀ (k : Nat) (q : Nat × Instr × Nat), dTX6_come_0[k]? = some q → decode cX6_come q.1 = .ok q.2 := dT_of (by decide +kernel)
theorem dX6_come_0 : decode cX6_come 0 = .ok (.aload_n 0, 1) := dTX6_come_0_ok 0 (0, .aload_n 0, 1) rfl
theorem dX6_come_1 : decode cX6_come 1 = .ok (.iconst 0, 1) := dTX6_come_0_ok 1 (1, .iconst 0, 1) rfl
theorem dX6_come_2 : decode cX6_come 2 = .ok (.putfield 41, 3) := dTX6_come_0_ok 2 (2, .putfield 41, 3) rfl
theorem dX6_come_5 : decode cX6_come 5 = .ok (.iload_n 1, 1) := dTX6_come_0_ok 3 (5, .iload_n 1, 1) rfl
theorem dX6_come_6 : decode cX6_come 6 = .ok (.iload_n 2, 1) := dTX6_come_0_ok 4 (6, .iload_n 2, 1) rfl
theorem dX6_come_7 : decode cX6_come 7 = .ok (.invokestatic 52, 3) := dTX6_come_0_ok 5 (7, .invokestatic 52, 3) rfl
theorem dX6_come_10 : decode cX6_come 10 = .ok (.ifCond .ne 9, 3) := dTX6_come_0_ok 6 (10, .ifCond .ne 9, 3) rfl
theorem dX6_come_13 : decode cX6_come 13 = .ok (.aload_n 0, 1) := dTX6_come_0_ok 7 (13, .aload_n 0, 1) rfl
theorem dX6_come_14 : decode cX6_come 14 = .ok (.iconst 1, 1) := dTX6_come_0_ok 8 (14, .iconst 1, 1) rfl
theorem dX6_come_15 : decode cX6_come 15 = .ok (.invokevirtual 62, 3) := dTX6_come_0_ok 9 (15, .invokevirtual 62, 3) rfl
theorem dX6_come_18 : decode cX6_come 18 = .ok (.ireturn, 1) := dTX6_come_0_ok 10 (18, .ireturn, 1) rfl
theorem dX6_come_19 : decode cX6_come 19 = .ok (.iload_n 3, 1) := dTX6_come_0_ok 11 (19, .iload_n 3, 1) rfl
theorem dX6_come_20 : decode cX6_come 20 = .ok (.iconst 1, 1) := dTX6_come_0_ok 12 (20, .iconst 1, 1) rfl
theorem dX6_come_21 : decode cX6_come 21 = .ok (.iconst 3, 1) := dTX6_come_0_ok 13 (21, .iconst 3, 1) rfl
theorem dX6_come_22 : decode cX6_come 22 = .ok (.invokestatic 45, 3) := dTX6_come_0_ok 14 (22, .invokestatic 45, 3) rfl
theorem dX6_come_25 : decode cX6_come 25 = .ok (.ifCond .ne 9, 3) := dTX6_come_0_ok 15 (25, .ifCond .ne 9, 3) rfl
theorem dX6_come_28 : decode cX6_come 28 = .ok (.aload_n 0, 1) := dTX6_come_0_ok 16 (28, .aload_n 0, 1) rfl
theorem dX6_come_29 : decode cX6_come 29 = .ok (.iconst 2, 1) := dTX6_come_0_ok 17 (29, .iconst 2, 1) rfl
theorem dX6_come_30 : decode cX6_come 30 = .ok (.invokevirtual 62, 3) := dTX6_come_0_ok 18 (30, .invokevirtual 62, 3) rfl
theorem dX6_come_33 : decode cX6_come 33 = .ok (.ireturn, 1) := dTX6_come_0_ok 19 (33, .ireturn, 1) rfl
theorem dX6_come_34 : decode cX6_come 34 = .ok (.aload_n 0, 1) := dTX6_come_0_ok 20 (34, .aload_n 0, 1) rfl
theorem dX6_come_35 : decode cX6_come 35 = .ok (.getfield 49, 3) := dTX6_come_0_ok 21 (35, .getfield 49, 3) rfl
theorem dX6_come_38 : decode cX6_come 38 = .ok (.bipush 6, 2) := dTX6_come_0_ok 22 (38, .bipush 6, 2) rfl
theorem dX6_come_40 : decode cX6_come 40 = .ok (.if_icmp .ne 9, 3) := dTX6_come_0_ok 23 (40, .if_icmp .ne 9, 3) rfl
theorem dX6_come_43 : decode cX6_come 43 = .ok (.aload_n 0, 1) := dTX6_come_0_ok 24 (43, .aload_n 0, 1) rfl
theorem dX6_come_44 : decode cX6_come 44 = .ok (.iconst 3, 1) := dTX6_come_0_ok 25 (44, .iconst 3, 1) rfl
theorem dX6_come_45 : decode cX6_come 45 = .ok (.invokevirtual 62, 3) := dTX6_come_0_ok 26 (45, .invokevirtual 62, 3) rfl
theorem dX6_come_48 : decode cX6_come 48 = .ok (.ireturn, 1) := dTX6_come_0_ok 27 (48, .ireturn, 1) rfl
theorem dX6_come_49 : decode cX6_come 49 = .ok (.bipush 6, 2) := dTX6_come_0_ok 28 (49, .bipush 6, 2) rfl
theorem dX6_come_51 : decode cX6_come 51 = .ok (.newarray .int, 2) := dTX6_come_0_ok 29 (51, .newarray .int, 2) rfl
theorem dX6_come_53 : decode cX6_come 53 = .ok (.dup, 1) := dTX6_come_0_ok 30 (53, .dup, 1) rfl
theorem dX6_come_54 : decode cX6_come 54 = .ok (.iconst 0, 1) := dTX6_come_0_ok 31 (54, .iconst 0, 1) rfl
theorem dX6_come_55 : decode cX6_come 55 = .ok (.bipush 9, 2) := dTX6_come_0_ok 32 (55, .bipush 9, 2) rfl
theorem dX6_come_57 : decode cX6_come 57 = .ok (.iload_n 2, 1) := dTX6_come_0_ok 33 (57, .iload_n 2, 1) rfl
theorem dX6_come_58 : decode cX6_come 58 = .ok (.imul, 1) := dTX6_come_0_ok 34 (58, .imul, 1) rfl
theorem dX6_come_59 : decode cX6_come 59 = .ok (.iload_n 1, 1) := dTX6_come_0_ok 35 (59, .iload_n 1, 1) rfl
theorem dX6_come_60 : decode cX6_come 60 = .ok (.iadd, 1) := dTX6_come_0_ok 36 (60, .iadd, 1) rfl
theorem dX6_come_61 : decode cX6_come 61 = .ok (.iastore, 1) := dTX6_come_0_ok 37 (61, .iastore, 1) rfl
theorem dX6_come_62 : decode cX6_come 62 = .ok (.dup, 1) := dTX6_come_0_ok 38 (62, .dup, 1) rfl
theorem dX6_come_63 : decode cX6_come 63 = .ok (.iconst 1, 1) := dTX6_come_0_ok 39 (63, .iconst 1, 1) rfl
theorem dX6_come_64 : decode cX6_come 64 = .ok (.iload_n 3, 1) := dTX6_come_0_ok 40 (64, .iload_n 3, 1) rfl
theorem dX6_come_65 : decode cX6_come 65 = .ok (.iastore, 1) := dTX6_come_0_ok 41 (65, .iastore, 1) rfl
theorem dX6_come_66 : decode cX6_come 66 = .ok (.dup, 1) := dTX6_come_0_ok 42 (66, .dup, 1) rfl
theorem dX6_come_67 : decode cX6_come 67 = .ok (.iconst 2, 1) := dTX6_come_0_ok 43 (67, .iconst 2, 1) rfl
theorem dX6_come_68 : decode cX6_come 68 = .ok (.bipush 9, 2) := dTX6_come_0_ok 44 (68, .bipush 9, 2) rfl
theorem dX6_come_70 : decode cX6_come 70 = .ok (.iload_n 2, 1) := dTX6_come_0_ok 45 (70, .iload_n 2, 1) rfl
theorem dX6_come_71 : decode cX6_come 71 = .ok (.imul, 1) := dTX6_come_0_ok 46 (71, .imul, 1) rfl
theorem dX6_come_72 : decode cX6_come 72 = .ok (.iload_n 1, 1) := dTX6_come_0_ok 47 (72, .iload_n 1, 1) rfl
theorem dX6_come_73 : decode cX6_come 73 = .ok (.iadd, 1) := dTX6_come_0_ok 48 (73, .iadd, 1) rfl
theorem dX6_come_74 : decode cX6_come 74 = .ok (.iastore, 1) := dTX6_come_0_ok 49 (74, .iastore, 1) rfl
theorem dX6_come_75 : decode cX6_come 75 = .ok (.dup, 1) := dTX6_come_0_ok 50 (75, .dup, 1) rfl
theorem dX6_come_76 : decode cX6_come 76 = .ok (.iconst 3, 1) := dTX6_come_0_ok 51 (76, .iconst 3, 1) rfl
theorem dX6_come_77 : decode cX6_come 77 = .ok (.iconst 1, 1) := dTX6_come_0_ok 52 (77, .iconst 1, 1) rfl
theorem dX6_come_78 : decode cX6_come 78 = .ok (.iastore, 1) := dTX6_come_0_ok 53 (78, .iastore, 1) rfl
theorem dX6_come_79 : decode cX6_come 79 = .ok (.dup, 1) := dTX6_come_0_ok 54 (79, .dup, 1) rfl
theorem dX6_come_80 : decode cX6_come 80 = .ok (.iconst 4, 1) := dTX6_come_0_ok 55 (80, .iconst 4, 1) rfl
theorem dX6_come_81 : decode cX6_come 81 = .ok (.iconst 0, 1) := dTX6_come_0_ok 56 (81, .iconst 0, 1) rfl
theorem dX6_come_82 : decode cX6_come 82 = .ok (.iastore, 1) := dTX6_come_0_ok 57 (82, .iastore, 1) rfl
theorem dX6_come_83 : decode cX6_come 83 = .ok (.dup, 1) := dTX6_come_0_ok 58 (83, .dup, 1) rfl
theorem dX6_come_84 : decode cX6_come 84 = .ok (.iconst 5, 1) := dTX6_come_0_ok 59 (84, .iconst 5, 1) rfl
noncomputable def dTX6_come_1 : List (Nat × Instr × Nat) := [(85, .iconst 0, 1), (86, .iastore, 1), (87, .astore 4, 2), (89, .aload 4, 2), (91, .iconst 0, 1), (92, .aload_n 0, 1), (93, .getfield 26, 3), (96, .bipush 6, 2), (98, .aload_n 0, 1), (99, .getfield 49, 3), (102, .imul, 1), (103, .bipush 6, 2), (105, .invokestatic 111, 3), (108, .aload_n 0, 1), (109, .dup, 1), (110, .getfield 49, 3), (113, .iconst 1, 1), (114, .iadd, 1), (115, .putfield 49, 3), (118, .aload_n 0, 1), (119, .getfield 49, 3), (122, .iconst 1, 1), (123, .isub, 1), (124, .ireturn, 1)]
theorem dTX6_come_1_ok : ∀ (k : Nat) (q : Nat × Instr × Nat), dTX6_come_1[k]? = some q → decode cX6_come q.1 = .ok q.2 := dT_of (by decide +kernel)
theorem dX6_come_85 : decode cX6_come 85 = .ok (.iconst 0, 1) := dTX6_come_1_ok 0 (85, .iconst 0, 1) rfl
theorem dX6_come_86 : decode cX6_come 86 = .ok (.iastore, 1) := dTX6_come_1_ok 1 (86, .iastore, 1) rfl
theorem dX6_come_87 : decode cX6_come 87 = .ok (.astore 4, 2) := dTX6_come_1_ok 2 (87, .astore 4, 2) rfl
theorem dX6_come_89 : decode cX6_come 89 = .ok (.aload 4, 2) := dTX6_come_1_ok 3 (89, .aload 4, 2) rfl
theorem dX6_come_91 : decode cX6_come 91 = .ok (.iconst 0, 1) := dTX6_come_1_ok 4 (91, .iconst 0, 1) rfl
theorem dX6_come_92 : decode cX6_come 92 = .ok (.aload_n 0, 1) := dTX6_come_1_ok 5 (92, .aload_n 0, 1) rfl
theorem dX6_come_93 : decode cX6_come 93 = .ok (.getfield 26, 3) := dTX6_come_1_ok 6 (93, .getfield 26, 3) rfl
theorem dX6_come_96 : decode cX6_come 96 = .ok (.bipush 6, 2) := dTX6_come_1_ok 7 (96, .bipush 6, 2) rfl
theorem dX6_come_98 : decode cX6_come 98 = .ok (.aload_n 0, 1) := dTX6_come_1_ok 8 (98, .aload_n 0, 1) rfl
theorem dX6_come_99 : decode cX6_come 99 = .ok (.getfield 49, 3) := dTX6_come_1_ok 9 (99, .getfield 49, 3) rfl
theorem dX6_come_102 : decode cX6_come 102 = .ok (.imul, 1) := dTX6_come_1_ok 10 (102, .imul, 1) rfl
theorem dX6_come_103 : decode cX6_come 103 = .ok (.bipush 6, 2) := dTX6_come_1_ok 11 (103, .bipush 6, 2) rfl
theorem dX6_come_105 : decode cX6_come 105 = .ok (.invokestatic 111, 3) := dTX6_come_1_ok 12 (105, .invokestatic 111, 3) rfl
theorem dX6_come_108 : decode cX6_come 108 = .ok (.aload_n 0, 1) := dTX6_come_1_ok 13 (108, .aload_n 0, 1) rfl
theorem dX6_come_109 : decode cX6_come 109 = .ok (.dup, 1) := dTX6_come_1_ok 14 (109, .dup, 1) rfl
theorem dX6_come_110 : decode cX6_come 110 = .ok (.getfield 49, 3) := dTX6_come_1_ok 15 (110, .getfield 49, 3) rfl
theorem dX6_come_113 : decode cX6_come 113 = .ok (.iconst 1, 1) := dTX6_come_1_ok 16 (113, .iconst 1, 1) rfl
theorem dX6_come_114 : decode cX6_come 114 = .ok (.iadd, 1) := dTX6_come_1_ok 17 (114, .iadd, 1) rfl
theorem dX6_come_115 : decode cX6_come 115 = .ok (.putfield 49, 3) := dTX6_come_1_ok 18 (115, .putfield 49, 3) rfl
theorem dX6_come_118 : decode cX6_come 118 = .ok (.aload_n 0, 1) := dTX6_come_1_ok 19 (118, .aload_n 0, 1) rfl
theorem dX6_come_119 : decode cX6_come 119 = .ok (.getfield 49, 3) := dTX6_come_1_ok 20 (119, .getfield 49, 3) rfl
theorem dX6_come_122 : decode cX6_come 122 = .ok (.iconst 1, 1) := dTX6_come_1_ok 21 (122, .iconst 1, 1) rfl
theorem dX6_come_123 : decode cX6_come 123 = .ok (.isub, 1) := dTX6_come_1_ok 22 (123, .isub, 1) rfl
theorem dX6_come_124 : decode cX6_come 124 = .ok (.ireturn, 1) := dTX6_come_1_ok 23 (124, .ireturn, 1) rfl
noncomputable def dTX6_send_0 : List (Nat × Instr × Nat) := [(0, .aload_n 0, 1), (1, .iconst 0, 1), (2, .putfield 41, 3), (5, .aload_n 0, 1), (6, .iload_n 1, 1), (7, .invokevirtual 104, 3), (10, .ifCond .eq 11, 3), (13, .iload_n 2, 1), (14, .iload_n 3, 1), (15, .invokestatic 52, 3), (18, .ifCond .ne 9, 3), (21, .aload_n 0, 1), (22, .iconst 1, 1), (23, .invokevirtual 62, 3), (26, .ireturn, 1), (27, .aload_n 0, 1), (28, .iload_n 1, 1), (29, .iconst 2, 1), (30, .bipush 9, 2), (32, .iload_n 3, 1), (33, .imul, 1), (34, .iload_n 2, 1), (35, .iadd, 1), (36, .invokevirtual 117, 3), (39, .aload_n 0, 1), (40, .iload_n 1, 1), (41, .bipush 9, 2), (43, .iload_n 3, 1), (44, .imul, 1), (45, .iload_n 2, 1), (46, .iadd, 1), (47, .invokevirtual 101, 3), (50, .ireturn, 1)]
theorem dTX6_send_0_ok : ∀ (k : Nat) (q : Nat × Instr × Nat), dTX6_send_0[k]? = some q → decode cX6_send q.1 = .ok q.2 := dT_of (by decide +kernel)
theorem dX6_send_0 : decode cX6_send 0 = .ok (.aload_n 0, 1) := dTX6_send_0_ok 0 (0, .aload_n 0, 1) rfl
theorem dX6_send_1 : decode cX6_send 1 = .ok (.iconst 0, 1) := dTX6_send_0_ok 1 (1, .iconst 0, 1) rfl
theorem dX6_send_2 : decode cX6_send 2 = .ok (.putfield 41, 3) := dTX6_send_0_ok 2 (2, .putfield 41, 3) rfl
theorem dX6_send_5 : decode cX6_send 5 = .ok (.aload_n 0, 1) := dTX6_send_0_ok 3 (5, .aload_n 0, 1) rfl
theorem dX6_send_6 : decode cX6_send 6 = .ok (.iload_n 1, 1) := dTX6_send_0_ok 4 (6, .iload_n 1, 1) rfl
theorem dX6_send_7 : decode cX6_send 7 = .ok (.invokevirtual 104, 3) := dTX6_send_0_ok 5 (7, .invokevirtual 104, 3) rfl
theorem dX6_send_10 : decode cX6_send 10 = .ok (.ifCond .eq 11, 3) := dTX6_send_0_ok 6 (10, .ifCond .eq 11, 3) rfl
theorem dX6_send_13 : decode cX6_send 13 = .ok (.iload_n 2, 1) := dTX6_send_0_ok 7 (13, .iload_n 2, 1) rfl
theorem dX6_send_14 : decode cX6_send 14 = .ok (.iload_n 3, 1) := dTX6_send_0_ok 8 (14, .iload_n 3, 1) rfl
theorem dX6_send_15 : decode cX6_send 15 = .ok (.invokestatic 52, 3) := dTX6_send_0_ok 9 (15, .invokestatic 52, 3) rfl
theorem dX6_send_18 : decode cX6_send 18 = .ok (.ifCond .ne 9, 3) := dTX6_send_0_ok 10 (18, .ifCond .ne 9, 3) rfl
theorem dX6_send_21 : decode cX6_send 21 = .ok (.aload_n 0, 1) := dTX6_send_0_ok 11 (21, .aload_n 0, 1) rfl
theorem dX6_send_22 : decode cX6_send 22 = .ok (.iconst 1, 1) := dTX6_send_0_ok 12 (22, .iconst 1, 1) rfl
theorem dX6_send_23 : decode cX6_send 23 = .ok (.invokevirtual 62, 3) := dTX6_send_0_ok 13 (23, .invokevirtual 62, 3) rfl
theorem dX6_send_26 : decode cX6_send 26 = .ok (.ireturn, 1) := dTX6_send_0_ok 14 (26, .ireturn, 1) rfl
theorem dX6_send_27 : decode cX6_send 27 = .ok (.aload_n 0, 1) := dTX6_send_0_ok 15 (27, .aload_n 0, 1) rfl
theorem dX6_send_28 : decode cX6_send 28 = .ok (.iload_n 1, 1) := dTX6_send_0_ok 16 (28, .iload_n 1, 1) rfl
theorem dX6_send_29 : decode cX6_send 29 = .ok (.iconst 2, 1) := dTX6_send_0_ok 17 (29, .iconst 2, 1) rfl
theorem dX6_send_30 : decode cX6_send 30 = .ok (.bipush 9, 2) := dTX6_send_0_ok 18 (30, .bipush 9, 2) rfl
theorem dX6_send_32 : decode cX6_send 32 = .ok (.iload_n 3, 1) := dTX6_send_0_ok 19 (32, .iload_n 3, 1) rfl
theorem dX6_send_33 : decode cX6_send 33 = .ok (.imul, 1) := dTX6_send_0_ok 20 (33, .imul, 1) rfl
theorem dX6_send_34 : decode cX6_send 34 = .ok (.iload_n 2, 1) := dTX6_send_0_ok 21 (34, .iload_n 2, 1) rfl
theorem dX6_send_35 : decode cX6_send 35 = .ok (.iadd, 1) := dTX6_send_0_ok 22 (35, .iadd, 1) rfl
theorem dX6_send_36 : decode cX6_send 36 = .ok (.invokevirtual 117, 3) := dTX6_send_0_ok 23 (36, .invokevirtual 117, 3) rfl
theorem dX6_send_39 : decode cX6_send 39 = .ok (.aload_n 0, 1) := dTX6_send_0_ok 24 (39, .aload_n 0, 1) rfl
theorem dX6_send_40 : decode cX6_send 40 = .ok (.iload_n 1, 1) := dTX6_send_0_ok 25 (40, .iload_n 1, 1) rfl
theorem dX6_send_41 : decode cX6_send 41 = .ok (.bipush 9, 2) := dTX6_send_0_ok 26 (41, .bipush 9, 2) rfl
theorem dX6_send_43 : decode cX6_send 43 = .ok (.iload_n 3, 1) := dTX6_send_0_ok 27 (43, .iload_n 3, 1) rfl
theorem dX6_send_44 : decode cX6_send 44 = .ok (.imul, 1) := dTX6_send_0_ok 28 (44, .imul, 1) rfl
theorem dX6_send_45 : decode cX6_send 45 = .ok (.iload_n 2, 1) := dTX6_send_0_ok 29 (45, .iload_n 2, 1) rfl
theorem dX6_send_46 : decode cX6_send 46 = .ok (.iadd, 1) := dTX6_send_0_ok 30 (46, .iadd, 1) rfl
theorem dX6_send_47 : decode cX6_send 47 = .ok (.invokevirtual 101, 3) := dTX6_send_0_ok 31 (47, .invokevirtual 101, 3) rfl
theorem dX6_send_50 : decode cX6_send 50 = .ok (.ireturn, 1) := dTX6_send_0_ok 32 (50, .ireturn, 1) rfl
noncomputable def dTX6_rite_0 : List (Nat × Instr × Nat) := [(0, .aload_n 0, 1), (1, .iconst 0, 1), (2, .putfield 41, 3), (5, .aload_n 0, 1), (6, .iload_n 1, 1), (7, .invokevirtual 104, 3), (10, .ifCond .ne 9, 3), (13, .aload_n 0, 1), (14, .iconst 1, 1), (15, .invokevirtual 62, 3), (18, .ireturn, 1), (19, .aload_n 0, 1), (20, .iload_n 1, 1), (21, .iconst 3, 1), (22, .invokevirtual 95, 3), (25, .iconst 1, 1), (26, .if_icmp .ne 9, 3), (29, .aload_n 0, 1), (30, .iconst 2, 1), (31, .invokevirtual 62, 3), (34, .ireturn, 1), (35, .aload_n 0, 1), (36, .iload_n 1, 1), (37, .iconst 3, 1), (38, .iconst 1, 1), (39, .invokevirtual 117, 3), (42, .iconst 0, 1), (43, .istore_n 2, 1), (44, .iconst 0, 1), (45, .istore_n 3, 1), (46, .iload_n 3, 1), (47, .aload_n 0, 1), (48, .getfield 49, 3), (51, .if_icmp .ge 18, 3), (54, .iload_n 2, 1), (55, .aload_n 0, 1), (56, .iload_n 3, 1), (57, .iconst 3, 1), (58, .invokevirtual 95, 3), (61, .iadd, 1), (62, .istore_n 2, 1), (63, .iinc 3 1, 3), (66, .goto (-20), 3), (69, .iload_n 2, 1), (70, .ireturn, 1)]
theorem dTX6_rite_0_ok : ∀ (k : Nat) (q : Nat × Instr × Nat), dTX6_rite_0[k]? = some q → decode cX6_rite q.1 = .ok q.2 := dT_of (by decide +kernel)
theorem dX6_rite_0 : decode cX6_rite 0 = .ok (.aload_n 0, 1) := dTX6_rite_0_ok 0 (0, .aload_n 0, 1) rfl
theorem dX6_rite_1 : decode cX6_rite 1 = .ok (.iconst 0, 1) := dTX6_rite_0_ok 1 (1, .iconst 0, 1) rfl
theorem dX6_rite_2 : decode cX6_rite 2 = .ok (.putfield 41, 3) := dTX6_rite_0_ok 2 (2, .putfield 41, 3) rfl
theorem dX6_rite_5 : decode cX6_rite 5 = .ok (.aload_n 0, 1) := dTX6_rite_0_ok 3 (5, .aload_n 0, 1) rfl
theorem dX6_rite_6 : decode cX6_rite 6 = .ok (.iload_n 1, 1) := dTX6_rite_0_ok 4 (6, .iload_n 1, 1) rfl
theorem dX6_rite_7 : decode cX6_rite 7 = .ok (.invokevirtual 104, 3) := dTX6_rite_0_ok 5 (7, .invokevirtual 104, 3) rfl
theorem dX6_rite_10 : decode cX6_rite 10 = .ok (.ifCond .ne 9, 3) := dTX6_rite_0_ok 6 (10, .ifCond .ne 9, 3) rfl
theorem dX6_rite_13 : decode cX6_rite 13 = .ok (.aload_n 0, 1) := dTX6_rite_0_ok 7 (13, .aload_n 0, 1) rfl
theorem dX6_rite_14 : decode cX6_rite 14 = .ok (.iconst 1, 1) := dTX6_rite_0_ok 8 (14, .iconst 1, 1) rfl
theorem dX6_rite_15 : decode cX6_rite 15 = .ok (.invokevirtual 62, 3) := dTX6_rite_0_ok 9 (15, .invokevirtual 62, 3) rfl
theorem dX6_rite_18 : decode cX6_rite 18 = .ok (.ireturn, 1) := dTX6_rite_0_ok 10 (18, .ireturn, 1) rfl
theorem dX6_rite_19 : decode cX6_rite 19 = .ok (.aload_n 0, 1) := dTX6_rite_0_ok 11 (19, .aload_n 0, 1) rfl
theorem dX6_rite_20 : decode cX6_rite 20 = .ok (.iload_n 1, 1) := dTX6_rite_0_ok 12 (20, .iload_n 1, 1) rfl
theorem dX6_rite_21 : decode cX6_rite 21 = .ok (.iconst 3, 1) := dTX6_rite_0_ok 13 (21, .iconst 3, 1) rfl
theorem dX6_rite_22 : decode cX6_rite 22 = .ok (.invokevirtual 95, 3) := dTX6_rite_0_ok 14 (22, .invokevirtual 95, 3) rfl
theorem dX6_rite_25 : decode cX6_rite 25 = .ok (.iconst 1, 1) := dTX6_rite_0_ok 15 (25, .iconst 1, 1) rfl
theorem dX6_rite_26 : decode cX6_rite 26 = .ok (.if_icmp .ne 9, 3) := dTX6_rite_0_ok 16 (26, .if_icmp .ne 9, 3) rfl
theorem dX6_rite_29 : decode cX6_rite 29 = .ok (.aload_n 0, 1) := dTX6_rite_0_ok 17 (29, .aload_n 0, 1) rfl
theorem dX6_rite_30 : decode cX6_rite 30 = .ok (.iconst 2, 1) := dTX6_rite_0_ok 18 (30, .iconst 2, 1) rfl
theorem dX6_rite_31 : decode cX6_rite 31 = .ok (.invokevirtual 62, 3) := dTX6_rite_0_ok 19 (31, .invokevirtual 62, 3) rfl
theorem dX6_rite_34 : decode cX6_rite 34 = .ok (.ireturn, 1) := dTX6_rite_0_ok 20 (34, .ireturn, 1) rfl
theorem dX6_rite_35 : decode cX6_rite 35 = .ok (.aload_n 0, 1) := dTX6_rite_0_ok 21 (35, .aload_n 0, 1) rfl
theorem dX6_rite_36 : decode cX6_rite 36 = .ok (.iload_n 1, 1) := dTX6_rite_0_ok 22 (36, .iload_n 1, 1) rfl
theorem dX6_rite_37 : decode cX6_rite 37 = .ok (.iconst 3, 1) := dTX6_rite_0_ok 23 (37, .iconst 3, 1) rfl
theorem dX6_rite_38 : decode cX6_rite 38 = .ok (.iconst 1, 1) := dTX6_rite_0_ok 24 (38, .iconst 1, 1) rfl
theorem dX6_rite_39 : decode cX6_rite 39 = .ok (.invokevirtual 117, 3) := dTX6_rite_0_ok 25 (39, .invokevirtual 117, 3) rfl
theorem dX6_rite_42 : decode cX6_rite 42 = .ok (.iconst 0, 1) := dTX6_rite_0_ok 26 (42, .iconst 0, 1) rfl
theorem dX6_rite_43 : decode cX6_rite 43 = .ok (.istore_n 2, 1) := dTX6_rite_0_ok 27 (43, .istore_n 2, 1) rfl
theorem dX6_rite_44 : decode cX6_rite 44 = .ok (.iconst 0, 1) := dTX6_rite_0_ok 28 (44, .iconst 0, 1) rfl
theorem dX6_rite_45 : decode cX6_rite 45 = .ok (.istore_n 3, 1) := dTX6_rite_0_ok 29 (45, .istore_n 3, 1) rfl
theorem dX6_rite_46 : decode cX6_rite 46 = .ok (.iload_n 3, 1) := dTX6_rite_0_ok 30 (46, .iload_n 3, 1) rfl
theorem dX6_rite_47 : decode cX6_rite 47 = .ok (.aload_n 0, 1) := dTX6_rite_0_ok 31 (47, .aload_n 0, 1) rfl
theorem dX6_rite_48 : decode cX6_rite 48 = .ok (.getfield 49, 3) := dTX6_rite_0_ok 32 (48, .getfield 49, 3) rfl
theorem dX6_rite_51 : decode cX6_rite 51 = .ok (.if_icmp .ge 18, 3) := dTX6_rite_0_ok 33 (51, .if_icmp .ge 18, 3) rfl
theorem dX6_rite_54 : decode cX6_rite 54 = .ok (.iload_n 2, 1) := dTX6_rite_0_ok 34 (54, .iload_n 2, 1) rfl
theorem dX6_rite_55 : decode cX6_rite 55 = .ok (.aload_n 0, 1) := dTX6_rite_0_ok 35 (55, .aload_n 0, 1) rfl
theorem dX6_rite_56 : decode cX6_rite 56 = .ok (.iload_n 3, 1) := dTX6_rite_0_ok 36 (56, .iload_n 3, 1) rfl
theorem dX6_rite_57 : decode cX6_rite 57 = .ok (.iconst 3, 1) := dTX6_rite_0_ok 37 (57, .iconst 3, 1) rfl
theorem dX6_rite_58 : decode cX6_rite 58 = .ok (.invokevirtual 95, 3) := dTX6_rite_0_ok 38 (58, .invokevirtual 95, 3) rfl
theorem dX6_rite_61 : decode cX6_rite 61 = .ok (.iadd, 1) := dTX6_rite_0_ok 39 (61, .iadd, 1) rfl
theorem dX6_rite_62 : decode cX6_rite 62 = .ok (.istore_n 2, 1) := dTX6_rite_0_ok 40 (62, .istore_n 2, 1) rfl
theorem dX6_rite_63 : decode cX6_rite 63 = .ok (.iinc 3 1, 3) := dTX6_rite_0_ok 41 (63, .iinc 3 1, 3) rfl
theorem dX6_rite_66 : decode cX6_rite 66 = .ok (.goto (-20), 3) := dTX6_rite_0_ok 42 (66, .goto (-20), 3) rfl
theorem dX6_rite_69 : decode cX6_rite 69 = .ok (.iload_n 2, 1) := dTX6_rite_0_ok 43 (69, .iload_n 2, 1) rfl
theorem dX6_rite_70 : decode cX6_rite 70 = .ok (.ireturn, 1) := dTX6_rite_0_ok 44 (70, .ireturn, 1) rfl
noncomputable def dTX6_cellTold_0 : List (Nat × Instr × Nat) := [(0, .iconst 0, 1), (1, .istore_n 3, 1), (2, .iload_n 2, 1), (3, .tableswitch 65 0 3 #[29, 36, 43, 50], 29), (32, .aload_n 0, 1), (33, .getfield 16, 3), (36, .iload_n 1, 1), (37, .iaload, 1), (38, .ireturn, 1), (39, .aload_n 0, 1), (40, .getfield 20, 3), (43, .iload_n 1, 1), (44, .iaload, 1), (45, .ireturn, 1), (46, .aload_n 0, 1), (47, .getfield 23, 3), (50, .iload_n 1, 1), (51, .iaload, 1), (52, .ireturn, 1), (53, .aload_n 0, 1), (54, .getfield 32, 3), (57, .iload_n 1, 1), (58, .baload, 1), (59, .ifCond .eq 7, 3), (62, .iconst 1, 1), (63, .goto 4, 3), (66, .iconst 0, 1), (67, .ireturn, 1), (68, .iconst 0, 1), (69, .istore 4, 2), (71, .iload 4, 2), (73, .aload_n 0, 1), (74, .getfield 49, 3), (77, .if_icmp .ge 28, 3), (80, .iload_n 3, 1), (81, .aload_n 0, 1), (82, .iload 4, 2), (84, .iconst 0, 1), (85, .invokevirtual 95, 3), (88, .iload_n 1, 1), (89, .if_icmp .ne 7, 3), (92, .iconst 1, 1), (93, .goto 4, 3), (96, .iconst 0, 1), (97, .iadd, 1), (98, .istore_n 3, 1), (99, .iinc 4 1, 3), (102, .goto (-31), 3), (105, .iload_n 3, 1), (106, .ireturn, 1)]
theorem dTX6_cellTold_0_ok : ∀ (k : Nat) (q : Nat × Instr × Nat), dTX6_cellTold_0[k]? = some q → decode cX6_cellTold q.1 = .ok q.2 := dT_of (by decide +kernel)
theorem dX6_cellTold_0 : decode cX6_cellTold 0 = .ok (.iconst 0, 1) := dTX6_cellTold_0_ok 0 (0, .iconst 0, 1) rfl
theorem dX6_cellTold_1 : decode cX6_cellTold 1 = .ok (.istore_n 3, 1) := dTX6_cellTold_0_ok 1 (1, .istore_n 3, 1) rfl
theorem dX6_cellTold_2 : decode cX6_cellTold 2 = .ok (.iload_n 2, 1) := dTX6_cellTold_0_ok 2 (2, .iload_n 2, 1) rfl
theorem dX6_cellTold_3 : decode cX6_cellTold 3 = .ok (.tableswitch 65 0 3 #[29, 36, 43, 50], 29) := dTX6_cellTold_0_ok 3 (3, .tableswitch 65 0 3 #[29, 36, 43, 50], 29) rfl
theorem dX6_cellTold_32 : decode cX6_cellTold 32 = .ok (.aload_n 0, 1) := dTX6_cellTold_0_ok 4 (32, .aload_n 0, 1) rfl
theorem dX6_cellTold_33 : decode cX6_cellTold 33 = .ok (.getfield 16, 3) := dTX6_cellTold_0_ok 5 (33, .getfield 16, 3) rfl
theorem dX6_cellTold_36 : decode cX6_cellTold 36 = .ok (.iload_n 1, 1) := dTX6_cellTold_0_ok 6 (36, .iload_n 1, 1) rfl
theorem dX6_cellTold_37 : decode cX6_cellTold 37 = .ok (.iaload, 1) := dTX6_cellTold_0_ok 7 (37, .iaload, 1) rfl
theorem dX6_cellTold_38 : decode cX6_cellTold 38 = .ok (.ireturn, 1) := dTX6_cellTold_0_ok 8 (38, .ireturn, 1) rfl
theorem dX6_cellTold_39 : decode cX6_cellTold 39 = .ok (.aload_n 0, 1) := dTX6_cellTold_0_ok 9 (39, .aload_n 0, 1) rfl
theorem dX6_cellTold_40 : decode cX6_cellTold 40 = .ok (.getfield 20, 3) := dTX6_cellTold_0_ok 10 (40, .getfield 20, 3) rfl
theorem dX6_cellTold_43 : decode cX6_cellTold 43 = .ok (.iload_n 1, 1) := dTX6_cellTold_0_ok 11 (43, .iload_n 1, 1) rfl
theorem dX6_cellTold_44 : decode cX6_cellTold 44 = .ok (.iaload, 1) := dTX6_cellTold_0_ok 12 (44, .iaload, 1) rfl
theorem dX6_cellTold_45 : decode cX6_cellTold 45 = .ok (.ireturn, 1) := dTX6_cellTold_0_ok 13 (45, .ireturn, 1) rfl
theorem dX6_cellTold_46 : decode cX6_cellTold 46 = .ok (.aload_n 0, 1) := dTX6_cellTold_0_ok 14 (46, .aload_n 0, 1) rfl
theorem dX6_cellTold_47 : decode cX6_cellTold 47 = .ok (.getfield 23, 3) := dTX6_cellTold_0_ok 15 (47, .getfield 23, 3) rfl
theorem dX6_cellTold_50 : decode cX6_cellTold 50 = .ok (.iload_n 1, 1) := dTX6_cellTold_0_ok 16 (50, .iload_n 1, 1) rfl
theorem dX6_cellTold_51 : decode cX6_cellTold 51 = .ok (.iaload, 1) := dTX6_cellTold_0_ok 17 (51, .iaload, 1) rfl
theorem dX6_cellTold_52 : decode cX6_cellTold 52 = .ok (.ireturn, 1) := dTX6_cellTold_0_ok 18 (52, .ireturn, 1) rfl
theorem dX6_cellTold_53 : decode cX6_cellTold 53 = .ok (.aload_n 0, 1) := dTX6_cellTold_0_ok 19 (53, .aload_n 0, 1) rfl
theorem dX6_cellTold_54 : decode cX6_cellTold 54 = .ok (.getfield 32, 3) := dTX6_cellTold_0_ok 20 (54, .getfield 32, 3) rfl
theorem dX6_cellTold_57 : decode cX6_cellTold 57 = .ok (.iload_n 1, 1) := dTX6_cellTold_0_ok 21 (57, .iload_n 1, 1) rfl
theorem dX6_cellTold_58 : decode cX6_cellTold 58 = .ok (.baload, 1) := dTX6_cellTold_0_ok 22 (58, .baload, 1) rfl
theorem dX6_cellTold_59 : decode cX6_cellTold 59 = .ok (.ifCond .eq 7, 3) := dTX6_cellTold_0_ok 23 (59, .ifCond .eq 7, 3) rfl
theorem dX6_cellTold_62 : decode cX6_cellTold 62 = .ok (.iconst 1, 1) := dTX6_cellTold_0_ok 24 (62, .iconst 1, 1) rfl
theorem dX6_cellTold_63 : decode cX6_cellTold 63 = .ok (.goto 4, 3) := dTX6_cellTold_0_ok 25 (63, .goto 4, 3) rfl
theorem dX6_cellTold_66 : decode cX6_cellTold 66 = .ok (.iconst 0, 1) := dTX6_cellTold_0_ok 26 (66, .iconst 0, 1) rfl
theorem dX6_cellTold_67 : decode cX6_cellTold 67 = .ok (.ireturn, 1) := dTX6_cellTold_0_ok 27 (67, .ireturn, 1) rfl
theorem dX6_cellTold_68 : decode cX6_cellTold 68 = .ok (.iconst 0, 1) := dTX6_cellTold_0_ok 28 (68, .iconst 0, 1) rfl
theorem dX6_cellTold_69 : decode cX6_cellTold 69 = .ok (.istore 4, 2) := dTX6_cellTold_0_ok 29 (69, .istore 4, 2) rfl
theorem dX6_cellTold_71 : decode cX6_cellTold 71 = .ok (.iload 4, 2) := dTX6_cellTold_0_ok 30 (71, .iload 4, 2) rfl
theorem dX6_cellTold_73 : decode cX6_cellTold 73 = .ok (.aload_n 0, 1) := dTX6_cellTold_0_ok 31 (73, .aload_n 0, 1) rfl
theorem dX6_cellTold_74 : decode cX6_cellTold 74 = .ok (.getfield 49, 3) := dTX6_cellTold_0_ok 32 (74, .getfield 49, 3) rfl
theorem dX6_cellTold_77 : decode cX6_cellTold 77 = .ok (.if_icmp .ge 28, 3) := dTX6_cellTold_0_ok 33 (77, .if_icmp .ge 28, 3) rfl
theorem dX6_cellTold_80 : decode cX6_cellTold 80 = .ok (.iload_n 3, 1) := dTX6_cellTold_0_ok 34 (80, .iload_n 3, 1) rfl
theorem dX6_cellTold_81 : decode cX6_cellTold 81 = .ok (.aload_n 0, 1) := dTX6_cellTold_0_ok 35 (81, .aload_n 0, 1) rfl
theorem dX6_cellTold_82 : decode cX6_cellTold 82 = .ok (.iload 4, 2) := dTX6_cellTold_0_ok 36 (82, .iload 4, 2) rfl
theorem dX6_cellTold_84 : decode cX6_cellTold 84 = .ok (.iconst 0, 1) := dTX6_cellTold_0_ok 37 (84, .iconst 0, 1) rfl
theorem dX6_cellTold_85 : decode cX6_cellTold 85 = .ok (.invokevirtual 95, 3) := dTX6_cellTold_0_ok 38 (85, .invokevirtual 95, 3) rfl
theorem dX6_cellTold_88 : decode cX6_cellTold 88 = .ok (.iload_n 1, 1) := dTX6_cellTold_0_ok 39 (88, .iload_n 1, 1) rfl
theorem dX6_cellTold_89 : decode cX6_cellTold 89 = .ok (.if_icmp .ne 7, 3) := dTX6_cellTold_0_ok 40 (89, .if_icmp .ne 7, 3) rfl
theorem dX6_cellTold_92 : decode cX6_cellTold 92 = .ok (.iconst 1, 1) := dTX6_cellTold_0_ok 41 (92, .iconst 1, 1) rfl
theorem dX6_cellTold_93 : decode cX6_cellTold 93 = .ok (.goto 4, 3) := dTX6_cellTold_0_ok 42 (93, .goto 4, 3) rfl
theorem dX6_cellTold_96 : decode cX6_cellTold 96 = .ok (.iconst 0, 1) := dTX6_cellTold_0_ok 43 (96, .iconst 0, 1) rfl
theorem dX6_cellTold_97 : decode cX6_cellTold 97 = .ok (.iadd, 1) := dTX6_cellTold_0_ok 44 (97, .iadd, 1) rfl
theorem dX6_cellTold_98 : decode cX6_cellTold 98 = .ok (.istore_n 3, 1) := dTX6_cellTold_0_ok 45 (98, .istore_n 3, 1) rfl
theorem dX6_cellTold_99 : decode cX6_cellTold 99 = .ok (.iinc 4 1, 3) := dTX6_cellTold_0_ok 46 (99, .iinc 4 1, 3) rfl
theorem dX6_cellTold_102 : decode cX6_cellTold 102 = .ok (.goto (-31), 3) := dTX6_cellTold_0_ok 47 (102, .goto (-31), 3) rfl
theorem dX6_cellTold_105 : decode cX6_cellTold 105 = .ok (.iload_n 3, 1) := dTX6_cellTold_0_ok 48 (105, .iload_n 3, 1) rfl
theorem dX6_cellTold_106 : decode cX6_cellTold 106 = .ok (.ireturn, 1) := dTX6_cellTold_0_ok 49 (106, .ireturn, 1) rfl
noncomputable def dTX6_cell_0 : List (Nat × Instr × Nat) := [(0, .aload_n 0, 1), (1, .iconst 0, 1), (2, .putfield 41, 3), (5, .iload_n 1, 1), (6, .iload_n 2, 1), (7, .invokestatic 52, 3), (10, .ifCond .eq 12, 3), (13, .iload_n 3, 1), (14, .iconst 0, 1), (15, .iconst 4, 1), (16, .invokestatic 45, 3), (19, .ifCond .ne 9, 3), (22, .aload_n 0, 1), (23, .iconst 1, 1), (24, .invokevirtual 62, 3), (27, .ireturn, 1), (28, .aload_n 0, 1), (29, .invokevirtual 89, 3), (32, .aload_n 0, 1), (33, .bipush 9, 2), (35, .iload_n 2, 1), (36, .imul, 1), (37, .iload_n 1, 1), (38, .iadd, 1), (39, .iload_n 3, 1), (40, .invokevirtual 121, 3), (43, .ireturn, 1)]
theorem dTX6_cell_0_ok : ∀ (k : Nat) (q : Nat × Instr × Nat), dTX6_cell_0[k]? = some q → decode cX6_cell q.1 = .ok q.2 := dT_of (by decide +kernel)
theorem dX6_cell_0 : decode cX6_cell 0 = .ok (.aload_n 0, 1) := dTX6_cell_0_ok 0 (0, .aload_n 0, 1) rfl
theorem dX6_cell_1 : decode cX6_cell 1 = .ok (.iconst 0, 1) := dTX6_cell_0_ok 1 (1, .iconst 0, 1) rfl
theorem dX6_cell_2 : decode cX6_cell 2 = .ok (.putfield 41, 3) := dTX6_cell_0_ok 2 (2, .putfield 41, 3) rfl
theorem dX6_cell_5 : decode cX6_cell 5 = .ok (.iload_n 1, 1) := dTX6_cell_0_ok 3 (5, .iload_n 1, 1) rfl
theorem dX6_cell_6 : decode cX6_cell 6 = .ok (.iload_n 2, 1) := dTX6_cell_0_ok 4 (6, .iload_n 2, 1) rfl
theorem dX6_cell_7 : decode cX6_cell 7 = .ok (.invokestatic 52, 3) := dTX6_cell_0_ok 5 (7, .invokestatic 52, 3) rfl
theorem dX6_cell_10 : decode cX6_cell 10 = .ok (.ifCond .eq 12, 3) := dTX6_cell_0_ok 6 (10, .ifCond .eq 12, 3) rfl
theorem dX6_cell_13 : decode cX6_cell 13 = .ok (.iload_n 3, 1) := dTX6_cell_0_ok 7 (13, .iload_n 3, 1) rfl
theorem dX6_cell_14 : decode cX6_cell 14 = .ok (.iconst 0, 1) := dTX6_cell_0_ok 8 (14, .iconst 0, 1) rfl
theorem dX6_cell_15 : decode cX6_cell 15 = .ok (.iconst 4, 1) := dTX6_cell_0_ok 9 (15, .iconst 4, 1) rfl
theorem dX6_cell_16 : decode cX6_cell 16 = .ok (.invokestatic 45, 3) := dTX6_cell_0_ok 10 (16, .invokestatic 45, 3) rfl
theorem dX6_cell_19 : decode cX6_cell 19 = .ok (.ifCond .ne 9, 3) := dTX6_cell_0_ok 11 (19, .ifCond .ne 9, 3) rfl
theorem dX6_cell_22 : decode cX6_cell 22 = .ok (.aload_n 0, 1) := dTX6_cell_0_ok 12 (22, .aload_n 0, 1) rfl
theorem dX6_cell_23 : decode cX6_cell 23 = .ok (.iconst 1, 1) := dTX6_cell_0_ok 13 (23, .iconst 1, 1) rfl
theorem dX6_cell_24 : decode cX6_cell 24 = .ok (.invokevirtual 62, 3) := dTX6_cell_0_ok 14 (24, .invokevirtual 62, 3) rfl
theorem dX6_cell_27 : decode cX6_cell 27 = .ok (.ireturn, 1) := dTX6_cell_0_ok 15 (27, .ireturn, 1) rfl
theorem dX6_cell_28 : decode cX6_cell 28 = .ok (.aload_n 0, 1) := dTX6_cell_0_ok 16 (28, .aload_n 0, 1) rfl
theorem dX6_cell_29 : decode cX6_cell 29 = .ok (.invokevirtual 89, 3) := dTX6_cell_0_ok 17 (29, .invokevirtual 89, 3) rfl
theorem dX6_cell_32 : decode cX6_cell 32 = .ok (.aload_n 0, 1) := dTX6_cell_0_ok 18 (32, .aload_n 0, 1) rfl
theorem dX6_cell_33 : decode cX6_cell 33 = .ok (.bipush 9, 2) := dTX6_cell_0_ok 19 (33, .bipush 9, 2) rfl
theorem dX6_cell_35 : decode cX6_cell 35 = .ok (.iload_n 2, 1) := dTX6_cell_0_ok 20 (35, .iload_n 2, 1) rfl
theorem dX6_cell_36 : decode cX6_cell 36 = .ok (.imul, 1) := dTX6_cell_0_ok 21 (36, .imul, 1) rfl
theorem dX6_cell_37 : decode cX6_cell 37 = .ok (.iload_n 1, 1) := dTX6_cell_0_ok 22 (37, .iload_n 1, 1) rfl
theorem dX6_cell_38 : decode cX6_cell 38 = .ok (.iadd, 1) := dTX6_cell_0_ok 23 (38, .iadd, 1) rfl
theorem dX6_cell_39 : decode cX6_cell 39 = .ok (.iload_n 3, 1) := dTX6_cell_0_ok 24 (39, .iload_n 3, 1) rfl
theorem dX6_cell_40 : decode cX6_cell 40 = .ok (.invokevirtual 121, 3) := dTX6_cell_0_ok 25 (40, .invokevirtual 121, 3) rfl
theorem dX6_cell_43 : decode cX6_cell 43 = .ok (.ireturn, 1) := dTX6_cell_0_ok 26 (43, .ireturn, 1) rfl
noncomputable def dTX6_walled_0 : List (Nat × Instr × Nat) := [(0, .aload_n 0, 1), (1, .iload_n 1, 1), (2, .iload_n 2, 1), (3, .invokestatic 52, 3), (6, .ifCond .ne 7, 3), (9, .iconst 1, 1), (10, .goto 17, 3), (13, .iload_n 3, 1), (14, .iconst 0, 1), (15, .iconst 3, 1), (16, .invokestatic 45, 3), (19, .ifCond .ne 7, 3), (22, .iconst 2, 1), (23, .goto 4, 3), (26, .iconst 0, 1), (27, .putfield 41, 3), (30, .aload_n 0, 1), (31, .getfield 41, 3), (34, .ifCond .ne 35, 3), (37, .aload_n 0, 1), (38, .bipush 9, 2), (40, .iload_n 2, 1), (41, .imul, 1), (42, .iload_n 1, 1), (43, .iadd, 1), (44, .iload_n 3, 1), (45, .invokevirtual 70, 3), (48, .ifCond .ne 17, 3), (51, .bipush 9, 2), (53, .iload_n 2, 1), (54, .imul, 1), (55, .iload_n 1, 1), (56, .iadd, 1), (57, .iload_n 3, 1), (58, .invokestatic 56, 3), (61, .iconst (-1), 1), (62, .if_icmp .ne 7, 3), (65, .iconst 1, 1), (66, .goto 4, 3), (69, .iconst 0, 1), (70, .ireturn, 1)]
theorem dTX6_walled_0_ok : ∀ (k : Nat) (q : Nat × Instr × Nat), dTX6_walled_0[k]? = some q → decode cX6_walled q.1 = .ok q.2 := dT_of (by decide +kernel)
theorem dX6_walled_0 : decode cX6_walled 0 = .ok (.aload_n 0, 1) := dTX6_walled_0_ok 0 (0, .aload_n 0, 1) rfl
theorem dX6_walled_1 : decode cX6_walled 1 = .ok (.iload_n 1, 1) := dTX6_walled_0_ok 1 (1, .iload_n 1, 1) rfl
theorem dX6_walled_2 : decode cX6_walled 2 = .ok (.iload_n 2, 1) := dTX6_walled_0_ok 2 (2, .iload_n 2, 1) rfl
theorem dX6_walled_3 : decode cX6_walled 3 = .ok (.invokestatic 52, 3) := dTX6_walled_0_ok 3 (3, .invokestatic 52, 3) rfl
theorem dX6_walled_6 : decode cX6_walled 6 = .ok (.ifCond .ne 7, 3) := dTX6_walled_0_ok 4 (6, .ifCond .ne 7, 3) rfl
theorem dX6_walled_9 : decode cX6_walled 9 = .ok (.iconst 1, 1) := dTX6_walled_0_ok 5 (9, .iconst 1, 1) rfl
theorem dX6_walled_10 : decode cX6_walled 10 = .ok (.goto 17, 3) := dTX6_walled_0_ok 6 (10, .goto 17, 3) rfl
theorem dX6_walled_13 : decode cX6_walled 13 = .ok (.iload_n 3, 1) := dTX6_walled_0_ok 7 (13, .iload_n 3, 1) rfl
theorem dX6_walled_14 : decode cX6_walled 14 = .ok (.iconst 0, 1) := dTX6_walled_0_ok 8 (14, .iconst 0, 1) rfl
theorem dX6_walled_15 : decode cX6_walled 15 = .ok (.iconst 3, 1) := dTX6_walled_0_ok 9 (15, .iconst 3, 1) rfl
theorem dX6_walled_16 : decode cX6_walled 16 = .ok (.invokestatic 45, 3) := dTX6_walled_0_ok 10 (16, .invokestatic 45, 3) rfl
theorem dX6_walled_19 : decode cX6_walled 19 = .ok (.ifCond .ne 7, 3) := dTX6_walled_0_ok 11 (19, .ifCond .ne 7, 3) rfl
theorem dX6_walled_22 : decode cX6_walled 22 = .ok (.iconst 2, 1) := dTX6_walled_0_ok 12 (22, .iconst 2, 1) rfl
theorem dX6_walled_23 : decode cX6_walled 23 = .ok (.goto 4, 3) := dTX6_walled_0_ok 13 (23, .goto 4, 3) rfl
theorem dX6_walled_26 : decode cX6_walled 26 = .ok (.iconst 0, 1) := dTX6_walled_0_ok 14 (26, .iconst 0, 1) rfl
theorem dX6_walled_27 : decode cX6_walled 27 = .ok (.putfield 41, 3) := dTX6_walled_0_ok 15 (27, .putfield 41, 3) rfl
theorem dX6_walled_30 : decode cX6_walled 30 = .ok (.aload_n 0, 1) := dTX6_walled_0_ok 16 (30, .aload_n 0, 1) rfl
theorem dX6_walled_31 : decode cX6_walled 31 = .ok (.getfield 41, 3) := dTX6_walled_0_ok 17 (31, .getfield 41, 3) rfl
theorem dX6_walled_34 : decode cX6_walled 34 = .ok (.ifCond .ne 35, 3) := dTX6_walled_0_ok 18 (34, .ifCond .ne 35, 3) rfl
theorem dX6_walled_37 : decode cX6_walled 37 = .ok (.aload_n 0, 1) := dTX6_walled_0_ok 19 (37, .aload_n 0, 1) rfl
theorem dX6_walled_38 : decode cX6_walled 38 = .ok (.bipush 9, 2) := dTX6_walled_0_ok 20 (38, .bipush 9, 2) rfl
theorem dX6_walled_40 : decode cX6_walled 40 = .ok (.iload_n 2, 1) := dTX6_walled_0_ok 21 (40, .iload_n 2, 1) rfl
theorem dX6_walled_41 : decode cX6_walled 41 = .ok (.imul, 1) := dTX6_walled_0_ok 22 (41, .imul, 1) rfl
theorem dX6_walled_42 : decode cX6_walled 42 = .ok (.iload_n 1, 1) := dTX6_walled_0_ok 23 (42, .iload_n 1, 1) rfl
theorem dX6_walled_43 : decode cX6_walled 43 = .ok (.iadd, 1) := dTX6_walled_0_ok 24 (43, .iadd, 1) rfl
theorem dX6_walled_44 : decode cX6_walled 44 = .ok (.iload_n 3, 1) := dTX6_walled_0_ok 25 (44, .iload_n 3, 1) rfl
theorem dX6_walled_45 : decode cX6_walled 45 = .ok (.invokevirtual 70, 3) := dTX6_walled_0_ok 26 (45, .invokevirtual 70, 3) rfl
theorem dX6_walled_48 : decode cX6_walled 48 = .ok (.ifCond .ne 17, 3) := dTX6_walled_0_ok 27 (48, .ifCond .ne 17, 3) rfl
theorem dX6_walled_51 : decode cX6_walled 51 = .ok (.bipush 9, 2) := dTX6_walled_0_ok 28 (51, .bipush 9, 2) rfl
theorem dX6_walled_53 : decode cX6_walled 53 = .ok (.iload_n 2, 1) := dTX6_walled_0_ok 29 (53, .iload_n 2, 1) rfl
theorem dX6_walled_54 : decode cX6_walled 54 = .ok (.imul, 1) := dTX6_walled_0_ok 30 (54, .imul, 1) rfl
theorem dX6_walled_55 : decode cX6_walled 55 = .ok (.iload_n 1, 1) := dTX6_walled_0_ok 31 (55, .iload_n 1, 1) rfl
theorem dX6_walled_56 : decode cX6_walled 56 = .ok (.iadd, 1) := dTX6_walled_0_ok 32 (56, .iadd, 1) rfl
theorem dX6_walled_57 : decode cX6_walled 57 = .ok (.iload_n 3, 1) := dTX6_walled_0_ok 33 (57, .iload_n 3, 1) rfl
theorem dX6_walled_58 : decode cX6_walled 58 = .ok (.invokestatic 56, 3) := dTX6_walled_0_ok 34 (58, .invokestatic 56, 3) rfl
theorem dX6_walled_61 : decode cX6_walled 61 = .ok (.iconst (-1), 1) := dTX6_walled_0_ok 35 (61, .iconst (-1), 1) rfl
theorem dX6_walled_62 : decode cX6_walled 62 = .ok (.if_icmp .ne 7, 3) := dTX6_walled_0_ok 36 (62, .if_icmp .ne 7, 3) rfl
theorem dX6_walled_65 : decode cX6_walled 65 = .ok (.iconst 1, 1) := dTX6_walled_0_ok 37 (65, .iconst 1, 1) rfl
theorem dX6_walled_66 : decode cX6_walled 66 = .ok (.goto 4, 3) := dTX6_walled_0_ok 38 (66, .goto 4, 3) rfl
theorem dX6_walled_69 : decode cX6_walled 69 = .ok (.iconst 0, 1) := dTX6_walled_0_ok 39 (69, .iconst 0, 1) rfl
theorem dX6_walled_70 : decode cX6_walled 70 = .ok (.ireturn, 1) := dTX6_walled_0_ok 40 (70, .ireturn, 1) rfl
noncomputable def dTX6_ghostTold_0 : List (Nat × Instr × Nat) := [(0, .aload_n 0, 1), (1, .iload_n 1, 1), (2, .iconst 0, 1), (3, .invokevirtual 95, 3), (6, .istore_n 3, 1), (7, .aload_n 0, 1), (8, .iload_n 1, 1), (9, .iconst 2, 1), (10, .invokevirtual 95, 3), (13, .istore 4, 2), (15, .bipush 8, 2), (17, .newarray .int, 2), (19, .dup, 1), (20, .iconst 0, 1), (21, .iload_n 3, 1), (22, .bipush 9, 2), (24, .irem, 1), (25, .iastore, 1), (26, .dup, 1), (27, .iconst 1, 1), (28, .iload_n 3, 1), (29, .bipush 9, 2), (31, .idiv, 1), (32, .iastore, 1), (33, .dup, 1), (34, .iconst 2, 1), (35, .aload_n 0, 1), (36, .iload_n 1, 1), (37, .iconst 1, 1), (38, .invokevirtual 95, 3), (41, .iastore, 1), (42, .dup, 1), (43, .iconst 3, 1), (44, .iload 4, 2), (46, .bipush 9, 2), (48, .irem, 1), (49, .iastore, 1), (50, .dup, 1), (51, .iconst 4, 1), (52, .iload 4, 2), (54, .bipush 9, 2), (56, .idiv, 1), (57, .iastore, 1), (58, .dup, 1), (59, .iconst 5, 1), (60, .aload_n 0, 1), (61, .iload_n 1, 1), (62, .iconst 3, 1), (63, .invokevirtual 95, 3), (66, .iastore, 1), (67, .dup, 1), (68, .bipush 6, 2), (70, .aload_n 0, 1), (71, .iload_n 1, 1), (72, .iconst 4, 1), (73, .invokevirtual 95, 3), (76, .iastore, 1), (77, .dup, 1), (78, .bipush 7, 2), (80, .aload_n 0, 1)]
theorem dTX6_ghostTold_0_ok : ∀ (k : Nat) (q : Nat × Instr × Nat), dTX6_ghostTold_0[k]? = some q → decode cX6_ghostTold q.1 = .ok q.2 := dT_of (by decide +kernel)
theorem dX6_ghostTold_0 : decode cX6_ghostTold 0 = .ok (.aload_n 0, 1) := dTX6_ghostTold_0_ok 0 (0, .aload_n 0, 1) rfl
theorem dX6_ghostTold_1 : decode cX6_ghostTold 1 = .ok (.iload_n 1, 1) := dTX6_ghostTold_0_ok 1 (1, .iload_n 1, 1) rfl
theorem dX6_ghostTold_2 : decode cX6_ghostTold 2 = .ok (.iconst 0, 1) := dTX6_ghostTold_0_ok 2 (2, .iconst 0, 1) rfl
theorem dX6_ghostTold_3 : decode cX6_ghostTold 3 = .ok (.invokevirtual 95, 3) := dTX6_ghostTold_0_ok 3 (3, .invokevirtual 95, 3) rfl
theorem dX6_ghostTold_6 : decode cX6_ghostTold 6 = .ok (.istore_n 3, 1) := dTX6_ghostTold_0_ok 4 (6, .istore_n 3, 1) rfl
theorem dX6_ghostTold_7 : decode cX6_ghostTold 7 = .ok (.aload_n 0, 1) := dTX6_ghostTold_0_ok 5 (7, .aload_n 0, 1) rfl
theorem dX6_ghostTold_8 : decode cX6_ghostTold 8 = .ok (.iload_n 1, 1) := dTX6_ghostTold_0_ok 6 (8, .iload_n 1, 1) rfl
theorem dX6_ghostTold_9 : decode cX6_ghostTold 9 = .ok (.iconst 2, 1) := dTX6_ghostTold_0_ok 7 (9, .iconst 2, 1) rfl
theorem dX6_ghostTold_10 : decode cX6_ghostTold 10 = .ok (.invokevirtual 95, 3) := dTX6_ghostTold_0_ok 8 (10, .invokevirtual 95, 3) rfl
theorem dX6_ghostTold_13 : decode cX6_ghostTold 13 = .ok (.istore 4, 2) := dTX6_ghostTold_0_ok 9 (13, .istore 4, 2) rfl
theorem dX6_ghostTold_15 : decode cX6_ghostTold 15 = .ok (.bipush 8, 2) := dTX6_ghostTold_0_ok 10 (15, .bipush 8, 2) rfl
theorem dX6_ghostTold_17 : decode cX6_ghostTold 17 = .ok (.newarray .int, 2) := dTX6_ghostTold_0_ok 11 (17, .newarray .int, 2) rfl
theorem dX6_ghostTold_19 : decode cX6_ghostTold 19 = .ok (.dup, 1) := dTX6_ghostTold_0_ok 12 (19, .dup, 1) rfl
theorem dX6_ghostTold_20 : decode cX6_ghostTold 20 = .ok (.iconst 0, 1) := dTX6_ghostTold_0_ok 13 (20, .iconst 0, 1) rfl
theorem dX6_ghostTold_21 : decode cX6_ghostTold 21 = .ok (.iload_n 3, 1) := dTX6_ghostTold_0_ok 14 (21, .iload_n 3, 1) rfl
theorem dX6_ghostTold_22 : decode cX6_ghostTold 22 = .ok (.bipush 9, 2) := dTX6_ghostTold_0_ok 15 (22, .bipush 9, 2) rfl
theorem dX6_ghostTold_24 : decode cX6_ghostTold 24 = .ok (.irem, 1) := dTX6_ghostTold_0_ok 16 (24, .irem, 1) rfl
theorem dX6_ghostTold_25 : decode cX6_ghostTold 25 = .ok (.iastore, 1) := dTX6_ghostTold_0_ok 17 (25, .iastore, 1) rfl
theorem dX6_ghostTold_26 : decode cX6_ghostTold 26 = .ok (.dup, 1) := dTX6_ghostTold_0_ok 18 (26, .dup, 1) rfl
theorem dX6_ghostTold_27 : decode cX6_ghostTold 27 = .ok (.iconst 1, 1) := dTX6_ghostTold_0_ok 19 (27, .iconst 1, 1) rfl
theorem dX6_ghostTold_28 : decode cX6_ghostTold 28 = .ok (.iload_n 3, 1) := dTX6_ghostTold_0_ok 20 (28, .iload_n 3, 1) rfl
theorem dX6_ghostTold_29 : decode cX6_ghostTold 29 = .ok (.bipush 9, 2) := dTX6_ghostTold_0_ok 21 (29, .bipush 9, 2) rfl
theorem dX6_ghostTold_31 : decode cX6_ghostTold 31 = .ok (.idiv, 1) := dTX6_ghostTold_0_ok 22 (31, .idiv, 1) rfl
theorem dX6_ghostTold_32 : decode cX6_ghostTold 32 = .ok (.iastore, 1) := dTX6_ghostTold_0_ok 23 (32, .iastore, 1) rfl
theorem dX6_ghostTold_33 : decode cX6_ghostTold 33 = .ok (.dup, 1) := dTX6_ghostTold_0_ok 24 (33, .dup, 1) rfl
theorem dX6_ghostTold_34 : decode cX6_ghostTold 34 = .ok (.iconst 2, 1) := dTX6_ghostTold_0_ok 25 (34, .iconst 2, 1) rfl
theorem dX6_ghostTold_35 : decode cX6_ghostTold 35 = .ok (.aload_n 0, 1) := dTX6_ghostTold_0_ok 26 (35, .aload_n 0, 1) rfl
theorem dX6_ghostTold_36 : decode cX6_ghostTold 36 = .ok (.iload_n 1, 1) := dTX6_ghostTold_0_ok 27 (36, .iload_n 1, 1) rfl
theorem dX6_ghostTold_37 : decode cX6_ghostTold 37 = .ok (.iconst 1, 1) := dTX6_ghostTold_0_ok 28 (37, .iconst 1, 1) rfl
theorem dX6_ghostTold_38 : decode cX6_ghostTold 38 = .ok (.invokevirtual 95, 3) := dTX6_ghostTold_0_ok 29 (38, .invokevirtual 95, 3) rfl
theorem dX6_ghostTold_41 : decode cX6_ghostTold 41 = .ok (.iastore, 1) := dTX6_ghostTold_0_ok 30 (41, .iastore, 1) rfl
theorem dX6_ghostTold_42 : decode cX6_ghostTold 42 = .ok (.dup, 1) := dTX6_ghostTold_0_ok 31 (42, .dup, 1) rfl
theorem dX6_ghostTold_43 : decode cX6_ghostTold 43 = .ok (.iconst 3, 1) := dTX6_ghostTold_0_ok 32 (43, .iconst 3, 1) rfl
theorem dX6_ghostTold_44 : decode cX6_ghostTold 44 = .ok (.iload 4, 2) := dTX6_ghostTold_0_ok 33 (44, .iload 4, 2) rfl
theorem dX6_ghostTold_46 : decode cX6_ghostTold 46 = .ok (.bipush 9, 2) := dTX6_ghostTold_0_ok 34 (46, .bipush 9, 2) rfl
theorem dX6_ghostTold_48 : decode cX6_ghostTold 48 = .ok (.irem, 1) := dTX6_ghostTold_0_ok 35 (48, .irem, 1) rfl
theorem dX6_ghostTold_49 : decode cX6_ghostTold 49 = .ok (.iastore, 1) := dTX6_ghostTold_0_ok 36 (49, .iastore, 1) rfl
theorem dX6_ghostTold_50 : decode cX6_ghostTold 50 = .ok (.dup, 1) := dTX6_ghostTold_0_ok 37 (50, .dup, 1) rfl
theorem dX6_ghostTold_51 : decode cX6_ghostTold 51 = .ok (.iconst 4, 1) := dTX6_ghostTold_0_ok 38 (51, .iconst 4, 1) rfl
theorem dX6_ghostTold_52 : decode cX6_ghostTold 52 = .ok (.iload 4, 2) := dTX6_ghostTold_0_ok 39 (52, .iload 4, 2) rfl
theorem dX6_ghostTold_54 : decode cX6_ghostTold 54 = .ok (.bipush 9, 2) := dTX6_ghostTold_0_ok 40 (54, .bipush 9, 2) rfl
theorem dX6_ghostTold_56 : decode cX6_ghostTold 56 = .ok (.idiv, 1) := dTX6_ghostTold_0_ok 41 (56, .idiv, 1) rfl
theorem dX6_ghostTold_57 : decode cX6_ghostTold 57 = .ok (.iastore, 1) := dTX6_ghostTold_0_ok 42 (57, .iastore, 1) rfl
theorem dX6_ghostTold_58 : decode cX6_ghostTold 58 = .ok (.dup, 1) := dTX6_ghostTold_0_ok 43 (58, .dup, 1) rfl
theorem dX6_ghostTold_59 : decode cX6_ghostTold 59 = .ok (.iconst 5, 1) := dTX6_ghostTold_0_ok 44 (59, .iconst 5, 1) rfl
theorem dX6_ghostTold_60 : decode cX6_ghostTold 60 = .ok (.aload_n 0, 1) := dTX6_ghostTold_0_ok 45 (60, .aload_n 0, 1) rfl
theorem dX6_ghostTold_61 : decode cX6_ghostTold 61 = .ok (.iload_n 1, 1) := dTX6_ghostTold_0_ok 46 (61, .iload_n 1, 1) rfl
theorem dX6_ghostTold_62 : decode cX6_ghostTold 62 = .ok (.iconst 3, 1) := dTX6_ghostTold_0_ok 47 (62, .iconst 3, 1) rfl
theorem dX6_ghostTold_63 : decode cX6_ghostTold 63 = .ok (.invokevirtual 95, 3) := dTX6_ghostTold_0_ok 48 (63, .invokevirtual 95, 3) rfl
theorem dX6_ghostTold_66 : decode cX6_ghostTold 66 = .ok (.iastore, 1) := dTX6_ghostTold_0_ok 49 (66, .iastore, 1) rfl
theorem dX6_ghostTold_67 : decode cX6_ghostTold 67 = .ok (.dup, 1) := dTX6_ghostTold_0_ok 50 (67, .dup, 1) rfl
theorem dX6_ghostTold_68 : decode cX6_ghostTold 68 = .ok (.bipush 6, 2) := dTX6_ghostTold_0_ok 51 (68, .bipush 6, 2) rfl
theorem dX6_ghostTold_70 : decode cX6_ghostTold 70 = .ok (.aload_n 0, 1) := dTX6_ghostTold_0_ok 52 (70, .aload_n 0, 1) rfl
theorem dX6_ghostTold_71 : decode cX6_ghostTold 71 = .ok (.iload_n 1, 1) := dTX6_ghostTold_0_ok 53 (71, .iload_n 1, 1) rfl
theorem dX6_ghostTold_72 : decode cX6_ghostTold 72 = .ok (.iconst 4, 1) := dTX6_ghostTold_0_ok 54 (72, .iconst 4, 1) rfl
theorem dX6_ghostTold_73 : decode cX6_ghostTold 73 = .ok (.invokevirtual 95, 3) := dTX6_ghostTold_0_ok 55 (73, .invokevirtual 95, 3) rfl
theorem dX6_ghostTold_76 : decode cX6_ghostTold 76 = .ok (.iastore, 1) := dTX6_ghostTold_0_ok 56 (76, .iastore, 1) rfl
theorem dX6_ghostTold_77 : decode cX6_ghostTold 77 = .ok (.dup, 1) := dTX6_ghostTold_0_ok 57 (77, .dup, 1) rfl
theorem dX6_ghostTold_78 : decode cX6_ghostTold 78 = .ok (.bipush 7, 2) := dTX6_ghostTold_0_ok 58 (78, .bipush 7, 2) rfl
theorem dX6_ghostTold_80 : decode cX6_ghostTold 80 = .ok (.aload_n 0, 1) := dTX6_ghostTold_0_ok 59 (80, .aload_n 0, 1) rfl
noncomputable def dTX6_ghostTold_1 : List (Nat × Instr × Nat) := [(81, .iload_n 1, 1), (82, .iconst 5, 1), (83, .invokevirtual 95, 3), (86, .iastore, 1), (87, .astore 5, 2), (89, .aload 5, 2), (91, .iload_n 2, 1), (92, .iaload, 1), (93, .ireturn, 1)]
theorem dTX6_ghostTold_1_ok : ∀ (k : Nat) (q : Nat × Instr × Nat), dTX6_ghostTold_1[k]? = some q → decode cX6_ghostTold q.1 = .ok q.2 := dT_of (by decide +kernel)
theorem dX6_ghostTold_81 : decode cX6_ghostTold 81 = .ok (.iload_n 1, 1) := dTX6_ghostTold_1_ok 0 (81, .iload_n 1, 1) rfl
theorem dX6_ghostTold_82 : decode cX6_ghostTold 82 = .ok (.iconst 5, 1) := dTX6_ghostTold_1_ok 1 (82, .iconst 5, 1) rfl
theorem dX6_ghostTold_83 : decode cX6_ghostTold 83 = .ok (.invokevirtual 95, 3) := dTX6_ghostTold_1_ok 2 (83, .invokevirtual 95, 3) rfl
theorem dX6_ghostTold_86 : decode cX6_ghostTold 86 = .ok (.iastore, 1) := dTX6_ghostTold_1_ok 3 (86, .iastore, 1) rfl
theorem dX6_ghostTold_87 : decode cX6_ghostTold 87 = .ok (.astore 5, 2) := dTX6_ghostTold_1_ok 4 (87, .astore 5, 2) rfl
theorem dX6_ghostTold_89 : decode cX6_ghostTold 89 = .ok (.aload 5, 2) := dTX6_ghostTold_1_ok 5 (89, .aload 5, 2) rfl
theorem dX6_ghostTold_91 : decode cX6_ghostTold 91 = .ok (.iload_n 2, 1) := dTX6_ghostTold_1_ok 6 (91, .iload_n 2, 1) rfl
theorem dX6_ghostTold_92 : decode cX6_ghostTold 92 = .ok (.iaload, 1) := dTX6_ghostTold_1_ok 7 (92, .iaload, 1) rfl
theorem dX6_ghostTold_93 : decode cX6_ghostTold 93 = .ok (.ireturn, 1) := dTX6_ghostTold_1_ok 8 (93, .ireturn, 1) rfl
noncomputable def dTX6_ghost_0 : List (Nat × Instr × Nat) := [(0, .aload_n 0, 1), (1, .iconst 0, 1), (2, .putfield 41, 3), (5, .aload_n 0, 1), (6, .iload_n 1, 1), (7, .invokevirtual 104, 3), (10, .ifCond .eq 22, 3), (13, .iload_n 2, 1), (14, .iconst 0, 1), (15, .bipush 7, 2), (17, .invokestatic 45, 3), (20, .ifCond .eq 12, 3), (23, .aload_n 0, 1), (24, .iload_n 1, 1), (25, .iload_n 2, 1), (26, .invokevirtual 124, 3), (29, .goto 8, 3), (32, .aload_n 0, 1), (33, .iconst 1, 1), (34, .invokevirtual 62, 3), (37, .ireturn, 1)]
theorem dTX6_ghost_0_ok : ∀ (k : Nat) (q : Nat × Instr × Nat), dTX6_ghost_0[k]? = some q → decode cX6_ghost q.1 = .ok q.2 := dT_of (by decide +kernel)
theorem dX6_ghost_0 : decode cX6_ghost 0 = .ok (.aload_n 0, 1) := dTX6_ghost_0_ok 0 (0, .aload_n 0, 1) rfl
theorem dX6_ghost_1 : decode cX6_ghost 1 = .ok (.iconst 0, 1) := dTX6_ghost_0_ok 1 (1, .iconst 0, 1) rfl
theorem dX6_ghost_2 : decode cX6_ghost 2 = .ok (.putfield 41, 3) := dTX6_ghost_0_ok 2 (2, .putfield 41, 3) rfl
theorem dX6_ghost_5 : decode cX6_ghost 5 = .ok (.aload_n 0, 1) := dTX6_ghost_0_ok 3 (5, .aload_n 0, 1) rfl
theorem dX6_ghost_6 : decode cX6_ghost 6 = .ok (.iload_n 1, 1) := dTX6_ghost_0_ok 4 (6, .iload_n 1, 1) rfl
theorem dX6_ghost_7 : decode cX6_ghost 7 = .ok (.invokevirtual 104, 3) := dTX6_ghost_0_ok 5 (7, .invokevirtual 104, 3) rfl
theorem dX6_ghost_10 : decode cX6_ghost 10 = .ok (.ifCond .eq 22, 3) := dTX6_ghost_0_ok 6 (10, .ifCond .eq 22, 3) rfl
theorem dX6_ghost_13 : decode cX6_ghost 13 = .ok (.iload_n 2, 1) := dTX6_ghost_0_ok 7 (13, .iload_n 2, 1) rfl
theorem dX6_ghost_14 : decode cX6_ghost 14 = .ok (.iconst 0, 1) := dTX6_ghost_0_ok 8 (14, .iconst 0, 1) rfl
theorem dX6_ghost_15 : decode cX6_ghost 15 = .ok (.bipush 7, 2) := dTX6_ghost_0_ok 9 (15, .bipush 7, 2) rfl
theorem dX6_ghost_17 : decode cX6_ghost 17 = .ok (.invokestatic 45, 3) := dTX6_ghost_0_ok 10 (17, .invokestatic 45, 3) rfl
theorem dX6_ghost_20 : decode cX6_ghost 20 = .ok (.ifCond .eq 12, 3) := dTX6_ghost_0_ok 11 (20, .ifCond .eq 12, 3) rfl
theorem dX6_ghost_23 : decode cX6_ghost 23 = .ok (.aload_n 0, 1) := dTX6_ghost_0_ok 12 (23, .aload_n 0, 1) rfl
theorem dX6_ghost_24 : decode cX6_ghost 24 = .ok (.iload_n 1, 1) := dTX6_ghost_0_ok 13 (24, .iload_n 1, 1) rfl
theorem dX6_ghost_25 : decode cX6_ghost 25 = .ok (.iload_n 2, 1) := dTX6_ghost_0_ok 14 (25, .iload_n 2, 1) rfl
theorem dX6_ghost_26 : decode cX6_ghost 26 = .ok (.invokevirtual 124, 3) := dTX6_ghost_0_ok 15 (26, .invokevirtual 124, 3) rfl
theorem dX6_ghost_29 : decode cX6_ghost 29 = .ok (.goto 8, 3) := dTX6_ghost_0_ok 16 (29, .goto 8, 3) rfl
theorem dX6_ghost_32 : decode cX6_ghost 32 = .ok (.aload_n 0, 1) := dTX6_ghost_0_ok 17 (32, .aload_n 0, 1) rfl
theorem dX6_ghost_33 : decode cX6_ghost 33 = .ok (.iconst 1, 1) := dTX6_ghost_0_ok 18 (33, .iconst 1, 1) rfl
theorem dX6_ghost_34 : decode cX6_ghost 34 = .ok (.invokevirtual 62, 3) := dTX6_ghost_0_ok 19 (34, .invokevirtual 62, 3) rfl
theorem dX6_ghost_37 : decode cX6_ghost 37 = .ok (.ireturn, 1) := dTX6_ghost_0_ok 20 (37, .ireturn, 1) rfl
noncomputable def dTX6_burning_0 : List (Nat × Instr × Nat) := [(0, .iconst 0, 1), (1, .istore_n 1, 1), (2, .aload_n 0, 1), (3, .getfield 23, 3), (6, .astore_n 2, 1), (7, .aload_n 2, 1), (8, .arraylength, 1), (9, .istore_n 3, 1), (10, .iconst 0, 1), (11, .istore 4, 2), (13, .iload 4, 2), (15, .iload_n 3, 1), (16, .if_icmp .ge 20, 3), (19, .aload_n 2, 1), (20, .iload 4, 2), (22, .iaload, 1), (23, .istore 5, 2), (25, .iload_n 1, 1), (26, .iload 5, 2), (28, .iadd, 1), (29, .istore_n 1, 1), (30, .iinc 4 1, 3), (33, .goto (-20), 3), (36, .iload_n 1, 1), (37, .ireturn, 1)]
theorem dTX6_burning_0_ok : ∀ (k : Nat) (q : Nat × Instr × Nat), dTX6_burning_0[k]? = some q → decode cX6_burning q.1 = .ok q.2 := dT_of (by decide +kernel)
theorem dX6_burning_0 : decode cX6_burning 0 = .ok (.iconst 0, 1) := dTX6_burning_0_ok 0 (0, .iconst 0, 1) rfl
theorem dX6_burning_1 : decode cX6_burning 1 = .ok (.istore_n 1, 1) := dTX6_burning_0_ok 1 (1, .istore_n 1, 1) rfl
theorem dX6_burning_2 : decode cX6_burning 2 = .ok (.aload_n 0, 1) := dTX6_burning_0_ok 2 (2, .aload_n 0, 1) rfl
theorem dX6_burning_3 : decode cX6_burning 3 = .ok (.getfield 23, 3) := dTX6_burning_0_ok 3 (3, .getfield 23, 3) rfl
theorem dX6_burning_6 : decode cX6_burning 6 = .ok (.astore_n 2, 1) := dTX6_burning_0_ok 4 (6, .astore_n 2, 1) rfl
theorem dX6_burning_7 : decode cX6_burning 7 = .ok (.aload_n 2, 1) := dTX6_burning_0_ok 5 (7, .aload_n 2, 1) rfl
theorem dX6_burning_8 : decode cX6_burning 8 = .ok (.arraylength, 1) := dTX6_burning_0_ok 6 (8, .arraylength, 1) rfl
theorem dX6_burning_9 : decode cX6_burning 9 = .ok (.istore_n 3, 1) := dTX6_burning_0_ok 7 (9, .istore_n 3, 1) rfl
theorem dX6_burning_10 : decode cX6_burning 10 = .ok (.iconst 0, 1) := dTX6_burning_0_ok 8 (10, .iconst 0, 1) rfl
theorem dX6_burning_11 : decode cX6_burning 11 = .ok (.istore 4, 2) := dTX6_burning_0_ok 9 (11, .istore 4, 2) rfl
theorem dX6_burning_13 : decode cX6_burning 13 = .ok (.iload 4, 2) := dTX6_burning_0_ok 10 (13, .iload 4, 2) rfl
theorem dX6_burning_15 : decode cX6_burning 15 = .ok (.iload_n 3, 1) := dTX6_burning_0_ok 11 (15, .iload_n 3, 1) rfl
theorem dX6_burning_16 : decode cX6_burning 16 = .ok (.if_icmp .ge 20, 3) := dTX6_burning_0_ok 12 (16, .if_icmp .ge 20, 3) rfl
theorem dX6_burning_19 : decode cX6_burning 19 = .ok (.aload_n 2, 1) := dTX6_burning_0_ok 13 (19, .aload_n 2, 1) rfl
theorem dX6_burning_20 : decode cX6_burning 20 = .ok (.iload 4, 2) := dTX6_burning_0_ok 14 (20, .iload 4, 2) rfl
theorem dX6_burning_22 : decode cX6_burning 22 = .ok (.iaload, 1) := dTX6_burning_0_ok 15 (22, .iaload, 1) rfl
theorem dX6_burning_23 : decode cX6_burning 23 = .ok (.istore 5, 2) := dTX6_burning_0_ok 16 (23, .istore 5, 2) rfl
theorem dX6_burning_25 : decode cX6_burning 25 = .ok (.iload_n 1, 1) := dTX6_burning_0_ok 17 (25, .iload_n 1, 1) rfl
theorem dX6_burning_26 : decode cX6_burning 26 = .ok (.iload 5, 2) := dTX6_burning_0_ok 18 (26, .iload 5, 2) rfl
theorem dX6_burning_28 : decode cX6_burning 28 = .ok (.iadd, 1) := dTX6_burning_0_ok 19 (28, .iadd, 1) rfl
theorem dX6_burning_29 : decode cX6_burning 29 = .ok (.istore_n 1, 1) := dTX6_burning_0_ok 20 (29, .istore_n 1, 1) rfl
theorem dX6_burning_30 : decode cX6_burning 30 = .ok (.iinc 4 1, 3) := dTX6_burning_0_ok 21 (30, .iinc 4 1, 3) rfl
theorem dX6_burning_33 : decode cX6_burning 33 = .ok (.goto (-20), 3) := dTX6_burning_0_ok 22 (33, .goto (-20), 3) rfl
theorem dX6_burning_36 : decode cX6_burning 36 = .ok (.iload_n 1, 1) := dTX6_burning_0_ok 23 (36, .iload_n 1, 1) rfl
theorem dX6_burning_37 : decode cX6_burning 37 = .ok (.ireturn, 1) := dTX6_burning_0_ok 24 (37, .ireturn, 1) rfl
noncomputable def dTX6_marks_0 : List (Nat × Instr × Nat) := [(0, .iconst 0, 1), (1, .istore_n 1, 1), (2, .iconst 0, 1), (3, .istore_n 2, 1), (4, .iload_n 2, 1), (5, .bipush 63, 2), (7, .if_icmp .ge 32, 3), (10, .iload_n 1, 1), (11, .aload_n 0, 1), (12, .getfield 16, 3), (15, .iload_n 2, 1), (16, .iaload, 1), (17, .iconst 4, 1), (18, .if_icmp .ne 12, 3), (21, .aload_n 0, 1), (22, .getfield 20, 3), (25, .iload_n 2, 1), (26, .iaload, 1), (27, .goto 4, 3), (30, .iconst 0, 1), (31, .iadd, 1), (32, .istore_n 1, 1), (33, .iinc 2 1, 3), (36, .goto (-32), 3), (39, .iload_n 1, 1), (40, .ireturn, 1)]
theorem dTX6_marks_0_ok : ∀ (k : Nat) (q : Nat × Instr × Nat), dTX6_marks_0[k]? = some q → decode cX6_marks q.1 = .ok q.2 := dT_of (by decide +kernel)
theorem dX6_marks_0 : decode cX6_marks 0 = .ok (.iconst 0, 1) := dTX6_marks_0_ok 0 (0, .iconst 0, 1) rfl
theorem dX6_marks_1 : decode cX6_marks 1 = .ok (.istore_n 1, 1) := dTX6_marks_0_ok 1 (1, .istore_n 1, 1) rfl
theorem dX6_marks_2 : decode cX6_marks 2 = .ok (.iconst 0, 1) := dTX6_marks_0_ok 2 (2, .iconst 0, 1) rfl
theorem dX6_marks_3 : decode cX6_marks 3 = .ok (.istore_n 2, 1) := dTX6_marks_0_ok 3 (3, .istore_n 2, 1) rfl
theorem dX6_marks_4 : decode cX6_marks 4 = .ok (.iload_n 2, 1) := dTX6_marks_0_ok 4 (4, .iload_n 2, 1) rfl
theorem dX6_marks_5 : decode cX6_marks 5 = .ok (.bipush 63, 2) := dTX6_marks_0_ok 5 (5, .bipush 63, 2) rfl
theorem dX6_marks_7 : decode cX6_marks 7 = .ok (.if_icmp .ge 32, 3) := dTX6_marks_0_ok 6 (7, .if_icmp .ge 32, 3) rfl
theorem dX6_marks_10 : decode cX6_marks 10 = .ok (.iload_n 1, 1) := dTX6_marks_0_ok 7 (10, .iload_n 1, 1) rfl
theorem dX6_marks_11 : decode cX6_marks 11 = .ok (.aload_n 0, 1) := dTX6_marks_0_ok 8 (11, .aload_n 0, 1) rfl
theorem dX6_marks_12 : decode cX6_marks 12 = .ok (.getfield 16, 3) := dTX6_marks_0_ok 9 (12, .getfield 16, 3) rfl
theorem dX6_marks_15 : decode cX6_marks 15 = .ok (.iload_n 2, 1) := dTX6_marks_0_ok 10 (15, .iload_n 2, 1) rfl
theorem dX6_marks_16 : decode cX6_marks 16 = .ok (.iaload, 1) := dTX6_marks_0_ok 11 (16, .iaload, 1) rfl
theorem dX6_marks_17 : decode cX6_marks 17 = .ok (.iconst 4, 1) := dTX6_marks_0_ok 12 (17, .iconst 4, 1) rfl
theorem dX6_marks_18 : decode cX6_marks 18 = .ok (.if_icmp .ne 12, 3) := dTX6_marks_0_ok 13 (18, .if_icmp .ne 12, 3) rfl
theorem dX6_marks_21 : decode cX6_marks 21 = .ok (.aload_n 0, 1) := dTX6_marks_0_ok 14 (21, .aload_n 0, 1) rfl
theorem dX6_marks_22 : decode cX6_marks 22 = .ok (.getfield 20, 3) := dTX6_marks_0_ok 15 (22, .getfield 20, 3) rfl
theorem dX6_marks_25 : decode cX6_marks 25 = .ok (.iload_n 2, 1) := dTX6_marks_0_ok 16 (25, .iload_n 2, 1) rfl
theorem dX6_marks_26 : decode cX6_marks 26 = .ok (.iaload, 1) := dTX6_marks_0_ok 17 (26, .iaload, 1) rfl
theorem dX6_marks_27 : decode cX6_marks 27 = .ok (.goto 4, 3) := dTX6_marks_0_ok 18 (27, .goto 4, 3) rfl
theorem dX6_marks_30 : decode cX6_marks 30 = .ok (.iconst 0, 1) := dTX6_marks_0_ok 19 (30, .iconst 0, 1) rfl
theorem dX6_marks_31 : decode cX6_marks 31 = .ok (.iadd, 1) := dTX6_marks_0_ok 20 (31, .iadd, 1) rfl
theorem dX6_marks_32 : decode cX6_marks 32 = .ok (.istore_n 1, 1) := dTX6_marks_0_ok 21 (32, .istore_n 1, 1) rfl
theorem dX6_marks_33 : decode cX6_marks 33 = .ok (.iinc 2 1, 3) := dTX6_marks_0_ok 22 (33, .iinc 2 1, 3) rfl
theorem dX6_marks_36 : decode cX6_marks 36 = .ok (.goto (-32), 3) := dTX6_marks_0_ok 23 (36, .goto (-32), 3) rfl
theorem dX6_marks_39 : decode cX6_marks 39 = .ok (.iload_n 1, 1) := dTX6_marks_0_ok 24 (39, .iload_n 1, 1) rfl
theorem dX6_marks_40 : decode cX6_marks 40 = .ok (.ireturn, 1) := dTX6_marks_0_ok 25 (40, .ireturn, 1) rfl
noncomputable def dTX6_walls_0 : List (Nat × Instr × Nat) := [(0, .iconst 0, 1), (1, .istore_n 1, 1), (2, .iconst 0, 1), (3, .istore_n 2, 1), (4, .iload_n 2, 1), (5, .bipush 63, 2), (7, .if_icmp .ge 41, 3), (10, .iload_n 1, 1), (11, .aload_n 0, 1), (12, .getfield 9, 3), (15, .iload_n 2, 1), (16, .baload, 1), (17, .ifCond .eq 7, 3), (20, .iconst 1, 1), (21, .goto 4, 3), (24, .iconst 0, 1), (25, .aload_n 0, 1), (26, .getfield 13, 3), (29, .iload_n 2, 1), (30, .baload, 1), (31, .ifCond .eq 7, 3), (34, .iconst 1, 1), (35, .goto 4, 3), (38, .iconst 0, 1), (39, .iadd, 1), (40, .iadd, 1), (41, .istore_n 1, 1), (42, .iinc 2 1, 3), (45, .goto (-41), 3), (48, .iload_n 1, 1), (49, .ireturn, 1)]
theorem dTX6_walls_0_ok : ∀ (k : Nat) (q : Nat × Instr × Nat), dTX6_walls_0[k]? = some q → decode cX6_walls q.1 = .ok q.2 := dT_of (by decide +kernel)
theorem dX6_walls_0 : decode cX6_walls 0 = .ok (.iconst 0, 1) := dTX6_walls_0_ok 0 (0, .iconst 0, 1) rfl
theorem dX6_walls_1 : decode cX6_walls 1 = .ok (.istore_n 1, 1) := dTX6_walls_0_ok 1 (1, .istore_n 1, 1) rfl
theorem dX6_walls_2 : decode cX6_walls 2 = .ok (.iconst 0, 1) := dTX6_walls_0_ok 2 (2, .iconst 0, 1) rfl
theorem dX6_walls_3 : decode cX6_walls 3 = .ok (.istore_n 2, 1) := dTX6_walls_0_ok 3 (3, .istore_n 2, 1) rfl
theorem dX6_walls_4 : decode cX6_walls 4 = .ok (.iload_n 2, 1) := dTX6_walls_0_ok 4 (4, .iload_n 2, 1) rfl
theorem dX6_walls_5 : decode cX6_walls 5 = .ok (.bipush 63, 2) := dTX6_walls_0_ok 5 (5, .bipush 63, 2) rfl
theorem dX6_walls_7 : decode cX6_walls 7 = .ok (.if_icmp .ge 41, 3) := dTX6_walls_0_ok 6 (7, .if_icmp .ge 41, 3) rfl
theorem dX6_walls_10 : decode cX6_walls 10 = .ok (.iload_n 1, 1) := dTX6_walls_0_ok 7 (10, .iload_n 1, 1) rfl
theorem dX6_walls_11 : decode cX6_walls 11 = .ok (.aload_n 0, 1) := dTX6_walls_0_ok 8 (11, .aload_n 0, 1) rfl
theorem dX6_walls_12 : decode cX6_walls 12 = .ok (.getfield 9, 3) := dTX6_walls_0_ok 9 (12, .getfield 9, 3) rfl
theorem dX6_walls_15 : decode cX6_walls 15 = .ok (.iload_n 2, 1) := dTX6_walls_0_ok 10 (15, .iload_n 2, 1) rfl
theorem dX6_walls_16 : decode cX6_walls 16 = .ok (.baload, 1) := dTX6_walls_0_ok 11 (16, .baload, 1) rfl
theorem dX6_walls_17 : decode cX6_walls 17 = .ok (.ifCond .eq 7, 3) := dTX6_walls_0_ok 12 (17, .ifCond .eq 7, 3) rfl
theorem dX6_walls_20 : decode cX6_walls 20 = .ok (.iconst 1, 1) := dTX6_walls_0_ok 13 (20, .iconst 1, 1) rfl
theorem dX6_walls_21 : decode cX6_walls 21 = .ok (.goto 4, 3) := dTX6_walls_0_ok 14 (21, .goto 4, 3) rfl
theorem dX6_walls_24 : decode cX6_walls 24 = .ok (.iconst 0, 1) := dTX6_walls_0_ok 15 (24, .iconst 0, 1) rfl
theorem dX6_walls_25 : decode cX6_walls 25 = .ok (.aload_n 0, 1) := dTX6_walls_0_ok 16 (25, .aload_n 0, 1) rfl
theorem dX6_walls_26 : decode cX6_walls 26 = .ok (.getfield 13, 3) := dTX6_walls_0_ok 17 (26, .getfield 13, 3) rfl
theorem dX6_walls_29 : decode cX6_walls 29 = .ok (.iload_n 2, 1) := dTX6_walls_0_ok 18 (29, .iload_n 2, 1) rfl
theorem dX6_walls_30 : decode cX6_walls 30 = .ok (.baload, 1) := dTX6_walls_0_ok 19 (30, .baload, 1) rfl
theorem dX6_walls_31 : decode cX6_walls 31 = .ok (.ifCond .eq 7, 3) := dTX6_walls_0_ok 20 (31, .ifCond .eq 7, 3) rfl
theorem dX6_walls_34 : decode cX6_walls 34 = .ok (.iconst 1, 1) := dTX6_walls_0_ok 21 (34, .iconst 1, 1) rfl
theorem dX6_walls_35 : decode cX6_walls 35 = .ok (.goto 4, 3) := dTX6_walls_0_ok 22 (35, .goto 4, 3) rfl
theorem dX6_walls_38 : decode cX6_walls 38 = .ok (.iconst 0, 1) := dTX6_walls_0_ok 23 (38, .iconst 0, 1) rfl
theorem dX6_walls_39 : decode cX6_walls 39 = .ok (.iadd, 1) := dTX6_walls_0_ok 24 (39, .iadd, 1) rfl
theorem dX6_walls_40 : decode cX6_walls 40 = .ok (.iadd, 1) := dTX6_walls_0_ok 25 (40, .iadd, 1) rfl
theorem dX6_walls_41 : decode cX6_walls 41 = .ok (.istore_n 1, 1) := dTX6_walls_0_ok 26 (41, .istore_n 1, 1) rfl
theorem dX6_walls_42 : decode cX6_walls 42 = .ok (.iinc 2 1, 3) := dTX6_walls_0_ok 27 (42, .iinc 2 1, 3) rfl
theorem dX6_walls_45 : decode cX6_walls 45 = .ok (.goto (-41), 3) := dTX6_walls_0_ok 28 (45, .goto (-41), 3) rfl
theorem dX6_walls_48 : decode cX6_walls 48 = .ok (.iload_n 1, 1) := dTX6_walls_0_ok 29 (48, .iload_n 1, 1) rfl
theorem dX6_walls_49 : decode cX6_walls 49 = .ok (.ireturn, 1) := dTX6_walls_0_ok 30 (49, .ireturn, 1) rfl
noncomputable def dTX6_counted_0 : List (Nat × Instr × Nat) := [(0, .iload_n 1, 1), (1, .tableswitch 106 0 8 #[51, 58, 63, 70, 75, 82, 89, 94, 99], 51), (52, .aload_n 0, 1), (53, .getfield 29, 3), (56, .iconst 0, 1), (57, .iaload, 1), (58, .ireturn, 1), (59, .aload_n 0, 1), (60, .getfield 49, 3), (63, .ireturn, 1), (64, .aload_n 0, 1), (65, .iconst 1, 1), (66, .iconst 1, 1), (67, .invokevirtual 60, 3), (70, .ireturn, 1), (71, .aload_n 0, 1), (72, .invokevirtual 127, 3), (75, .ireturn, 1), (76, .aload_n 0, 1), (77, .iconst 2, 1), (78, .iconst 3, 1), (79, .invokevirtual 60, 3), (82, .ireturn, 1), (83, .aload_n 0, 1), (84, .iconst 4, 1), (85, .iconst 4, 1), (86, .invokevirtual 60, 3), (89, .ireturn, 1), (90, .aload_n 0, 1), (91, .invokevirtual 130, 3), (94, .ireturn, 1), (95, .aload_n 0, 1), (96, .invokevirtual 80, 3), (99, .ireturn, 1), (100, .aload_n 0, 1), (101, .getfield 29, 3), (104, .iconst 1, 1), (105, .iaload, 1), (106, .ireturn, 1), (107, .aload_n 0, 1), (108, .invokevirtual 133, 3), (111, .ireturn, 1)]
theorem dTX6_counted_0_ok : ∀ (k : Nat) (q : Nat × Instr × Nat), dTX6_counted_0[k]? = some q → decode cX6_counted q.1 = .ok q.2 := dT_of (by decide +kernel)
theorem dX6_counted_0 : decode cX6_counted 0 = .ok (.iload_n 1, 1) := dTX6_counted_0_ok 0 (0, .iload_n 1, 1) rfl
theorem dX6_counted_1 : decode cX6_counted 1 = .ok (.tableswitch 106 0 8 #[51, 58, 63, 70, 75, 82, 89, 94, 99], 51) := dTX6_counted_0_ok 1 (1, .tableswitch 106 0 8 #[51, 58, 63, 70, 75, 82, 89, 94, 99], 51) rfl
theorem dX6_counted_52 : decode cX6_counted 52 = .ok (.aload_n 0, 1) := dTX6_counted_0_ok 2 (52, .aload_n 0, 1) rfl
theorem dX6_counted_53 : decode cX6_counted 53 = .ok (.getfield 29, 3) := dTX6_counted_0_ok 3 (53, .getfield 29, 3) rfl
theorem dX6_counted_56 : decode cX6_counted 56 = .ok (.iconst 0, 1) := dTX6_counted_0_ok 4 (56, .iconst 0, 1) rfl
theorem dX6_counted_57 : decode cX6_counted 57 = .ok (.iaload, 1) := dTX6_counted_0_ok 5 (57, .iaload, 1) rfl
theorem dX6_counted_58 : decode cX6_counted 58 = .ok (.ireturn, 1) := dTX6_counted_0_ok 6 (58, .ireturn, 1) rfl
theorem dX6_counted_59 : decode cX6_counted 59 = .ok (.aload_n 0, 1) := dTX6_counted_0_ok 7 (59, .aload_n 0, 1) rfl
theorem dX6_counted_60 : decode cX6_counted 60 = .ok (.getfield 49, 3) := dTX6_counted_0_ok 8 (60, .getfield 49, 3) rfl
theorem dX6_counted_63 : decode cX6_counted 63 = .ok (.ireturn, 1) := dTX6_counted_0_ok 9 (63, .ireturn, 1) rfl
theorem dX6_counted_64 : decode cX6_counted 64 = .ok (.aload_n 0, 1) := dTX6_counted_0_ok 10 (64, .aload_n 0, 1) rfl
theorem dX6_counted_65 : decode cX6_counted 65 = .ok (.iconst 1, 1) := dTX6_counted_0_ok 11 (65, .iconst 1, 1) rfl
theorem dX6_counted_66 : decode cX6_counted 66 = .ok (.iconst 1, 1) := dTX6_counted_0_ok 12 (66, .iconst 1, 1) rfl
theorem dX6_counted_67 : decode cX6_counted 67 = .ok (.invokevirtual 60, 3) := dTX6_counted_0_ok 13 (67, .invokevirtual 60, 3) rfl
theorem dX6_counted_70 : decode cX6_counted 70 = .ok (.ireturn, 1) := dTX6_counted_0_ok 14 (70, .ireturn, 1) rfl
theorem dX6_counted_71 : decode cX6_counted 71 = .ok (.aload_n 0, 1) := dTX6_counted_0_ok 15 (71, .aload_n 0, 1) rfl
theorem dX6_counted_72 : decode cX6_counted 72 = .ok (.invokevirtual 127, 3) := dTX6_counted_0_ok 16 (72, .invokevirtual 127, 3) rfl
theorem dX6_counted_75 : decode cX6_counted 75 = .ok (.ireturn, 1) := dTX6_counted_0_ok 17 (75, .ireturn, 1) rfl
theorem dX6_counted_76 : decode cX6_counted 76 = .ok (.aload_n 0, 1) := dTX6_counted_0_ok 18 (76, .aload_n 0, 1) rfl
theorem dX6_counted_77 : decode cX6_counted 77 = .ok (.iconst 2, 1) := dTX6_counted_0_ok 19 (77, .iconst 2, 1) rfl
theorem dX6_counted_78 : decode cX6_counted 78 = .ok (.iconst 3, 1) := dTX6_counted_0_ok 20 (78, .iconst 3, 1) rfl
theorem dX6_counted_79 : decode cX6_counted 79 = .ok (.invokevirtual 60, 3) := dTX6_counted_0_ok 21 (79, .invokevirtual 60, 3) rfl
theorem dX6_counted_82 : decode cX6_counted 82 = .ok (.ireturn, 1) := dTX6_counted_0_ok 22 (82, .ireturn, 1) rfl
theorem dX6_counted_83 : decode cX6_counted 83 = .ok (.aload_n 0, 1) := dTX6_counted_0_ok 23 (83, .aload_n 0, 1) rfl
theorem dX6_counted_84 : decode cX6_counted 84 = .ok (.iconst 4, 1) := dTX6_counted_0_ok 24 (84, .iconst 4, 1) rfl
theorem dX6_counted_85 : decode cX6_counted 85 = .ok (.iconst 4, 1) := dTX6_counted_0_ok 25 (85, .iconst 4, 1) rfl
theorem dX6_counted_86 : decode cX6_counted 86 = .ok (.invokevirtual 60, 3) := dTX6_counted_0_ok 26 (86, .invokevirtual 60, 3) rfl
theorem dX6_counted_89 : decode cX6_counted 89 = .ok (.ireturn, 1) := dTX6_counted_0_ok 27 (89, .ireturn, 1) rfl
theorem dX6_counted_90 : decode cX6_counted 90 = .ok (.aload_n 0, 1) := dTX6_counted_0_ok 28 (90, .aload_n 0, 1) rfl
theorem dX6_counted_91 : decode cX6_counted 91 = .ok (.invokevirtual 130, 3) := dTX6_counted_0_ok 29 (91, .invokevirtual 130, 3) rfl
theorem dX6_counted_94 : decode cX6_counted 94 = .ok (.ireturn, 1) := dTX6_counted_0_ok 30 (94, .ireturn, 1) rfl
theorem dX6_counted_95 : decode cX6_counted 95 = .ok (.aload_n 0, 1) := dTX6_counted_0_ok 31 (95, .aload_n 0, 1) rfl
theorem dX6_counted_96 : decode cX6_counted 96 = .ok (.invokevirtual 80, 3) := dTX6_counted_0_ok 32 (96, .invokevirtual 80, 3) rfl
theorem dX6_counted_99 : decode cX6_counted 99 = .ok (.ireturn, 1) := dTX6_counted_0_ok 33 (99, .ireturn, 1) rfl
theorem dX6_counted_100 : decode cX6_counted 100 = .ok (.aload_n 0, 1) := dTX6_counted_0_ok 34 (100, .aload_n 0, 1) rfl
theorem dX6_counted_101 : decode cX6_counted 101 = .ok (.getfield 29, 3) := dTX6_counted_0_ok 35 (101, .getfield 29, 3) rfl
theorem dX6_counted_104 : decode cX6_counted 104 = .ok (.iconst 1, 1) := dTX6_counted_0_ok 36 (104, .iconst 1, 1) rfl
theorem dX6_counted_105 : decode cX6_counted 105 = .ok (.iaload, 1) := dTX6_counted_0_ok 37 (105, .iaload, 1) rfl
theorem dX6_counted_106 : decode cX6_counted 106 = .ok (.ireturn, 1) := dTX6_counted_0_ok 38 (106, .ireturn, 1) rfl
theorem dX6_counted_107 : decode cX6_counted 107 = .ok (.aload_n 0, 1) := dTX6_counted_0_ok 39 (107, .aload_n 0, 1) rfl
theorem dX6_counted_108 : decode cX6_counted 108 = .ok (.invokevirtual 133, 3) := dTX6_counted_0_ok 40 (108, .invokevirtual 133, 3) rfl
theorem dX6_counted_111 : decode cX6_counted 111 = .ok (.ireturn, 1) := dTX6_counted_0_ok 41 (111, .ireturn, 1) rfl
noncomputable def dTX6_count_0 : List (Nat × Instr × Nat) := [(0, .aload_n 0, 1), (1, .iconst 0, 1), (2, .putfield 41, 3), (5, .iload_n 1, 1), (6, .iconst 0, 1), (7, .bipush 9, 2), (9, .invokestatic 45, 3), (12, .ifCond .ne 9, 3), (15, .aload_n 0, 1), (16, .iconst 1, 1), (17, .invokevirtual 62, 3), (20, .ireturn, 1), (21, .aload_n 0, 1), (22, .invokevirtual 89, 3), (25, .aload_n 0, 1), (26, .iload_n 1, 1), (27, .invokevirtual 136, 3), (30, .ireturn, 1)]
theorem dTX6_count_0_ok : ∀ (k : Nat) (q : Nat × Instr × Nat), dTX6_count_0[k]? = some q → decode cX6_count q.1 = .ok q.2 := dT_of (by decide +kernel)
theorem dX6_count_0 : decode cX6_count 0 = .ok (.aload_n 0, 1) := dTX6_count_0_ok 0 (0, .aload_n 0, 1) rfl
theorem dX6_count_1 : decode cX6_count 1 = .ok (.iconst 0, 1) := dTX6_count_0_ok 1 (1, .iconst 0, 1) rfl
theorem dX6_count_2 : decode cX6_count 2 = .ok (.putfield 41, 3) := dTX6_count_0_ok 2 (2, .putfield 41, 3) rfl
theorem dX6_count_5 : decode cX6_count 5 = .ok (.iload_n 1, 1) := dTX6_count_0_ok 3 (5, .iload_n 1, 1) rfl
theorem dX6_count_6 : decode cX6_count 6 = .ok (.iconst 0, 1) := dTX6_count_0_ok 4 (6, .iconst 0, 1) rfl
theorem dX6_count_7 : decode cX6_count 7 = .ok (.bipush 9, 2) := dTX6_count_0_ok 5 (7, .bipush 9, 2) rfl
theorem dX6_count_9 : decode cX6_count 9 = .ok (.invokestatic 45, 3) := dTX6_count_0_ok 6 (9, .invokestatic 45, 3) rfl
theorem dX6_count_12 : decode cX6_count 12 = .ok (.ifCond .ne 9, 3) := dTX6_count_0_ok 7 (12, .ifCond .ne 9, 3) rfl
theorem dX6_count_15 : decode cX6_count 15 = .ok (.aload_n 0, 1) := dTX6_count_0_ok 8 (15, .aload_n 0, 1) rfl
theorem dX6_count_16 : decode cX6_count 16 = .ok (.iconst 1, 1) := dTX6_count_0_ok 9 (16, .iconst 1, 1) rfl
theorem dX6_count_17 : decode cX6_count 17 = .ok (.invokevirtual 62, 3) := dTX6_count_0_ok 10 (17, .invokevirtual 62, 3) rfl
theorem dX6_count_20 : decode cX6_count 20 = .ok (.ireturn, 1) := dTX6_count_0_ok 11 (20, .ireturn, 1) rfl
theorem dX6_count_21 : decode cX6_count 21 = .ok (.aload_n 0, 1) := dTX6_count_0_ok 12 (21, .aload_n 0, 1) rfl
theorem dX6_count_22 : decode cX6_count 22 = .ok (.invokevirtual 89, 3) := dTX6_count_0_ok 13 (22, .invokevirtual 89, 3) rfl
theorem dX6_count_25 : decode cX6_count 25 = .ok (.aload_n 0, 1) := dTX6_count_0_ok 14 (25, .aload_n 0, 1) rfl
theorem dX6_count_26 : decode cX6_count 26 = .ok (.iload_n 1, 1) := dTX6_count_0_ok 15 (26, .iload_n 1, 1) rfl
theorem dX6_count_27 : decode cX6_count 27 = .ok (.invokevirtual 136, 3) := dTX6_count_0_ok 16 (27, .invokevirtual 136, 3) rfl
theorem dX6_count_30 : decode cX6_count 30 = .ok (.ireturn, 1) := dTX6_count_0_ok 17 (30, .ireturn, 1) rfl
noncomputable def dTX6_step_0 : List (Nat × Instr × Nat) := [(0, .aload_n 0, 1), (1, .iload_n 1, 1), (2, .invokevirtual 108, 3), (5, .istore_n 2, 1), (6, .iload_n 2, 1), (7, .iconst (-1), 1), (8, .if_icmp .ne 5, 3), (11, .iconst 0, 1), (12, .ireturn, 1), (13, .aload_n 0, 1), (14, .aload_n 0, 1), (15, .iload_n 1, 1), (16, .iconst 0, 1), (17, .invokevirtual 95, 3), (20, .iload_n 2, 1), (21, .invokevirtual 70, 3), (24, .istore_n 3, 1), (25, .aload_n 0, 1), (26, .iload_n 1, 1), (27, .iconst 0, 1), (28, .invokevirtual 95, 3), (31, .iload_n 2, 1), (32, .invokestatic 56, 3), (35, .istore 4, 2), (37, .aload_n 0, 1), (38, .iload_n 1, 1), (39, .iconst 0, 1), (40, .iload 4, 2), (42, .invokevirtual 117, 3), (45, .iload_n 3, 1), (46, .ifCond .ne 5, 3), (49, .iconst 1, 1), (50, .ireturn, 1), (51, .aload_n 0, 1), (52, .iload_n 1, 1), (53, .iconst 3, 1), (54, .iconst 0, 1), (55, .invokevirtual 117, 3), (58, .iconst 0, 1), (59, .istore 5, 2), (61, .iload 5, 2), (63, .iconst 4, 1), (64, .if_icmp .ge 33, 3), (67, .iload 4, 2), (69, .iload 5, 2), (71, .invokestatic 56, 3), (74, .iconst (-1), 1), (75, .if_icmp .eq 16, 3), (78, .aload_n 0, 1), (79, .getfield 23, 3), (82, .iload 4, 2), (84, .iload 5, 2), (86, .invokestatic 56, 3), (89, .iconst 0, 1), (90, .iastore, 1), (91, .iinc 5 1, 3), (94, .goto (-33), 3), (97, .iconst 1, 1), (98, .ireturn, 1)]
theorem dTX6_step_0_ok : ∀ (k : Nat) (q : Nat × Instr × Nat), dTX6_step_0[k]? = some q → decode cX6_step q.1 = .ok q.2 := dT_of (by decide +kernel)
theorem dX6_step_0 : decode cX6_step 0 = .ok (.aload_n 0, 1) := dTX6_step_0_ok 0 (0, .aload_n 0, 1) rfl
theorem dX6_step_1 : decode cX6_step 1 = .ok (.iload_n 1, 1) := dTX6_step_0_ok 1 (1, .iload_n 1, 1) rfl
theorem dX6_step_2 : decode cX6_step 2 = .ok (.invokevirtual 108, 3) := dTX6_step_0_ok 2 (2, .invokevirtual 108, 3) rfl
theorem dX6_step_5 : decode cX6_step 5 = .ok (.istore_n 2, 1) := dTX6_step_0_ok 3 (5, .istore_n 2, 1) rfl
theorem dX6_step_6 : decode cX6_step 6 = .ok (.iload_n 2, 1) := dTX6_step_0_ok 4 (6, .iload_n 2, 1) rfl
theorem dX6_step_7 : decode cX6_step 7 = .ok (.iconst (-1), 1) := dTX6_step_0_ok 5 (7, .iconst (-1), 1) rfl
theorem dX6_step_8 : decode cX6_step 8 = .ok (.if_icmp .ne 5, 3) := dTX6_step_0_ok 6 (8, .if_icmp .ne 5, 3) rfl
theorem dX6_step_11 : decode cX6_step 11 = .ok (.iconst 0, 1) := dTX6_step_0_ok 7 (11, .iconst 0, 1) rfl
theorem dX6_step_12 : decode cX6_step 12 = .ok (.ireturn, 1) := dTX6_step_0_ok 8 (12, .ireturn, 1) rfl
theorem dX6_step_13 : decode cX6_step 13 = .ok (.aload_n 0, 1) := dTX6_step_0_ok 9 (13, .aload_n 0, 1) rfl
theorem dX6_step_14 : decode cX6_step 14 = .ok (.aload_n 0, 1) := dTX6_step_0_ok 10 (14, .aload_n 0, 1) rfl
theorem dX6_step_15 : decode cX6_step 15 = .ok (.iload_n 1, 1) := dTX6_step_0_ok 11 (15, .iload_n 1, 1) rfl
theorem dX6_step_16 : decode cX6_step 16 = .ok (.iconst 0, 1) := dTX6_step_0_ok 12 (16, .iconst 0, 1) rfl
theorem dX6_step_17 : decode cX6_step 17 = .ok (.invokevirtual 95, 3) := dTX6_step_0_ok 13 (17, .invokevirtual 95, 3) rfl
theorem dX6_step_20 : decode cX6_step 20 = .ok (.iload_n 2, 1) := dTX6_step_0_ok 14 (20, .iload_n 2, 1) rfl
theorem dX6_step_21 : decode cX6_step 21 = .ok (.invokevirtual 70, 3) := dTX6_step_0_ok 15 (21, .invokevirtual 70, 3) rfl
theorem dX6_step_24 : decode cX6_step 24 = .ok (.istore_n 3, 1) := dTX6_step_0_ok 16 (24, .istore_n 3, 1) rfl
theorem dX6_step_25 : decode cX6_step 25 = .ok (.aload_n 0, 1) := dTX6_step_0_ok 17 (25, .aload_n 0, 1) rfl
theorem dX6_step_26 : decode cX6_step 26 = .ok (.iload_n 1, 1) := dTX6_step_0_ok 18 (26, .iload_n 1, 1) rfl
theorem dX6_step_27 : decode cX6_step 27 = .ok (.iconst 0, 1) := dTX6_step_0_ok 19 (27, .iconst 0, 1) rfl
theorem dX6_step_28 : decode cX6_step 28 = .ok (.invokevirtual 95, 3) := dTX6_step_0_ok 20 (28, .invokevirtual 95, 3) rfl
theorem dX6_step_31 : decode cX6_step 31 = .ok (.iload_n 2, 1) := dTX6_step_0_ok 21 (31, .iload_n 2, 1) rfl
theorem dX6_step_32 : decode cX6_step 32 = .ok (.invokestatic 56, 3) := dTX6_step_0_ok 22 (32, .invokestatic 56, 3) rfl
theorem dX6_step_35 : decode cX6_step 35 = .ok (.istore 4, 2) := dTX6_step_0_ok 23 (35, .istore 4, 2) rfl
theorem dX6_step_37 : decode cX6_step 37 = .ok (.aload_n 0, 1) := dTX6_step_0_ok 24 (37, .aload_n 0, 1) rfl
theorem dX6_step_38 : decode cX6_step 38 = .ok (.iload_n 1, 1) := dTX6_step_0_ok 25 (38, .iload_n 1, 1) rfl
theorem dX6_step_39 : decode cX6_step 39 = .ok (.iconst 0, 1) := dTX6_step_0_ok 26 (39, .iconst 0, 1) rfl
theorem dX6_step_40 : decode cX6_step 40 = .ok (.iload 4, 2) := dTX6_step_0_ok 27 (40, .iload 4, 2) rfl
theorem dX6_step_42 : decode cX6_step 42 = .ok (.invokevirtual 117, 3) := dTX6_step_0_ok 28 (42, .invokevirtual 117, 3) rfl
theorem dX6_step_45 : decode cX6_step 45 = .ok (.iload_n 3, 1) := dTX6_step_0_ok 29 (45, .iload_n 3, 1) rfl
theorem dX6_step_46 : decode cX6_step 46 = .ok (.ifCond .ne 5, 3) := dTX6_step_0_ok 30 (46, .ifCond .ne 5, 3) rfl
theorem dX6_step_49 : decode cX6_step 49 = .ok (.iconst 1, 1) := dTX6_step_0_ok 31 (49, .iconst 1, 1) rfl
theorem dX6_step_50 : decode cX6_step 50 = .ok (.ireturn, 1) := dTX6_step_0_ok 32 (50, .ireturn, 1) rfl
theorem dX6_step_51 : decode cX6_step 51 = .ok (.aload_n 0, 1) := dTX6_step_0_ok 33 (51, .aload_n 0, 1) rfl
theorem dX6_step_52 : decode cX6_step 52 = .ok (.iload_n 1, 1) := dTX6_step_0_ok 34 (52, .iload_n 1, 1) rfl
theorem dX6_step_53 : decode cX6_step 53 = .ok (.iconst 3, 1) := dTX6_step_0_ok 35 (53, .iconst 3, 1) rfl
theorem dX6_step_54 : decode cX6_step 54 = .ok (.iconst 0, 1) := dTX6_step_0_ok 36 (54, .iconst 0, 1) rfl
theorem dX6_step_55 : decode cX6_step 55 = .ok (.invokevirtual 117, 3) := dTX6_step_0_ok 37 (55, .invokevirtual 117, 3) rfl
theorem dX6_step_58 : decode cX6_step 58 = .ok (.iconst 0, 1) := dTX6_step_0_ok 38 (58, .iconst 0, 1) rfl
theorem dX6_step_59 : decode cX6_step 59 = .ok (.istore 5, 2) := dTX6_step_0_ok 39 (59, .istore 5, 2) rfl
theorem dX6_step_61 : decode cX6_step 61 = .ok (.iload 5, 2) := dTX6_step_0_ok 40 (61, .iload 5, 2) rfl
theorem dX6_step_63 : decode cX6_step 63 = .ok (.iconst 4, 1) := dTX6_step_0_ok 41 (63, .iconst 4, 1) rfl
theorem dX6_step_64 : decode cX6_step 64 = .ok (.if_icmp .ge 33, 3) := dTX6_step_0_ok 42 (64, .if_icmp .ge 33, 3) rfl
theorem dX6_step_67 : decode cX6_step 67 = .ok (.iload 4, 2) := dTX6_step_0_ok 43 (67, .iload 4, 2) rfl
theorem dX6_step_69 : decode cX6_step 69 = .ok (.iload 5, 2) := dTX6_step_0_ok 44 (69, .iload 5, 2) rfl
theorem dX6_step_71 : decode cX6_step 71 = .ok (.invokestatic 56, 3) := dTX6_step_0_ok 45 (71, .invokestatic 56, 3) rfl
theorem dX6_step_74 : decode cX6_step 74 = .ok (.iconst (-1), 1) := dTX6_step_0_ok 46 (74, .iconst (-1), 1) rfl
theorem dX6_step_75 : decode cX6_step 75 = .ok (.if_icmp .eq 16, 3) := dTX6_step_0_ok 47 (75, .if_icmp .eq 16, 3) rfl
theorem dX6_step_78 : decode cX6_step 78 = .ok (.aload_n 0, 1) := dTX6_step_0_ok 48 (78, .aload_n 0, 1) rfl
theorem dX6_step_79 : decode cX6_step 79 = .ok (.getfield 23, 3) := dTX6_step_0_ok 49 (79, .getfield 23, 3) rfl
theorem dX6_step_82 : decode cX6_step 82 = .ok (.iload 4, 2) := dTX6_step_0_ok 50 (82, .iload 4, 2) rfl
theorem dX6_step_84 : decode cX6_step 84 = .ok (.iload 5, 2) := dTX6_step_0_ok 51 (84, .iload 5, 2) rfl
theorem dX6_step_86 : decode cX6_step 86 = .ok (.invokestatic 56, 3) := dTX6_step_0_ok 52 (86, .invokestatic 56, 3) rfl
theorem dX6_step_89 : decode cX6_step 89 = .ok (.iconst 0, 1) := dTX6_step_0_ok 53 (89, .iconst 0, 1) rfl
theorem dX6_step_90 : decode cX6_step 90 = .ok (.iastore, 1) := dTX6_step_0_ok 54 (90, .iastore, 1) rfl
theorem dX6_step_91 : decode cX6_step 91 = .ok (.iinc 5 1, 3) := dTX6_step_0_ok 55 (91, .iinc 5 1, 3) rfl
theorem dX6_step_94 : decode cX6_step 94 = .ok (.goto (-33), 3) := dTX6_step_0_ok 56 (94, .goto (-33), 3) rfl
theorem dX6_step_97 : decode cX6_step 97 = .ok (.iconst 1, 1) := dTX6_step_0_ok 57 (97, .iconst 1, 1) rfl
theorem dX6_step_98 : decode cX6_step 98 = .ok (.ireturn, 1) := dTX6_step_0_ok 58 (98, .ireturn, 1) rfl
noncomputable def dTX6_haunt_0 : List (Nat × Instr × Nat) := [(0, .aload_n 0, 1), (1, .iload_n 1, 1), (2, .iconst 0, 1), (3, .invokevirtual 95, 3), (6, .istore_n 2, 1), (7, .aload_n 0, 1), (8, .getfield 32, 3), (11, .iload_n 2, 1), (12, .baload, 1), (13, .ifCond .eq 18, 3), (16, .aload_n 0, 1), (17, .iload_n 1, 1), (18, .iconst 5, 1), (19, .aload_n 0, 1), (20, .iload_n 1, 1), (21, .iconst 5, 1), (22, .invokevirtual 95, 3), (25, .iconst 1, 1), (26, .iadd, 1), (27, .invokevirtual 117, 3), (30, .return_, 1), (31, .aload_n 0, 1), (32, .getfield 16, 3), (35, .iload_n 2, 1), (36, .iaload, 1), (37, .iconst 4, 1), (38, .if_icmp .eq 4, 3), (41, .return_, 1), (42, .aload_n 0, 1), (43, .getfield 20, 3), (46, .iload_n 2, 1), (47, .iaload, 1), (48, .iconst 1, 1), (49, .iadd, 1), (50, .bipush 100, 2), (52, .irem, 1), (53, .istore_n 3, 1), (54, .aload_n 0, 1), (55, .getfield 20, 3), (58, .iload_n 2, 1), (59, .iload_n 3, 1), (60, .bipush 13, 2), (62, .irem, 1), (63, .ifCond .ne 18, 3), (66, .iload_n 3, 1), (67, .bipush 10, 2), (69, .irem, 1), (70, .bipush 10, 2), (72, .imul, 1), (73, .iload_n 3, 1), (74, .bipush 10, 2), (76, .idiv, 1), (77, .iadd, 1), (78, .goto 4, 3), (81, .iload_n 3, 1), (82, .iastore, 1), (83, .aload_n 0, 1), (84, .iload_n 1, 1), (85, .iconst 4, 1), (86, .aload_n 0, 1)]
theorem dTX6_haunt_0_ok : ∀ (k : Nat) (q : Nat × Instr × Nat), dTX6_haunt_0[k]? = some q → decode cX6_haunt q.1 = .ok q.2 := dT_of (by decide +kernel)
theorem dX6_haunt_0 : decode cX6_haunt 0 = .ok (.aload_n 0, 1) := dTX6_haunt_0_ok 0 (0, .aload_n 0, 1) rfl
theorem dX6_haunt_1 : decode cX6_haunt 1 = .ok (.iload_n 1, 1) := dTX6_haunt_0_ok 1 (1, .iload_n 1, 1) rfl
theorem dX6_haunt_2 : decode cX6_haunt 2 = .ok (.iconst 0, 1) := dTX6_haunt_0_ok 2 (2, .iconst 0, 1) rfl
theorem dX6_haunt_3 : decode cX6_haunt 3 = .ok (.invokevirtual 95, 3) := dTX6_haunt_0_ok 3 (3, .invokevirtual 95, 3) rfl
theorem dX6_haunt_6 : decode cX6_haunt 6 = .ok (.istore_n 2, 1) := dTX6_haunt_0_ok 4 (6, .istore_n 2, 1) rfl
theorem dX6_haunt_7 : decode cX6_haunt 7 = .ok (.aload_n 0, 1) := dTX6_haunt_0_ok 5 (7, .aload_n 0, 1) rfl
theorem dX6_haunt_8 : decode cX6_haunt 8 = .ok (.getfield 32, 3) := dTX6_haunt_0_ok 6 (8, .getfield 32, 3) rfl
theorem dX6_haunt_11 : decode cX6_haunt 11 = .ok (.iload_n 2, 1) := dTX6_haunt_0_ok 7 (11, .iload_n 2, 1) rfl
theorem dX6_haunt_12 : decode cX6_haunt 12 = .ok (.baload, 1) := dTX6_haunt_0_ok 8 (12, .baload, 1) rfl
theorem dX6_haunt_13 : decode cX6_haunt 13 = .ok (.ifCond .eq 18, 3) := dTX6_haunt_0_ok 9 (13, .ifCond .eq 18, 3) rfl
theorem dX6_haunt_16 : decode cX6_haunt 16 = .ok (.aload_n 0, 1) := dTX6_haunt_0_ok 10 (16, .aload_n 0, 1) rfl
theorem dX6_haunt_17 : decode cX6_haunt 17 = .ok (.iload_n 1, 1) := dTX6_haunt_0_ok 11 (17, .iload_n 1, 1) rfl
theorem dX6_haunt_18 : decode cX6_haunt 18 = .ok (.iconst 5, 1) := dTX6_haunt_0_ok 12 (18, .iconst 5, 1) rfl
theorem dX6_haunt_19 : decode cX6_haunt 19 = .ok (.aload_n 0, 1) := dTX6_haunt_0_ok 13 (19, .aload_n 0, 1) rfl
theorem dX6_haunt_20 : decode cX6_haunt 20 = .ok (.iload_n 1, 1) := dTX6_haunt_0_ok 14 (20, .iload_n 1, 1) rfl
theorem dX6_haunt_21 : decode cX6_haunt 21 = .ok (.iconst 5, 1) := dTX6_haunt_0_ok 15 (21, .iconst 5, 1) rfl
theorem dX6_haunt_22 : decode cX6_haunt 22 = .ok (.invokevirtual 95, 3) := dTX6_haunt_0_ok 16 (22, .invokevirtual 95, 3) rfl
theorem dX6_haunt_25 : decode cX6_haunt 25 = .ok (.iconst 1, 1) := dTX6_haunt_0_ok 17 (25, .iconst 1, 1) rfl
theorem dX6_haunt_26 : decode cX6_haunt 26 = .ok (.iadd, 1) := dTX6_haunt_0_ok 18 (26, .iadd, 1) rfl
theorem dX6_haunt_27 : decode cX6_haunt 27 = .ok (.invokevirtual 117, 3) := dTX6_haunt_0_ok 19 (27, .invokevirtual 117, 3) rfl
theorem dX6_haunt_30 : decode cX6_haunt 30 = .ok (.return_, 1) := dTX6_haunt_0_ok 20 (30, .return_, 1) rfl
theorem dX6_haunt_31 : decode cX6_haunt 31 = .ok (.aload_n 0, 1) := dTX6_haunt_0_ok 21 (31, .aload_n 0, 1) rfl
theorem dX6_haunt_32 : decode cX6_haunt 32 = .ok (.getfield 16, 3) := dTX6_haunt_0_ok 22 (32, .getfield 16, 3) rfl
theorem dX6_haunt_35 : decode cX6_haunt 35 = .ok (.iload_n 2, 1) := dTX6_haunt_0_ok 23 (35, .iload_n 2, 1) rfl
theorem dX6_haunt_36 : decode cX6_haunt 36 = .ok (.iaload, 1) := dTX6_haunt_0_ok 24 (36, .iaload, 1) rfl
theorem dX6_haunt_37 : decode cX6_haunt 37 = .ok (.iconst 4, 1) := dTX6_haunt_0_ok 25 (37, .iconst 4, 1) rfl
theorem dX6_haunt_38 : decode cX6_haunt 38 = .ok (.if_icmp .eq 4, 3) := dTX6_haunt_0_ok 26 (38, .if_icmp .eq 4, 3) rfl
theorem dX6_haunt_41 : decode cX6_haunt 41 = .ok (.return_, 1) := dTX6_haunt_0_ok 27 (41, .return_, 1) rfl
theorem dX6_haunt_42 : decode cX6_haunt 42 = .ok (.aload_n 0, 1) := dTX6_haunt_0_ok 28 (42, .aload_n 0, 1) rfl
theorem dX6_haunt_43 : decode cX6_haunt 43 = .ok (.getfield 20, 3) := dTX6_haunt_0_ok 29 (43, .getfield 20, 3) rfl
theorem dX6_haunt_46 : decode cX6_haunt 46 = .ok (.iload_n 2, 1) := dTX6_haunt_0_ok 30 (46, .iload_n 2, 1) rfl
theorem dX6_haunt_47 : decode cX6_haunt 47 = .ok (.iaload, 1) := dTX6_haunt_0_ok 31 (47, .iaload, 1) rfl
theorem dX6_haunt_48 : decode cX6_haunt 48 = .ok (.iconst 1, 1) := dTX6_haunt_0_ok 32 (48, .iconst 1, 1) rfl
theorem dX6_haunt_49 : decode cX6_haunt 49 = .ok (.iadd, 1) := dTX6_haunt_0_ok 33 (49, .iadd, 1) rfl
theorem dX6_haunt_50 : decode cX6_haunt 50 = .ok (.bipush 100, 2) := dTX6_haunt_0_ok 34 (50, .bipush 100, 2) rfl
theorem dX6_haunt_52 : decode cX6_haunt 52 = .ok (.irem, 1) := dTX6_haunt_0_ok 35 (52, .irem, 1) rfl
theorem dX6_haunt_53 : decode cX6_haunt 53 = .ok (.istore_n 3, 1) := dTX6_haunt_0_ok 36 (53, .istore_n 3, 1) rfl
theorem dX6_haunt_54 : decode cX6_haunt 54 = .ok (.aload_n 0, 1) := dTX6_haunt_0_ok 37 (54, .aload_n 0, 1) rfl
theorem dX6_haunt_55 : decode cX6_haunt 55 = .ok (.getfield 20, 3) := dTX6_haunt_0_ok 38 (55, .getfield 20, 3) rfl
theorem dX6_haunt_58 : decode cX6_haunt 58 = .ok (.iload_n 2, 1) := dTX6_haunt_0_ok 39 (58, .iload_n 2, 1) rfl
theorem dX6_haunt_59 : decode cX6_haunt 59 = .ok (.iload_n 3, 1) := dTX6_haunt_0_ok 40 (59, .iload_n 3, 1) rfl
theorem dX6_haunt_60 : decode cX6_haunt 60 = .ok (.bipush 13, 2) := dTX6_haunt_0_ok 41 (60, .bipush 13, 2) rfl
theorem dX6_haunt_62 : decode cX6_haunt 62 = .ok (.irem, 1) := dTX6_haunt_0_ok 42 (62, .irem, 1) rfl
theorem dX6_haunt_63 : decode cX6_haunt 63 = .ok (.ifCond .ne 18, 3) := dTX6_haunt_0_ok 43 (63, .ifCond .ne 18, 3) rfl
theorem dX6_haunt_66 : decode cX6_haunt 66 = .ok (.iload_n 3, 1) := dTX6_haunt_0_ok 44 (66, .iload_n 3, 1) rfl
theorem dX6_haunt_67 : decode cX6_haunt 67 = .ok (.bipush 10, 2) := dTX6_haunt_0_ok 45 (67, .bipush 10, 2) rfl
theorem dX6_haunt_69 : decode cX6_haunt 69 = .ok (.irem, 1) := dTX6_haunt_0_ok 46 (69, .irem, 1) rfl
theorem dX6_haunt_70 : decode cX6_haunt 70 = .ok (.bipush 10, 2) := dTX6_haunt_0_ok 47 (70, .bipush 10, 2) rfl
theorem dX6_haunt_72 : decode cX6_haunt 72 = .ok (.imul, 1) := dTX6_haunt_0_ok 48 (72, .imul, 1) rfl
theorem dX6_haunt_73 : decode cX6_haunt 73 = .ok (.iload_n 3, 1) := dTX6_haunt_0_ok 49 (73, .iload_n 3, 1) rfl
theorem dX6_haunt_74 : decode cX6_haunt 74 = .ok (.bipush 10, 2) := dTX6_haunt_0_ok 50 (74, .bipush 10, 2) rfl
theorem dX6_haunt_76 : decode cX6_haunt 76 = .ok (.idiv, 1) := dTX6_haunt_0_ok 51 (76, .idiv, 1) rfl
theorem dX6_haunt_77 : decode cX6_haunt 77 = .ok (.iadd, 1) := dTX6_haunt_0_ok 52 (77, .iadd, 1) rfl
theorem dX6_haunt_78 : decode cX6_haunt 78 = .ok (.goto 4, 3) := dTX6_haunt_0_ok 53 (78, .goto 4, 3) rfl
theorem dX6_haunt_81 : decode cX6_haunt 81 = .ok (.iload_n 3, 1) := dTX6_haunt_0_ok 54 (81, .iload_n 3, 1) rfl
theorem dX6_haunt_82 : decode cX6_haunt 82 = .ok (.iastore, 1) := dTX6_haunt_0_ok 55 (82, .iastore, 1) rfl
theorem dX6_haunt_83 : decode cX6_haunt 83 = .ok (.aload_n 0, 1) := dTX6_haunt_0_ok 56 (83, .aload_n 0, 1) rfl
theorem dX6_haunt_84 : decode cX6_haunt 84 = .ok (.iload_n 1, 1) := dTX6_haunt_0_ok 57 (84, .iload_n 1, 1) rfl
theorem dX6_haunt_85 : decode cX6_haunt 85 = .ok (.iconst 4, 1) := dTX6_haunt_0_ok 58 (85, .iconst 4, 1) rfl
theorem dX6_haunt_86 : decode cX6_haunt 86 = .ok (.aload_n 0, 1) := dTX6_haunt_0_ok 59 (86, .aload_n 0, 1) rfl
noncomputable def dTX6_haunt_1 : List (Nat × Instr × Nat) := [(87, .iload_n 1, 1), (88, .iconst 4, 1), (89, .invokevirtual 95, 3), (92, .iconst 1, 1), (93, .iadd, 1), (94, .invokevirtual 117, 3), (97, .aload_n 0, 1), (98, .getfield 29, 3), (101, .iconst 1, 1), (102, .dup2, 1), (103, .iaload, 1), (104, .iconst 1, 1), (105, .iadd, 1), (106, .iastore, 1), (107, .return_, 1)]
theorem dTX6_haunt_1_ok : ∀ (k : Nat) (q : Nat × Instr × Nat), dTX6_haunt_1[k]? = some q → decode cX6_haunt q.1 = .ok q.2 := dT_of (by decide +kernel)
theorem dX6_haunt_87 : decode cX6_haunt 87 = .ok (.iload_n 1, 1) := dTX6_haunt_1_ok 0 (87, .iload_n 1, 1) rfl
theorem dX6_haunt_88 : decode cX6_haunt 88 = .ok (.iconst 4, 1) := dTX6_haunt_1_ok 1 (88, .iconst 4, 1) rfl
theorem dX6_haunt_89 : decode cX6_haunt 89 = .ok (.invokevirtual 95, 3) := dTX6_haunt_1_ok 2 (89, .invokevirtual 95, 3) rfl
theorem dX6_haunt_92 : decode cX6_haunt 92 = .ok (.iconst 1, 1) := dTX6_haunt_1_ok 3 (92, .iconst 1, 1) rfl
theorem dX6_haunt_93 : decode cX6_haunt 93 = .ok (.iadd, 1) := dTX6_haunt_1_ok 4 (93, .iadd, 1) rfl
theorem dX6_haunt_94 : decode cX6_haunt 94 = .ok (.invokevirtual 117, 3) := dTX6_haunt_1_ok 5 (94, .invokevirtual 117, 3) rfl
theorem dX6_haunt_97 : decode cX6_haunt 97 = .ok (.aload_n 0, 1) := dTX6_haunt_1_ok 6 (97, .aload_n 0, 1) rfl
theorem dX6_haunt_98 : decode cX6_haunt 98 = .ok (.getfield 29, 3) := dTX6_haunt_1_ok 7 (98, .getfield 29, 3) rfl
theorem dX6_haunt_101 : decode cX6_haunt 101 = .ok (.iconst 1, 1) := dTX6_haunt_1_ok 8 (101, .iconst 1, 1) rfl
theorem dX6_haunt_102 : decode cX6_haunt 102 = .ok (.dup2, 1) := dTX6_haunt_1_ok 9 (102, .dup2, 1) rfl
theorem dX6_haunt_103 : decode cX6_haunt 103 = .ok (.iaload, 1) := dTX6_haunt_1_ok 10 (103, .iaload, 1) rfl
theorem dX6_haunt_104 : decode cX6_haunt 104 = .ok (.iconst 1, 1) := dTX6_haunt_1_ok 11 (104, .iconst 1, 1) rfl
theorem dX6_haunt_105 : decode cX6_haunt 105 = .ok (.iadd, 1) := dTX6_haunt_1_ok 12 (105, .iadd, 1) rfl
theorem dX6_haunt_106 : decode cX6_haunt 106 = .ok (.iastore, 1) := dTX6_haunt_1_ok 13 (106, .iastore, 1) rfl
theorem dX6_haunt_107 : decode cX6_haunt 107 = .ok (.return_, 1) := dTX6_haunt_1_ok 14 (107, .return_, 1) rfl
noncomputable def dTX6_hourOn_0 : List (Nat × Instr × Nat) := [(0, .iconst 0, 1), (1, .istore_n 1, 1), (2, .iload_n 1, 1), (3, .bipush 63, 2), (5, .if_icmp .ge 47, 3), (8, .aload_n 0, 1), (9, .getfield 23, 3), (12, .iload_n 1, 1), (13, .iaload, 1), (14, .ifCond .ne 6, 3), (17, .goto 29, 3), (20, .aload_n 0, 1), (21, .getfield 20, 3), (24, .iload_n 1, 1), (25, .dup2, 1), (26, .iaload, 1), (27, .iconst 1, 1), (28, .isub, 1), (29, .iastore, 1), (30, .aload_n 0, 1), (31, .getfield 20, 3), (34, .iload_n 1, 1), (35, .iaload, 1), (36, .ifCond .ne 10, 3), (39, .aload_n 0, 1), (40, .getfield 23, 3), (43, .iload_n 1, 1), (44, .iconst 0, 1), (45, .iastore, 1), (46, .iinc 1 1, 3), (49, .goto (-47), 3), (52, .iconst 0, 1), (53, .istore_n 1, 1), (54, .iload_n 1, 1), (55, .aload_n 0, 1), (56, .getfield 49, 3), (59, .if_icmp .ge 34, 3), (62, .aload_n 0, 1), (63, .iload_n 1, 1), (64, .iconst 1, 1), (65, .invokevirtual 95, 3), (68, .istore_n 2, 1), (69, .iload_n 2, 1), (70, .ifCond .le 17, 3), (73, .aload_n 0, 1), (74, .iload_n 1, 1), (75, .invokevirtual 139, 3), (78, .ifCond .eq 9, 3), (81, .iinc 2 (-1), 3), (84, .goto (-15), 3), (87, .iinc 1 1, 3), (90, .goto (-36), 3), (93, .aload_n 0, 1), (94, .invokevirtual 89, 3), (97, .iconst 0, 1), (98, .istore_n 1, 1), (99, .iload_n 1, 1), (100, .aload_n 0, 1), (101, .getfield 49, 3), (104, .if_icmp .ge 14, 3)]
theorem dTX6_hourOn_0_ok : ∀ (k : Nat) (q : Nat × Instr × Nat), dTX6_hourOn_0[k]? = some q → decode cX6_hourOn q.1 = .ok q.2 := dT_of (by decide +kernel)
theorem dX6_hourOn_0 : decode cX6_hourOn 0 = .ok (.iconst 0, 1) := dTX6_hourOn_0_ok 0 (0, .iconst 0, 1) rfl
theorem dX6_hourOn_1 : decode cX6_hourOn 1 = .ok (.istore_n 1, 1) := dTX6_hourOn_0_ok 1 (1, .istore_n 1, 1) rfl
theorem dX6_hourOn_2 : decode cX6_hourOn 2 = .ok (.iload_n 1, 1) := dTX6_hourOn_0_ok 2 (2, .iload_n 1, 1) rfl
theorem dX6_hourOn_3 : decode cX6_hourOn 3 = .ok (.bipush 63, 2) := dTX6_hourOn_0_ok 3 (3, .bipush 63, 2) rfl
theorem dX6_hourOn_5 : decode cX6_hourOn 5 = .ok (.if_icmp .ge 47, 3) := dTX6_hourOn_0_ok 4 (5, .if_icmp .ge 47, 3) rfl
theorem dX6_hourOn_8 : decode cX6_hourOn 8 = .ok (.aload_n 0, 1) := dTX6_hourOn_0_ok 5 (8, .aload_n 0, 1) rfl
theorem dX6_hourOn_9 : decode cX6_hourOn 9 = .ok (.getfield 23, 3) := dTX6_hourOn_0_ok 6 (9, .getfield 23, 3) rfl
theorem dX6_hourOn_12 : decode cX6_hourOn 12 = .ok (.iload_n 1, 1) := dTX6_hourOn_0_ok 7 (12, .iload_n 1, 1) rfl
theorem dX6_hourOn_13 : decode cX6_hourOn 13 = .ok (.iaload, 1) := dTX6_hourOn_0_ok 8 (13, .iaload, 1) rfl
theorem dX6_hourOn_14 : decode cX6_hourOn 14 = .ok (.ifCond .ne 6, 3) := dTX6_hourOn_0_ok 9 (14, .ifCond .ne 6, 3) rfl
theorem dX6_hourOn_17 : decode cX6_hourOn 17 = .ok (.goto 29, 3) := dTX6_hourOn_0_ok 10 (17, .goto 29, 3) rfl
theorem dX6_hourOn_20 : decode cX6_hourOn 20 = .ok (.aload_n 0, 1) := dTX6_hourOn_0_ok 11 (20, .aload_n 0, 1) rfl
theorem dX6_hourOn_21 : decode cX6_hourOn 21 = .ok (.getfield 20, 3) := dTX6_hourOn_0_ok 12 (21, .getfield 20, 3) rfl
theorem dX6_hourOn_24 : decode cX6_hourOn 24 = .ok (.iload_n 1, 1) := dTX6_hourOn_0_ok 13 (24, .iload_n 1, 1) rfl
theorem dX6_hourOn_25 : decode cX6_hourOn 25 = .ok (.dup2, 1) := dTX6_hourOn_0_ok 14 (25, .dup2, 1) rfl
theorem dX6_hourOn_26 : decode cX6_hourOn 26 = .ok (.iaload, 1) := dTX6_hourOn_0_ok 15 (26, .iaload, 1) rfl
theorem dX6_hourOn_27 : decode cX6_hourOn 27 = .ok (.iconst 1, 1) := dTX6_hourOn_0_ok 16 (27, .iconst 1, 1) rfl
theorem dX6_hourOn_28 : decode cX6_hourOn 28 = .ok (.isub, 1) := dTX6_hourOn_0_ok 17 (28, .isub, 1) rfl
theorem dX6_hourOn_29 : decode cX6_hourOn 29 = .ok (.iastore, 1) := dTX6_hourOn_0_ok 18 (29, .iastore, 1) rfl
theorem dX6_hourOn_30 : decode cX6_hourOn 30 = .ok (.aload_n 0, 1) := dTX6_hourOn_0_ok 19 (30, .aload_n 0, 1) rfl
theorem dX6_hourOn_31 : decode cX6_hourOn 31 = .ok (.getfield 20, 3) := dTX6_hourOn_0_ok 20 (31, .getfield 20, 3) rfl
theorem dX6_hourOn_34 : decode cX6_hourOn 34 = .ok (.iload_n 1, 1) := dTX6_hourOn_0_ok 21 (34, .iload_n 1, 1) rfl
theorem dX6_hourOn_35 : decode cX6_hourOn 35 = .ok (.iaload, 1) := dTX6_hourOn_0_ok 22 (35, .iaload, 1) rfl
theorem dX6_hourOn_36 : decode cX6_hourOn 36 = .ok (.ifCond .ne 10, 3) := dTX6_hourOn_0_ok 23 (36, .ifCond .ne 10, 3) rfl
theorem dX6_hourOn_39 : decode cX6_hourOn 39 = .ok (.aload_n 0, 1) := dTX6_hourOn_0_ok 24 (39, .aload_n 0, 1) rfl
theorem dX6_hourOn_40 : decode cX6_hourOn 40 = .ok (.getfield 23, 3) := dTX6_hourOn_0_ok 25 (40, .getfield 23, 3) rfl
theorem dX6_hourOn_43 : decode cX6_hourOn 43 = .ok (.iload_n 1, 1) := dTX6_hourOn_0_ok 26 (43, .iload_n 1, 1) rfl
theorem dX6_hourOn_44 : decode cX6_hourOn 44 = .ok (.iconst 0, 1) := dTX6_hourOn_0_ok 27 (44, .iconst 0, 1) rfl
theorem dX6_hourOn_45 : decode cX6_hourOn 45 = .ok (.iastore, 1) := dTX6_hourOn_0_ok 28 (45, .iastore, 1) rfl
theorem dX6_hourOn_46 : decode cX6_hourOn 46 = .ok (.iinc 1 1, 3) := dTX6_hourOn_0_ok 29 (46, .iinc 1 1, 3) rfl
theorem dX6_hourOn_49 : decode cX6_hourOn 49 = .ok (.goto (-47), 3) := dTX6_hourOn_0_ok 30 (49, .goto (-47), 3) rfl
theorem dX6_hourOn_52 : decode cX6_hourOn 52 = .ok (.iconst 0, 1) := dTX6_hourOn_0_ok 31 (52, .iconst 0, 1) rfl
theorem dX6_hourOn_53 : decode cX6_hourOn 53 = .ok (.istore_n 1, 1) := dTX6_hourOn_0_ok 32 (53, .istore_n 1, 1) rfl
theorem dX6_hourOn_54 : decode cX6_hourOn 54 = .ok (.iload_n 1, 1) := dTX6_hourOn_0_ok 33 (54, .iload_n 1, 1) rfl
theorem dX6_hourOn_55 : decode cX6_hourOn 55 = .ok (.aload_n 0, 1) := dTX6_hourOn_0_ok 34 (55, .aload_n 0, 1) rfl
theorem dX6_hourOn_56 : decode cX6_hourOn 56 = .ok (.getfield 49, 3) := dTX6_hourOn_0_ok 35 (56, .getfield 49, 3) rfl
theorem dX6_hourOn_59 : decode cX6_hourOn 59 = .ok (.if_icmp .ge 34, 3) := dTX6_hourOn_0_ok 36 (59, .if_icmp .ge 34, 3) rfl
theorem dX6_hourOn_62 : decode cX6_hourOn 62 = .ok (.aload_n 0, 1) := dTX6_hourOn_0_ok 37 (62, .aload_n 0, 1) rfl
theorem dX6_hourOn_63 : decode cX6_hourOn 63 = .ok (.iload_n 1, 1) := dTX6_hourOn_0_ok 38 (63, .iload_n 1, 1) rfl
theorem dX6_hourOn_64 : decode cX6_hourOn 64 = .ok (.iconst 1, 1) := dTX6_hourOn_0_ok 39 (64, .iconst 1, 1) rfl
theorem dX6_hourOn_65 : decode cX6_hourOn 65 = .ok (.invokevirtual 95, 3) := dTX6_hourOn_0_ok 40 (65, .invokevirtual 95, 3) rfl
theorem dX6_hourOn_68 : decode cX6_hourOn 68 = .ok (.istore_n 2, 1) := dTX6_hourOn_0_ok 41 (68, .istore_n 2, 1) rfl
theorem dX6_hourOn_69 : decode cX6_hourOn 69 = .ok (.iload_n 2, 1) := dTX6_hourOn_0_ok 42 (69, .iload_n 2, 1) rfl
theorem dX6_hourOn_70 : decode cX6_hourOn 70 = .ok (.ifCond .le 17, 3) := dTX6_hourOn_0_ok 43 (70, .ifCond .le 17, 3) rfl
theorem dX6_hourOn_73 : decode cX6_hourOn 73 = .ok (.aload_n 0, 1) := dTX6_hourOn_0_ok 44 (73, .aload_n 0, 1) rfl
theorem dX6_hourOn_74 : decode cX6_hourOn 74 = .ok (.iload_n 1, 1) := dTX6_hourOn_0_ok 45 (74, .iload_n 1, 1) rfl
theorem dX6_hourOn_75 : decode cX6_hourOn 75 = .ok (.invokevirtual 139, 3) := dTX6_hourOn_0_ok 46 (75, .invokevirtual 139, 3) rfl
theorem dX6_hourOn_78 : decode cX6_hourOn 78 = .ok (.ifCond .eq 9, 3) := dTX6_hourOn_0_ok 47 (78, .ifCond .eq 9, 3) rfl
theorem dX6_hourOn_81 : decode cX6_hourOn 81 = .ok (.iinc 2 (-1), 3) := dTX6_hourOn_0_ok 48 (81, .iinc 2 (-1), 3) rfl
theorem dX6_hourOn_84 : decode cX6_hourOn 84 = .ok (.goto (-15), 3) := dTX6_hourOn_0_ok 49 (84, .goto (-15), 3) rfl
theorem dX6_hourOn_87 : decode cX6_hourOn 87 = .ok (.iinc 1 1, 3) := dTX6_hourOn_0_ok 50 (87, .iinc 1 1, 3) rfl
theorem dX6_hourOn_90 : decode cX6_hourOn 90 = .ok (.goto (-36), 3) := dTX6_hourOn_0_ok 51 (90, .goto (-36), 3) rfl
theorem dX6_hourOn_93 : decode cX6_hourOn 93 = .ok (.aload_n 0, 1) := dTX6_hourOn_0_ok 52 (93, .aload_n 0, 1) rfl
theorem dX6_hourOn_94 : decode cX6_hourOn 94 = .ok (.invokevirtual 89, 3) := dTX6_hourOn_0_ok 53 (94, .invokevirtual 89, 3) rfl
theorem dX6_hourOn_97 : decode cX6_hourOn 97 = .ok (.iconst 0, 1) := dTX6_hourOn_0_ok 54 (97, .iconst 0, 1) rfl
theorem dX6_hourOn_98 : decode cX6_hourOn 98 = .ok (.istore_n 1, 1) := dTX6_hourOn_0_ok 55 (98, .istore_n 1, 1) rfl
theorem dX6_hourOn_99 : decode cX6_hourOn 99 = .ok (.iload_n 1, 1) := dTX6_hourOn_0_ok 56 (99, .iload_n 1, 1) rfl
theorem dX6_hourOn_100 : decode cX6_hourOn 100 = .ok (.aload_n 0, 1) := dTX6_hourOn_0_ok 57 (100, .aload_n 0, 1) rfl
theorem dX6_hourOn_101 : decode cX6_hourOn 101 = .ok (.getfield 49, 3) := dTX6_hourOn_0_ok 58 (101, .getfield 49, 3) rfl
theorem dX6_hourOn_104 : decode cX6_hourOn 104 = .ok (.if_icmp .ge 14, 3) := dTX6_hourOn_0_ok 59 (104, .if_icmp .ge 14, 3) rfl
noncomputable def dTX6_hourOn_1 : List (Nat × Instr × Nat) := [(107, .aload_n 0, 1), (108, .iload_n 1, 1), (109, .invokevirtual 142, 3), (112, .iinc 1 1, 3), (115, .goto (-16), 3), (118, .aload_n 0, 1), (119, .getfield 29, 3), (122, .iconst 0, 1), (123, .dup2, 1), (124, .iaload, 1), (125, .iconst 1, 1), (126, .iadd, 1), (127, .iastore, 1), (128, .return_, 1)]
theorem dTX6_hourOn_1_ok : ∀ (k : Nat) (q : Nat × Instr × Nat), dTX6_hourOn_1[k]? = some q → decode cX6_hourOn q.1 = .ok q.2 := dT_of (by decide +kernel)
theorem dX6_hourOn_107 : decode cX6_hourOn 107 = .ok (.aload_n 0, 1) := dTX6_hourOn_1_ok 0 (107, .aload_n 0, 1) rfl
theorem dX6_hourOn_108 : decode cX6_hourOn 108 = .ok (.iload_n 1, 1) := dTX6_hourOn_1_ok 1 (108, .iload_n 1, 1) rfl
theorem dX6_hourOn_109 : decode cX6_hourOn 109 = .ok (.invokevirtual 142, 3) := dTX6_hourOn_1_ok 2 (109, .invokevirtual 142, 3) rfl
theorem dX6_hourOn_112 : decode cX6_hourOn 112 = .ok (.iinc 1 1, 3) := dTX6_hourOn_1_ok 3 (112, .iinc 1 1, 3) rfl
theorem dX6_hourOn_115 : decode cX6_hourOn 115 = .ok (.goto (-16), 3) := dTX6_hourOn_1_ok 4 (115, .goto (-16), 3) rfl
theorem dX6_hourOn_118 : decode cX6_hourOn 118 = .ok (.aload_n 0, 1) := dTX6_hourOn_1_ok 5 (118, .aload_n 0, 1) rfl
theorem dX6_hourOn_119 : decode cX6_hourOn 119 = .ok (.getfield 29, 3) := dTX6_hourOn_1_ok 6 (119, .getfield 29, 3) rfl
theorem dX6_hourOn_122 : decode cX6_hourOn 122 = .ok (.iconst 0, 1) := dTX6_hourOn_1_ok 7 (122, .iconst 0, 1) rfl
theorem dX6_hourOn_123 : decode cX6_hourOn 123 = .ok (.dup2, 1) := dTX6_hourOn_1_ok 8 (123, .dup2, 1) rfl
theorem dX6_hourOn_124 : decode cX6_hourOn 124 = .ok (.iaload, 1) := dTX6_hourOn_1_ok 9 (124, .iaload, 1) rfl
theorem dX6_hourOn_125 : decode cX6_hourOn 125 = .ok (.iconst 1, 1) := dTX6_hourOn_1_ok 10 (125, .iconst 1, 1) rfl
theorem dX6_hourOn_126 : decode cX6_hourOn 126 = .ok (.iadd, 1) := dTX6_hourOn_1_ok 11 (126, .iadd, 1) rfl
theorem dX6_hourOn_127 : decode cX6_hourOn 127 = .ok (.iastore, 1) := dTX6_hourOn_1_ok 12 (127, .iastore, 1) rfl
theorem dX6_hourOn_128 : decode cX6_hourOn 128 = .ok (.return_, 1) := dTX6_hourOn_1_ok 13 (128, .return_, 1) rfl
noncomputable def dTX6_hoursOn_0 : List (Nat × Instr × Nat) := [(0, .iconst 0, 1), (1, .istore_n 2, 1), (2, .iload_n 2, 1), (3, .iload_n 1, 1), (4, .if_icmp .ge 13, 3), (7, .aload_n 0, 1), (8, .invokevirtual 145, 3), (11, .iinc 2 1, 3), (14, .goto (-12), 3), (17, .return_, 1)]
theorem dTX6_hoursOn_0_ok : ∀ (k : Nat) (q : Nat × Instr × Nat), dTX6_hoursOn_0[k]? = some q → decode cX6_hoursOn q.1 = .ok q.2 := dT_of (by decide +kernel)
theorem dX6_hoursOn_0 : decode cX6_hoursOn 0 = .ok (.iconst 0, 1) := dTX6_hoursOn_0_ok 0 (0, .iconst 0, 1) rfl
theorem dX6_hoursOn_1 : decode cX6_hoursOn 1 = .ok (.istore_n 2, 1) := dTX6_hoursOn_0_ok 1 (1, .istore_n 2, 1) rfl
theorem dX6_hoursOn_2 : decode cX6_hoursOn 2 = .ok (.iload_n 2, 1) := dTX6_hoursOn_0_ok 2 (2, .iload_n 2, 1) rfl
theorem dX6_hoursOn_3 : decode cX6_hoursOn 3 = .ok (.iload_n 1, 1) := dTX6_hoursOn_0_ok 3 (3, .iload_n 1, 1) rfl
theorem dX6_hoursOn_4 : decode cX6_hoursOn 4 = .ok (.if_icmp .ge 13, 3) := dTX6_hoursOn_0_ok 4 (4, .if_icmp .ge 13, 3) rfl
theorem dX6_hoursOn_7 : decode cX6_hoursOn 7 = .ok (.aload_n 0, 1) := dTX6_hoursOn_0_ok 5 (7, .aload_n 0, 1) rfl
theorem dX6_hoursOn_8 : decode cX6_hoursOn 8 = .ok (.invokevirtual 145, 3) := dTX6_hoursOn_0_ok 6 (8, .invokevirtual 145, 3) rfl
theorem dX6_hoursOn_11 : decode cX6_hoursOn 11 = .ok (.iinc 2 1, 3) := dTX6_hoursOn_0_ok 7 (11, .iinc 2 1, 3) rfl
theorem dX6_hoursOn_14 : decode cX6_hoursOn 14 = .ok (.goto (-12), 3) := dTX6_hoursOn_0_ok 8 (14, .goto (-12), 3) rfl
theorem dX6_hoursOn_17 : decode cX6_hoursOn 17 = .ok (.return_, 1) := dTX6_hoursOn_0_ok 9 (17, .return_, 1) rfl
noncomputable def dTX6_pass_0 : List (Nat × Instr × Nat) := [(0, .aload_n 0, 1), (1, .iconst 0, 1), (2, .putfield 41, 3), (5, .iload_n 1, 1), (6, .iconst 1, 1), (7, .bipush 40, 2), (9, .invokestatic 45, 3), (12, .ifCond .ne 9, 3), (15, .aload_n 0, 1), (16, .iconst 1, 1), (17, .invokevirtual 62, 3), (20, .ireturn, 1), (21, .aload_n 0, 1), (22, .getfield 29, 3), (25, .iconst 1, 1), (26, .iaload, 1), (27, .istore_n 2, 1), (28, .aload_n 0, 1), (29, .iload_n 1, 1), (30, .invokevirtual 148, 3), (33, .aload_n 0, 1), (34, .getfield 29, 3), (37, .iconst 1, 1), (38, .iaload, 1), (39, .iload_n 2, 1), (40, .isub, 1), (41, .ireturn, 1)]
theorem dTX6_pass_0_ok : ∀ (k : Nat) (q : Nat × Instr × Nat), dTX6_pass_0[k]? = some q → decode cX6_pass q.1 = .ok q.2 := dT_of (by decide +kernel)
theorem dX6_pass_0 : decode cX6_pass 0 = .ok (.aload_n 0, 1) := dTX6_pass_0_ok 0 (0, .aload_n 0, 1) rfl
theorem dX6_pass_1 : decode cX6_pass 1 = .ok (.iconst 0, 1) := dTX6_pass_0_ok 1 (1, .iconst 0, 1) rfl
theorem dX6_pass_2 : decode cX6_pass 2 = .ok (.putfield 41, 3) := dTX6_pass_0_ok 2 (2, .putfield 41, 3) rfl
theorem dX6_pass_5 : decode cX6_pass 5 = .ok (.iload_n 1, 1) := dTX6_pass_0_ok 3 (5, .iload_n 1, 1) rfl
theorem dX6_pass_6 : decode cX6_pass 6 = .ok (.iconst 1, 1) := dTX6_pass_0_ok 4 (6, .iconst 1, 1) rfl
theorem dX6_pass_7 : decode cX6_pass 7 = .ok (.bipush 40, 2) := dTX6_pass_0_ok 5 (7, .bipush 40, 2) rfl
theorem dX6_pass_9 : decode cX6_pass 9 = .ok (.invokestatic 45, 3) := dTX6_pass_0_ok 6 (9, .invokestatic 45, 3) rfl
theorem dX6_pass_12 : decode cX6_pass 12 = .ok (.ifCond .ne 9, 3) := dTX6_pass_0_ok 7 (12, .ifCond .ne 9, 3) rfl
theorem dX6_pass_15 : decode cX6_pass 15 = .ok (.aload_n 0, 1) := dTX6_pass_0_ok 8 (15, .aload_n 0, 1) rfl
theorem dX6_pass_16 : decode cX6_pass 16 = .ok (.iconst 1, 1) := dTX6_pass_0_ok 9 (16, .iconst 1, 1) rfl
theorem dX6_pass_17 : decode cX6_pass 17 = .ok (.invokevirtual 62, 3) := dTX6_pass_0_ok 10 (17, .invokevirtual 62, 3) rfl
theorem dX6_pass_20 : decode cX6_pass 20 = .ok (.ireturn, 1) := dTX6_pass_0_ok 11 (20, .ireturn, 1) rfl
theorem dX6_pass_21 : decode cX6_pass 21 = .ok (.aload_n 0, 1) := dTX6_pass_0_ok 12 (21, .aload_n 0, 1) rfl
theorem dX6_pass_22 : decode cX6_pass 22 = .ok (.getfield 29, 3) := dTX6_pass_0_ok 13 (22, .getfield 29, 3) rfl
theorem dX6_pass_25 : decode cX6_pass 25 = .ok (.iconst 1, 1) := dTX6_pass_0_ok 14 (25, .iconst 1, 1) rfl
theorem dX6_pass_26 : decode cX6_pass 26 = .ok (.iaload, 1) := dTX6_pass_0_ok 15 (26, .iaload, 1) rfl
theorem dX6_pass_27 : decode cX6_pass 27 = .ok (.istore_n 2, 1) := dTX6_pass_0_ok 16 (27, .istore_n 2, 1) rfl
theorem dX6_pass_28 : decode cX6_pass 28 = .ok (.aload_n 0, 1) := dTX6_pass_0_ok 17 (28, .aload_n 0, 1) rfl
theorem dX6_pass_29 : decode cX6_pass 29 = .ok (.iload_n 1, 1) := dTX6_pass_0_ok 18 (29, .iload_n 1, 1) rfl
theorem dX6_pass_30 : decode cX6_pass 30 = .ok (.invokevirtual 148, 3) := dTX6_pass_0_ok 19 (30, .invokevirtual 148, 3) rfl
theorem dX6_pass_33 : decode cX6_pass 33 = .ok (.aload_n 0, 1) := dTX6_pass_0_ok 20 (33, .aload_n 0, 1) rfl
theorem dX6_pass_34 : decode cX6_pass 34 = .ok (.getfield 29, 3) := dTX6_pass_0_ok 21 (34, .getfield 29, 3) rfl
theorem dX6_pass_37 : decode cX6_pass 37 = .ok (.iconst 1, 1) := dTX6_pass_0_ok 22 (37, .iconst 1, 1) rfl
theorem dX6_pass_38 : decode cX6_pass 38 = .ok (.iaload, 1) := dTX6_pass_0_ok 23 (38, .iaload, 1) rfl
theorem dX6_pass_39 : decode cX6_pass 39 = .ok (.iload_n 2, 1) := dTX6_pass_0_ok 24 (39, .iload_n 2, 1) rfl
theorem dX6_pass_40 : decode cX6_pass 40 = .ok (.isub, 1) := dTX6_pass_0_ok 25 (40, .isub, 1) rfl
theorem dX6_pass_41 : decode cX6_pass 41 = .ok (.ireturn, 1) := dTX6_pass_0_ok 26 (41, .ireturn, 1) rfl
noncomputable def dTX6_kept_0 : List (Nat × Instr × Nat) := [(0, .iconst 4, 1), (1, .anewarray 151, 3), (4, .dup, 1), (5, .iconst 0, 1), (6, .aload_n 0, 1), (7, .getfield 20, 3), (10, .invokevirtual 152, 3), (13, .checkcast 151, 3), (16, .aastore, 1), (17, .dup, 1), (18, .iconst 1, 1), (19, .aload_n 0, 1), (20, .getfield 23, 3), (23, .invokevirtual 152, 3), (26, .checkcast 151, 3), (29, .aastore, 1), (30, .dup, 1), (31, .iconst 2, 1), (32, .aload_n 0, 1), (33, .getfield 26, 3), (36, .invokevirtual 152, 3), (39, .checkcast 151, 3), (42, .aastore, 1), (43, .dup, 1), (44, .iconst 3, 1), (45, .aload_n 0, 1), (46, .getfield 29, 3), (49, .invokevirtual 152, 3), (52, .checkcast 151, 3), (55, .aastore, 1), (56, .areturn, 1)]
theorem dTX6_kept_0_ok : ∀ (k : Nat) (q : Nat × Instr × Nat), dTX6_kept_0[k]? = some q → decode cX6_kept q.1 = .ok q.2 := dT_of (by decide +kernel)
theorem dX6_kept_0 : decode cX6_kept 0 = .ok (.iconst 4, 1) := dTX6_kept_0_ok 0 (0, .iconst 4, 1) rfl
theorem dX6_kept_1 : decode cX6_kept 1 = .ok (.anewarray 151, 3) := dTX6_kept_0_ok 1 (1, .anewarray 151, 3) rfl
theorem dX6_kept_4 : decode cX6_kept 4 = .ok (.dup, 1) := dTX6_kept_0_ok 2 (4, .dup, 1) rfl
theorem dX6_kept_5 : decode cX6_kept 5 = .ok (.iconst 0, 1) := dTX6_kept_0_ok 3 (5, .iconst 0, 1) rfl
theorem dX6_kept_6 : decode cX6_kept 6 = .ok (.aload_n 0, 1) := dTX6_kept_0_ok 4 (6, .aload_n 0, 1) rfl
theorem dX6_kept_7 : decode cX6_kept 7 = .ok (.getfield 20, 3) := dTX6_kept_0_ok 5 (7, .getfield 20, 3) rfl
theorem dX6_kept_10 : decode cX6_kept 10 = .ok (.invokevirtual 152, 3) := dTX6_kept_0_ok 6 (10, .invokevirtual 152, 3) rfl
theorem dX6_kept_13 : decode cX6_kept 13 = .ok (.checkcast 151, 3) := dTX6_kept_0_ok 7 (13, .checkcast 151, 3) rfl
theorem dX6_kept_16 : decode cX6_kept 16 = .ok (.aastore, 1) := dTX6_kept_0_ok 8 (16, .aastore, 1) rfl
theorem dX6_kept_17 : decode cX6_kept 17 = .ok (.dup, 1) := dTX6_kept_0_ok 9 (17, .dup, 1) rfl
theorem dX6_kept_18 : decode cX6_kept 18 = .ok (.iconst 1, 1) := dTX6_kept_0_ok 10 (18, .iconst 1, 1) rfl
theorem dX6_kept_19 : decode cX6_kept 19 = .ok (.aload_n 0, 1) := dTX6_kept_0_ok 11 (19, .aload_n 0, 1) rfl
theorem dX6_kept_20 : decode cX6_kept 20 = .ok (.getfield 23, 3) := dTX6_kept_0_ok 12 (20, .getfield 23, 3) rfl
theorem dX6_kept_23 : decode cX6_kept 23 = .ok (.invokevirtual 152, 3) := dTX6_kept_0_ok 13 (23, .invokevirtual 152, 3) rfl
theorem dX6_kept_26 : decode cX6_kept 26 = .ok (.checkcast 151, 3) := dTX6_kept_0_ok 14 (26, .checkcast 151, 3) rfl
theorem dX6_kept_29 : decode cX6_kept 29 = .ok (.aastore, 1) := dTX6_kept_0_ok 15 (29, .aastore, 1) rfl
theorem dX6_kept_30 : decode cX6_kept 30 = .ok (.dup, 1) := dTX6_kept_0_ok 16 (30, .dup, 1) rfl
theorem dX6_kept_31 : decode cX6_kept 31 = .ok (.iconst 2, 1) := dTX6_kept_0_ok 17 (31, .iconst 2, 1) rfl
theorem dX6_kept_32 : decode cX6_kept 32 = .ok (.aload_n 0, 1) := dTX6_kept_0_ok 18 (32, .aload_n 0, 1) rfl
theorem dX6_kept_33 : decode cX6_kept 33 = .ok (.getfield 26, 3) := dTX6_kept_0_ok 19 (33, .getfield 26, 3) rfl
theorem dX6_kept_36 : decode cX6_kept 36 = .ok (.invokevirtual 152, 3) := dTX6_kept_0_ok 20 (36, .invokevirtual 152, 3) rfl
theorem dX6_kept_39 : decode cX6_kept 39 = .ok (.checkcast 151, 3) := dTX6_kept_0_ok 21 (39, .checkcast 151, 3) rfl
theorem dX6_kept_42 : decode cX6_kept 42 = .ok (.aastore, 1) := dTX6_kept_0_ok 22 (42, .aastore, 1) rfl
theorem dX6_kept_43 : decode cX6_kept 43 = .ok (.dup, 1) := dTX6_kept_0_ok 23 (43, .dup, 1) rfl
theorem dX6_kept_44 : decode cX6_kept 44 = .ok (.iconst 3, 1) := dTX6_kept_0_ok 24 (44, .iconst 3, 1) rfl
theorem dX6_kept_45 : decode cX6_kept 45 = .ok (.aload_n 0, 1) := dTX6_kept_0_ok 25 (45, .aload_n 0, 1) rfl
theorem dX6_kept_46 : decode cX6_kept 46 = .ok (.getfield 29, 3) := dTX6_kept_0_ok 26 (46, .getfield 29, 3) rfl
theorem dX6_kept_49 : decode cX6_kept 49 = .ok (.invokevirtual 152, 3) := dTX6_kept_0_ok 27 (49, .invokevirtual 152, 3) rfl
theorem dX6_kept_52 : decode cX6_kept 52 = .ok (.checkcast 151, 3) := dTX6_kept_0_ok 28 (52, .checkcast 151, 3) rfl
theorem dX6_kept_55 : decode cX6_kept 55 = .ok (.aastore, 1) := dTX6_kept_0_ok 29 (55, .aastore, 1) rfl
theorem dX6_kept_56 : decode cX6_kept 56 = .ok (.areturn, 1) := dTX6_kept_0_ok 30 (56, .areturn, 1) rfl
noncomputable def dTX6_bringBack_0 : List (Nat × Instr × Nat) := [(0, .iconst 4, 1), (1, .anewarray 151, 3), (4, .dup, 1), (5, .iconst 0, 1), (6, .aload_n 0, 1), (7, .getfield 20, 3), (10, .aastore, 1), (11, .dup, 1), (12, .iconst 1, 1), (13, .aload_n 0, 1), (14, .getfield 23, 3), (17, .aastore, 1), (18, .dup, 1), (19, .iconst 2, 1), (20, .aload_n 0, 1), (21, .getfield 26, 3), (24, .aastore, 1), (25, .dup, 1), (26, .iconst 3, 1), (27, .aload_n 0, 1), (28, .getfield 29, 3), (31, .aastore, 1), (32, .astore_n 2, 1), (33, .iconst 0, 1), (34, .istore_n 3, 1), (35, .iload_n 3, 1), (36, .aload_n 2, 1), (37, .arraylength, 1), (38, .if_icmp .ge 24, 3), (41, .aload_n 1, 1), (42, .iload_n 3, 1), (43, .aaload, 1), (44, .iconst 0, 1), (45, .aload_n 2, 1), (46, .iload_n 3, 1), (47, .aaload, 1), (48, .iconst 0, 1), (49, .aload_n 2, 1), (50, .iload_n 3, 1), (51, .aaload, 1), (52, .arraylength, 1), (53, .invokestatic 111, 3), (56, .iinc 3 1, 3), (59, .goto (-24), 3), (62, .return_, 1)]
theorem dTX6_bringBack_0_ok : ∀ (k : Nat) (q : Nat × Instr × Nat), dTX6_bringBack_0[k]? = some q → decode cX6_bringBack q.1 = .ok q.2 := dT_of (by decide +kernel)
theorem dX6_bringBack_0 : decode cX6_bringBack 0 = .ok (.iconst 4, 1) := dTX6_bringBack_0_ok 0 (0, .iconst 4, 1) rfl
theorem dX6_bringBack_1 : decode cX6_bringBack 1 = .ok (.anewarray 151, 3) := dTX6_bringBack_0_ok 1 (1, .anewarray 151, 3) rfl
theorem dX6_bringBack_4 : decode cX6_bringBack 4 = .ok (.dup, 1) := dTX6_bringBack_0_ok 2 (4, .dup, 1) rfl
theorem dX6_bringBack_5 : decode cX6_bringBack 5 = .ok (.iconst 0, 1) := dTX6_bringBack_0_ok 3 (5, .iconst 0, 1) rfl
theorem dX6_bringBack_6 : decode cX6_bringBack 6 = .ok (.aload_n 0, 1) := dTX6_bringBack_0_ok 4 (6, .aload_n 0, 1) rfl
theorem dX6_bringBack_7 : decode cX6_bringBack 7 = .ok (.getfield 20, 3) := dTX6_bringBack_0_ok 5 (7, .getfield 20, 3) rfl
theorem dX6_bringBack_10 : decode cX6_bringBack 10 = .ok (.aastore, 1) := dTX6_bringBack_0_ok 6 (10, .aastore, 1) rfl
theorem dX6_bringBack_11 : decode cX6_bringBack 11 = .ok (.dup, 1) := dTX6_bringBack_0_ok 7 (11, .dup, 1) rfl
theorem dX6_bringBack_12 : decode cX6_bringBack 12 = .ok (.iconst 1, 1) := dTX6_bringBack_0_ok 8 (12, .iconst 1, 1) rfl
theorem dX6_bringBack_13 : decode cX6_bringBack 13 = .ok (.aload_n 0, 1) := dTX6_bringBack_0_ok 9 (13, .aload_n 0, 1) rfl
theorem dX6_bringBack_14 : decode cX6_bringBack 14 = .ok (.getfield 23, 3) := dTX6_bringBack_0_ok 10 (14, .getfield 23, 3) rfl
theorem dX6_bringBack_17 : decode cX6_bringBack 17 = .ok (.aastore, 1) := dTX6_bringBack_0_ok 11 (17, .aastore, 1) rfl
theorem dX6_bringBack_18 : decode cX6_bringBack 18 = .ok (.dup, 1) := dTX6_bringBack_0_ok 12 (18, .dup, 1) rfl
theorem dX6_bringBack_19 : decode cX6_bringBack 19 = .ok (.iconst 2, 1) := dTX6_bringBack_0_ok 13 (19, .iconst 2, 1) rfl
theorem dX6_bringBack_20 : decode cX6_bringBack 20 = .ok (.aload_n 0, 1) := dTX6_bringBack_0_ok 14 (20, .aload_n 0, 1) rfl
theorem dX6_bringBack_21 : decode cX6_bringBack 21 = .ok (.getfield 26, 3) := dTX6_bringBack_0_ok 15 (21, .getfield 26, 3) rfl
theorem dX6_bringBack_24 : decode cX6_bringBack 24 = .ok (.aastore, 1) := dTX6_bringBack_0_ok 16 (24, .aastore, 1) rfl
theorem dX6_bringBack_25 : decode cX6_bringBack 25 = .ok (.dup, 1) := dTX6_bringBack_0_ok 17 (25, .dup, 1) rfl
theorem dX6_bringBack_26 : decode cX6_bringBack 26 = .ok (.iconst 3, 1) := dTX6_bringBack_0_ok 18 (26, .iconst 3, 1) rfl
theorem dX6_bringBack_27 : decode cX6_bringBack 27 = .ok (.aload_n 0, 1) := dTX6_bringBack_0_ok 19 (27, .aload_n 0, 1) rfl
theorem dX6_bringBack_28 : decode cX6_bringBack 28 = .ok (.getfield 29, 3) := dTX6_bringBack_0_ok 20 (28, .getfield 29, 3) rfl
theorem dX6_bringBack_31 : decode cX6_bringBack 31 = .ok (.aastore, 1) := dTX6_bringBack_0_ok 21 (31, .aastore, 1) rfl
theorem dX6_bringBack_32 : decode cX6_bringBack 32 = .ok (.astore_n 2, 1) := dTX6_bringBack_0_ok 22 (32, .astore_n 2, 1) rfl
theorem dX6_bringBack_33 : decode cX6_bringBack 33 = .ok (.iconst 0, 1) := dTX6_bringBack_0_ok 23 (33, .iconst 0, 1) rfl
theorem dX6_bringBack_34 : decode cX6_bringBack 34 = .ok (.istore_n 3, 1) := dTX6_bringBack_0_ok 24 (34, .istore_n 3, 1) rfl
theorem dX6_bringBack_35 : decode cX6_bringBack 35 = .ok (.iload_n 3, 1) := dTX6_bringBack_0_ok 25 (35, .iload_n 3, 1) rfl
theorem dX6_bringBack_36 : decode cX6_bringBack 36 = .ok (.aload_n 2, 1) := dTX6_bringBack_0_ok 26 (36, .aload_n 2, 1) rfl
theorem dX6_bringBack_37 : decode cX6_bringBack 37 = .ok (.arraylength, 1) := dTX6_bringBack_0_ok 27 (37, .arraylength, 1) rfl
theorem dX6_bringBack_38 : decode cX6_bringBack 38 = .ok (.if_icmp .ge 24, 3) := dTX6_bringBack_0_ok 28 (38, .if_icmp .ge 24, 3) rfl
theorem dX6_bringBack_41 : decode cX6_bringBack 41 = .ok (.aload_n 1, 1) := dTX6_bringBack_0_ok 29 (41, .aload_n 1, 1) rfl
theorem dX6_bringBack_42 : decode cX6_bringBack 42 = .ok (.iload_n 3, 1) := dTX6_bringBack_0_ok 30 (42, .iload_n 3, 1) rfl
theorem dX6_bringBack_43 : decode cX6_bringBack 43 = .ok (.aaload, 1) := dTX6_bringBack_0_ok 31 (43, .aaload, 1) rfl
theorem dX6_bringBack_44 : decode cX6_bringBack 44 = .ok (.iconst 0, 1) := dTX6_bringBack_0_ok 32 (44, .iconst 0, 1) rfl
theorem dX6_bringBack_45 : decode cX6_bringBack 45 = .ok (.aload_n 2, 1) := dTX6_bringBack_0_ok 33 (45, .aload_n 2, 1) rfl
theorem dX6_bringBack_46 : decode cX6_bringBack 46 = .ok (.iload_n 3, 1) := dTX6_bringBack_0_ok 34 (46, .iload_n 3, 1) rfl
theorem dX6_bringBack_47 : decode cX6_bringBack 47 = .ok (.aaload, 1) := dTX6_bringBack_0_ok 35 (47, .aaload, 1) rfl
theorem dX6_bringBack_48 : decode cX6_bringBack 48 = .ok (.iconst 0, 1) := dTX6_bringBack_0_ok 36 (48, .iconst 0, 1) rfl
theorem dX6_bringBack_49 : decode cX6_bringBack 49 = .ok (.aload_n 2, 1) := dTX6_bringBack_0_ok 37 (49, .aload_n 2, 1) rfl
theorem dX6_bringBack_50 : decode cX6_bringBack 50 = .ok (.iload_n 3, 1) := dTX6_bringBack_0_ok 38 (50, .iload_n 3, 1) rfl
theorem dX6_bringBack_51 : decode cX6_bringBack 51 = .ok (.aaload, 1) := dTX6_bringBack_0_ok 39 (51, .aaload, 1) rfl
theorem dX6_bringBack_52 : decode cX6_bringBack 52 = .ok (.arraylength, 1) := dTX6_bringBack_0_ok 40 (52, .arraylength, 1) rfl
theorem dX6_bringBack_53 : decode cX6_bringBack 53 = .ok (.invokestatic 111, 3) := dTX6_bringBack_0_ok 41 (53, .invokestatic 111, 3) rfl
theorem dX6_bringBack_56 : decode cX6_bringBack 56 = .ok (.iinc 3 1, 3) := dTX6_bringBack_0_ok 42 (56, .iinc 3 1, 3) rfl
theorem dX6_bringBack_59 : decode cX6_bringBack 59 = .ok (.goto (-24), 3) := dTX6_bringBack_0_ok 43 (59, .goto (-24), 3) rfl
theorem dX6_bringBack_62 : decode cX6_bringBack 62 = .ok (.return_, 1) := dTX6_bringBack_0_ok 44 (62, .return_, 1) rfl
noncomputable def dTX6_foresee_0 : List (Nat × Instr × Nat) := [(0, .aload_n 0, 1), (1, .iconst 0, 1), (2, .putfield 41, 3), (5, .iload_n 1, 1), (6, .iconst 1, 1), (7, .bipush 40, 2), (9, .invokestatic 45, 3), (12, .ifCond .ne 9, 3), (15, .aload_n 0, 1), (16, .iconst 1, 1), (17, .invokevirtual 62, 3), (20, .ireturn, 1), (21, .iload_n 2, 1), (22, .iconst 0, 1), (23, .iconst 3, 1), (24, .invokestatic 45, 3), (27, .ifCond .ne 9, 3), (30, .aload_n 0, 1), (31, .iconst 2, 1), (32, .invokevirtual 62, 3), (35, .ireturn, 1), (36, .aload_n 0, 1), (37, .invokevirtual 156, 3), (40, .astore_n 3, 1), (41, .aload_n 0, 1), (42, .getfield 29, 3), (45, .iconst 1, 1), (46, .iaload, 1), (47, .istore 4, 2), (49, .aload_n 0, 1), (50, .iload_n 1, 1), (51, .invokevirtual 148, 3), (54, .iload_n 2, 1), (55, .ifCond .ne 15, 3), (58, .aload_n 0, 1), (59, .getfield 29, 3), (62, .iconst 1, 1), (63, .iaload, 1), (64, .iload 4, 2), (66, .isub, 1), (67, .goto 28, 3), (70, .iload_n 2, 1), (71, .iconst 1, 1), (72, .if_icmp .ne 10, 3), (75, .aload_n 0, 1), (76, .invokevirtual 127, 3), (79, .goto 16, 3), (82, .iload_n 2, 1), (83, .iconst 2, 1), (84, .if_icmp .ne 10, 3), (87, .aload_n 0, 1), (88, .invokevirtual 80, 3), (91, .goto 4, 3), (94, .iconst 0, 1), (95, .istore 5, 2), (97, .iconst 0, 1), (98, .istore 6, 2), (100, .iload 6, 2), (102, .aload_n 0, 1), (103, .getfield 49, 3)]
theorem dTX6_foresee_0_ok : ∀ (k : Nat) (q : Nat × Instr × Nat), dTX6_foresee_0[k]? = some q → decode cX6_foresee q.1 = .ok q.2 := dT_of (by decide +kernel)
theorem dX6_foresee_0 : decode cX6_foresee 0 = .ok (.aload_n 0, 1) := dTX6_foresee_0_ok 0 (0, .aload_n 0, 1) rfl
theorem dX6_foresee_1 : decode cX6_foresee 1 = .ok (.iconst 0, 1) := dTX6_foresee_0_ok 1 (1, .iconst 0, 1) rfl
theorem dX6_foresee_2 : decode cX6_foresee 2 = .ok (.putfield 41, 3) := dTX6_foresee_0_ok 2 (2, .putfield 41, 3) rfl
theorem dX6_foresee_5 : decode cX6_foresee 5 = .ok (.iload_n 1, 1) := dTX6_foresee_0_ok 3 (5, .iload_n 1, 1) rfl
theorem dX6_foresee_6 : decode cX6_foresee 6 = .ok (.iconst 1, 1) := dTX6_foresee_0_ok 4 (6, .iconst 1, 1) rfl
theorem dX6_foresee_7 : decode cX6_foresee 7 = .ok (.bipush 40, 2) := dTX6_foresee_0_ok 5 (7, .bipush 40, 2) rfl
theorem dX6_foresee_9 : decode cX6_foresee 9 = .ok (.invokestatic 45, 3) := dTX6_foresee_0_ok 6 (9, .invokestatic 45, 3) rfl
theorem dX6_foresee_12 : decode cX6_foresee 12 = .ok (.ifCond .ne 9, 3) := dTX6_foresee_0_ok 7 (12, .ifCond .ne 9, 3) rfl
theorem dX6_foresee_15 : decode cX6_foresee 15 = .ok (.aload_n 0, 1) := dTX6_foresee_0_ok 8 (15, .aload_n 0, 1) rfl
theorem dX6_foresee_16 : decode cX6_foresee 16 = .ok (.iconst 1, 1) := dTX6_foresee_0_ok 9 (16, .iconst 1, 1) rfl
theorem dX6_foresee_17 : decode cX6_foresee 17 = .ok (.invokevirtual 62, 3) := dTX6_foresee_0_ok 10 (17, .invokevirtual 62, 3) rfl
theorem dX6_foresee_20 : decode cX6_foresee 20 = .ok (.ireturn, 1) := dTX6_foresee_0_ok 11 (20, .ireturn, 1) rfl
theorem dX6_foresee_21 : decode cX6_foresee 21 = .ok (.iload_n 2, 1) := dTX6_foresee_0_ok 12 (21, .iload_n 2, 1) rfl
theorem dX6_foresee_22 : decode cX6_foresee 22 = .ok (.iconst 0, 1) := dTX6_foresee_0_ok 13 (22, .iconst 0, 1) rfl
theorem dX6_foresee_23 : decode cX6_foresee 23 = .ok (.iconst 3, 1) := dTX6_foresee_0_ok 14 (23, .iconst 3, 1) rfl
theorem dX6_foresee_24 : decode cX6_foresee 24 = .ok (.invokestatic 45, 3) := dTX6_foresee_0_ok 15 (24, .invokestatic 45, 3) rfl
theorem dX6_foresee_27 : decode cX6_foresee 27 = .ok (.ifCond .ne 9, 3) := dTX6_foresee_0_ok 16 (27, .ifCond .ne 9, 3) rfl
theorem dX6_foresee_30 : decode cX6_foresee 30 = .ok (.aload_n 0, 1) := dTX6_foresee_0_ok 17 (30, .aload_n 0, 1) rfl
theorem dX6_foresee_31 : decode cX6_foresee 31 = .ok (.iconst 2, 1) := dTX6_foresee_0_ok 18 (31, .iconst 2, 1) rfl
theorem dX6_foresee_32 : decode cX6_foresee 32 = .ok (.invokevirtual 62, 3) := dTX6_foresee_0_ok 19 (32, .invokevirtual 62, 3) rfl
theorem dX6_foresee_35 : decode cX6_foresee 35 = .ok (.ireturn, 1) := dTX6_foresee_0_ok 20 (35, .ireturn, 1) rfl
theorem dX6_foresee_36 : decode cX6_foresee 36 = .ok (.aload_n 0, 1) := dTX6_foresee_0_ok 21 (36, .aload_n 0, 1) rfl
theorem dX6_foresee_37 : decode cX6_foresee 37 = .ok (.invokevirtual 156, 3) := dTX6_foresee_0_ok 22 (37, .invokevirtual 156, 3) rfl
theorem dX6_foresee_40 : decode cX6_foresee 40 = .ok (.astore_n 3, 1) := dTX6_foresee_0_ok 23 (40, .astore_n 3, 1) rfl
theorem dX6_foresee_41 : decode cX6_foresee 41 = .ok (.aload_n 0, 1) := dTX6_foresee_0_ok 24 (41, .aload_n 0, 1) rfl
theorem dX6_foresee_42 : decode cX6_foresee 42 = .ok (.getfield 29, 3) := dTX6_foresee_0_ok 25 (42, .getfield 29, 3) rfl
theorem dX6_foresee_45 : decode cX6_foresee 45 = .ok (.iconst 1, 1) := dTX6_foresee_0_ok 26 (45, .iconst 1, 1) rfl
theorem dX6_foresee_46 : decode cX6_foresee 46 = .ok (.iaload, 1) := dTX6_foresee_0_ok 27 (46, .iaload, 1) rfl
theorem dX6_foresee_47 : decode cX6_foresee 47 = .ok (.istore 4, 2) := dTX6_foresee_0_ok 28 (47, .istore 4, 2) rfl
theorem dX6_foresee_49 : decode cX6_foresee 49 = .ok (.aload_n 0, 1) := dTX6_foresee_0_ok 29 (49, .aload_n 0, 1) rfl
theorem dX6_foresee_50 : decode cX6_foresee 50 = .ok (.iload_n 1, 1) := dTX6_foresee_0_ok 30 (50, .iload_n 1, 1) rfl
theorem dX6_foresee_51 : decode cX6_foresee 51 = .ok (.invokevirtual 148, 3) := dTX6_foresee_0_ok 31 (51, .invokevirtual 148, 3) rfl
theorem dX6_foresee_54 : decode cX6_foresee 54 = .ok (.iload_n 2, 1) := dTX6_foresee_0_ok 32 (54, .iload_n 2, 1) rfl
theorem dX6_foresee_55 : decode cX6_foresee 55 = .ok (.ifCond .ne 15, 3) := dTX6_foresee_0_ok 33 (55, .ifCond .ne 15, 3) rfl
theorem dX6_foresee_58 : decode cX6_foresee 58 = .ok (.aload_n 0, 1) := dTX6_foresee_0_ok 34 (58, .aload_n 0, 1) rfl
theorem dX6_foresee_59 : decode cX6_foresee 59 = .ok (.getfield 29, 3) := dTX6_foresee_0_ok 35 (59, .getfield 29, 3) rfl
theorem dX6_foresee_62 : decode cX6_foresee 62 = .ok (.iconst 1, 1) := dTX6_foresee_0_ok 36 (62, .iconst 1, 1) rfl
theorem dX6_foresee_63 : decode cX6_foresee 63 = .ok (.iaload, 1) := dTX6_foresee_0_ok 37 (63, .iaload, 1) rfl
theorem dX6_foresee_64 : decode cX6_foresee 64 = .ok (.iload 4, 2) := dTX6_foresee_0_ok 38 (64, .iload 4, 2) rfl
theorem dX6_foresee_66 : decode cX6_foresee 66 = .ok (.isub, 1) := dTX6_foresee_0_ok 39 (66, .isub, 1) rfl
theorem dX6_foresee_67 : decode cX6_foresee 67 = .ok (.goto 28, 3) := dTX6_foresee_0_ok 40 (67, .goto 28, 3) rfl
theorem dX6_foresee_70 : decode cX6_foresee 70 = .ok (.iload_n 2, 1) := dTX6_foresee_0_ok 41 (70, .iload_n 2, 1) rfl
theorem dX6_foresee_71 : decode cX6_foresee 71 = .ok (.iconst 1, 1) := dTX6_foresee_0_ok 42 (71, .iconst 1, 1) rfl
theorem dX6_foresee_72 : decode cX6_foresee 72 = .ok (.if_icmp .ne 10, 3) := dTX6_foresee_0_ok 43 (72, .if_icmp .ne 10, 3) rfl
theorem dX6_foresee_75 : decode cX6_foresee 75 = .ok (.aload_n 0, 1) := dTX6_foresee_0_ok 44 (75, .aload_n 0, 1) rfl
theorem dX6_foresee_76 : decode cX6_foresee 76 = .ok (.invokevirtual 127, 3) := dTX6_foresee_0_ok 45 (76, .invokevirtual 127, 3) rfl
theorem dX6_foresee_79 : decode cX6_foresee 79 = .ok (.goto 16, 3) := dTX6_foresee_0_ok 46 (79, .goto 16, 3) rfl
theorem dX6_foresee_82 : decode cX6_foresee 82 = .ok (.iload_n 2, 1) := dTX6_foresee_0_ok 47 (82, .iload_n 2, 1) rfl
theorem dX6_foresee_83 : decode cX6_foresee 83 = .ok (.iconst 2, 1) := dTX6_foresee_0_ok 48 (83, .iconst 2, 1) rfl
theorem dX6_foresee_84 : decode cX6_foresee 84 = .ok (.if_icmp .ne 10, 3) := dTX6_foresee_0_ok 49 (84, .if_icmp .ne 10, 3) rfl
theorem dX6_foresee_87 : decode cX6_foresee 87 = .ok (.aload_n 0, 1) := dTX6_foresee_0_ok 50 (87, .aload_n 0, 1) rfl
theorem dX6_foresee_88 : decode cX6_foresee 88 = .ok (.invokevirtual 80, 3) := dTX6_foresee_0_ok 51 (88, .invokevirtual 80, 3) rfl
theorem dX6_foresee_91 : decode cX6_foresee 91 = .ok (.goto 4, 3) := dTX6_foresee_0_ok 52 (91, .goto 4, 3) rfl
theorem dX6_foresee_94 : decode cX6_foresee 94 = .ok (.iconst 0, 1) := dTX6_foresee_0_ok 53 (94, .iconst 0, 1) rfl
theorem dX6_foresee_95 : decode cX6_foresee 95 = .ok (.istore 5, 2) := dTX6_foresee_0_ok 54 (95, .istore 5, 2) rfl
theorem dX6_foresee_97 : decode cX6_foresee 97 = .ok (.iconst 0, 1) := dTX6_foresee_0_ok 55 (97, .iconst 0, 1) rfl
theorem dX6_foresee_98 : decode cX6_foresee 98 = .ok (.istore 6, 2) := dTX6_foresee_0_ok 56 (98, .istore 6, 2) rfl
theorem dX6_foresee_100 : decode cX6_foresee 100 = .ok (.iload 6, 2) := dTX6_foresee_0_ok 57 (100, .iload 6, 2) rfl
theorem dX6_foresee_102 : decode cX6_foresee 102 = .ok (.aload_n 0, 1) := dTX6_foresee_0_ok 58 (102, .aload_n 0, 1) rfl
theorem dX6_foresee_103 : decode cX6_foresee 103 = .ok (.getfield 49, 3) := dTX6_foresee_0_ok 59 (103, .getfield 49, 3) rfl
noncomputable def dTX6_foresee_1 : List (Nat × Instr × Nat) := [(106, .if_icmp .ge 41, 3), (109, .iload_n 2, 1), (110, .iconst 3, 1), (111, .if_icmp .ne 36, 3), (114, .iload 5, 2), (116, .aload_n 0, 1), (117, .iload 6, 2), (119, .iconst 0, 1), (120, .invokevirtual 95, 3), (123, .aload_n 0, 1), (124, .iload 6, 2), (126, .iconst 2, 1), (127, .invokevirtual 95, 3), (130, .if_icmp .ne 7, 3), (133, .iconst 1, 1), (134, .goto 4, 3), (137, .iconst 0, 1), (138, .iadd, 1), (139, .istore 5, 2), (141, .iinc 6 1, 3), (144, .goto (-44), 3), (147, .aload_n 0, 1), (148, .aload_n 3, 1), (149, .invokevirtual 160, 3), (152, .iload 5, 2), (154, .ireturn, 1)]
theorem dTX6_foresee_1_ok : ∀ (k : Nat) (q : Nat × Instr × Nat), dTX6_foresee_1[k]? = some q → decode cX6_foresee q.1 = .ok q.2 := dT_of (by decide +kernel)
theorem dX6_foresee_106 : decode cX6_foresee 106 = .ok (.if_icmp .ge 41, 3) := dTX6_foresee_1_ok 0 (106, .if_icmp .ge 41, 3) rfl
theorem dX6_foresee_109 : decode cX6_foresee 109 = .ok (.iload_n 2, 1) := dTX6_foresee_1_ok 1 (109, .iload_n 2, 1) rfl
theorem dX6_foresee_110 : decode cX6_foresee 110 = .ok (.iconst 3, 1) := dTX6_foresee_1_ok 2 (110, .iconst 3, 1) rfl
theorem dX6_foresee_111 : decode cX6_foresee 111 = .ok (.if_icmp .ne 36, 3) := dTX6_foresee_1_ok 3 (111, .if_icmp .ne 36, 3) rfl
theorem dX6_foresee_114 : decode cX6_foresee 114 = .ok (.iload 5, 2) := dTX6_foresee_1_ok 4 (114, .iload 5, 2) rfl
theorem dX6_foresee_116 : decode cX6_foresee 116 = .ok (.aload_n 0, 1) := dTX6_foresee_1_ok 5 (116, .aload_n 0, 1) rfl
theorem dX6_foresee_117 : decode cX6_foresee 117 = .ok (.iload 6, 2) := dTX6_foresee_1_ok 6 (117, .iload 6, 2) rfl
theorem dX6_foresee_119 : decode cX6_foresee 119 = .ok (.iconst 0, 1) := dTX6_foresee_1_ok 7 (119, .iconst 0, 1) rfl
theorem dX6_foresee_120 : decode cX6_foresee 120 = .ok (.invokevirtual 95, 3) := dTX6_foresee_1_ok 8 (120, .invokevirtual 95, 3) rfl
theorem dX6_foresee_123 : decode cX6_foresee 123 = .ok (.aload_n 0, 1) := dTX6_foresee_1_ok 9 (123, .aload_n 0, 1) rfl
theorem dX6_foresee_124 : decode cX6_foresee 124 = .ok (.iload 6, 2) := dTX6_foresee_1_ok 10 (124, .iload 6, 2) rfl
theorem dX6_foresee_126 : decode cX6_foresee 126 = .ok (.iconst 2, 1) := dTX6_foresee_1_ok 11 (126, .iconst 2, 1) rfl
theorem dX6_foresee_127 : decode cX6_foresee 127 = .ok (.invokevirtual 95, 3) := dTX6_foresee_1_ok 12 (127, .invokevirtual 95, 3) rfl
theorem dX6_foresee_130 : decode cX6_foresee 130 = .ok (.if_icmp .ne 7, 3) := dTX6_foresee_1_ok 13 (130, .if_icmp .ne 7, 3) rfl
theorem dX6_foresee_133 : decode cX6_foresee 133 = .ok (.iconst 1, 1) := dTX6_foresee_1_ok 14 (133, .iconst 1, 1) rfl
theorem dX6_foresee_134 : decode cX6_foresee 134 = .ok (.goto 4, 3) := dTX6_foresee_1_ok 15 (134, .goto 4, 3) rfl
theorem dX6_foresee_137 : decode cX6_foresee 137 = .ok (.iconst 0, 1) := dTX6_foresee_1_ok 16 (137, .iconst 0, 1) rfl
theorem dX6_foresee_138 : decode cX6_foresee 138 = .ok (.iadd, 1) := dTX6_foresee_1_ok 17 (138, .iadd, 1) rfl
theorem dX6_foresee_139 : decode cX6_foresee 139 = .ok (.istore 5, 2) := dTX6_foresee_1_ok 18 (139, .istore 5, 2) rfl
theorem dX6_foresee_141 : decode cX6_foresee 141 = .ok (.iinc 6 1, 3) := dTX6_foresee_1_ok 19 (141, .iinc 6 1, 3) rfl
theorem dX6_foresee_144 : decode cX6_foresee 144 = .ok (.goto (-44), 3) := dTX6_foresee_1_ok 20 (144, .goto (-44), 3) rfl
theorem dX6_foresee_147 : decode cX6_foresee 147 = .ok (.aload_n 0, 1) := dTX6_foresee_1_ok 21 (147, .aload_n 0, 1) rfl
theorem dX6_foresee_148 : decode cX6_foresee 148 = .ok (.aload_n 3, 1) := dTX6_foresee_1_ok 22 (148, .aload_n 3, 1) rfl
theorem dX6_foresee_149 : decode cX6_foresee 149 = .ok (.invokevirtual 160, 3) := dTX6_foresee_1_ok 23 (149, .invokevirtual 160, 3) rfl
theorem dX6_foresee_152 : decode cX6_foresee 152 = .ok (.iload 5, 2) := dTX6_foresee_1_ok 24 (152, .iload 5, 2) rfl
theorem dX6_foresee_154 : decode cX6_foresee 154 = .ok (.ireturn, 1) := dTX6_foresee_1_ok 25 (154, .ireturn, 1) rfl
noncomputable def dTX6_reaches_0 : List (Nat × Instr × Nat) := [(0, .aload_n 0, 1), (1, .iconst 0, 1), (2, .putfield 41, 3), (5, .iload_n 1, 1), (6, .iload_n 2, 1), (7, .invokestatic 52, 3), (10, .ifCond .ne 9, 3), (13, .aload_n 0, 1), (14, .iconst 1, 1), (15, .invokevirtual 62, 3), (18, .ireturn, 1), (19, .iload_n 3, 1), (20, .iconst 0, 1), (21, .bipush 99, 2), (23, .invokestatic 45, 3), (26, .ifCond .ne 9, 3), (29, .aload_n 0, 1), (30, .iconst 2, 1), (31, .invokevirtual 62, 3), (34, .ireturn, 1), (35, .bipush 9, 2), (37, .iload_n 2, 1), (38, .imul, 1), (39, .iload_n 1, 1), (40, .iadd, 1), (41, .istore 4, 2), (43, .aload_n 0, 1), (44, .getfield 16, 3), (47, .iload 4, 2), (49, .iaload, 1), (50, .iconst 4, 1), (51, .if_icmp .eq 5, 3), (54, .iconst (-1), 1), (55, .ireturn, 1), (56, .aload_n 0, 1), (57, .invokevirtual 156, 3), (60, .astore 5, 2), (62, .iconst 0, 1), (63, .istore 6, 2), (65, .iload 6, 2), (67, .bipush 60, 2), (69, .if_icmp .ge 24, 3), (72, .aload_n 0, 1), (73, .getfield 20, 3), (76, .iload 4, 2), (78, .iaload, 1), (79, .iload_n 3, 1), (80, .if_icmp .eq 13, 3), (83, .aload_n 0, 1), (84, .invokevirtual 145, 3), (87, .iinc 6 1, 3), (90, .goto (-25), 3), (93, .aload_n 0, 1), (94, .getfield 20, 3), (97, .iload 4, 2), (99, .iaload, 1), (100, .iload_n 3, 1), (101, .if_icmp .eq 6, 3), (104, .iconst (-1), 1), (105, .istore 6, 2)]
theorem dTX6_reaches_0_ok : ∀ (k : Nat) (q : Nat × Instr × Nat), dTX6_reaches_0[k]? = some q → decode cX6_reaches q.1 = .ok q.2 := dT_of (by decide +kernel)
theorem dX6_reaches_0 : decode cX6_reaches 0 = .ok (.aload_n 0, 1) := dTX6_reaches_0_ok 0 (0, .aload_n 0, 1) rfl
theorem dX6_reaches_1 : decode cX6_reaches 1 = .ok (.iconst 0, 1) := dTX6_reaches_0_ok 1 (1, .iconst 0, 1) rfl
theorem dX6_reaches_2 : decode cX6_reaches 2 = .ok (.putfield 41, 3) := dTX6_reaches_0_ok 2 (2, .putfield 41, 3) rfl
theorem dX6_reaches_5 : decode cX6_reaches 5 = .ok (.iload_n 1, 1) := dTX6_reaches_0_ok 3 (5, .iload_n 1, 1) rfl
theorem dX6_reaches_6 : decode cX6_reaches 6 = .ok (.iload_n 2, 1) := dTX6_reaches_0_ok 4 (6, .iload_n 2, 1) rfl
theorem dX6_reaches_7 : decode cX6_reaches 7 = .ok (.invokestatic 52, 3) := dTX6_reaches_0_ok 5 (7, .invokestatic 52, 3) rfl
theorem dX6_reaches_10 : decode cX6_reaches 10 = .ok (.ifCond .ne 9, 3) := dTX6_reaches_0_ok 6 (10, .ifCond .ne 9, 3) rfl
theorem dX6_reaches_13 : decode cX6_reaches 13 = .ok (.aload_n 0, 1) := dTX6_reaches_0_ok 7 (13, .aload_n 0, 1) rfl
theorem dX6_reaches_14 : decode cX6_reaches 14 = .ok (.iconst 1, 1) := dTX6_reaches_0_ok 8 (14, .iconst 1, 1) rfl
theorem dX6_reaches_15 : decode cX6_reaches 15 = .ok (.invokevirtual 62, 3) := dTX6_reaches_0_ok 9 (15, .invokevirtual 62, 3) rfl
theorem dX6_reaches_18 : decode cX6_reaches 18 = .ok (.ireturn, 1) := dTX6_reaches_0_ok 10 (18, .ireturn, 1) rfl
theorem dX6_reaches_19 : decode cX6_reaches 19 = .ok (.iload_n 3, 1) := dTX6_reaches_0_ok 11 (19, .iload_n 3, 1) rfl
theorem dX6_reaches_20 : decode cX6_reaches 20 = .ok (.iconst 0, 1) := dTX6_reaches_0_ok 12 (20, .iconst 0, 1) rfl
theorem dX6_reaches_21 : decode cX6_reaches 21 = .ok (.bipush 99, 2) := dTX6_reaches_0_ok 13 (21, .bipush 99, 2) rfl
theorem dX6_reaches_23 : decode cX6_reaches 23 = .ok (.invokestatic 45, 3) := dTX6_reaches_0_ok 14 (23, .invokestatic 45, 3) rfl
theorem dX6_reaches_26 : decode cX6_reaches 26 = .ok (.ifCond .ne 9, 3) := dTX6_reaches_0_ok 15 (26, .ifCond .ne 9, 3) rfl
theorem dX6_reaches_29 : decode cX6_reaches 29 = .ok (.aload_n 0, 1) := dTX6_reaches_0_ok 16 (29, .aload_n 0, 1) rfl
theorem dX6_reaches_30 : decode cX6_reaches 30 = .ok (.iconst 2, 1) := dTX6_reaches_0_ok 17 (30, .iconst 2, 1) rfl
theorem dX6_reaches_31 : decode cX6_reaches 31 = .ok (.invokevirtual 62, 3) := dTX6_reaches_0_ok 18 (31, .invokevirtual 62, 3) rfl
theorem dX6_reaches_34 : decode cX6_reaches 34 = .ok (.ireturn, 1) := dTX6_reaches_0_ok 19 (34, .ireturn, 1) rfl
theorem dX6_reaches_35 : decode cX6_reaches 35 = .ok (.bipush 9, 2) := dTX6_reaches_0_ok 20 (35, .bipush 9, 2) rfl
theorem dX6_reaches_37 : decode cX6_reaches 37 = .ok (.iload_n 2, 1) := dTX6_reaches_0_ok 21 (37, .iload_n 2, 1) rfl
theorem dX6_reaches_38 : decode cX6_reaches 38 = .ok (.imul, 1) := dTX6_reaches_0_ok 22 (38, .imul, 1) rfl
theorem dX6_reaches_39 : decode cX6_reaches 39 = .ok (.iload_n 1, 1) := dTX6_reaches_0_ok 23 (39, .iload_n 1, 1) rfl
theorem dX6_reaches_40 : decode cX6_reaches 40 = .ok (.iadd, 1) := dTX6_reaches_0_ok 24 (40, .iadd, 1) rfl
theorem dX6_reaches_41 : decode cX6_reaches 41 = .ok (.istore 4, 2) := dTX6_reaches_0_ok 25 (41, .istore 4, 2) rfl
theorem dX6_reaches_43 : decode cX6_reaches 43 = .ok (.aload_n 0, 1) := dTX6_reaches_0_ok 26 (43, .aload_n 0, 1) rfl
theorem dX6_reaches_44 : decode cX6_reaches 44 = .ok (.getfield 16, 3) := dTX6_reaches_0_ok 27 (44, .getfield 16, 3) rfl
theorem dX6_reaches_47 : decode cX6_reaches 47 = .ok (.iload 4, 2) := dTX6_reaches_0_ok 28 (47, .iload 4, 2) rfl
theorem dX6_reaches_49 : decode cX6_reaches 49 = .ok (.iaload, 1) := dTX6_reaches_0_ok 29 (49, .iaload, 1) rfl
theorem dX6_reaches_50 : decode cX6_reaches 50 = .ok (.iconst 4, 1) := dTX6_reaches_0_ok 30 (50, .iconst 4, 1) rfl
theorem dX6_reaches_51 : decode cX6_reaches 51 = .ok (.if_icmp .eq 5, 3) := dTX6_reaches_0_ok 31 (51, .if_icmp .eq 5, 3) rfl
theorem dX6_reaches_54 : decode cX6_reaches 54 = .ok (.iconst (-1), 1) := dTX6_reaches_0_ok 32 (54, .iconst (-1), 1) rfl
theorem dX6_reaches_55 : decode cX6_reaches 55 = .ok (.ireturn, 1) := dTX6_reaches_0_ok 33 (55, .ireturn, 1) rfl
theorem dX6_reaches_56 : decode cX6_reaches 56 = .ok (.aload_n 0, 1) := dTX6_reaches_0_ok 34 (56, .aload_n 0, 1) rfl
theorem dX6_reaches_57 : decode cX6_reaches 57 = .ok (.invokevirtual 156, 3) := dTX6_reaches_0_ok 35 (57, .invokevirtual 156, 3) rfl
theorem dX6_reaches_60 : decode cX6_reaches 60 = .ok (.astore 5, 2) := dTX6_reaches_0_ok 36 (60, .astore 5, 2) rfl
theorem dX6_reaches_62 : decode cX6_reaches 62 = .ok (.iconst 0, 1) := dTX6_reaches_0_ok 37 (62, .iconst 0, 1) rfl
theorem dX6_reaches_63 : decode cX6_reaches 63 = .ok (.istore 6, 2) := dTX6_reaches_0_ok 38 (63, .istore 6, 2) rfl
theorem dX6_reaches_65 : decode cX6_reaches 65 = .ok (.iload 6, 2) := dTX6_reaches_0_ok 39 (65, .iload 6, 2) rfl
theorem dX6_reaches_67 : decode cX6_reaches 67 = .ok (.bipush 60, 2) := dTX6_reaches_0_ok 40 (67, .bipush 60, 2) rfl
theorem dX6_reaches_69 : decode cX6_reaches 69 = .ok (.if_icmp .ge 24, 3) := dTX6_reaches_0_ok 41 (69, .if_icmp .ge 24, 3) rfl
theorem dX6_reaches_72 : decode cX6_reaches 72 = .ok (.aload_n 0, 1) := dTX6_reaches_0_ok 42 (72, .aload_n 0, 1) rfl
theorem dX6_reaches_73 : decode cX6_reaches 73 = .ok (.getfield 20, 3) := dTX6_reaches_0_ok 43 (73, .getfield 20, 3) rfl
theorem dX6_reaches_76 : decode cX6_reaches 76 = .ok (.iload 4, 2) := dTX6_reaches_0_ok 44 (76, .iload 4, 2) rfl
theorem dX6_reaches_78 : decode cX6_reaches 78 = .ok (.iaload, 1) := dTX6_reaches_0_ok 45 (78, .iaload, 1) rfl
theorem dX6_reaches_79 : decode cX6_reaches 79 = .ok (.iload_n 3, 1) := dTX6_reaches_0_ok 46 (79, .iload_n 3, 1) rfl
theorem dX6_reaches_80 : decode cX6_reaches 80 = .ok (.if_icmp .eq 13, 3) := dTX6_reaches_0_ok 47 (80, .if_icmp .eq 13, 3) rfl
theorem dX6_reaches_83 : decode cX6_reaches 83 = .ok (.aload_n 0, 1) := dTX6_reaches_0_ok 48 (83, .aload_n 0, 1) rfl
theorem dX6_reaches_84 : decode cX6_reaches 84 = .ok (.invokevirtual 145, 3) := dTX6_reaches_0_ok 49 (84, .invokevirtual 145, 3) rfl
theorem dX6_reaches_87 : decode cX6_reaches 87 = .ok (.iinc 6 1, 3) := dTX6_reaches_0_ok 50 (87, .iinc 6 1, 3) rfl
theorem dX6_reaches_90 : decode cX6_reaches 90 = .ok (.goto (-25), 3) := dTX6_reaches_0_ok 51 (90, .goto (-25), 3) rfl
theorem dX6_reaches_93 : decode cX6_reaches 93 = .ok (.aload_n 0, 1) := dTX6_reaches_0_ok 52 (93, .aload_n 0, 1) rfl
theorem dX6_reaches_94 : decode cX6_reaches 94 = .ok (.getfield 20, 3) := dTX6_reaches_0_ok 53 (94, .getfield 20, 3) rfl
theorem dX6_reaches_97 : decode cX6_reaches 97 = .ok (.iload 4, 2) := dTX6_reaches_0_ok 54 (97, .iload 4, 2) rfl
theorem dX6_reaches_99 : decode cX6_reaches 99 = .ok (.iaload, 1) := dTX6_reaches_0_ok 55 (99, .iaload, 1) rfl
theorem dX6_reaches_100 : decode cX6_reaches 100 = .ok (.iload_n 3, 1) := dTX6_reaches_0_ok 56 (100, .iload_n 3, 1) rfl
theorem dX6_reaches_101 : decode cX6_reaches 101 = .ok (.if_icmp .eq 6, 3) := dTX6_reaches_0_ok 57 (101, .if_icmp .eq 6, 3) rfl
theorem dX6_reaches_104 : decode cX6_reaches 104 = .ok (.iconst (-1), 1) := dTX6_reaches_0_ok 58 (104, .iconst (-1), 1) rfl
theorem dX6_reaches_105 : decode cX6_reaches 105 = .ok (.istore 6, 2) := dTX6_reaches_0_ok 59 (105, .istore 6, 2) rfl
noncomputable def dTX6_reaches_1 : List (Nat × Instr × Nat) := [(107, .aload_n 0, 1), (108, .aload 5, 2), (110, .invokevirtual 160, 3), (113, .iload 6, 2), (115, .ireturn, 1)]
theorem dTX6_reaches_1_ok : ∀ (k : Nat) (q : Nat × Instr × Nat), dTX6_reaches_1[k]? = some q → decode cX6_reaches q.1 = .ok q.2 := dT_of (by decide +kernel)
theorem dX6_reaches_107 : decode cX6_reaches 107 = .ok (.aload_n 0, 1) := dTX6_reaches_1_ok 0 (107, .aload_n 0, 1) rfl
theorem dX6_reaches_108 : decode cX6_reaches 108 = .ok (.aload 5, 2) := dTX6_reaches_1_ok 1 (108, .aload 5, 2) rfl
theorem dX6_reaches_110 : decode cX6_reaches 110 = .ok (.invokevirtual 160, 3) := dTX6_reaches_1_ok 2 (110, .invokevirtual 160, 3) rfl
theorem dX6_reaches_113 : decode cX6_reaches 113 = .ok (.iload 6, 2) := dTX6_reaches_1_ok 3 (113, .iload 6, 2) rfl
theorem dX6_reaches_115 : decode cX6_reaches 115 = .ok (.ireturn, 1) := dTX6_reaches_1_ok 4 (115, .ireturn, 1) rfl
noncomputable def dTX6_advise_0 : List (Nat × Instr × Nat) := [(0, .aload_n 0, 1), (1, .iconst 0, 1), (2, .putfield 41, 3), (5, .iload_n 1, 1), (6, .iconst 1, 1), (7, .bipush 8, 2), (9, .invokestatic 45, 3), (12, .ifCond .ne 9, 3), (15, .aload_n 0, 1), (16, .iconst 1, 1), (17, .invokevirtual 62, 3), (20, .ireturn, 1), (21, .aload_n 0, 1), (22, .invokevirtual 156, 3), (25, .astore_n 2, 1), (26, .aload_n 0, 1), (27, .iload_n 1, 1), (28, .invokevirtual 148, 3), (31, .iconst (-1), 1), (32, .istore_n 3, 1), (33, .aload_n 0, 1), (34, .getfield 29, 3), (37, .iconst 1, 1), (38, .iaload, 1), (39, .istore 4, 2), (41, .aload_n 0, 1), (42, .aload_n 2, 1), (43, .invokevirtual 160, 3), (46, .iconst 0, 1), (47, .istore 5, 2), (49, .iload 5, 2), (51, .bipush 63, 2), (53, .if_icmp .ge 84, 3), (56, .aload_n 0, 1), (57, .getfield 16, 3), (60, .iload 5, 2), (62, .iaload, 1), (63, .iconst 1, 1), (64, .if_icmp .ne 67, 3), (67, .aload_n 0, 1), (68, .getfield 20, 3), (71, .iload 5, 2), (73, .iaload, 1), (74, .ifCond .ne 6, 3), (77, .goto 54, 3), (80, .aload_n 0, 1), (81, .getfield 23, 3), (84, .iload 5, 2), (86, .iconst 1, 1), (87, .aload_n 0, 1), (88, .getfield 23, 3), (91, .iload 5, 2), (93, .iaload, 1), (94, .isub, 1), (95, .iastore, 1), (96, .aload_n 0, 1), (97, .iload_n 1, 1), (98, .invokevirtual 148, 3), (101, .aload_n 0, 1), (102, .getfield 29, 3)]
theorem dTX6_advise_0_ok : ∀ (k : Nat) (q : Nat × Instr × Nat), dTX6_advise_0[k]? = some q → decode cX6_advise q.1 = .ok q.2 := dT_of (by decide +kernel)
theorem dX6_advise_0 : decode cX6_advise 0 = .ok (.aload_n 0, 1) := dTX6_advise_0_ok 0 (0, .aload_n 0, 1) rfl
theorem dX6_advise_1 : decode cX6_advise 1 = .ok (.iconst 0, 1) := dTX6_advise_0_ok 1 (1, .iconst 0, 1) rfl
theorem dX6_advise_2 : decode cX6_advise 2 = .ok (.putfield 41, 3) := dTX6_advise_0_ok 2 (2, .putfield 41, 3) rfl
theorem dX6_advise_5 : decode cX6_advise 5 = .ok (.iload_n 1, 1) := dTX6_advise_0_ok 3 (5, .iload_n 1, 1) rfl
theorem dX6_advise_6 : decode cX6_advise 6 = .ok (.iconst 1, 1) := dTX6_advise_0_ok 4 (6, .iconst 1, 1) rfl
theorem dX6_advise_7 : decode cX6_advise 7 = .ok (.bipush 8, 2) := dTX6_advise_0_ok 5 (7, .bipush 8, 2) rfl
theorem dX6_advise_9 : decode cX6_advise 9 = .ok (.invokestatic 45, 3) := dTX6_advise_0_ok 6 (9, .invokestatic 45, 3) rfl
theorem dX6_advise_12 : decode cX6_advise 12 = .ok (.ifCond .ne 9, 3) := dTX6_advise_0_ok 7 (12, .ifCond .ne 9, 3) rfl
theorem dX6_advise_15 : decode cX6_advise 15 = .ok (.aload_n 0, 1) := dTX6_advise_0_ok 8 (15, .aload_n 0, 1) rfl
theorem dX6_advise_16 : decode cX6_advise 16 = .ok (.iconst 1, 1) := dTX6_advise_0_ok 9 (16, .iconst 1, 1) rfl
theorem dX6_advise_17 : decode cX6_advise 17 = .ok (.invokevirtual 62, 3) := dTX6_advise_0_ok 10 (17, .invokevirtual 62, 3) rfl
theorem dX6_advise_20 : decode cX6_advise 20 = .ok (.ireturn, 1) := dTX6_advise_0_ok 11 (20, .ireturn, 1) rfl
theorem dX6_advise_21 : decode cX6_advise 21 = .ok (.aload_n 0, 1) := dTX6_advise_0_ok 12 (21, .aload_n 0, 1) rfl
theorem dX6_advise_22 : decode cX6_advise 22 = .ok (.invokevirtual 156, 3) := dTX6_advise_0_ok 13 (22, .invokevirtual 156, 3) rfl
theorem dX6_advise_25 : decode cX6_advise 25 = .ok (.astore_n 2, 1) := dTX6_advise_0_ok 14 (25, .astore_n 2, 1) rfl
theorem dX6_advise_26 : decode cX6_advise 26 = .ok (.aload_n 0, 1) := dTX6_advise_0_ok 15 (26, .aload_n 0, 1) rfl
theorem dX6_advise_27 : decode cX6_advise 27 = .ok (.iload_n 1, 1) := dTX6_advise_0_ok 16 (27, .iload_n 1, 1) rfl
theorem dX6_advise_28 : decode cX6_advise 28 = .ok (.invokevirtual 148, 3) := dTX6_advise_0_ok 17 (28, .invokevirtual 148, 3) rfl
theorem dX6_advise_31 : decode cX6_advise 31 = .ok (.iconst (-1), 1) := dTX6_advise_0_ok 18 (31, .iconst (-1), 1) rfl
theorem dX6_advise_32 : decode cX6_advise 32 = .ok (.istore_n 3, 1) := dTX6_advise_0_ok 19 (32, .istore_n 3, 1) rfl
theorem dX6_advise_33 : decode cX6_advise 33 = .ok (.aload_n 0, 1) := dTX6_advise_0_ok 20 (33, .aload_n 0, 1) rfl
theorem dX6_advise_34 : decode cX6_advise 34 = .ok (.getfield 29, 3) := dTX6_advise_0_ok 21 (34, .getfield 29, 3) rfl
theorem dX6_advise_37 : decode cX6_advise 37 = .ok (.iconst 1, 1) := dTX6_advise_0_ok 22 (37, .iconst 1, 1) rfl
theorem dX6_advise_38 : decode cX6_advise 38 = .ok (.iaload, 1) := dTX6_advise_0_ok 23 (38, .iaload, 1) rfl
theorem dX6_advise_39 : decode cX6_advise 39 = .ok (.istore 4, 2) := dTX6_advise_0_ok 24 (39, .istore 4, 2) rfl
theorem dX6_advise_41 : decode cX6_advise 41 = .ok (.aload_n 0, 1) := dTX6_advise_0_ok 25 (41, .aload_n 0, 1) rfl
theorem dX6_advise_42 : decode cX6_advise 42 = .ok (.aload_n 2, 1) := dTX6_advise_0_ok 26 (42, .aload_n 2, 1) rfl
theorem dX6_advise_43 : decode cX6_advise 43 = .ok (.invokevirtual 160, 3) := dTX6_advise_0_ok 27 (43, .invokevirtual 160, 3) rfl
theorem dX6_advise_46 : decode cX6_advise 46 = .ok (.iconst 0, 1) := dTX6_advise_0_ok 28 (46, .iconst 0, 1) rfl
theorem dX6_advise_47 : decode cX6_advise 47 = .ok (.istore 5, 2) := dTX6_advise_0_ok 29 (47, .istore 5, 2) rfl
theorem dX6_advise_49 : decode cX6_advise 49 = .ok (.iload 5, 2) := dTX6_advise_0_ok 30 (49, .iload 5, 2) rfl
theorem dX6_advise_51 : decode cX6_advise 51 = .ok (.bipush 63, 2) := dTX6_advise_0_ok 31 (51, .bipush 63, 2) rfl
theorem dX6_advise_53 : decode cX6_advise 53 = .ok (.if_icmp .ge 84, 3) := dTX6_advise_0_ok 32 (53, .if_icmp .ge 84, 3) rfl
theorem dX6_advise_56 : decode cX6_advise 56 = .ok (.aload_n 0, 1) := dTX6_advise_0_ok 33 (56, .aload_n 0, 1) rfl
theorem dX6_advise_57 : decode cX6_advise 57 = .ok (.getfield 16, 3) := dTX6_advise_0_ok 34 (57, .getfield 16, 3) rfl
theorem dX6_advise_60 : decode cX6_advise 60 = .ok (.iload 5, 2) := dTX6_advise_0_ok 35 (60, .iload 5, 2) rfl
theorem dX6_advise_62 : decode cX6_advise 62 = .ok (.iaload, 1) := dTX6_advise_0_ok 36 (62, .iaload, 1) rfl
theorem dX6_advise_63 : decode cX6_advise 63 = .ok (.iconst 1, 1) := dTX6_advise_0_ok 37 (63, .iconst 1, 1) rfl
theorem dX6_advise_64 : decode cX6_advise 64 = .ok (.if_icmp .ne 67, 3) := dTX6_advise_0_ok 38 (64, .if_icmp .ne 67, 3) rfl
theorem dX6_advise_67 : decode cX6_advise 67 = .ok (.aload_n 0, 1) := dTX6_advise_0_ok 39 (67, .aload_n 0, 1) rfl
theorem dX6_advise_68 : decode cX6_advise 68 = .ok (.getfield 20, 3) := dTX6_advise_0_ok 40 (68, .getfield 20, 3) rfl
theorem dX6_advise_71 : decode cX6_advise 71 = .ok (.iload 5, 2) := dTX6_advise_0_ok 41 (71, .iload 5, 2) rfl
theorem dX6_advise_73 : decode cX6_advise 73 = .ok (.iaload, 1) := dTX6_advise_0_ok 42 (73, .iaload, 1) rfl
theorem dX6_advise_74 : decode cX6_advise 74 = .ok (.ifCond .ne 6, 3) := dTX6_advise_0_ok 43 (74, .ifCond .ne 6, 3) rfl
theorem dX6_advise_77 : decode cX6_advise 77 = .ok (.goto 54, 3) := dTX6_advise_0_ok 44 (77, .goto 54, 3) rfl
theorem dX6_advise_80 : decode cX6_advise 80 = .ok (.aload_n 0, 1) := dTX6_advise_0_ok 45 (80, .aload_n 0, 1) rfl
theorem dX6_advise_81 : decode cX6_advise 81 = .ok (.getfield 23, 3) := dTX6_advise_0_ok 46 (81, .getfield 23, 3) rfl
theorem dX6_advise_84 : decode cX6_advise 84 = .ok (.iload 5, 2) := dTX6_advise_0_ok 47 (84, .iload 5, 2) rfl
theorem dX6_advise_86 : decode cX6_advise 86 = .ok (.iconst 1, 1) := dTX6_advise_0_ok 48 (86, .iconst 1, 1) rfl
theorem dX6_advise_87 : decode cX6_advise 87 = .ok (.aload_n 0, 1) := dTX6_advise_0_ok 49 (87, .aload_n 0, 1) rfl
theorem dX6_advise_88 : decode cX6_advise 88 = .ok (.getfield 23, 3) := dTX6_advise_0_ok 50 (88, .getfield 23, 3) rfl
theorem dX6_advise_91 : decode cX6_advise 91 = .ok (.iload 5, 2) := dTX6_advise_0_ok 51 (91, .iload 5, 2) rfl
theorem dX6_advise_93 : decode cX6_advise 93 = .ok (.iaload, 1) := dTX6_advise_0_ok 52 (93, .iaload, 1) rfl
theorem dX6_advise_94 : decode cX6_advise 94 = .ok (.isub, 1) := dTX6_advise_0_ok 53 (94, .isub, 1) rfl
theorem dX6_advise_95 : decode cX6_advise 95 = .ok (.iastore, 1) := dTX6_advise_0_ok 54 (95, .iastore, 1) rfl
theorem dX6_advise_96 : decode cX6_advise 96 = .ok (.aload_n 0, 1) := dTX6_advise_0_ok 55 (96, .aload_n 0, 1) rfl
theorem dX6_advise_97 : decode cX6_advise 97 = .ok (.iload_n 1, 1) := dTX6_advise_0_ok 56 (97, .iload_n 1, 1) rfl
theorem dX6_advise_98 : decode cX6_advise 98 = .ok (.invokevirtual 148, 3) := dTX6_advise_0_ok 57 (98, .invokevirtual 148, 3) rfl
theorem dX6_advise_101 : decode cX6_advise 101 = .ok (.aload_n 0, 1) := dTX6_advise_0_ok 58 (101, .aload_n 0, 1) rfl
theorem dX6_advise_102 : decode cX6_advise 102 = .ok (.getfield 29, 3) := dTX6_advise_0_ok 59 (102, .getfield 29, 3) rfl
noncomputable def dTX6_advise_1 : List (Nat × Instr × Nat) := [(105, .iconst 1, 1), (106, .iaload, 1), (107, .istore 6, 2), (109, .aload_n 0, 1), (110, .aload_n 2, 1), (111, .invokevirtual 160, 3), (114, .iload 6, 2), (116, .iload 4, 2), (118, .if_icmp .lt 6, 3), (121, .goto 10, 3), (124, .iload 5, 2), (126, .istore_n 3, 1), (127, .iload 6, 2), (129, .istore 4, 2), (131, .iinc 5 1, 3), (134, .goto (-85), 3), (137, .iload_n 3, 1), (138, .ireturn, 1)]
theorem dTX6_advise_1_ok : ∀ (k : Nat) (q : Nat × Instr × Nat), dTX6_advise_1[k]? = some q → decode cX6_advise q.1 = .ok q.2 := dT_of (by decide +kernel)
theorem dX6_advise_105 : decode cX6_advise 105 = .ok (.iconst 1, 1) := dTX6_advise_1_ok 0 (105, .iconst 1, 1) rfl
theorem dX6_advise_106 : decode cX6_advise 106 = .ok (.iaload, 1) := dTX6_advise_1_ok 1 (106, .iaload, 1) rfl
theorem dX6_advise_107 : decode cX6_advise 107 = .ok (.istore 6, 2) := dTX6_advise_1_ok 2 (107, .istore 6, 2) rfl
theorem dX6_advise_109 : decode cX6_advise 109 = .ok (.aload_n 0, 1) := dTX6_advise_1_ok 3 (109, .aload_n 0, 1) rfl
theorem dX6_advise_110 : decode cX6_advise 110 = .ok (.aload_n 2, 1) := dTX6_advise_1_ok 4 (110, .aload_n 2, 1) rfl
theorem dX6_advise_111 : decode cX6_advise 111 = .ok (.invokevirtual 160, 3) := dTX6_advise_1_ok 5 (111, .invokevirtual 160, 3) rfl
theorem dX6_advise_114 : decode cX6_advise 114 = .ok (.iload 6, 2) := dTX6_advise_1_ok 6 (114, .iload 6, 2) rfl
theorem dX6_advise_116 : decode cX6_advise 116 = .ok (.iload 4, 2) := dTX6_advise_1_ok 7 (116, .iload 4, 2) rfl
theorem dX6_advise_118 : decode cX6_advise 118 = .ok (.if_icmp .lt 6, 3) := dTX6_advise_1_ok 8 (118, .if_icmp .lt 6, 3) rfl
theorem dX6_advise_121 : decode cX6_advise 121 = .ok (.goto 10, 3) := dTX6_advise_1_ok 9 (121, .goto 10, 3) rfl
theorem dX6_advise_124 : decode cX6_advise 124 = .ok (.iload 5, 2) := dTX6_advise_1_ok 10 (124, .iload 5, 2) rfl
theorem dX6_advise_126 : decode cX6_advise 126 = .ok (.istore_n 3, 1) := dTX6_advise_1_ok 11 (126, .istore_n 3, 1) rfl
theorem dX6_advise_127 : decode cX6_advise 127 = .ok (.iload 6, 2) := dTX6_advise_1_ok 12 (127, .iload 6, 2) rfl
theorem dX6_advise_129 : decode cX6_advise 129 = .ok (.istore 4, 2) := dTX6_advise_1_ok 13 (129, .istore 4, 2) rfl
theorem dX6_advise_131 : decode cX6_advise 131 = .ok (.iinc 5 1, 3) := dTX6_advise_1_ok 14 (131, .iinc 5 1, 3) rfl
theorem dX6_advise_134 : decode cX6_advise 134 = .ok (.goto (-85), 3) := dTX6_advise_1_ok 15 (134, .goto (-85), 3) rfl
theorem dX6_advise_137 : decode cX6_advise 137 = .ok (.iload_n 3, 1) := dTX6_advise_1_ok 16 (137, .iload_n 3, 1) rfl
theorem dX6_advise_138 : decode cX6_advise 138 = .ok (.ireturn, 1) := dTX6_advise_1_ok 17 (138, .ireturn, 1) rfl
noncomputable def dTX6_mean_0 : List (Nat × Instr × Nat) := [(0, .aload_n 0, 1), (1, .iconst 0, 1), (2, .putfield 41, 3), (5, .aload_n 0, 1), (6, .iconst 4, 1), (7, .iconst 4, 1), (8, .invokevirtual 60, 3), (11, .istore_n 1, 1), (12, .iload_n 1, 1), (13, .ifCond .ne 7, 3), (16, .dconst 0, 1), (17, .goto 11, 3), (20, .aload_n 0, 1), (21, .invokevirtual 133, 3), (24, .i2d, 1), (25, .iload_n 1, 1), (26, .i2d, 1), (27, .ddiv, 1), (28, .dreturn, 1)]
theorem dTX6_mean_0_ok : ∀ (k : Nat) (q : Nat × Instr × Nat), dTX6_mean_0[k]? = some q → decode cX6_mean q.1 = .ok q.2 := dT_of (by decide +kernel)
theorem dX6_mean_0 : decode cX6_mean 0 = .ok (.aload_n 0, 1) := dTX6_mean_0_ok 0 (0, .aload_n 0, 1) rfl
theorem dX6_mean_1 : decode cX6_mean 1 = .ok (.iconst 0, 1) := dTX6_mean_0_ok 1 (1, .iconst 0, 1) rfl
theorem dX6_mean_2 : decode cX6_mean 2 = .ok (.putfield 41, 3) := dTX6_mean_0_ok 2 (2, .putfield 41, 3) rfl
theorem dX6_mean_5 : decode cX6_mean 5 = .ok (.aload_n 0, 1) := dTX6_mean_0_ok 3 (5, .aload_n 0, 1) rfl
theorem dX6_mean_6 : decode cX6_mean 6 = .ok (.iconst 4, 1) := dTX6_mean_0_ok 4 (6, .iconst 4, 1) rfl
theorem dX6_mean_7 : decode cX6_mean 7 = .ok (.iconst 4, 1) := dTX6_mean_0_ok 5 (7, .iconst 4, 1) rfl
theorem dX6_mean_8 : decode cX6_mean 8 = .ok (.invokevirtual 60, 3) := dTX6_mean_0_ok 6 (8, .invokevirtual 60, 3) rfl
theorem dX6_mean_11 : decode cX6_mean 11 = .ok (.istore_n 1, 1) := dTX6_mean_0_ok 7 (11, .istore_n 1, 1) rfl
theorem dX6_mean_12 : decode cX6_mean 12 = .ok (.iload_n 1, 1) := dTX6_mean_0_ok 8 (12, .iload_n 1, 1) rfl
theorem dX6_mean_13 : decode cX6_mean 13 = .ok (.ifCond .ne 7, 3) := dTX6_mean_0_ok 9 (13, .ifCond .ne 7, 3) rfl
theorem dX6_mean_16 : decode cX6_mean 16 = .ok (.dconst 0, 1) := dTX6_mean_0_ok 10 (16, .dconst 0, 1) rfl
theorem dX6_mean_17 : decode cX6_mean 17 = .ok (.goto 11, 3) := dTX6_mean_0_ok 11 (17, .goto 11, 3) rfl
theorem dX6_mean_20 : decode cX6_mean 20 = .ok (.aload_n 0, 1) := dTX6_mean_0_ok 12 (20, .aload_n 0, 1) rfl
theorem dX6_mean_21 : decode cX6_mean 21 = .ok (.invokevirtual 133, 3) := dTX6_mean_0_ok 13 (21, .invokevirtual 133, 3) rfl
theorem dX6_mean_24 : decode cX6_mean 24 = .ok (.i2d, 1) := dTX6_mean_0_ok 14 (24, .i2d, 1) rfl
theorem dX6_mean_25 : decode cX6_mean 25 = .ok (.iload_n 1, 1) := dTX6_mean_0_ok 15 (25, .iload_n 1, 1) rfl
theorem dX6_mean_26 : decode cX6_mean 26 = .ok (.i2d, 1) := dTX6_mean_0_ok 16 (26, .i2d, 1) rfl
theorem dX6_mean_27 : decode cX6_mean 27 = .ok (.ddiv, 1) := dTX6_mean_0_ok 17 (27, .ddiv, 1) rfl
theorem dX6_mean_28 : decode cX6_mean 28 = .ok (.dreturn, 1) := dTX6_mean_0_ok 18 (28, .dreturn, 1) rfl
noncomputable def dTX6_digest_0 : List (Nat × Instr × Nat) := [(0, .aload_n 0, 1), (1, .iconst 0, 1), (2, .putfield 41, 3), (5, .aload_n 0, 1), (6, .invokevirtual 89, 3), (9, .ldc2_w 164, 3), (12, .lstore_n 1, 1), (13, .iconst 0, 1), (14, .istore_n 3, 1), (15, .iload_n 3, 1), (16, .bipush 10, 2), (18, .if_icmp .ge 22, 3), (21, .lload_n 1, 1), (22, .ldc2_w 166, 3), (25, .lmul, 1), (26, .aload_n 0, 1), (27, .iload_n 3, 1), (28, .invokevirtual 136, 3), (31, .i2l, 1), (32, .ladd, 1), (33, .lstore_n 1, 1), (34, .iinc 3 1, 3), (37, .goto (-22), 3), (40, .iconst 0, 1), (41, .istore_n 3, 1), (42, .iload_n 3, 1), (43, .bipush 63, 2), (45, .if_icmp .ge 81, 3), (48, .iconst 0, 1), (49, .istore 4, 2), (51, .iload 4, 2), (53, .iconst 5, 1), (54, .if_icmp .ge 24, 3), (57, .lload_n 1, 1), (58, .ldc2_w 166, 3), (61, .lmul, 1), (62, .aload_n 0, 1), (63, .iload_n 3, 1), (64, .iload 4, 2), (66, .invokevirtual 121, 3), (69, .i2l, 1), (70, .ladd, 1), (71, .lstore_n 1, 1), (72, .iinc 4 1, 3), (75, .goto (-24), 3), (78, .lload_n 1, 1), (79, .ldc2_w 166, 3), (82, .lmul, 1), (83, .aload_n 0, 1), (84, .getfield 9, 3), (87, .iload_n 3, 1), (88, .baload, 1), (89, .ifCond .eq 7, 3), (92, .iconst 1, 1), (93, .goto 4, 3), (96, .iconst 0, 1), (97, .i2l, 1), (98, .ladd, 1), (99, .ldc2_w 166, 3), (102, .lmul, 1)]
theorem dTX6_digest_0_ok : ∀ (k : Nat) (q : Nat × Instr × Nat), dTX6_digest_0[k]? = some q → decode cX6_digest q.1 = .ok q.2 := dT_of (by decide +kernel)
theorem dX6_digest_0 : decode cX6_digest 0 = .ok (.aload_n 0, 1) := dTX6_digest_0_ok 0 (0, .aload_n 0, 1) rfl
theorem dX6_digest_1 : decode cX6_digest 1 = .ok (.iconst 0, 1) := dTX6_digest_0_ok 1 (1, .iconst 0, 1) rfl
theorem dX6_digest_2 : decode cX6_digest 2 = .ok (.putfield 41, 3) := dTX6_digest_0_ok 2 (2, .putfield 41, 3) rfl
theorem dX6_digest_5 : decode cX6_digest 5 = .ok (.aload_n 0, 1) := dTX6_digest_0_ok 3 (5, .aload_n 0, 1) rfl
theorem dX6_digest_6 : decode cX6_digest 6 = .ok (.invokevirtual 89, 3) := dTX6_digest_0_ok 4 (6, .invokevirtual 89, 3) rfl
theorem dX6_digest_9 : decode cX6_digest 9 = .ok (.ldc2_w 164, 3) := dTX6_digest_0_ok 5 (9, .ldc2_w 164, 3) rfl
theorem dX6_digest_12 : decode cX6_digest 12 = .ok (.lstore_n 1, 1) := dTX6_digest_0_ok 6 (12, .lstore_n 1, 1) rfl
theorem dX6_digest_13 : decode cX6_digest 13 = .ok (.iconst 0, 1) := dTX6_digest_0_ok 7 (13, .iconst 0, 1) rfl
theorem dX6_digest_14 : decode cX6_digest 14 = .ok (.istore_n 3, 1) := dTX6_digest_0_ok 8 (14, .istore_n 3, 1) rfl
theorem dX6_digest_15 : decode cX6_digest 15 = .ok (.iload_n 3, 1) := dTX6_digest_0_ok 9 (15, .iload_n 3, 1) rfl
theorem dX6_digest_16 : decode cX6_digest 16 = .ok (.bipush 10, 2) := dTX6_digest_0_ok 10 (16, .bipush 10, 2) rfl
theorem dX6_digest_18 : decode cX6_digest 18 = .ok (.if_icmp .ge 22, 3) := dTX6_digest_0_ok 11 (18, .if_icmp .ge 22, 3) rfl
theorem dX6_digest_21 : decode cX6_digest 21 = .ok (.lload_n 1, 1) := dTX6_digest_0_ok 12 (21, .lload_n 1, 1) rfl
theorem dX6_digest_22 : decode cX6_digest 22 = .ok (.ldc2_w 166, 3) := dTX6_digest_0_ok 13 (22, .ldc2_w 166, 3) rfl
theorem dX6_digest_25 : decode cX6_digest 25 = .ok (.lmul, 1) := dTX6_digest_0_ok 14 (25, .lmul, 1) rfl
theorem dX6_digest_26 : decode cX6_digest 26 = .ok (.aload_n 0, 1) := dTX6_digest_0_ok 15 (26, .aload_n 0, 1) rfl
theorem dX6_digest_27 : decode cX6_digest 27 = .ok (.iload_n 3, 1) := dTX6_digest_0_ok 16 (27, .iload_n 3, 1) rfl
theorem dX6_digest_28 : decode cX6_digest 28 = .ok (.invokevirtual 136, 3) := dTX6_digest_0_ok 17 (28, .invokevirtual 136, 3) rfl
theorem dX6_digest_31 : decode cX6_digest 31 = .ok (.i2l, 1) := dTX6_digest_0_ok 18 (31, .i2l, 1) rfl
theorem dX6_digest_32 : decode cX6_digest 32 = .ok (.ladd, 1) := dTX6_digest_0_ok 19 (32, .ladd, 1) rfl
theorem dX6_digest_33 : decode cX6_digest 33 = .ok (.lstore_n 1, 1) := dTX6_digest_0_ok 20 (33, .lstore_n 1, 1) rfl
theorem dX6_digest_34 : decode cX6_digest 34 = .ok (.iinc 3 1, 3) := dTX6_digest_0_ok 21 (34, .iinc 3 1, 3) rfl
theorem dX6_digest_37 : decode cX6_digest 37 = .ok (.goto (-22), 3) := dTX6_digest_0_ok 22 (37, .goto (-22), 3) rfl
theorem dX6_digest_40 : decode cX6_digest 40 = .ok (.iconst 0, 1) := dTX6_digest_0_ok 23 (40, .iconst 0, 1) rfl
theorem dX6_digest_41 : decode cX6_digest 41 = .ok (.istore_n 3, 1) := dTX6_digest_0_ok 24 (41, .istore_n 3, 1) rfl
theorem dX6_digest_42 : decode cX6_digest 42 = .ok (.iload_n 3, 1) := dTX6_digest_0_ok 25 (42, .iload_n 3, 1) rfl
theorem dX6_digest_43 : decode cX6_digest 43 = .ok (.bipush 63, 2) := dTX6_digest_0_ok 26 (43, .bipush 63, 2) rfl
theorem dX6_digest_45 : decode cX6_digest 45 = .ok (.if_icmp .ge 81, 3) := dTX6_digest_0_ok 27 (45, .if_icmp .ge 81, 3) rfl
theorem dX6_digest_48 : decode cX6_digest 48 = .ok (.iconst 0, 1) := dTX6_digest_0_ok 28 (48, .iconst 0, 1) rfl
theorem dX6_digest_49 : decode cX6_digest 49 = .ok (.istore 4, 2) := dTX6_digest_0_ok 29 (49, .istore 4, 2) rfl
theorem dX6_digest_51 : decode cX6_digest 51 = .ok (.iload 4, 2) := dTX6_digest_0_ok 30 (51, .iload 4, 2) rfl
theorem dX6_digest_53 : decode cX6_digest 53 = .ok (.iconst 5, 1) := dTX6_digest_0_ok 31 (53, .iconst 5, 1) rfl
theorem dX6_digest_54 : decode cX6_digest 54 = .ok (.if_icmp .ge 24, 3) := dTX6_digest_0_ok 32 (54, .if_icmp .ge 24, 3) rfl
theorem dX6_digest_57 : decode cX6_digest 57 = .ok (.lload_n 1, 1) := dTX6_digest_0_ok 33 (57, .lload_n 1, 1) rfl
theorem dX6_digest_58 : decode cX6_digest 58 = .ok (.ldc2_w 166, 3) := dTX6_digest_0_ok 34 (58, .ldc2_w 166, 3) rfl
theorem dX6_digest_61 : decode cX6_digest 61 = .ok (.lmul, 1) := dTX6_digest_0_ok 35 (61, .lmul, 1) rfl
theorem dX6_digest_62 : decode cX6_digest 62 = .ok (.aload_n 0, 1) := dTX6_digest_0_ok 36 (62, .aload_n 0, 1) rfl
theorem dX6_digest_63 : decode cX6_digest 63 = .ok (.iload_n 3, 1) := dTX6_digest_0_ok 37 (63, .iload_n 3, 1) rfl
theorem dX6_digest_64 : decode cX6_digest 64 = .ok (.iload 4, 2) := dTX6_digest_0_ok 38 (64, .iload 4, 2) rfl
theorem dX6_digest_66 : decode cX6_digest 66 = .ok (.invokevirtual 121, 3) := dTX6_digest_0_ok 39 (66, .invokevirtual 121, 3) rfl
theorem dX6_digest_69 : decode cX6_digest 69 = .ok (.i2l, 1) := dTX6_digest_0_ok 40 (69, .i2l, 1) rfl
theorem dX6_digest_70 : decode cX6_digest 70 = .ok (.ladd, 1) := dTX6_digest_0_ok 41 (70, .ladd, 1) rfl
theorem dX6_digest_71 : decode cX6_digest 71 = .ok (.lstore_n 1, 1) := dTX6_digest_0_ok 42 (71, .lstore_n 1, 1) rfl
theorem dX6_digest_72 : decode cX6_digest 72 = .ok (.iinc 4 1, 3) := dTX6_digest_0_ok 43 (72, .iinc 4 1, 3) rfl
theorem dX6_digest_75 : decode cX6_digest 75 = .ok (.goto (-24), 3) := dTX6_digest_0_ok 44 (75, .goto (-24), 3) rfl
theorem dX6_digest_78 : decode cX6_digest 78 = .ok (.lload_n 1, 1) := dTX6_digest_0_ok 45 (78, .lload_n 1, 1) rfl
theorem dX6_digest_79 : decode cX6_digest 79 = .ok (.ldc2_w 166, 3) := dTX6_digest_0_ok 46 (79, .ldc2_w 166, 3) rfl
theorem dX6_digest_82 : decode cX6_digest 82 = .ok (.lmul, 1) := dTX6_digest_0_ok 47 (82, .lmul, 1) rfl
theorem dX6_digest_83 : decode cX6_digest 83 = .ok (.aload_n 0, 1) := dTX6_digest_0_ok 48 (83, .aload_n 0, 1) rfl
theorem dX6_digest_84 : decode cX6_digest 84 = .ok (.getfield 9, 3) := dTX6_digest_0_ok 49 (84, .getfield 9, 3) rfl
theorem dX6_digest_87 : decode cX6_digest 87 = .ok (.iload_n 3, 1) := dTX6_digest_0_ok 50 (87, .iload_n 3, 1) rfl
theorem dX6_digest_88 : decode cX6_digest 88 = .ok (.baload, 1) := dTX6_digest_0_ok 51 (88, .baload, 1) rfl
theorem dX6_digest_89 : decode cX6_digest 89 = .ok (.ifCond .eq 7, 3) := dTX6_digest_0_ok 52 (89, .ifCond .eq 7, 3) rfl
theorem dX6_digest_92 : decode cX6_digest 92 = .ok (.iconst 1, 1) := dTX6_digest_0_ok 53 (92, .iconst 1, 1) rfl
theorem dX6_digest_93 : decode cX6_digest 93 = .ok (.goto 4, 3) := dTX6_digest_0_ok 54 (93, .goto 4, 3) rfl
theorem dX6_digest_96 : decode cX6_digest 96 = .ok (.iconst 0, 1) := dTX6_digest_0_ok 55 (96, .iconst 0, 1) rfl
theorem dX6_digest_97 : decode cX6_digest 97 = .ok (.i2l, 1) := dTX6_digest_0_ok 56 (97, .i2l, 1) rfl
theorem dX6_digest_98 : decode cX6_digest 98 = .ok (.ladd, 1) := dTX6_digest_0_ok 57 (98, .ladd, 1) rfl
theorem dX6_digest_99 : decode cX6_digest 99 = .ok (.ldc2_w 166, 3) := dTX6_digest_0_ok 58 (99, .ldc2_w 166, 3) rfl
theorem dX6_digest_102 : decode cX6_digest 102 = .ok (.lmul, 1) := dTX6_digest_0_ok 59 (102, .lmul, 1) rfl
noncomputable def dTX6_digest_1 : List (Nat × Instr × Nat) := [(103, .aload_n 0, 1), (104, .getfield 13, 3), (107, .iload_n 3, 1), (108, .baload, 1), (109, .ifCond .eq 7, 3), (112, .iconst 1, 1), (113, .goto 4, 3), (116, .iconst 0, 1), (117, .i2l, 1), (118, .ladd, 1), (119, .lstore_n 1, 1), (120, .iinc 3 1, 3), (123, .goto (-81), 3), (126, .iconst 0, 1), (127, .istore_n 3, 1), (128, .iload_n 3, 1), (129, .aload_n 0, 1), (130, .getfield 49, 3), (133, .if_icmp .ge 40, 3), (136, .iconst 0, 1), (137, .istore 4, 2), (139, .iload 4, 2), (141, .bipush 8, 2), (143, .if_icmp .ge 24, 3), (146, .lload_n 1, 1), (147, .ldc2_w 166, 3), (150, .lmul, 1), (151, .aload_n 0, 1), (152, .iload_n 3, 1), (153, .iload 4, 2), (155, .invokevirtual 124, 3), (158, .i2l, 1), (159, .ladd, 1), (160, .lstore_n 1, 1), (161, .iinc 4 1, 3), (164, .goto (-25), 3), (167, .iinc 3 1, 3), (170, .goto (-42), 3), (173, .lload_n 1, 1), (174, .lreturn, 1)]
theorem dTX6_digest_1_ok : ∀ (k : Nat) (q : Nat × Instr × Nat), dTX6_digest_1[k]? = some q → decode cX6_digest q.1 = .ok q.2 := dT_of (by decide +kernel)
theorem dX6_digest_103 : decode cX6_digest 103 = .ok (.aload_n 0, 1) := dTX6_digest_1_ok 0 (103, .aload_n 0, 1) rfl
theorem dX6_digest_104 : decode cX6_digest 104 = .ok (.getfield 13, 3) := dTX6_digest_1_ok 1 (104, .getfield 13, 3) rfl
theorem dX6_digest_107 : decode cX6_digest 107 = .ok (.iload_n 3, 1) := dTX6_digest_1_ok 2 (107, .iload_n 3, 1) rfl
theorem dX6_digest_108 : decode cX6_digest 108 = .ok (.baload, 1) := dTX6_digest_1_ok 3 (108, .baload, 1) rfl
theorem dX6_digest_109 : decode cX6_digest 109 = .ok (.ifCond .eq 7, 3) := dTX6_digest_1_ok 4 (109, .ifCond .eq 7, 3) rfl
theorem dX6_digest_112 : decode cX6_digest 112 = .ok (.iconst 1, 1) := dTX6_digest_1_ok 5 (112, .iconst 1, 1) rfl
theorem dX6_digest_113 : decode cX6_digest 113 = .ok (.goto 4, 3) := dTX6_digest_1_ok 6 (113, .goto 4, 3) rfl
theorem dX6_digest_116 : decode cX6_digest 116 = .ok (.iconst 0, 1) := dTX6_digest_1_ok 7 (116, .iconst 0, 1) rfl
theorem dX6_digest_117 : decode cX6_digest 117 = .ok (.i2l, 1) := dTX6_digest_1_ok 8 (117, .i2l, 1) rfl
theorem dX6_digest_118 : decode cX6_digest 118 = .ok (.ladd, 1) := dTX6_digest_1_ok 9 (118, .ladd, 1) rfl
theorem dX6_digest_119 : decode cX6_digest 119 = .ok (.lstore_n 1, 1) := dTX6_digest_1_ok 10 (119, .lstore_n 1, 1) rfl
theorem dX6_digest_120 : decode cX6_digest 120 = .ok (.iinc 3 1, 3) := dTX6_digest_1_ok 11 (120, .iinc 3 1, 3) rfl
theorem dX6_digest_123 : decode cX6_digest 123 = .ok (.goto (-81), 3) := dTX6_digest_1_ok 12 (123, .goto (-81), 3) rfl
theorem dX6_digest_126 : decode cX6_digest 126 = .ok (.iconst 0, 1) := dTX6_digest_1_ok 13 (126, .iconst 0, 1) rfl
theorem dX6_digest_127 : decode cX6_digest 127 = .ok (.istore_n 3, 1) := dTX6_digest_1_ok 14 (127, .istore_n 3, 1) rfl
theorem dX6_digest_128 : decode cX6_digest 128 = .ok (.iload_n 3, 1) := dTX6_digest_1_ok 15 (128, .iload_n 3, 1) rfl
theorem dX6_digest_129 : decode cX6_digest 129 = .ok (.aload_n 0, 1) := dTX6_digest_1_ok 16 (129, .aload_n 0, 1) rfl
theorem dX6_digest_130 : decode cX6_digest 130 = .ok (.getfield 49, 3) := dTX6_digest_1_ok 17 (130, .getfield 49, 3) rfl
theorem dX6_digest_133 : decode cX6_digest 133 = .ok (.if_icmp .ge 40, 3) := dTX6_digest_1_ok 18 (133, .if_icmp .ge 40, 3) rfl
theorem dX6_digest_136 : decode cX6_digest 136 = .ok (.iconst 0, 1) := dTX6_digest_1_ok 19 (136, .iconst 0, 1) rfl
theorem dX6_digest_137 : decode cX6_digest 137 = .ok (.istore 4, 2) := dTX6_digest_1_ok 20 (137, .istore 4, 2) rfl
theorem dX6_digest_139 : decode cX6_digest 139 = .ok (.iload 4, 2) := dTX6_digest_1_ok 21 (139, .iload 4, 2) rfl
theorem dX6_digest_141 : decode cX6_digest 141 = .ok (.bipush 8, 2) := dTX6_digest_1_ok 22 (141, .bipush 8, 2) rfl
theorem dX6_digest_143 : decode cX6_digest 143 = .ok (.if_icmp .ge 24, 3) := dTX6_digest_1_ok 23 (143, .if_icmp .ge 24, 3) rfl
theorem dX6_digest_146 : decode cX6_digest 146 = .ok (.lload_n 1, 1) := dTX6_digest_1_ok 24 (146, .lload_n 1, 1) rfl
theorem dX6_digest_147 : decode cX6_digest 147 = .ok (.ldc2_w 166, 3) := dTX6_digest_1_ok 25 (147, .ldc2_w 166, 3) rfl
theorem dX6_digest_150 : decode cX6_digest 150 = .ok (.lmul, 1) := dTX6_digest_1_ok 26 (150, .lmul, 1) rfl
theorem dX6_digest_151 : decode cX6_digest 151 = .ok (.aload_n 0, 1) := dTX6_digest_1_ok 27 (151, .aload_n 0, 1) rfl
theorem dX6_digest_152 : decode cX6_digest 152 = .ok (.iload_n 3, 1) := dTX6_digest_1_ok 28 (152, .iload_n 3, 1) rfl
theorem dX6_digest_153 : decode cX6_digest 153 = .ok (.iload 4, 2) := dTX6_digest_1_ok 29 (153, .iload 4, 2) rfl
theorem dX6_digest_155 : decode cX6_digest 155 = .ok (.invokevirtual 124, 3) := dTX6_digest_1_ok 30 (155, .invokevirtual 124, 3) rfl
theorem dX6_digest_158 : decode cX6_digest 158 = .ok (.i2l, 1) := dTX6_digest_1_ok 31 (158, .i2l, 1) rfl
theorem dX6_digest_159 : decode cX6_digest 159 = .ok (.ladd, 1) := dTX6_digest_1_ok 32 (159, .ladd, 1) rfl
theorem dX6_digest_160 : decode cX6_digest 160 = .ok (.lstore_n 1, 1) := dTX6_digest_1_ok 33 (160, .lstore_n 1, 1) rfl
theorem dX6_digest_161 : decode cX6_digest 161 = .ok (.iinc 4 1, 3) := dTX6_digest_1_ok 34 (161, .iinc 4 1, 3) rfl
theorem dX6_digest_164 : decode cX6_digest 164 = .ok (.goto (-25), 3) := dTX6_digest_1_ok 35 (164, .goto (-25), 3) rfl
theorem dX6_digest_167 : decode cX6_digest 167 = .ok (.iinc 3 1, 3) := dTX6_digest_1_ok 36 (167, .iinc 3 1, 3) rfl
theorem dX6_digest_170 : decode cX6_digest 170 = .ok (.goto (-42), 3) := dTX6_digest_1_ok 37 (170, .goto (-42), 3) rfl
theorem dX6_digest_173 : decode cX6_digest 173 = .ok (.lload_n 1, 1) := dTX6_digest_1_ok 38 (173, .lload_n 1, 1) rfl
theorem dX6_digest_174 : decode cX6_digest 174 = .ok (.lreturn, 1) := dTX6_digest_1_ok 39 (174, .lreturn, 1) rfl
noncomputable def dTJ13_bitCount_95d88_0 : List (Nat × Instr × Nat) := [(0, .lload_n 0, 1), (1, .lload_n 0, 1), (2, .iconst 1, 1), (3, .lushr, 1), (4, .ldc2_w 314, 3), (7, .land, 1), (8, .lsub, 1), (9, .lstore_n 0, 1), (10, .lload_n 0, 1), (11, .ldc2_w 316, 3), (14, .land, 1), (15, .lload_n 0, 1), (16, .iconst 2, 1), (17, .lushr, 1), (18, .ldc2_w 316, 3), (21, .land, 1), (22, .ladd, 1), (23, .lstore_n 0, 1), (24, .lload_n 0, 1), (25, .lload_n 0, 1), (26, .iconst 4, 1), (27, .lushr, 1), (28, .ladd, 1), (29, .ldc2_w 318, 3), (32, .land, 1), (33, .lstore_n 0, 1), (34, .lload_n 0, 1), (35, .lload_n 0, 1), (36, .bipush 8, 2), (38, .lushr, 1), (39, .ladd, 1), (40, .lstore_n 0, 1), (41, .lload_n 0, 1), (42, .lload_n 0, 1), (43, .bipush 16, 2), (45, .lushr, 1), (46, .ladd, 1), (47, .lstore_n 0, 1), (48, .lload_n 0, 1), (49, .lload_n 0, 1), (50, .bipush 32, 2), (52, .lushr, 1), (53, .ladd, 1), (54, .lstore_n 0, 1), (55, .lload_n 0, 1), (56, .l2i, 1), (57, .bipush 127, 2), (59, .iand, 1), (60, .ireturn, 1)]
theorem dTJ13_bitCount_95d88_0_ok : ∀ (k : Nat) (q : Nat × Instr × Nat), dTJ13_bitCount_95d88_0[k]? = some q → decode cJ13_bitCount_95d88 q.1 = .ok q.2 := dT_of (by decide +kernel)
theorem dJ13_bitCount_95d88_0 : decode cJ13_bitCount_95d88 0 = .ok (.lload_n 0, 1) := dTJ13_bitCount_95d88_0_ok 0 (0, .lload_n 0, 1) rfl
theorem dJ13_bitCount_95d88_1 : decode cJ13_bitCount_95d88 1 = .ok (.lload_n 0, 1) := dTJ13_bitCount_95d88_0_ok 1 (1, .lload_n 0, 1) rfl
theorem dJ13_bitCount_95d88_2 : decode cJ13_bitCount_95d88 2 = .ok (.iconst 1, 1) := dTJ13_bitCount_95d88_0_ok 2 (2, .iconst 1, 1) rfl
theorem dJ13_bitCount_95d88_3 : decode cJ13_bitCount_95d88 3 = .ok (.lushr, 1) := dTJ13_bitCount_95d88_0_ok 3 (3, .lushr, 1) rfl
theorem dJ13_bitCount_95d88_4 : decode cJ13_bitCount_95d88 4 = .ok (.ldc2_w 314, 3) := dTJ13_bitCount_95d88_0_ok 4 (4, .ldc2_w 314, 3) rfl
theorem dJ13_bitCount_95d88_7 : decode cJ13_bitCount_95d88 7 = .ok (.land, 1) := dTJ13_bitCount_95d88_0_ok 5 (7, .land, 1) rfl
theorem dJ13_bitCount_95d88_8 : decode cJ13_bitCount_95d88 8 = .ok (.lsub, 1) := dTJ13_bitCount_95d88_0_ok 6 (8, .lsub, 1) rfl
theorem dJ13_bitCount_95d88_9 : decode cJ13_bitCount_95d88 9 = .ok (.lstore_n 0, 1) := dTJ13_bitCount_95d88_0_ok 7 (9, .lstore_n 0, 1) rfl
theorem dJ13_bitCount_95d88_10 : decode cJ13_bitCount_95d88 10 = .ok (.lload_n 0, 1) := dTJ13_bitCount_95d88_0_ok 8 (10, .lload_n 0, 1) rfl
theorem dJ13_bitCount_95d88_11 : decode cJ13_bitCount_95d88 11 = .ok (.ldc2_w 316, 3) := dTJ13_bitCount_95d88_0_ok 9 (11, .ldc2_w 316, 3) rfl
theorem dJ13_bitCount_95d88_14 : decode cJ13_bitCount_95d88 14 = .ok (.land, 1) := dTJ13_bitCount_95d88_0_ok 10 (14, .land, 1) rfl
theorem dJ13_bitCount_95d88_15 : decode cJ13_bitCount_95d88 15 = .ok (.lload_n 0, 1) := dTJ13_bitCount_95d88_0_ok 11 (15, .lload_n 0, 1) rfl
theorem dJ13_bitCount_95d88_16 : decode cJ13_bitCount_95d88 16 = .ok (.iconst 2, 1) := dTJ13_bitCount_95d88_0_ok 12 (16, .iconst 2, 1) rfl
theorem dJ13_bitCount_95d88_17 : decode cJ13_bitCount_95d88 17 = .ok (.lushr, 1) := dTJ13_bitCount_95d88_0_ok 13 (17, .lushr, 1) rfl
theorem dJ13_bitCount_95d88_18 : decode cJ13_bitCount_95d88 18 = .ok (.ldc2_w 316, 3) := dTJ13_bitCount_95d88_0_ok 14 (18, .ldc2_w 316, 3) rfl
theorem dJ13_bitCount_95d88_21 : decode cJ13_bitCount_95d88 21 = .ok (.land, 1) := dTJ13_bitCount_95d88_0_ok 15 (21, .land, 1) rfl
theorem dJ13_bitCount_95d88_22 : decode cJ13_bitCount_95d88 22 = .ok (.ladd, 1) := dTJ13_bitCount_95d88_0_ok 16 (22, .ladd, 1) rfl
theorem dJ13_bitCount_95d88_23 : decode cJ13_bitCount_95d88 23 = .ok (.lstore_n 0, 1) := dTJ13_bitCount_95d88_0_ok 17 (23, .lstore_n 0, 1) rfl
theorem dJ13_bitCount_95d88_24 : decode cJ13_bitCount_95d88 24 = .ok (.lload_n 0, 1) := dTJ13_bitCount_95d88_0_ok 18 (24, .lload_n 0, 1) rfl
theorem dJ13_bitCount_95d88_25 : decode cJ13_bitCount_95d88 25 = .ok (.lload_n 0, 1) := dTJ13_bitCount_95d88_0_ok 19 (25, .lload_n 0, 1) rfl
theorem dJ13_bitCount_95d88_26 : decode cJ13_bitCount_95d88 26 = .ok (.iconst 4, 1) := dTJ13_bitCount_95d88_0_ok 20 (26, .iconst 4, 1) rfl
theorem dJ13_bitCount_95d88_27 : decode cJ13_bitCount_95d88 27 = .ok (.lushr, 1) := dTJ13_bitCount_95d88_0_ok 21 (27, .lushr, 1) rfl
theorem dJ13_bitCount_95d88_28 : decode cJ13_bitCount_95d88 28 = .ok (.ladd, 1) := dTJ13_bitCount_95d88_0_ok 22 (28, .ladd, 1) rfl
theorem dJ13_bitCount_95d88_29 : decode cJ13_bitCount_95d88 29 = .ok (.ldc2_w 318, 3) := dTJ13_bitCount_95d88_0_ok 23 (29, .ldc2_w 318, 3) rfl
theorem dJ13_bitCount_95d88_32 : decode cJ13_bitCount_95d88 32 = .ok (.land, 1) := dTJ13_bitCount_95d88_0_ok 24 (32, .land, 1) rfl
theorem dJ13_bitCount_95d88_33 : decode cJ13_bitCount_95d88 33 = .ok (.lstore_n 0, 1) := dTJ13_bitCount_95d88_0_ok 25 (33, .lstore_n 0, 1) rfl
theorem dJ13_bitCount_95d88_34 : decode cJ13_bitCount_95d88 34 = .ok (.lload_n 0, 1) := dTJ13_bitCount_95d88_0_ok 26 (34, .lload_n 0, 1) rfl
theorem dJ13_bitCount_95d88_35 : decode cJ13_bitCount_95d88 35 = .ok (.lload_n 0, 1) := dTJ13_bitCount_95d88_0_ok 27 (35, .lload_n 0, 1) rfl
theorem dJ13_bitCount_95d88_36 : decode cJ13_bitCount_95d88 36 = .ok (.bipush 8, 2) := dTJ13_bitCount_95d88_0_ok 28 (36, .bipush 8, 2) rfl
theorem dJ13_bitCount_95d88_38 : decode cJ13_bitCount_95d88 38 = .ok (.lushr, 1) := dTJ13_bitCount_95d88_0_ok 29 (38, .lushr, 1) rfl
theorem dJ13_bitCount_95d88_39 : decode cJ13_bitCount_95d88 39 = .ok (.ladd, 1) := dTJ13_bitCount_95d88_0_ok 30 (39, .ladd, 1) rfl
theorem dJ13_bitCount_95d88_40 : decode cJ13_bitCount_95d88 40 = .ok (.lstore_n 0, 1) := dTJ13_bitCount_95d88_0_ok 31 (40, .lstore_n 0, 1) rfl
theorem dJ13_bitCount_95d88_41 : decode cJ13_bitCount_95d88 41 = .ok (.lload_n 0, 1) := dTJ13_bitCount_95d88_0_ok 32 (41, .lload_n 0, 1) rfl
theorem dJ13_bitCount_95d88_42 : decode cJ13_bitCount_95d88 42 = .ok (.lload_n 0, 1) := dTJ13_bitCount_95d88_0_ok 33 (42, .lload_n 0, 1) rfl
theorem dJ13_bitCount_95d88_43 : decode cJ13_bitCount_95d88 43 = .ok (.bipush 16, 2) := dTJ13_bitCount_95d88_0_ok 34 (43, .bipush 16, 2) rfl
theorem dJ13_bitCount_95d88_45 : decode cJ13_bitCount_95d88 45 = .ok (.lushr, 1) := dTJ13_bitCount_95d88_0_ok 35 (45, .lushr, 1) rfl
theorem dJ13_bitCount_95d88_46 : decode cJ13_bitCount_95d88 46 = .ok (.ladd, 1) := dTJ13_bitCount_95d88_0_ok 36 (46, .ladd, 1) rfl
theorem dJ13_bitCount_95d88_47 : decode cJ13_bitCount_95d88 47 = .ok (.lstore_n 0, 1) := dTJ13_bitCount_95d88_0_ok 37 (47, .lstore_n 0, 1) rfl
theorem dJ13_bitCount_95d88_48 : decode cJ13_bitCount_95d88 48 = .ok (.lload_n 0, 1) := dTJ13_bitCount_95d88_0_ok 38 (48, .lload_n 0, 1) rfl
theorem dJ13_bitCount_95d88_49 : decode cJ13_bitCount_95d88 49 = .ok (.lload_n 0, 1) := dTJ13_bitCount_95d88_0_ok 39 (49, .lload_n 0, 1) rfl
theorem dJ13_bitCount_95d88_50 : decode cJ13_bitCount_95d88 50 = .ok (.bipush 32, 2) := dTJ13_bitCount_95d88_0_ok 40 (50, .bipush 32, 2) rfl
theorem dJ13_bitCount_95d88_52 : decode cJ13_bitCount_95d88 52 = .ok (.lushr, 1) := dTJ13_bitCount_95d88_0_ok 41 (52, .lushr, 1) rfl
theorem dJ13_bitCount_95d88_53 : decode cJ13_bitCount_95d88 53 = .ok (.ladd, 1) := dTJ13_bitCount_95d88_0_ok 42 (53, .ladd, 1) rfl
theorem dJ13_bitCount_95d88_54 : decode cJ13_bitCount_95d88 54 = .ok (.lstore_n 0, 1) := dTJ13_bitCount_95d88_0_ok 43 (54, .lstore_n 0, 1) rfl
theorem dJ13_bitCount_95d88_55 : decode cJ13_bitCount_95d88 55 = .ok (.lload_n 0, 1) := dTJ13_bitCount_95d88_0_ok 44 (55, .lload_n 0, 1) rfl
theorem dJ13_bitCount_95d88_56 : decode cJ13_bitCount_95d88 56 = .ok (.l2i, 1) := dTJ13_bitCount_95d88_0_ok 45 (56, .l2i, 1) rfl
theorem dJ13_bitCount_95d88_57 : decode cJ13_bitCount_95d88 57 = .ok (.bipush 127, 2) := dTJ13_bitCount_95d88_0_ok 46 (57, .bipush 127, 2) rfl
theorem dJ13_bitCount_95d88_59 : decode cJ13_bitCount_95d88 59 = .ok (.iand, 1) := dTJ13_bitCount_95d88_0_ok 47 (59, .iand, 1) rfl
theorem dJ13_bitCount_95d88_60 : decode cJ13_bitCount_95d88 60 = .ok (.ireturn, 1) := dTJ13_bitCount_95d88_0_ok 48 (60, .ireturn, 1) rfl
noncomputable def dTJ9_min_7cf53_0 : List (Nat × Instr × Nat) := [(0, .iload_n 0, 1), (1, .iload_n 1, 1), (2, .if_icmp .gt 7, 3), (5, .iload_n 0, 1), (6, .goto 4, 3), (9, .iload_n 1, 1), (10, .ireturn, 1)]
theorem dTJ9_min_7cf53_0_ok : ∀ (k : Nat) (q : Nat × Instr × Nat), dTJ9_min_7cf53_0[k]? = some q → decode cJ9_min_7cf53 q.1 = .ok q.2 := dT_of (by decide +kernel)
theorem dJ9_min_7cf53_0 : decode cJ9_min_7cf53 0 = .ok (.iload_n 0, 1) := dTJ9_min_7cf53_0_ok 0 (0, .iload_n 0, 1) rfl
theorem dJ9_min_7cf53_1 : decode cJ9_min_7cf53 1 = .ok (.iload_n 1, 1) := dTJ9_min_7cf53_0_ok 1 (1, .iload_n 1, 1) rfl
theorem dJ9_min_7cf53_2 : decode cJ9_min_7cf53 2 = .ok (.if_icmp .gt 7, 3) := dTJ9_min_7cf53_0_ok 2 (2, .if_icmp .gt 7, 3) rfl
theorem dJ9_min_7cf53_5 : decode cJ9_min_7cf53 5 = .ok (.iload_n 0, 1) := dTJ9_min_7cf53_0_ok 3 (5, .iload_n 0, 1) rfl
theorem dJ9_min_7cf53_6 : decode cJ9_min_7cf53 6 = .ok (.goto 4, 3) := dTJ9_min_7cf53_0_ok 4 (6, .goto 4, 3) rfl
theorem dJ9_min_7cf53_9 : decode cJ9_min_7cf53 9 = .ok (.iload_n 1, 1) := dTJ9_min_7cf53_0_ok 5 (9, .iload_n 1, 1) rfl
theorem dJ9_min_7cf53_10 : decode cJ9_min_7cf53 10 = .ok (.ireturn, 1) := dTJ9_min_7cf53_0_ok 6 (10, .ireturn, 1) rfl
