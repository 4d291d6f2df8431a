/-! the methods, and what the pool numbers of each class lead to (by program out of the printed names) -/
abbrev mX0_only : gM := (yX0_only, cX0_only, 1, (some .long), [])
abbrev mX0_holds : gM := (yX0_holds, cX0_holds, 3, (some .boolean), [])
abbrev mX0_moved : gM := (yX0_moved, cX0_moved, 3, (some .long), [])
abbrev mX0_isRim : gM := (yX0_isRim, cX0_isRim, 2, (some .boolean), [])
abbrev mX0_neighbour : gM := (yX0_neighbour, cX0_neighbour, 2, (some .int), [])
abbrev mX3_init : gM := (yX3_init, cX3_init, 2, none, [])
abbrev mX1_init : gM := (yX1_init, cX1_init, 1, none, [])
abbrev mX3_get : gM := (yX3_get, cX3_get, 2, (some .int), [])
abbrev mX3_copyFrom : gM := (yX3_copyFrom, cX3_copyFrom, 3, none, [])
abbrev mX1_copyFrom : gM := (yX1_copyFrom, cX1_copyFrom, 2, none, [])
abbrev mJ13_bitCount_95d88 : gM := (yJ13_bitCount_95d88, cJ13_bitCount_95d88, 2, (some .int), [])
abbrev mX1_candleCount : gM := (yX1_candleCount, cX1_candleCount, 1, (some .int), [])
abbrev mX1_burningCount : gM := (yX1_burningCount, cX1_burningCount, 1, (some .int), [])
abbrev mX1_mirrorCount : gM := (yX1_mirrorCount, cX1_mirrorCount, 1, (some .int), [])
abbrev mX1_tallyCount : gM := (yX1_tallyCount, cX1_tallyCount, 1, (some .int), [])
abbrev mX1_wallCount : gM := (yX1_wallCount, cX1_wallCount, 1, (some .int), [])
abbrev mX1_litCount : gM := (yX1_litCount, cX1_litCount, 1, (some .int), [])
abbrev mX1_hasTally : gM := (yX1_hasTally, cX1_hasTally, 2, (some .boolean), [])
abbrev mX1_sumOfMarks : gM := (yX1_sumOfMarks, cX1_sumOfMarks, 3, (some .int), [])
abbrev mX1_isBurning : gM := (yX1_isBurning, cX1_isBurning, 2, (some .boolean), [])
abbrev mX1_isLit : gM := (yX1_isLit, cX1_isLit, 2, (some .boolean), [])
abbrev mX1_hasCandleWithWax : gM := (yX1_hasCandleWithWax, cX1_hasCandleWithWax, 2, (some .boolean), [])
abbrev mX1_amountIn : gM := (yX1_amountIn, cX1_amountIn, 2, (some .int), [])
abbrev mX1_thingIn : gM := (yX1_thingIn, cX1_thingIn, 2, (some .int), [])
abbrev mX3_put : gM := (yX3_put, cX3_put, 3, none, [])
abbrev mX1_walledCells : gM := (yX1_walledCells, cX1_walledCells, 2, (some .long), [])
abbrev mX1_turned : gM := (yX1_turned, cX1_turned, 4, (some .int), [])
abbrev mX1_cellsLitFrom : gM := (yX1_cellsLitFrom, cX1_cellsLitFrom, 11, (some .long), [])
abbrev mX1_relight : gM := (yX1_relight, cX1_relight, 2, none, [])
abbrev mX1_addCandle : gM := (yX1_addCandle, cX1_addCandle, 3, none, [])
abbrev mX1_addMirror : gM := (yX1_addMirror, cX1_addMirror, 3, none, [])
abbrev mX1_addTally : gM := (yX1_addTally, cX1_addTally, 2, none, [])
abbrev mX1_clear : gM := (yX1_clear, cX1_clear, 4, none, [])
abbrev mX1_switchCandle : gM := (yX1_switchCandle, cX1_switchCandle, 2, none, [])
abbrev mX1_hasWall : gM := (yX1_hasWall, cX1_hasWall, 3, (some .boolean), [])
abbrev mX1_switchWall : gM := (yX1_switchWall, cX1_switchWall, 7, none, [])
abbrev mX1_neighbours : gM := (yX1_neighbours, cX1_neighbours, 9, (some .long), [])
abbrev mX1_burnDown : gM := (yX1_burnDown, cX1_burnDown, 3, none, [])
abbrev mX1_blowOutAround : gM := (yX1_blowOutAround, cX1_blowOutAround, 4, none, [])
abbrev mX1_addMark : gM := (yX1_addMark, cX1_addMark, 3, none, [])
abbrev mX4_init : gM := (yX4_init, cX4_init, 1, none, [])
abbrev mX2_init : gM := (yX2_init, cX2_init, 1, none, [])
abbrev mX2_copyFrom : gM := (yX2_copyFrom, cX2_copyFrom, 2, none, [])
abbrev mX2_trait : gM := (yX2_trait, cX2_trait, 3, (some .int), [])
abbrev mX2_setTrait : gM := (yX2_setTrait, cX2_setTrait, 4, none, [])
abbrev mX2_sumOfTrait : gM := (yX2_sumOfTrait, cX2_sumOfTrait, 4, (some .int), [])
abbrev mX2_mayPass : gM := (yX2_mayPass, cX2_mayPass, 2, (some .boolean), [])
abbrev mX2_cellOf : gM := (yX2_cellOf, cX2_cellOf, 2, (some .int), [])
abbrev mX2_goalOf : gM := (yX2_goalOf, cX2_goalOf, 2, (some .int), [])
abbrev mX2_setCell : gM := (yX2_setCell, cX2_setCell, 3, none, [])
abbrev mX2_setGoal : gM := (yX2_setGoal, cX2_setGoal, 3, none, [])
abbrev mX2_addGhost : gM := (yX2_addGhost, cX2_addGhost, 4, (some .int), [])
abbrev mX2_ghostsIn : gM := (yX2_ghostsIn, cX2_ghostsIn, 4, (some .int), [])
abbrev mX2_ghostsAtGoals : gM := (yX2_ghostsAtGoals, cX2_ghostsAtGoals, 3, (some .int), [])
abbrev mX2_aboutCell : gM := (yX2_aboutCell, cX2_aboutCell, 3, (some .int), [])
abbrev mX2_aboutAll : gM := (yX2_aboutAll, cX2_aboutAll, 2, (some .int), [])
abbrev mX4_fewestSteps : gM := (yX4_fewestSteps, cX4_fewestSteps, 12, (some .int), [])
abbrev mX2_stepsTo : gM := (yX2_stepsTo, cX2_stepsTo, 3, (some .int), [])
abbrev mX4_firstDirection : gM := (yX4_firstDirection, cX4_firstDirection, 5, (some .int), [])
abbrev mX2_nextDirection : gM := (yX2_nextDirection, cX2_nextDirection, 3, (some .int), [])
abbrev mX2_takeStep : gM := (yX2_takeStep, cX2_takeStep, 5, none, [])
abbrev mX2_hauntsOrFears : gM := (yX2_hauntsOrFears, cX2_hauntsOrFears, 3, (some .boolean), [])
abbrev mX2_passHour : gM := (yX2_passHour, cX2_passHour, 4, (some .int), [])
abbrev mX5_init : gM := (yX5_init, cX5_init, 1, none, [])
abbrev mX5_checkedCell : gM := (yX5_checkedCell, cX5_checkedCell, 2, (some .int), [])
abbrev mX5_checkDirection : gM := (yX5_checkDirection, cX5_checkDirection, 1, none, [])
abbrev mX5_wall : gM := (yX5_wall, cX5_wall, 5, (some .boolean), [])
abbrev mX5_checkRoomFor : gM := (yX5_checkRoomFor, cX5_checkRoomFor, 4, none, [])
abbrev mX5_candle : gM := (yX5_candle, cX5_candle, 5, (some .int), [])
abbrev mX5_mirror : gM := (yX5_mirror, cX5_mirror, 5, (some .int), [])
abbrev mX5_tally : gM := (yX5_tally, cX5_tally, 4, (some .int), [])
abbrev mX5_remove : gM := (yX5_remove, cX5_remove, 5, (some .int), [])
abbrev mX5_light : gM := (yX5_light, cX5_light, 4, (some .boolean), [])
abbrev mX5_come : gM := (yX5_come, cX5_come, 5, (some .int), [])
abbrev mX5_checkGhost : gM := (yX5_checkGhost, cX5_checkGhost, 2, none, [])
abbrev mX5_send : gM := (yX5_send, cX5_send, 5, (some .int), [])
abbrev mX5_rite : gM := (yX5_rite, cX5_rite, 2, (some .int), [])
abbrev mX5_checkWhat : gM := (yX5_checkWhat, cX5_checkWhat, 2, none, [])
abbrev mX5_cell : gM := (yX5_cell, cX5_cell, 5, (some .int), [])
abbrev mX5_walled : gM := (yX5_walled, cX5_walled, 5, (some .boolean), [])
abbrev mX5_ghost : gM := (yX5_ghost, cX5_ghost, 3, (some .int), [])
abbrev mX5_count : gM := (yX5_count, cX5_count, 2, (some .int), [])
abbrev mX5_shines : gM := (yX5_shines, cX5_shines, 4, (some .int), [])
abbrev mX5_way : gM := (yX5_way, cX5_way, 5, (some .int), [])
abbrev mX5_next : gM := (yX5_next, cX5_next, 2, (some .int), [])
abbrev mX5_checkHours : gM := (yX5_checkHours, cX5_checkHours, 2, none, [])
abbrev mX5_pass : gM := (yX5_pass, cX5_pass, 4, (some .int), [])
abbrev mX5_hauntsAhead : gM := (yX5_hauntsAhead, cX5_hauntsAhead, 5, (some .int), [])
abbrev mX5_foresee : gM := (yX5_foresee, cX5_foresee, 4, (some .int), [])
abbrev mX5_reaches : gM := (yX5_reaches, cX5_reaches, 6, (some .int), [])
abbrev mX5_advise : gM := (yX5_advise, cX5_advise, 6, (some .int), [])
abbrev mX5_mean : gM := (yX5_mean, cX5_mean, 2, (some .double), [])
abbrev mX5_digest : gM := (yX5_digest, cX5_digest, 5, (some .long), [])
abbrev mX6_init : gM := (yX6_init, cX6_init, 1, none, [])
abbrev mX6_thrown : gM := (yX6_thrown, cX6_thrown, 1, (some .int), [])
abbrev mX6_fail : gM := (yX6_fail, cX6_fail, 2, (some .int), [])
abbrev mX6_isIn : gM := (yX6_isIn, cX6_isIn, 3, (some .boolean), [])
abbrev mX6_isCell : gM := (yX6_isCell, cX6_isCell, 2, (some .boolean), [])
abbrev mX6_isGhost : gM := (yX6_isGhost, cX6_isGhost, 2, (some .boolean), [])
abbrev mX6_sp : gM := (yX6_sp, cX6_sp, 3, (some .int), [])
abbrev mX6_put : gM := (yX6_put, cX6_put, 4, none, [])
abbrev mX6_beside : gM := (yX6_beside, cX6_beside, 4, (some .int), [])
abbrev mX6_hasWall : gM := (yX6_hasWall, cX6_hasWall, 4, (some .boolean), [])
abbrev mX6_wall : gM := (yX6_wall, cX6_wall, 7, (some .boolean), [])
abbrev mX6_things : gM := (yX6_things, cX6_things, 8, (some .int), [])
abbrev mX6_set : gM := (yX6_set, cX6_set, 5, (some .int), [])
abbrev mX6_candle : gM := (yX6_candle, cX6_candle, 4, (some .int), [])
abbrev mX6_mirror : gM := (yX6_mirror, cX6_mirror, 4, (some .int), [])
abbrev mX6_tally : gM := (yX6_tally, cX6_tally, 3, (some .int), [])
abbrev mX6_remove : gM := (yX6_remove, cX6_remove, 4, (some .int), [])
abbrev mX6_light : gM := (yX6_light, cX6_light, 3, (some .boolean), [])
abbrev mX6_turned : gM := (yX6_turned, cX6_turned, 3, (some .int), [])
abbrev mX6_shine : gM := (yX6_shine, cX6_shine, 6, none, [])
abbrev mX6_reckonLight : gM := (yX6_reckonLight, cX6_reckonLight, 2, none, [])
abbrev mX6_litCells : gM := (yX6_litCells, cX6_litCells, 6, (some .int), [])
abbrev mX6_shines : gM := (yX6_shines, cX6_shines, 4, (some .int), [])
abbrev mX6_reckonWays : gM := (yX6_reckonWays, cX6_reckonWays, 10, none, [])
abbrev mX6_from : gM := (yX6_from, cX6_from, 5, (some .int), [])
abbrev mX6_wayOf : gM := (yX6_wayOf, cX6_wayOf, 3, (some .int), [])
abbrev mX6_nextOf : gM := (yX6_nextOf, cX6_nextOf, 7, (some .int), [])
abbrev mX6_way : gM := (yX6_way, cX6_way, 4, (some .int), [])
abbrev mX6_next : gM := (yX6_next, cX6_next, 2, (some .int), [])
abbrev mX6_come : gM := (yX6_come, cX6_come, 5, (some .int), [])
abbrev mX6_send : gM := (yX6_send, cX6_send, 4, (some .int), [])
abbrev mX6_rite : gM := (yX6_rite, cX6_rite, 4, (some .int), [])
abbrev mX6_cellTold : gM := (yX6_cellTold, cX6_cellTold, 5, (some .int), [])
abbrev mX6_cell : gM := (yX6_cell, cX6_cell, 4, (some .int), [])
abbrev mX6_walled : gM := (yX6_walled, cX6_walled, 4, (some .boolean), [])
abbrev mX6_ghostTold : gM := (yX6_ghostTold, cX6_ghostTold, 6, (some .int), [])
abbrev mX6_ghost : gM := (yX6_ghost, cX6_ghost, 3, (some .int), [])
abbrev mX6_burning : gM := (yX6_burning, cX6_burning, 6, (some .int), [])
abbrev mX6_marks : gM := (yX6_marks, cX6_marks, 3, (some .int), [])
abbrev mX6_walls : gM := (yX6_walls, cX6_walls, 3, (some .int), [])
abbrev mX6_counted : gM := (yX6_counted, cX6_counted, 2, (some .int), [])
abbrev mX6_count : gM := (yX6_count, cX6_count, 2, (some .int), [])
abbrev mX6_step : gM := (yX6_step, cX6_step, 6, (some .boolean), [])
abbrev mX6_haunt : gM := (yX6_haunt, cX6_haunt, 4, none, [])
abbrev mX6_hourOn : gM := (yX6_hourOn, cX6_hourOn, 3, none, [])
abbrev mX6_hoursOn : gM := (yX6_hoursOn, cX6_hoursOn, 3, none, [])
abbrev mX6_pass : gM := (yX6_pass, cX6_pass, 3, (some .int), [])
abbrev mX6_kept : gM := (yX6_kept, cX6_kept, 1, (some (.array (.array .int))), [])
abbrev mX6_bringBack : gM := (yX6_bringBack, cX6_bringBack, 4, none, [])
abbrev mX6_foresee : gM := (yX6_foresee, cX6_foresee, 7, (some .int), [])
abbrev mX6_reaches : gM := (yX6_reaches, cX6_reaches, 7, (some .int), [])
abbrev mX6_advise : gM := (yX6_advise, cX6_advise, 7, (some .int), [])
abbrev mX6_mean : gM := (yX6_mean, cX6_mean, 2, (some .double), [])
abbrev mX6_digest : gM := (yX6_digest, cX6_digest, 5, (some .long), [])
abbrev mJ9_min_7cf53 : gM := (yJ9_min_7cf53, cJ9_min_7cf53, 2, (some .int), [])
abbrev mL_wall : gM := (yL_wall, cL_wall, 6, (some .int), [(0, 19, 22, 13, "java/lang/IndexOutOfBoundsException"), (0, 19, 26, 15, "java/lang/IllegalArgumentException"), (0, 19, 30, 17, "java/lang/IllegalStateException")])
abbrev mL_candle : gM := (yL_candle, cL_candle, 6, (some .int), [(0, 12, 15, 13, "java/lang/IndexOutOfBoundsException"), (0, 12, 19, 15, "java/lang/IllegalArgumentException"), (0, 12, 23, 17, "java/lang/IllegalStateException")])
abbrev mL_mirror : gM := (yL_mirror, cL_mirror, 6, (some .int), [(0, 12, 15, 13, "java/lang/IndexOutOfBoundsException"), (0, 12, 19, 17, "java/lang/IllegalStateException")])
abbrev mL_tally : gM := (yL_tally, cL_tally, 5, (some .int), [(0, 10, 13, 13, "java/lang/IndexOutOfBoundsException"), (0, 10, 17, 17, "java/lang/IllegalStateException")])
abbrev mL_remove : gM := (yL_remove, cL_remove, 5, (some .int), [(0, 10, 13, 13, "java/lang/IndexOutOfBoundsException"), (0, 10, 17, 17, "java/lang/IllegalStateException")])
abbrev mL_light : gM := (yL_light, cL_light, 5, (some .int), [(0, 17, 20, 13, "java/lang/IndexOutOfBoundsException"), (0, 17, 24, 17, "java/lang/IllegalStateException")])
abbrev mL_come : gM := (yL_come, cL_come, 6, (some .int), [(0, 12, 15, 13, "java/lang/IndexOutOfBoundsException"), (0, 12, 19, 15, "java/lang/IllegalArgumentException"), (0, 12, 23, 17, "java/lang/IllegalStateException")])
abbrev mL_send : gM := (yL_send, cL_send, 6, (some .int), [(0, 12, 15, 13, "java/lang/IndexOutOfBoundsException")])
abbrev mL_rite : gM := (yL_rite, cL_rite, 4, (some .int), [(0, 9, 12, 13, "java/lang/IndexOutOfBoundsException"), (0, 9, 15, 17, "java/lang/IllegalStateException")])
abbrev mL_cell : gM := (yL_cell, cL_cell, 6, (some .int), [(0, 12, 15, 13, "java/lang/IndexOutOfBoundsException")])
abbrev mL_walled : gM := (yL_walled, cL_walled, 6, (some .int), [(0, 19, 22, 13, "java/lang/IndexOutOfBoundsException"), (0, 19, 26, 15, "java/lang/IllegalArgumentException")])
abbrev mL_ghost : gM := (yL_ghost, cL_ghost, 5, (some .int), [(0, 10, 13, 13, "java/lang/IndexOutOfBoundsException")])
abbrev mL_count : gM := (yL_count, cL_count, 4, (some .int), [(0, 9, 12, 13, "java/lang/IndexOutOfBoundsException")])
abbrev mL_shines : gM := (yL_shines, cL_shines, 5, (some .int), [(0, 10, 13, 13, "java/lang/IndexOutOfBoundsException")])
abbrev mL_way : gM := (yL_way, cL_way, 6, (some .int), [(0, 12, 15, 13, "java/lang/IndexOutOfBoundsException")])
abbrev mL_next : gM := (yL_next, cL_next, 4, (some .int), [(0, 9, 12, 13, "java/lang/IndexOutOfBoundsException")])
abbrev mL_pass : gM := (yL_pass, cL_pass, 4, (some .int), [(0, 9, 12, 15, "java/lang/IllegalArgumentException")])
abbrev mL_foresee : gM := (yL_foresee, cL_foresee, 5, (some .int), [(0, 10, 13, 15, "java/lang/IllegalArgumentException"), (0, 10, 17, 13, "java/lang/IndexOutOfBoundsException")])
abbrev mL_reaches : gM := (yL_reaches, cL_reaches, 6, (some .int), [(0, 12, 15, 13, "java/lang/IndexOutOfBoundsException"), (0, 12, 19, 15, "java/lang/IllegalArgumentException")])
abbrev mL_advise : gM := (yL_advise, cL_advise, 4, (some .int), [(0, 9, 12, 15, "java/lang/IllegalArgumentException")])
abbrev mL_law : gM := (yL_law, cL_law, 9, some .boolean, [])
theorem g_tb1 {k : Nat} {w : Jvm.Cond} (h : tables_1_1[k]? = some w) : w ∈ lw_tbl := List.mem_append_right _ (List.mem_append_left _ (List.mem_of_getElem? h))
theorem g_tb2 {k : Nat} {w : Jvm.Cond} (h : tables_1_2[k]? = some w) : w ∈ lw_tbl := List.mem_append_right _ (List.mem_append_right _ (List.mem_append_left _ (List.mem_of_getElem? h)))
theorem g_tb3 {k : Nat} {w : Jvm.Cond} (h : tables_1_3[k]? = some w) : w ∈ lw_tbl := List.mem_append_right _ (List.mem_append_right _ (List.mem_append_right _ (List.mem_append_left _ (List.mem_of_getElem? h))))
theorem g_tb4 {k : Nat} {w : Jvm.Cond} (h : tables_1_4[k]? = some w) : w ∈ lw_tbl := List.mem_append_right _ (List.mem_append_right _ (List.mem_append_right _ (List.mem_append_right _ (List.mem_of_getElem? h))))
theorem g_tbs {k : Nat} {w : Jvm.Cond} (h : (k2_sels lw_privs)[k]? = some w) : w ∈ lw_tbl := List.mem_append_left _ (List.mem_of_getElem? h)
theorem na_X0_only : gNa mX0_only 1 := by unfold gNa; decide +kernel
theorem ok_X0_only : gOK mX0_only := ⟨by decide +kernel, g_tb2 (k := 95) rfl, g_tb1 (k := 12) rfl, ⟨by decide +kernel, by decide +kernel⟩, Nat.le_of_ble_eq_true rfl, rfl⟩
theorem na_X0_holds : gNa mX0_holds 2 := by unfold gNa; decide +kernel
theorem ok_X0_holds : gOK mX0_holds := ⟨by decide +kernel, g_tb1 (k := 147) rfl, g_tb1 (k := 12) rfl, ⟨by decide +kernel, by decide +kernel⟩, Nat.le_of_ble_eq_true rfl, rfl⟩
theorem na_X0_moved : gNa mX0_moved 2 := by unfold gNa; decide +kernel
theorem ok_X0_moved : gOK mX0_moved := ⟨by decide +kernel, g_tb2 (k := 98) rfl, g_tb1 (k := 12) rfl, ⟨by decide +kernel, by decide +kernel⟩, Nat.le_of_ble_eq_true rfl, rfl⟩
theorem na_X0_isRim : gNa mX0_isRim 2 := by unfold gNa; decide +kernel
theorem ok_X0_isRim : gOK mX0_isRim := ⟨by decide +kernel, g_tb2 (k := 92) rfl, g_tb1 (k := 12) rfl, ⟨by decide +kernel, by decide +kernel⟩, Nat.le_of_ble_eq_true rfl, rfl⟩
theorem na_X0_neighbour : gNa mX0_neighbour 2 := by unfold gNa; decide +kernel
theorem ok_X0_neighbour : gOK mX0_neighbour := ⟨by decide +kernel, g_tb3 (k := 136) rfl, g_tb1 (k := 12) rfl, ⟨by decide +kernel, by decide +kernel⟩, Nat.le_of_ble_eq_true rfl, rfl⟩
theorem na_X3_init : gNa mX3_init 1 := by unfold gNa; decide +kernel
theorem ok_X3_init : gOK mX3_init := ⟨by decide +kernel, g_tb1 (k := 41) rfl, g_tb1 (k := 4) rfl, ⟨by decide +kernel, by decide +kernel⟩, Nat.le_of_ble_eq_true rfl, rfl⟩
theorem na_X1_init : gNa mX1_init 0 := by unfold gNa; decide +kernel
theorem ok_X1_init : gOK mX1_init := ⟨by decide +kernel, g_tb1 (k := 35) rfl, g_tb1 (k := 3) rfl, ⟨by decide +kernel, by decide +kernel⟩, Nat.le_of_ble_eq_true rfl, rfl⟩
theorem na_X3_get : gNa mX3_get 1 := by unfold gNa; decide +kernel
theorem ok_X3_get : gOK mX3_get := ⟨by decide +kernel, g_tb1 (k := 151) rfl, g_tb1 (k := 4) rfl, ⟨by decide +kernel, by decide +kernel⟩, Nat.le_of_ble_eq_true rfl, rfl⟩
theorem na_X3_copyFrom : gNa mX3_copyFrom 1 := by unfold gNa; decide +kernel
theorem ok_X3_copyFrom : gOK mX3_copyFrom := ⟨by decide +kernel, g_tb3 (k := 174) rfl, g_tb1 (k := 4) rfl, ⟨by decide +kernel, by decide +kernel⟩, Nat.le_of_ble_eq_true rfl, rfl⟩
theorem na_X1_copyFrom : gNa mX1_copyFrom 1 := by unfold gNa; decide +kernel
theorem ok_X1_copyFrom : gOK mX1_copyFrom := ⟨by decide +kernel, g_tb3 (k := 170) rfl, g_tb1 (k := 3) rfl, ⟨by decide +kernel, by decide +kernel⟩, Nat.le_of_ble_eq_true rfl, rfl⟩
theorem na_J13_bitCount_95d88 : gNa mJ13_bitCount_95d88 1 := by unfold gNa; decide +kernel
theorem ok_J13_bitCount_95d88 : gOK mJ13_bitCount_95d88 := ⟨by decide +kernel, g_tb1 (k := 133) rfl, g_tb1 (k := 14) rfl, ⟨by decide +kernel, by decide +kernel⟩, Nat.le_of_ble_eq_true rfl, rfl⟩
theorem na_X1_candleCount : gNa mX1_candleCount 0 := by unfold gNa; decide +kernel
theorem ok_X1_candleCount : gOK mX1_candleCount := ⟨by decide +kernel, g_tb1 (k := 165) rfl, g_tb1 (k := 3) rfl, ⟨by decide +kernel, by decide +kernel⟩, Nat.le_of_ble_eq_true rfl, rfl⟩
theorem na_X1_burningCount : gNa mX1_burningCount 0 := by unfold gNa; decide +kernel
theorem ok_X1_burningCount : gOK mX1_burningCount := ⟨by decide +kernel, g_tb1 (k := 169) rfl, g_tb1 (k := 3) rfl, ⟨by decide +kernel, by decide +kernel⟩, Nat.le_of_ble_eq_true rfl, rfl⟩
theorem na_X1_mirrorCount : gNa mX1_mirrorCount 0 := by unfold gNa; decide +kernel
theorem ok_X1_mirrorCount : gOK mX1_mirrorCount := ⟨by decide +kernel, g_tb1 (k := 173) rfl, g_tb1 (k := 3) rfl, ⟨by decide +kernel, by decide +kernel⟩, Nat.le_of_ble_eq_true rfl, rfl⟩
theorem na_X1_tallyCount : gNa mX1_tallyCount 0 := by unfold gNa; decide +kernel
theorem ok_X1_tallyCount : gOK mX1_tallyCount := ⟨by decide +kernel, g_tb1 (k := 130) rfl, g_tb1 (k := 3) rfl, ⟨by decide +kernel, by decide +kernel⟩, Nat.le_of_ble_eq_true rfl, rfl⟩
theorem na_X1_wallCount : gNa mX1_wallCount 0 := by unfold gNa; decide +kernel
theorem ok_X1_wallCount : gOK mX1_wallCount := ⟨by decide +kernel, g_tb1 (k := 178) rfl, g_tb1 (k := 3) rfl, ⟨by decide +kernel, by decide +kernel⟩, Nat.le_of_ble_eq_true rfl, rfl⟩
theorem na_X1_litCount : gNa mX1_litCount 0 := by unfold gNa; decide +kernel
theorem ok_X1_litCount : gOK mX1_litCount := ⟨by decide +kernel, g_tb1 (k := 182) rfl, g_tb1 (k := 3) rfl, ⟨by decide +kernel, by decide +kernel⟩, Nat.le_of_ble_eq_true rfl, rfl⟩
theorem na_X1_hasTally : gNa mX1_hasTally 1 := by unfold gNa; decide +kernel
theorem ok_X1_hasTally : gOK mX1_hasTally := ⟨by decide +kernel, g_tb1 (k := 144) rfl, g_tb1 (k := 3) rfl, ⟨by decide +kernel, by decide +kernel⟩, Nat.le_of_ble_eq_true rfl, rfl⟩
theorem na_X1_sumOfMarks : gNa mX1_sumOfMarks 0 := by unfold gNa; decide +kernel
theorem ok_X1_sumOfMarks : gOK mX1_sumOfMarks := ⟨by decide +kernel, g_tb1 (k := 140) rfl, g_tb1 (k := 3) rfl, ⟨by decide +kernel, by decide +kernel⟩, Nat.le_of_ble_eq_true rfl, rfl⟩
theorem na_X1_isBurning : gNa mX1_isBurning 1 := by unfold gNa; decide +kernel
theorem ok_X1_isBurning : gOK mX1_isBurning := ⟨by decide +kernel, g_tb1 (k := 208) rfl, g_tb1 (k := 3) rfl, ⟨by decide +kernel, by decide +kernel⟩, Nat.le_of_ble_eq_true rfl, rfl⟩
theorem na_X1_isLit : gNa mX1_isLit 1 := by unfold gNa; decide +kernel
theorem ok_X1_isLit : gOK mX1_isLit := ⟨by decide +kernel, g_tb1 (k := 212) rfl, g_tb1 (k := 3) rfl, ⟨by decide +kernel, by decide +kernel⟩, Nat.le_of_ble_eq_true rfl, rfl⟩
theorem na_X1_hasCandleWithWax : gNa mX1_hasCandleWithWax 1 := by unfold gNa; decide +kernel
theorem ok_X1_hasCandleWithWax : gOK mX1_hasCandleWithWax := ⟨by decide +kernel, g_tb2 (k := 205) rfl, g_tb1 (k := 3) rfl, ⟨by decide +kernel, by decide +kernel⟩, Nat.le_of_ble_eq_true rfl, rfl⟩
theorem na_X1_amountIn : gNa mX1_amountIn 1 := by unfold gNa; decide +kernel
theorem ok_X1_amountIn : gOK mX1_amountIn := ⟨by decide +kernel, g_tb1 (k := 204) rfl, g_tb1 (k := 3) rfl, ⟨by decide +kernel, by decide +kernel⟩, Nat.le_of_ble_eq_true rfl, rfl⟩
theorem na_X1_thingIn : gNa mX1_thingIn 1 := by unfold gNa; decide +kernel
theorem ok_X1_thingIn : gOK mX1_thingIn := ⟨by decide +kernel, g_tb1 (k := 200) rfl, g_tb1 (k := 3) rfl, ⟨by decide +kernel, by decide +kernel⟩, Nat.le_of_ble_eq_true rfl, rfl⟩
theorem na_X3_put : gNa mX3_put 2 := by unfold gNa; decide +kernel
theorem ok_X3_put : gOK mX3_put := ⟨by decide +kernel, g_tb2 (k := 159) rfl, g_tb1 (k := 4) rfl, ⟨by decide +kernel, by decide +kernel⟩, Nat.le_of_ble_eq_true rfl, rfl⟩
theorem na_X1_walledCells : gNa mX1_walledCells 1 := by unfold gNa; decide +kernel
theorem ok_X1_walledCells : gOK mX1_walledCells := ⟨by decide +kernel, g_tb1 (k := 228) rfl, g_tb1 (k := 3) rfl, ⟨by decide +kernel, by decide +kernel⟩, Nat.le_of_ble_eq_true rfl, rfl⟩
theorem na_X1_turned : gNa mX1_turned 2 := by unfold gNa; decide +kernel
theorem ok_X1_turned : gOK mX1_turned := ⟨by decide +kernel, g_tb2 (k := 136) rfl, g_tb1 (k := 3) rfl, ⟨by decide +kernel, by decide +kernel⟩, Nat.le_of_ble_eq_true rfl, rfl⟩
theorem na_X1_cellsLitFrom : gNa mX1_cellsLitFrom 1 := by unfold gNa; decide +kernel
theorem ok_X1_cellsLitFrom : gOK mX1_cellsLitFrom := ⟨by decide +kernel, g_tb2 (k := 131) rfl, g_tb1 (k := 3) rfl, ⟨by decide +kernel, by decide +kernel⟩, Nat.le_of_ble_eq_true rfl, rfl⟩
theorem na_X1_relight : gNa mX1_relight 0 := by unfold gNa; decide +kernel
theorem ok_X1_relight : gOK mX1_relight := ⟨by decide +kernel, g_tb2 (k := 127) rfl, g_tb1 (k := 3) rfl, ⟨by decide +kernel, by decide +kernel⟩, Nat.le_of_ble_eq_true rfl, rfl⟩
theorem na_X1_addCandle : gNa mX1_addCandle 2 := by unfold gNa; decide +kernel
theorem ok_X1_addCandle : gOK mX1_addCandle := ⟨by decide +kernel, g_tb2 (k := 155) rfl, g_tb1 (k := 3) rfl, ⟨by decide +kernel, by decide +kernel⟩, Nat.le_of_ble_eq_true rfl, rfl⟩
theorem na_X1_addMirror : gNa mX1_addMirror 2 := by unfold gNa; decide +kernel
theorem ok_X1_addMirror : gOK mX1_addMirror := ⟨by decide +kernel, g_tb2 (k := 171) rfl, g_tb1 (k := 3) rfl, ⟨by decide +kernel, by decide +kernel⟩, Nat.le_of_ble_eq_true rfl, rfl⟩
theorem na_X1_addTally : gNa mX1_addTally 1 := by unfold gNa; decide +kernel
theorem ok_X1_addTally : gOK mX1_addTally := ⟨by decide +kernel, g_tb2 (k := 182) rfl, g_tb1 (k := 3) rfl, ⟨by decide +kernel, by decide +kernel⟩, Nat.le_of_ble_eq_true rfl, rfl⟩
theorem na_X1_clear : gNa mX1_clear 1 := by unfold gNa; decide +kernel
theorem ok_X1_clear : gOK mX1_clear := ⟨by decide +kernel, g_tb2 (k := 194) rfl, g_tb1 (k := 3) rfl, ⟨by decide +kernel, by decide +kernel⟩, Nat.le_of_ble_eq_true rfl, rfl⟩
theorem na_X1_switchCandle : gNa mX1_switchCandle 1 := by unfold gNa; decide +kernel
theorem ok_X1_switchCandle : gOK mX1_switchCandle := ⟨by decide +kernel, g_tb2 (k := 210) rfl, g_tb1 (k := 3) rfl, ⟨by decide +kernel, by decide +kernel⟩, Nat.le_of_ble_eq_true rfl, rfl⟩
theorem na_X1_hasWall : gNa mX1_hasWall 2 := by unfold gNa; decide +kernel
theorem ok_X1_hasWall : gOK mX1_hasWall := ⟨by decide +kernel, g_tb1 (k := 224) rfl, g_tb1 (k := 3) rfl, ⟨by decide +kernel, by decide +kernel⟩, Nat.le_of_ble_eq_true rfl, rfl⟩
theorem na_X1_switchWall : gNa mX1_switchWall 2 := by unfold gNa; decide +kernel
theorem ok_X1_switchWall : gOK mX1_switchWall := ⟨by decide +kernel, g_tb2 (k := 121) rfl, g_tb1 (k := 3) rfl, ⟨by decide +kernel, by decide +kernel⟩, Nat.le_of_ble_eq_true rfl, rfl⟩
theorem na_X1_neighbours : gNa mX1_neighbours 2 := by unfold gNa; decide +kernel
theorem ok_X1_neighbours : gOK mX1_neighbours := ⟨by decide +kernel, g_tb3 (k := 28) rfl, g_tb1 (k := 3) rfl, ⟨by decide +kernel, by decide +kernel⟩, Nat.le_of_ble_eq_true rfl, rfl⟩
theorem na_X1_burnDown : gNa mX1_burnDown 0 := by unfold gNa; decide +kernel
theorem ok_X1_burnDown : gOK mX1_burnDown := ⟨by decide +kernel, g_tb3 (k := 127) rfl, g_tb1 (k := 3) rfl, ⟨by decide +kernel, by decide +kernel⟩, Nat.le_of_ble_eq_true rfl, rfl⟩
theorem na_X1_blowOutAround : gNa mX1_blowOutAround 1 := by unfold gNa; decide +kernel
theorem ok_X1_blowOutAround : gOK mX1_blowOutAround := ⟨by decide +kernel, g_tb3 (k := 141) rfl, g_tb1 (k := 3) rfl, ⟨by decide +kernel, by decide +kernel⟩, Nat.le_of_ble_eq_true rfl, rfl⟩
theorem na_X1_addMark : gNa mX1_addMark 1 := by unfold gNa; decide +kernel
theorem ok_X1_addMark : gOK mX1_addMark := ⟨by decide +kernel, g_tb3 (k := 151) rfl, g_tb1 (k := 3) rfl, ⟨by decide +kernel, by decide +kernel⟩, Nat.le_of_ble_eq_true rfl, rfl⟩
theorem na_X4_init : gNa mX4_init 0 := by unfold gNa; decide +kernel
theorem ok_X4_init : gOK mX4_init := ⟨by decide +kernel, g_tb1 (k := 81) rfl, g_tb1 (k := 5) rfl, ⟨by decide +kernel, by decide +kernel⟩, Nat.le_of_ble_eq_true rfl, rfl⟩
theorem na_X2_init : gNa mX2_init 0 := by unfold gNa; decide +kernel
theorem ok_X2_init : gOK mX2_init := ⟨by decide +kernel, g_tb1 (k := 29) rfl, g_tb1 (k := 2) rfl, ⟨by decide +kernel, by decide +kernel⟩, Nat.le_of_ble_eq_true rfl, rfl⟩
theorem na_X2_copyFrom : gNa mX2_copyFrom 1 := by unfold gNa; decide +kernel
theorem ok_X2_copyFrom : gOK mX2_copyFrom := ⟨by decide +kernel, g_tb3 (k := 166) rfl, g_tb1 (k := 2) rfl, ⟨by decide +kernel, by decide +kernel⟩, Nat.le_of_ble_eq_true rfl, rfl⟩
theorem na_X2_trait : gNa mX2_trait 2 := by unfold gNa; decide +kernel
theorem ok_X2_trait : gOK mX2_trait := ⟨by decide +kernel, g_tb1 (k := 190) rfl, g_tb1 (k := 2) rfl, ⟨by decide +kernel, by decide +kernel⟩, Nat.le_of_ble_eq_true rfl, rfl⟩
theorem na_X2_setTrait : gNa mX2_setTrait 3 := by unfold gNa; decide +kernel
theorem ok_X2_setTrait : gOK mX2_setTrait := ⟨by decide +kernel, g_tb2 (k := 232) rfl, g_tb1 (k := 2) rfl, ⟨by decide +kernel, by decide +kernel⟩, Nat.le_of_ble_eq_true rfl, rfl⟩
theorem na_X2_sumOfTrait : gNa mX2_sumOfTrait 1 := by unfold gNa; decide +kernel
theorem ok_X2_sumOfTrait : gOK mX2_sumOfTrait := ⟨by decide +kernel, g_tb1 (k := 186) rfl, g_tb1 (k := 2) rfl, ⟨by decide +kernel, by decide +kernel⟩, Nat.le_of_ble_eq_true rfl, rfl⟩
theorem na_X2_mayPass : gNa mX2_mayPass 1 := by unfold gNa; decide +kernel
theorem ok_X2_mayPass : gOK mX2_mayPass := ⟨by decide +kernel, g_tb3 (k := 18) rfl, g_tb1 (k := 2) rfl, ⟨by decide +kernel, by decide +kernel⟩, Nat.le_of_ble_eq_true rfl, rfl⟩
theorem na_X2_cellOf : gNa mX2_cellOf 1 := by unfold gNa; decide +kernel
theorem ok_X2_cellOf : gOK mX2_cellOf := ⟨by decide +kernel, g_tb1 (k := 220) rfl, g_tb1 (k := 2) rfl, ⟨by decide +kernel, by decide +kernel⟩, Nat.le_of_ble_eq_true rfl, rfl⟩
theorem na_X2_goalOf : gNa mX2_goalOf 1 := by unfold gNa; decide +kernel
theorem ok_X2_goalOf : gOK mX2_goalOf := ⟨by decide +kernel, g_tb3 (k := 102) rfl, g_tb1 (k := 2) rfl, ⟨by decide +kernel, by decide +kernel⟩, Nat.le_of_ble_eq_true rfl, rfl⟩
theorem na_X2_setCell : gNa mX2_setCell 2 := by unfold gNa; decide +kernel
theorem ok_X2_setCell : gOK mX2_setCell := ⟨by decide +kernel, g_tb2 (k := 228) rfl, g_tb1 (k := 2) rfl, ⟨by decide +kernel, by decide +kernel⟩, Nat.le_of_ble_eq_true rfl, rfl⟩
theorem na_X2_setGoal : gNa mX2_setGoal 2 := by unfold gNa; decide +kernel
theorem ok_X2_setGoal : gOK mX2_setGoal := ⟨by decide +kernel, g_tb2 (k := 237) rfl, g_tb1 (k := 2) rfl, ⟨by decide +kernel, by decide +kernel⟩, Nat.le_of_ble_eq_true rfl, rfl⟩
theorem na_X2_addGhost : gNa mX2_addGhost 2 := by unfold gNa; decide +kernel
theorem ok_X2_addGhost : gOK mX2_addGhost := ⟨by decide +kernel, g_tb2 (k := 224) rfl, g_tb1 (k := 2) rfl, ⟨by decide +kernel, by decide +kernel⟩, Nat.le_of_ble_eq_true rfl, rfl⟩
theorem na_X2_ghostsIn : gNa mX2_ghostsIn 1 := by unfold gNa; decide +kernel
theorem ok_X2_ghostsIn : gOK mX2_ghostsIn := ⟨by decide +kernel, g_tb1 (k := 216) rfl, g_tb1 (k := 2) rfl, ⟨by decide +kernel, by decide +kernel⟩, Nat.le_of_ble_eq_true rfl, rfl⟩
theorem na_X2_ghostsAtGoals : gNa mX2_ghostsAtGoals 0 := by unfold gNa; decide +kernel
theorem ok_X2_ghostsAtGoals : gOK mX2_ghostsAtGoals := ⟨by decide +kernel, g_tb3 (k := 182) rfl, g_tb1 (k := 2) rfl, ⟨by decide +kernel, by decide +kernel⟩, Nat.le_of_ble_eq_true rfl, rfl⟩
theorem na_X2_aboutCell : gNa mX2_aboutCell 2 := by unfold gNa; decide +kernel
theorem ok_X2_aboutCell : gOK mX2_aboutCell := ⟨by decide +kernel, g_tb1 (k := 196) rfl, g_tb1 (k := 2) rfl, ⟨by decide +kernel, by decide +kernel⟩, Nat.le_of_ble_eq_true rfl, rfl⟩
theorem na_X2_aboutAll : gNa mX2_aboutAll 1 := by unfold gNa; decide +kernel
theorem ok_X2_aboutAll : gOK mX2_aboutAll := ⟨by decide +kernel, g_tb1 (k := 161) rfl, g_tb1 (k := 2) rfl, ⟨by decide +kernel, by decide +kernel⟩, Nat.le_of_ble_eq_true rfl, rfl⟩
theorem na_X4_fewestSteps : gNa mX4_fewestSteps 4 := by unfold gNa; decide +kernel
theorem ok_X4_fewestSteps : gOK mX4_fewestSteps := ⟨by decide +kernel, g_tb3 (k := 22) rfl, g_tb1 (k := 5) rfl, ⟨by decide +kernel, by decide +kernel⟩, Nat.le_of_ble_eq_true rfl, rfl⟩
theorem na_X2_stepsTo : gNa mX2_stepsTo 2 := by unfold gNa; decide +kernel
theorem ok_X2_stepsTo : gOK mX2_stepsTo := ⟨by decide +kernel, g_tb3 (k := 14) rfl, g_tb1 (k := 2) rfl, ⟨by decide +kernel, by decide +kernel⟩, Nat.le_of_ble_eq_true rfl, rfl⟩
theorem na_X4_firstDirection : gNa mX4_firstDirection 1 := by unfold gNa; decide +kernel
theorem ok_X4_firstDirection : gOK mX4_firstDirection := ⟨by decide +kernel, g_tb3 (k := 106) rfl, g_tb1 (k := 5) rfl, ⟨by decide +kernel, by decide +kernel⟩, Nat.le_of_ble_eq_true rfl, rfl⟩
theorem na_X2_nextDirection : gNa mX2_nextDirection 1 := by unfold gNa; decide +kernel
theorem ok_X2_nextDirection : gOK mX2_nextDirection := ⟨by decide +kernel, g_tb3 (k := 98) rfl, g_tb1 (k := 2) rfl, ⟨by decide +kernel, by decide +kernel⟩, Nat.le_of_ble_eq_true rfl, rfl⟩
theorem na_X2_takeStep : gNa mX2_takeStep 1 := by unfold gNa; decide +kernel
theorem ok_X2_takeStep : gOK mX2_takeStep := ⟨by decide +kernel, g_tb3 (k := 132) rfl, g_tb1 (k := 2) rfl, ⟨by decide +kernel, by decide +kernel⟩, Nat.le_of_ble_eq_true rfl, rfl⟩
theorem na_X2_hauntsOrFears : gNa mX2_hauntsOrFears 1 := by unfold gNa; decide +kernel
theorem ok_X2_hauntsOrFears : gOK mX2_hauntsOrFears := ⟨by decide +kernel, g_tb3 (k := 146) rfl, g_tb1 (k := 2) rfl, ⟨by decide +kernel, by decide +kernel⟩, Nat.le_of_ble_eq_true rfl, rfl⟩
theorem na_X2_passHour : gNa mX2_passHour 0 := by unfold gNa; decide +kernel
theorem ok_X2_passHour : gOK mX2_passHour := ⟨by decide +kernel, g_tb3 (k := 123) rfl, g_tb1 (k := 2) rfl, ⟨by decide +kernel, by decide +kernel⟩, Nat.le_of_ble_eq_true rfl, rfl⟩
theorem na_X5_init : gNa mX5_init 0 := by unfold gNa; decide +kernel
theorem ok_X5_init : gOK mX5_init := ⟨by decide +kernel, g_tb1 (k := 21) rfl, g_tb1 (k := 1) rfl, ⟨by decide +kernel, by decide +kernel⟩, Nat.le_of_ble_eq_true rfl, rfl⟩
theorem na_X5_checkedCell : gNa mX5_checkedCell 2 := by unfold gNa; decide +kernel
theorem ok_X5_checkedCell : gOK mX5_checkedCell := ⟨by decide +kernel, g_tb2 (k := 2) rfl, g_tb1 (k := 1) rfl, ⟨by decide +kernel, by decide +kernel⟩, Nat.le_of_ble_eq_true rfl, rfl⟩
theorem na_X5_checkDirection : gNa mX5_checkDirection 1 := by unfold gNa; decide +kernel
theorem ok_X5_checkDirection : gOK mX5_checkDirection := ⟨by decide +kernel, g_tb2 (k := 73) rfl, g_tb1 (k := 1) rfl, ⟨by decide +kernel, by decide +kernel⟩, Nat.le_of_ble_eq_true rfl, rfl⟩
theorem na_X5_wall : gNa mX5_wall 3 := by unfold gNa; decide +kernel
theorem ok_X5_wall : gOK mX5_wall := ⟨by decide +kernel, g_tb1 (k := 239) rfl, g_tb1 (k := 1) rfl, ⟨by decide +kernel, by decide +kernel⟩, Nat.le_of_ble_eq_true rfl, rfl⟩
theorem na_X5_checkRoomFor : gNa mX5_checkRoomFor 3 := by unfold gNa; decide +kernel
theorem ok_X5_checkRoomFor : gOK mX5_checkRoomFor := ⟨by decide +kernel, g_tb2 (k := 149) rfl, g_tb1 (k := 1) rfl, ⟨by decide +kernel, by decide +kernel⟩, Nat.le_of_ble_eq_true rfl, rfl⟩
theorem na_X5_candle : gNa mX5_candle 3 := by unfold gNa; decide +kernel
theorem ok_X5_candle : gOK mX5_candle := ⟨by decide +kernel, g_tb2 (k := 143) rfl, g_tb1 (k := 1) rfl, ⟨by decide +kernel, by decide +kernel⟩, Nat.le_of_ble_eq_true rfl, rfl⟩
theorem na_X5_mirror : gNa mX5_mirror 3 := by unfold gNa; decide +kernel
theorem ok_X5_mirror : gOK mX5_mirror := ⟨by decide +kernel, g_tb2 (k := 166) rfl, g_tb1 (k := 1) rfl, ⟨by decide +kernel, by decide +kernel⟩, Nat.le_of_ble_eq_true rfl, rfl⟩
theorem na_X5_tally : gNa mX5_tally 2 := by unfold gNa; decide +kernel
theorem ok_X5_tally : gOK mX5_tally := ⟨by decide +kernel, g_tb2 (k := 178) rfl, g_tb1 (k := 1) rfl, ⟨by decide +kernel, by decide +kernel⟩, Nat.le_of_ble_eq_true rfl, rfl⟩
theorem na_X5_remove : gNa mX5_remove 2 := by unfold gNa; decide +kernel
theorem ok_X5_remove : gOK mX5_remove := ⟨by decide +kernel, g_tb2 (k := 189) rfl, g_tb1 (k := 1) rfl, ⟨by decide +kernel, by decide +kernel⟩, Nat.le_of_ble_eq_true rfl, rfl⟩
theorem na_X5_light : gNa mX5_light 2 := by unfold gNa; decide +kernel
theorem ok_X5_light : gOK mX5_light := ⟨by decide +kernel, g_tb2 (k := 201) rfl, g_tb1 (k := 1) rfl, ⟨by decide +kernel, by decide +kernel⟩, Nat.le_of_ble_eq_true rfl, rfl⟩
theorem na_X5_come : gNa mX5_come 3 := by unfold gNa; decide +kernel
theorem ok_X5_come : gOK mX5_come := ⟨by decide +kernel, g_tb2 (k := 218) rfl, g_tb1 (k := 1) rfl, ⟨by decide +kernel, by decide +kernel⟩, Nat.le_of_ble_eq_true rfl, rfl⟩
theorem na_X5_checkGhost : gNa mX5_checkGhost 1 := by unfold gNa; decide +kernel
theorem ok_X5_checkGhost : gOK mX5_checkGhost := ⟨by decide +kernel, g_tb3 (k := 8) rfl, g_tb1 (k := 1) rfl, ⟨by decide +kernel, by decide +kernel⟩, Nat.le_of_ble_eq_true rfl, rfl⟩
theorem na_X5_send : gNa mX5_send 3 := by unfold gNa; decide +kernel
theorem ok_X5_send : gOK mX5_send := ⟨by decide +kernel, g_tb3 (k := 4) rfl, g_tb1 (k := 1) rfl, ⟨by decide +kernel, by decide +kernel⟩, Nat.le_of_ble_eq_true rfl, rfl⟩
theorem na_X5_rite : gNa mX5_rite 1 := by unfold gNa; decide +kernel
theorem ok_X5_rite : gOK mX5_rite := ⟨by decide +kernel, g_tb3 (k := 35) rfl, g_tb1 (k := 1) rfl, ⟨by decide +kernel, by decide +kernel⟩, Nat.le_of_ble_eq_true rfl, rfl⟩
theorem na_X5_checkWhat : gNa mX5_checkWhat 2 := by unfold gNa; decide +kernel
theorem ok_X5_checkWhat : gOK mX5_checkWhat := ⟨by decide +kernel, g_tb3 (k := 49) rfl, g_tb1 (k := 1) rfl, ⟨by decide +kernel, by decide +kernel⟩, Nat.le_of_ble_eq_true rfl, rfl⟩
theorem na_X5_cell : gNa mX5_cell 3 := by unfold gNa; decide +kernel
theorem ok_X5_cell : gOK mX5_cell := ⟨by decide +kernel, g_tb3 (k := 46) rfl, g_tb1 (k := 1) rfl, ⟨by decide +kernel, by decide +kernel⟩, Nat.le_of_ble_eq_true rfl, rfl⟩
theorem na_X5_walled : gNa mX5_walled 3 := by unfold gNa; decide +kernel
theorem ok_X5_walled : gOK mX5_walled := ⟨by decide +kernel, g_tb3 (k := 57) rfl, g_tb1 (k := 1) rfl, ⟨by decide +kernel, by decide +kernel⟩, Nat.le_of_ble_eq_true rfl, rfl⟩
theorem na_X5_ghost : gNa mX5_ghost 2 := by unfold gNa; decide +kernel
theorem ok_X5_ghost : gOK mX5_ghost := ⟨by decide +kernel, g_tb3 (k := 64) rfl, g_tb1 (k := 1) rfl, ⟨by decide +kernel, by decide +kernel⟩, Nat.le_of_ble_eq_true rfl, rfl⟩
theorem na_X5_count : gNa mX5_count 1 := by unfold gNa; decide +kernel
theorem ok_X5_count : gOK mX5_count := ⟨by decide +kernel, g_tb3 (k := 71) rfl, g_tb1 (k := 1) rfl, ⟨by decide +kernel, by decide +kernel⟩, Nat.le_of_ble_eq_true rfl, rfl⟩
theorem na_X5_shines : gNa mX5_shines 2 := by unfold gNa; decide +kernel
theorem ok_X5_shines : gOK mX5_shines := ⟨by decide +kernel, g_tb3 (k := 78) rfl, g_tb1 (k := 1) rfl, ⟨by decide +kernel, by decide +kernel⟩, Nat.le_of_ble_eq_true rfl, rfl⟩
theorem na_X5_way : gNa mX5_way 3 := by unfold gNa; decide +kernel
theorem ok_X5_way : gOK mX5_way := ⟨by decide +kernel, g_tb3 (k := 87) rfl, g_tb1 (k := 1) rfl, ⟨by decide +kernel, by decide +kernel⟩, Nat.le_of_ble_eq_true rfl, rfl⟩
theorem na_X5_next : gNa mX5_next 1 := by unfold gNa; decide +kernel
theorem ok_X5_next : gOK mX5_next := ⟨by decide +kernel, g_tb3 (k := 94) rfl, g_tb1 (k := 1) rfl, ⟨by decide +kernel, by decide +kernel⟩, Nat.le_of_ble_eq_true rfl, rfl⟩
theorem na_X5_checkHours : gNa mX5_checkHours 2 := by unfold gNa; decide +kernel
theorem ok_X5_checkHours : gOK mX5_checkHours := ⟨by decide +kernel, g_tb3 (k := 118) rfl, g_tb1 (k := 1) rfl, ⟨by decide +kernel, by decide +kernel⟩, Nat.le_of_ble_eq_true rfl, rfl⟩
theorem na_X5_pass : gNa mX5_pass 1 := by unfold gNa; decide +kernel
theorem ok_X5_pass : gOK mX5_pass := ⟨by decide +kernel, g_tb3 (k := 115) rfl, g_tb1 (k := 1) rfl, ⟨by decide +kernel, by decide +kernel⟩, Nat.le_of_ble_eq_true rfl, rfl⟩
theorem na_X5_hauntsAhead : gNa mX5_hauntsAhead 2 := by unfold gNa; decide +kernel
theorem ok_X5_hauntsAhead : gOK mX5_hauntsAhead := ⟨by decide +kernel, g_tb3 (k := 162) rfl, g_tb1 (k := 1) rfl, ⟨by decide +kernel, by decide +kernel⟩, Nat.le_of_ble_eq_true rfl, rfl⟩
theorem na_X5_foresee : gNa mX5_foresee 2 := by unfold gNa; decide +kernel
theorem ok_X5_foresee : gOK mX5_foresee := ⟨by decide +kernel, g_tb3 (k := 158) rfl, g_tb1 (k := 1) rfl, ⟨by decide +kernel, by decide +kernel⟩, Nat.le_of_ble_eq_true rfl, rfl⟩
theorem na_X5_reaches : gNa mX5_reaches 3 := by unfold gNa; decide +kernel
theorem ok_X5_reaches : gOK mX5_reaches := ⟨by decide +kernel, g_tb3 (k := 189) rfl, g_tb1 (k := 1) rfl, ⟨by decide +kernel, by decide +kernel⟩, Nat.le_of_ble_eq_true rfl, rfl⟩
theorem na_X5_advise : gNa mX5_advise 1 := by unfold gNa; decide +kernel
theorem ok_X5_advise : gOK mX5_advise := ⟨by decide +kernel, g_tb3 (k := 199) rfl, g_tb1 (k := 1) rfl, ⟨by decide +kernel, by decide +kernel⟩, Nat.le_of_ble_eq_true rfl, rfl⟩
theorem na_X5_mean : gNa mX5_mean 0 := by unfold gNa; decide +kernel
theorem ok_X5_mean : gOK mX5_mean := ⟨by decide +kernel, g_tb1 (k := 126) rfl, g_tb1 (k := 1) rfl, ⟨by decide +kernel, by decide +kernel⟩, Nat.le_of_ble_eq_true rfl, rfl⟩
theorem na_X5_digest : gNa mX5_digest 0 := by unfold gNa; decide +kernel
theorem ok_X5_digest : gOK mX5_digest := ⟨by decide +kernel, g_tb1 (k := 155) rfl, g_tb1 (k := 1) rfl, ⟨by decide +kernel, by decide +kernel⟩, Nat.le_of_ble_eq_true rfl, rfl⟩
theorem na_X6_init : gNa mX6_init 0 := by unfold gNa; decide +kernel
theorem ok_X6_init : gOK mX6_init := ⟨by decide +kernel, g_tb3 (k := 204) rfl, g_tb1 (k := 6) rfl, ⟨by decide +kernel, by decide +kernel⟩, Nat.le_of_ble_eq_true rfl, rfl⟩
theorem na_X6_thrown : gNa mX6_thrown 0 := by unfold gNa; decide +kernel
theorem ok_X6_thrown : gOK mX6_thrown := ⟨by decide +kernel, g_tb4 (k := 7) rfl, g_tb1 (k := 6) rfl, ⟨by decide +kernel, by decide +kernel⟩, Nat.le_of_ble_eq_true rfl, rfl⟩
theorem na_X6_fail : gNa mX6_fail 1 := by unfold gNa; decide +kernel
theorem ok_X6_fail : gOK mX6_fail := ⟨by decide +kernel, g_tb4 (k := 28) rfl, g_tb1 (k := 6) rfl, ⟨by decide +kernel, by decide +kernel⟩, Nat.le_of_ble_eq_true rfl, rfl⟩
theorem na_X6_isIn : gNa mX6_isIn 3 := by unfold gNa; decide +kernel
theorem ok_X6_isIn : gOK mX6_isIn := ⟨by decide +kernel, g_tb4 (k := 17) rfl, g_tb1 (k := 6) rfl, ⟨by decide +kernel, by decide +kernel⟩, Nat.le_of_ble_eq_true rfl, rfl⟩
theorem na_X6_isCell : gNa mX6_isCell 2 := by unfold gNa; decide +kernel
theorem ok_X6_isCell : gOK mX6_isCell := ⟨by decide +kernel, g_tb4 (k := 14) rfl, g_tb1 (k := 6) rfl, ⟨by decide +kernel, by decide +kernel⟩, Nat.le_of_ble_eq_true rfl, rfl⟩
theorem na_X6_isGhost : gNa mX6_isGhost 1 := by unfold gNa; decide +kernel
theorem ok_X6_isGhost : gOK mX6_isGhost := ⟨by decide +kernel, g_tb4 (k := 80) rfl, g_tb1 (k := 6) rfl, ⟨by decide +kernel, by decide +kernel⟩, Nat.le_of_ble_eq_true rfl, rfl⟩
theorem na_X6_sp : gNa mX6_sp 2 := by unfold gNa; decide +kernel
theorem ok_X6_sp : gOK mX6_sp := ⟨by decide +kernel, g_tb4 (k := 96) rfl, g_tb1 (k := 6) rfl, ⟨by decide +kernel, by decide +kernel⟩, Nat.le_of_ble_eq_true rfl, rfl⟩
theorem na_X6_put : gNa mX6_put 3 := by unfold gNa; decide +kernel
theorem ok_X6_put : gOK mX6_put := ⟨by decide +kernel, g_tb4 (k := 126) rfl, g_tb1 (k := 6) rfl, ⟨by decide +kernel, by decide +kernel⟩, Nat.le_of_ble_eq_true rfl, rfl⟩
theorem na_X6_beside : gNa mX6_beside 2 := by unfold gNa; decide +kernel
theorem ok_X6_beside : gOK mX6_beside := ⟨by decide +kernel, g_tb4 (k := 20) rfl, g_tb1 (k := 6) rfl, ⟨by decide +kernel, by decide +kernel⟩, Nat.le_of_ble_eq_true rfl, rfl⟩
theorem na_X6_hasWall : gNa mX6_hasWall 2 := by unfold gNa; decide +kernel
theorem ok_X6_hasWall : gOK mX6_hasWall := ⟨by decide +kernel, g_tb4 (k := 64) rfl, g_tb1 (k := 6) rfl, ⟨by decide +kernel, by decide +kernel⟩, Nat.le_of_ble_eq_true rfl, rfl⟩
theorem na_X6_wall : gNa mX6_wall 3 := by unfold gNa; decide +kernel
theorem ok_X6_wall : gOK mX6_wall := ⟨by decide +kernel, g_tb4 (k := 11) rfl, g_tb1 (k := 6) rfl, ⟨by decide +kernel, by decide +kernel⟩, Nat.le_of_ble_eq_true rfl, rfl⟩
theorem na_X6_things : gNa mX6_things 2 := by unfold gNa; decide +kernel
theorem ok_X6_things : gOK mX6_things := ⟨by decide +kernel, g_tb4 (k := 32) rfl, g_tb1 (k := 6) rfl, ⟨by decide +kernel, by decide +kernel⟩, Nat.le_of_ble_eq_true rfl, rfl⟩
theorem na_X6_set : gNa mX6_set 4 := by unfold gNa; decide +kernel
theorem ok_X6_set : gOK mX6_set := ⟨by decide +kernel, g_tb4 (k := 36) rfl, g_tb1 (k := 6) rfl, ⟨by decide +kernel, by decide +kernel⟩, Nat.le_of_ble_eq_true rfl, rfl⟩
theorem na_X6_candle : gNa mX6_candle 3 := by unfold gNa; decide +kernel
theorem ok_X6_candle : gOK mX6_candle := ⟨by decide +kernel, g_tb4 (k := 24) rfl, g_tb1 (k := 6) rfl, ⟨by decide +kernel, by decide +kernel⟩, Nat.le_of_ble_eq_true rfl, rfl⟩
theorem na_X6_mirror : gNa mX6_mirror 3 := by unfold gNa; decide +kernel
theorem ok_X6_mirror : gOK mX6_mirror := ⟨by decide +kernel, g_tb4 (k := 40) rfl, g_tb1 (k := 6) rfl, ⟨by decide +kernel, by decide +kernel⟩, Nat.le_of_ble_eq_true rfl, rfl⟩
theorem na_X6_tally : gNa mX6_tally 2 := by unfold gNa; decide +kernel
theorem ok_X6_tally : gOK mX6_tally := ⟨by decide +kernel, g_tb4 (k := 44) rfl, g_tb1 (k := 6) rfl, ⟨by decide +kernel, by decide +kernel⟩, Nat.le_of_ble_eq_true rfl, rfl⟩
theorem na_X6_remove : gNa mX6_remove 2 := by unfold gNa; decide +kernel
theorem ok_X6_remove : gOK mX6_remove := ⟨by decide +kernel, g_tb4 (k := 48) rfl, g_tb1 (k := 6) rfl, ⟨by decide +kernel, by decide +kernel⟩, Nat.le_of_ble_eq_true rfl, rfl⟩
theorem na_X6_light : gNa mX6_light 2 := by unfold gNa; decide +kernel
theorem ok_X6_light : gOK mX6_light := ⟨by decide +kernel, g_tb4 (k := 52) rfl, g_tb1 (k := 6) rfl, ⟨by decide +kernel, by decide +kernel⟩, Nat.le_of_ble_eq_true rfl, rfl⟩
theorem na_X6_turned : gNa mX6_turned 2 := by unfold gNa; decide +kernel
theorem ok_X6_turned : gOK mX6_turned := ⟨by decide +kernel, g_tb4 (k := 68) rfl, g_tb1 (k := 6) rfl, ⟨by decide +kernel, by decide +kernel⟩, Nat.le_of_ble_eq_true rfl, rfl⟩
theorem na_X6_shine : gNa mX6_shine 1 := by unfold gNa; decide +kernel
theorem ok_X6_shine : gOK mX6_shine := ⟨by decide +kernel, g_tb4 (k := 60) rfl, g_tb1 (k := 6) rfl, ⟨by decide +kernel, by decide +kernel⟩, Nat.le_of_ble_eq_true rfl, rfl⟩
theorem na_X6_reckonLight : gNa mX6_reckonLight 0 := by unfold gNa; decide +kernel
theorem ok_X6_reckonLight : gOK mX6_reckonLight := ⟨by decide +kernel, g_tb4 (k := 88) rfl, g_tb1 (k := 6) rfl, ⟨by decide +kernel, by decide +kernel⟩, Nat.le_of_ble_eq_true rfl, rfl⟩
theorem na_X6_litCells : gNa mX6_litCells 0 := by unfold gNa; decide +kernel
theorem ok_X6_litCells : gOK mX6_litCells := ⟨by decide +kernel, g_tb4 (k := 72) rfl, g_tb1 (k := 6) rfl, ⟨by decide +kernel, by decide +kernel⟩, Nat.le_of_ble_eq_true rfl, rfl⟩
theorem na_X6_shines : gNa mX6_shines 2 := by unfold gNa; decide +kernel
theorem ok_X6_shines : gOK mX6_shines := ⟨by decide +kernel, g_tb4 (k := 56) rfl, g_tb1 (k := 6) rfl, ⟨by decide +kernel, by decide +kernel⟩, Nat.le_of_ble_eq_true rfl, rfl⟩
theorem na_X6_reckonWays : gNa mX6_reckonWays 1 := by unfold gNa; decide +kernel
theorem ok_X6_reckonWays : gOK mX6_reckonWays := ⟨by decide +kernel, g_tb4 (k := 92) rfl, g_tb1 (k := 6) rfl, ⟨by decide +kernel, by decide +kernel⟩, Nat.le_of_ble_eq_true rfl, rfl⟩
theorem na_X6_from : gNa mX6_from 2 := by unfold gNa; decide +kernel
theorem ok_X6_from : gOK mX6_from := ⟨by decide +kernel, g_tb4 (k := 100) rfl, g_tb1 (k := 6) rfl, ⟨by decide +kernel, by decide +kernel⟩, Nat.le_of_ble_eq_true rfl, rfl⟩
theorem na_X6_wayOf : gNa mX6_wayOf 2 := by unfold gNa; decide +kernel
theorem ok_X6_wayOf : gOK mX6_wayOf := ⟨by decide +kernel, g_tb4 (k := 84) rfl, g_tb1 (k := 6) rfl, ⟨by decide +kernel, by decide +kernel⟩, Nat.le_of_ble_eq_true rfl, rfl⟩
theorem na_X6_nextOf : gNa mX6_nextOf 1 := by unfold gNa; decide +kernel
theorem ok_X6_nextOf : gOK mX6_nextOf := ⟨by decide +kernel, g_tb4 (k := 111) rfl, g_tb1 (k := 6) rfl, ⟨by decide +kernel, by decide +kernel⟩, Nat.le_of_ble_eq_true rfl, rfl⟩
theorem na_X6_way : gNa mX6_way 3 := by unfold gNa; decide +kernel
theorem ok_X6_way : gOK mX6_way := ⟨by decide +kernel, g_tb4 (k := 76) rfl, g_tb1 (k := 6) rfl, ⟨by decide +kernel, by decide +kernel⟩, Nat.le_of_ble_eq_true rfl, rfl⟩
theorem na_X6_next : gNa mX6_next 1 := by unfold gNa; decide +kernel
theorem ok_X6_next : gOK mX6_next := ⟨by decide +kernel, g_tb4 (k := 107) rfl, g_tb1 (k := 6) rfl, ⟨by decide +kernel, by decide +kernel⟩, Nat.le_of_ble_eq_true rfl, rfl⟩
theorem na_X6_come : gNa mX6_come 3 := by unfold gNa; decide +kernel
theorem ok_X6_come : gOK mX6_come := ⟨by decide +kernel, g_tb4 (k := 115) rfl, g_tb1 (k := 6) rfl, ⟨by decide +kernel, by decide +kernel⟩, Nat.le_of_ble_eq_true rfl, rfl⟩
theorem na_X6_send : gNa mX6_send 3 := by unfold gNa; decide +kernel
theorem ok_X6_send : gOK mX6_send := ⟨by decide +kernel, g_tb4 (k := 122) rfl, g_tb1 (k := 6) rfl, ⟨by decide +kernel, by decide +kernel⟩, Nat.le_of_ble_eq_true rfl, rfl⟩
theorem na_X6_rite : gNa mX6_rite 1 := by unfold gNa; decide +kernel
theorem ok_X6_rite : gOK mX6_rite := ⟨by decide +kernel, g_tb4 (k := 130) rfl, g_tb1 (k := 6) rfl, ⟨by decide +kernel, by decide +kernel⟩, Nat.le_of_ble_eq_true rfl, rfl⟩
theorem na_X6_cellTold : gNa mX6_cellTold 2 := by unfold gNa; decide +kernel
theorem ok_X6_cellTold : gOK mX6_cellTold := ⟨by decide +kernel, g_tb4 (k := 138) rfl, g_tb1 (k := 6) rfl, ⟨by decide +kernel, by decide +kernel⟩, Nat.le_of_ble_eq_true rfl, rfl⟩
theorem na_X6_cell : gNa mX6_cell 3 := by unfold gNa; decide +kernel
theorem ok_X6_cell : gOK mX6_cell := ⟨by decide +kernel, g_tb4 (k := 134) rfl, g_tb1 (k := 6) rfl, ⟨by decide +kernel, by decide +kernel⟩, Nat.le_of_ble_eq_true rfl, rfl⟩
theorem na_X6_walled : gNa mX6_walled 3 := by unfold gNa; decide +kernel
theorem ok_X6_walled : gOK mX6_walled := ⟨by decide +kernel, g_tb4 (k := 142) rfl, g_tb1 (k := 6) rfl, ⟨by decide +kernel, by decide +kernel⟩, Nat.le_of_ble_eq_true rfl, rfl⟩
theorem na_X6_ghostTold : gNa mX6_ghostTold 2 := by unfold gNa; decide +kernel
theorem ok_X6_ghostTold : gOK mX6_ghostTold := ⟨by decide +kernel, g_tb4 (k := 150) rfl, g_tb1 (k := 6) rfl, ⟨by decide +kernel, by decide +kernel⟩, Nat.le_of_ble_eq_true rfl, rfl⟩
theorem na_X6_ghost : gNa mX6_ghost 2 := by unfold gNa; decide +kernel
theorem ok_X6_ghost : gOK mX6_ghost := ⟨by decide +kernel, g_tb4 (k := 146) rfl, g_tb1 (k := 6) rfl, ⟨by decide +kernel, by decide +kernel⟩, Nat.le_of_ble_eq_true rfl, rfl⟩
theorem na_X6_burning : gNa mX6_burning 0 := by unfold gNa; decide +kernel
theorem ok_X6_burning : gOK mX6_burning := ⟨by decide +kernel, g_tb4 (k := 162) rfl, g_tb1 (k := 6) rfl, ⟨by decide +kernel, by decide +kernel⟩, Nat.le_of_ble_eq_true rfl, rfl⟩
theorem na_X6_marks : gNa mX6_marks 0 := by unfold gNa; decide +kernel
theorem ok_X6_marks : gOK mX6_marks := ⟨by decide +kernel, g_tb4 (k := 170) rfl, g_tb1 (k := 6) rfl, ⟨by decide +kernel, by decide +kernel⟩, Nat.le_of_ble_eq_true rfl, rfl⟩
theorem na_X6_walls : gNa mX6_walls 0 := by unfold gNa; decide +kernel
theorem ok_X6_walls : gOK mX6_walls := ⟨by decide +kernel, g_tb4 (k := 166) rfl, g_tb1 (k := 6) rfl, ⟨by decide +kernel, by decide +kernel⟩, Nat.le_of_ble_eq_true rfl, rfl⟩
theorem na_X6_counted : gNa mX6_counted 1 := by unfold gNa; decide +kernel
theorem ok_X6_counted : gOK mX6_counted := ⟨by decide +kernel, g_tb4 (k := 158) rfl, g_tb1 (k := 6) rfl, ⟨by decide +kernel, by decide +kernel⟩, Nat.le_of_ble_eq_true rfl, rfl⟩
theorem na_X6_count : gNa mX6_count 1 := by unfold gNa; decide +kernel
theorem ok_X6_count : gOK mX6_count := ⟨by decide +kernel, g_tb4 (k := 154) rfl, g_tb1 (k := 6) rfl, ⟨by decide +kernel, by decide +kernel⟩, Nat.le_of_ble_eq_true rfl, rfl⟩
theorem na_X6_step : gNa mX6_step 1 := by unfold gNa; decide +kernel
theorem ok_X6_step : gOK mX6_step := ⟨by decide +kernel, g_tb4 (k := 186) rfl, g_tb1 (k := 6) rfl, ⟨by decide +kernel, by decide +kernel⟩, Nat.le_of_ble_eq_true rfl, rfl⟩
theorem na_X6_haunt : gNa mX6_haunt 1 := by unfold gNa; decide +kernel
theorem ok_X6_haunt : gOK mX6_haunt := ⟨by decide +kernel, g_tb4 (k := 190) rfl, g_tb1 (k := 6) rfl, ⟨by decide +kernel, by decide +kernel⟩, Nat.le_of_ble_eq_true rfl, rfl⟩
theorem na_X6_hourOn : gNa mX6_hourOn 0 := by unfold gNa; decide +kernel
theorem ok_X6_hourOn : gOK mX6_hourOn := ⟨by decide +kernel, g_tb4 (k := 182) rfl, g_tb1 (k := 6) rfl, ⟨by decide +kernel, by decide +kernel⟩, Nat.le_of_ble_eq_true rfl, rfl⟩
theorem na_X6_hoursOn : gNa mX6_hoursOn 1 := by unfold gNa; decide +kernel
theorem ok_X6_hoursOn : gOK mX6_hoursOn := ⟨by decide +kernel, g_tb4 (k := 178) rfl, g_tb1 (k := 6) rfl, ⟨by decide +kernel, by decide +kernel⟩, Nat.le_of_ble_eq_true rfl, rfl⟩
theorem na_X6_pass : gNa mX6_pass 1 := by unfold gNa; decide +kernel
theorem ok_X6_pass : gOK mX6_pass := ⟨by decide +kernel, g_tb4 (k := 174) rfl, g_tb1 (k := 6) rfl, ⟨by decide +kernel, by decide +kernel⟩, Nat.le_of_ble_eq_true rfl, rfl⟩
theorem na_X6_kept : gNa mX6_kept 0 := by unfold gNa; decide +kernel
theorem ok_X6_kept : gOK mX6_kept := ⟨by decide +kernel, g_tb4 (k := 198) rfl, g_tb1 (k := 6) rfl, ⟨by decide +kernel, by decide +kernel⟩, Nat.le_of_ble_eq_true rfl, rfl⟩
theorem na_X6_bringBack : gNa mX6_bringBack 1 := by unfold gNa; decide +kernel
theorem ok_X6_bringBack : gOK mX6_bringBack := ⟨by decide +kernel, g_tb4 (k := 210) rfl, g_tb1 (k := 6) rfl, ⟨by decide +kernel, by decide +kernel⟩, Nat.le_of_ble_eq_true rfl, rfl⟩
theorem na_X6_foresee : gNa mX6_foresee 2 := by unfold gNa; decide +kernel
theorem ok_X6_foresee : gOK mX6_foresee := ⟨by decide +kernel, g_tb4 (k := 194) rfl, g_tb1 (k := 6) rfl, ⟨by decide +kernel, by decide +kernel⟩, Nat.le_of_ble_eq_true rfl, rfl⟩
theorem na_X6_reaches : gNa mX6_reaches 3 := by unfold gNa; decide +kernel
theorem ok_X6_reaches : gOK mX6_reaches := ⟨by decide +kernel, g_tb4 (k := 214) rfl, g_tb1 (k := 6) rfl, ⟨by decide +kernel, by decide +kernel⟩, Nat.le_of_ble_eq_true rfl, rfl⟩
theorem na_X6_advise : gNa mX6_advise 1 := by unfold gNa; decide +kernel
theorem ok_X6_advise : gOK mX6_advise := ⟨by decide +kernel, g_tb4 (k := 218) rfl, g_tb1 (k := 6) rfl, ⟨by decide +kernel, by decide +kernel⟩, Nat.le_of_ble_eq_true rfl, rfl⟩
theorem na_X6_mean : gNa mX6_mean 0 := by unfold gNa; decide +kernel
theorem ok_X6_mean : gOK mX6_mean := ⟨by decide +kernel, g_tb4 (k := 222) rfl, g_tb1 (k := 6) rfl, ⟨by decide +kernel, by decide +kernel⟩, Nat.le_of_ble_eq_true rfl, rfl⟩
theorem na_X6_digest : gNa mX6_digest 0 := by unfold gNa; decide +kernel
theorem ok_X6_digest : gOK mX6_digest := ⟨by decide +kernel, g_tb4 (k := 226) rfl, g_tb1 (k := 6) rfl, ⟨by decide +kernel, by decide +kernel⟩, Nat.le_of_ble_eq_true rfl, rfl⟩
theorem na_L_wall : gNa mL_wall 5 := by unfold gNa; decide +kernel
theorem ok_L_wall : gOKW mL_wall := ⟨by decide +kernel, g_tb1 (k := 232) rfl, g_tb1 (k := 0) rfl, ⟨by decide +kernel, by decide +kernel⟩, Nat.le_of_ble_eq_true rfl, List.cons_ne_nil _ _, List.forall_mem_cons.mpr ⟨⟨by decide, by decide +kernel, g_tb1 (k := 233) rfl⟩, List.forall_mem_cons.mpr ⟨⟨by decide, by decide +kernel, g_tb1 (k := 234) rfl⟩, List.forall_mem_cons.mpr ⟨⟨by decide, by decide +kernel, g_tb1 (k := 235) rfl⟩, fun _ h => absurd h List.not_mem_nil⟩⟩⟩⟩
theorem na_L_candle : gNa mL_candle 5 := by unfold gNa; decide +kernel
theorem ok_L_candle : gOKW mL_candle := ⟨by decide +kernel, g_tb2 (k := 139) rfl, g_tb1 (k := 0) rfl, ⟨by decide +kernel, by decide +kernel⟩, Nat.le_of_ble_eq_true rfl, List.cons_ne_nil _ _, List.forall_mem_cons.mpr ⟨⟨by decide, by decide +kernel, g_tb1 (k := 233) rfl⟩, List.forall_mem_cons.mpr ⟨⟨by decide, by decide +kernel, g_tb1 (k := 234) rfl⟩, List.forall_mem_cons.mpr ⟨⟨by decide, by decide +kernel, g_tb1 (k := 235) rfl⟩, fun _ h => absurd h List.not_mem_nil⟩⟩⟩⟩
theorem na_L_mirror : gNa mL_mirror 5 := by unfold gNa; decide +kernel
theorem ok_L_mirror : gOKW mL_mirror := ⟨by decide +kernel, g_tb2 (k := 162) rfl, g_tb1 (k := 0) rfl, ⟨by decide +kernel, by decide +kernel⟩, Nat.le_of_ble_eq_true rfl, List.cons_ne_nil _ _, List.forall_mem_cons.mpr ⟨⟨by decide, by decide +kernel, g_tb1 (k := 233) rfl⟩, List.forall_mem_cons.mpr ⟨⟨by decide, by decide +kernel, g_tb1 (k := 235) rfl⟩, fun _ h => absurd h List.not_mem_nil⟩⟩⟩
theorem na_L_tally : gNa mL_tally 4 := by unfold gNa; decide +kernel
theorem ok_L_tally : gOKW mL_tally := ⟨by decide +kernel, g_tb2 (k := 174) rfl, g_tb1 (k := 0) rfl, ⟨by decide +kernel, by decide +kernel⟩, Nat.le_of_ble_eq_true rfl, List.cons_ne_nil _ _, List.forall_mem_cons.mpr ⟨⟨by decide, by decide +kernel, g_tb1 (k := 233) rfl⟩, List.forall_mem_cons.mpr ⟨⟨by decide, by decide +kernel, g_tb1 (k := 235) rfl⟩, fun _ h => absurd h List.not_mem_nil⟩⟩⟩
theorem na_L_remove : gNa mL_remove 4 := by unfold gNa; decide +kernel
theorem ok_L_remove : gOKW mL_remove := ⟨by decide +kernel, g_tb2 (k := 185) rfl, g_tb1 (k := 0) rfl, ⟨by decide +kernel, by decide +kernel⟩, Nat.le_of_ble_eq_true rfl, List.cons_ne_nil _ _, List.forall_mem_cons.mpr ⟨⟨by decide, by decide +kernel, g_tb1 (k := 233) rfl⟩, List.forall_mem_cons.mpr ⟨⟨by decide, by decide +kernel, g_tb1 (k := 235) rfl⟩, fun _ h => absurd h List.not_mem_nil⟩⟩⟩
theorem na_L_light : gNa mL_light 4 := by unfold gNa; decide +kernel
theorem ok_L_light : gOKW mL_light := ⟨by decide +kernel, g_tb2 (k := 197) rfl, g_tb1 (k := 0) rfl, ⟨by decide +kernel, by decide +kernel⟩, Nat.le_of_ble_eq_true rfl, List.cons_ne_nil _ _, List.forall_mem_cons.mpr ⟨⟨by decide, by decide +kernel, g_tb1 (k := 233) rfl⟩, List.forall_mem_cons.mpr ⟨⟨by decide, by decide +kernel, g_tb1 (k := 235) rfl⟩, fun _ h => absurd h List.not_mem_nil⟩⟩⟩
theorem na_L_come : gNa mL_come 5 := by unfold gNa; decide +kernel
theorem ok_L_come : gOKW mL_come := ⟨by decide +kernel, g_tb2 (k := 214) rfl, g_tb1 (k := 0) rfl, ⟨by decide +kernel, by decide +kernel⟩, Nat.le_of_ble_eq_true rfl, List.cons_ne_nil _ _, List.forall_mem_cons.mpr ⟨⟨by decide, by decide +kernel, g_tb1 (k := 233) rfl⟩, List.forall_mem_cons.mpr ⟨⟨by decide, by decide +kernel, g_tb1 (k := 234) rfl⟩, List.forall_mem_cons.mpr ⟨⟨by decide, by decide +kernel, g_tb1 (k := 235) rfl⟩, fun _ h => absurd h List.not_mem_nil⟩⟩⟩⟩
theorem na_L_send : gNa mL_send 5 := by unfold gNa; decide +kernel
theorem ok_L_send : gOKW mL_send := ⟨by decide +kernel, g_tb3 (k := 0) rfl, g_tb1 (k := 0) rfl, ⟨by decide +kernel, by decide +kernel⟩, Nat.le_of_ble_eq_true rfl, List.cons_ne_nil _ _, List.forall_mem_cons.mpr ⟨⟨by decide, by decide +kernel, g_tb1 (k := 233) rfl⟩, fun _ h => absurd h List.not_mem_nil⟩⟩
theorem na_L_rite : gNa mL_rite 3 := by unfold gNa; decide +kernel
theorem ok_L_rite : gOKW mL_rite := ⟨by decide +kernel, g_tb3 (k := 31) rfl, g_tb1 (k := 0) rfl, ⟨by decide +kernel, by decide +kernel⟩, Nat.le_of_ble_eq_true rfl, List.cons_ne_nil _ _, List.forall_mem_cons.mpr ⟨⟨by decide, by decide +kernel, g_tb1 (k := 233) rfl⟩, List.forall_mem_cons.mpr ⟨⟨by decide, by decide +kernel, g_tb1 (k := 235) rfl⟩, fun _ h => absurd h List.not_mem_nil⟩⟩⟩
theorem na_L_cell : gNa mL_cell 5 := by unfold gNa; decide +kernel
theorem ok_L_cell : gOKW mL_cell := ⟨by decide +kernel, g_tb3 (k := 42) rfl, g_tb1 (k := 0) rfl, ⟨by decide +kernel, by decide +kernel⟩, Nat.le_of_ble_eq_true rfl, List.cons_ne_nil _ _, List.forall_mem_cons.mpr ⟨⟨by decide, by decide +kernel, g_tb1 (k := 233) rfl⟩, fun _ h => absurd h List.not_mem_nil⟩⟩
theorem na_L_walled : gNa mL_walled 5 := by unfold gNa; decide +kernel
theorem ok_L_walled : gOKW mL_walled := ⟨by decide +kernel, g_tb3 (k := 53) rfl, g_tb1 (k := 0) rfl, ⟨by decide +kernel, by decide +kernel⟩, Nat.le_of_ble_eq_true rfl, List.cons_ne_nil _ _, List.forall_mem_cons.mpr ⟨⟨by decide, by decide +kernel, g_tb1 (k := 233) rfl⟩, List.forall_mem_cons.mpr ⟨⟨by decide, by decide +kernel, g_tb1 (k := 234) rfl⟩, fun _ h => absurd h List.not_mem_nil⟩⟩⟩
theorem na_L_ghost : gNa mL_ghost 4 := by unfold gNa; decide +kernel
theorem ok_L_ghost : gOKW mL_ghost := ⟨by decide +kernel, g_tb3 (k := 60) rfl, g_tb1 (k := 0) rfl, ⟨by decide +kernel, by decide +kernel⟩, Nat.le_of_ble_eq_true rfl, List.cons_ne_nil _ _, List.forall_mem_cons.mpr ⟨⟨by decide, by decide +kernel, g_tb1 (k := 233) rfl⟩, fun _ h => absurd h List.not_mem_nil⟩⟩
theorem na_L_count : gNa mL_count 3 := by unfold gNa; decide +kernel
theorem ok_L_count : gOKW mL_count := ⟨by decide +kernel, g_tb3 (k := 67) rfl, g_tb1 (k := 0) rfl, ⟨by decide +kernel, by decide +kernel⟩, Nat.le_of_ble_eq_true rfl, List.cons_ne_nil _ _, List.forall_mem_cons.mpr ⟨⟨by decide, by decide +kernel, g_tb1 (k := 233) rfl⟩, fun _ h => absurd h List.not_mem_nil⟩⟩
theorem na_L_shines : gNa mL_shines 4 := by unfold gNa; decide +kernel
theorem ok_L_shines : gOKW mL_shines := ⟨by decide +kernel, g_tb3 (k := 74) rfl, g_tb1 (k := 0) rfl, ⟨by decide +kernel, by decide +kernel⟩, Nat.le_of_ble_eq_true rfl, List.cons_ne_nil _ _, List.forall_mem_cons.mpr ⟨⟨by decide, by decide +kernel, g_tb1 (k := 233) rfl⟩, fun _ h => absurd h List.not_mem_nil⟩⟩
theorem na_L_way : gNa mL_way 5 := by unfold gNa; decide +kernel
theorem ok_L_way : gOKW mL_way := ⟨by decide +kernel, g_tb3 (k := 83) rfl, g_tb1 (k := 0) rfl, ⟨by decide +kernel, by decide +kernel⟩, Nat.le_of_ble_eq_true rfl, List.cons_ne_nil _ _, List.forall_mem_cons.mpr ⟨⟨by decide, by decide +kernel, g_tb1 (k := 233) rfl⟩, fun _ h => absurd h List.not_mem_nil⟩⟩
theorem na_L_next : gNa mL_next 3 := by unfold gNa; decide +kernel
theorem ok_L_next : gOKW mL_next := ⟨by decide +kernel, g_tb3 (k := 90) rfl, g_tb1 (k := 0) rfl, ⟨by decide +kernel, by decide +kernel⟩, Nat.le_of_ble_eq_true rfl, List.cons_ne_nil _ _, List.forall_mem_cons.mpr ⟨⟨by decide, by decide +kernel, g_tb1 (k := 233) rfl⟩, fun _ h => absurd h List.not_mem_nil⟩⟩
theorem na_L_pass : gNa mL_pass 3 := by unfold gNa; decide +kernel
theorem ok_L_pass : gOKW mL_pass := ⟨by decide +kernel, g_tb3 (k := 111) rfl, g_tb1 (k := 0) rfl, ⟨by decide +kernel, by decide +kernel⟩, Nat.le_of_ble_eq_true rfl, List.cons_ne_nil _ _, List.forall_mem_cons.mpr ⟨⟨by decide, by decide +kernel, g_tb1 (k := 234) rfl⟩, fun _ h => absurd h List.not_mem_nil⟩⟩
theorem na_L_foresee : gNa mL_foresee 4 := by unfold gNa; decide +kernel
theorem ok_L_foresee : gOKW mL_foresee := ⟨by decide +kernel, g_tb3 (k := 154) rfl, g_tb1 (k := 0) rfl, ⟨by decide +kernel, by decide +kernel⟩, Nat.le_of_ble_eq_true rfl, List.cons_ne_nil _ _, List.forall_mem_cons.mpr ⟨⟨by decide, by decide +kernel, g_tb1 (k := 234) rfl⟩, List.forall_mem_cons.mpr ⟨⟨by decide, by decide +kernel, g_tb1 (k := 233) rfl⟩, fun _ h => absurd h List.not_mem_nil⟩⟩⟩
theorem na_L_reaches : gNa mL_reaches 5 := by unfold gNa; decide +kernel
theorem ok_L_reaches : gOKW mL_reaches := ⟨by decide +kernel, g_tb3 (k := 185) rfl, g_tb1 (k := 0) rfl, ⟨by decide +kernel, by decide +kernel⟩, Nat.le_of_ble_eq_true rfl, List.cons_ne_nil _ _, List.forall_mem_cons.mpr ⟨⟨by decide, by decide +kernel, g_tb1 (k := 233) rfl⟩, List.forall_mem_cons.mpr ⟨⟨by decide, by decide +kernel, g_tb1 (k := 234) rfl⟩, fun _ h => absurd h List.not_mem_nil⟩⟩⟩
theorem na_L_advise : gNa mL_advise 3 := by unfold gNa; decide +kernel
theorem ok_L_advise : gOKW mL_advise := ⟨by decide +kernel, g_tb3 (k := 195) rfl, g_tb1 (k := 0) rfl, ⟨by decide +kernel, by decide +kernel⟩, Nat.le_of_ble_eq_true rfl, List.cons_ne_nil _ _, List.forall_mem_cons.mpr ⟨⟨by decide, by decide +kernel, g_tb1 (k := 234) rfl⟩, fun _ h => absurd h List.not_mem_nil⟩⟩
theorem kV_X3_13 : gLV RX3 13 mX3_get 1 2 := ⟨ok_X3_get, na_X3_get, g_tb3 (k := 175) rfl, g_tb1 (k := 149) rfl, g_tb1 (k := 150) rfl, _, _, rfl⟩
theorem kV_X1_45 : gLV RX1 45 mX3_copyFrom 1 2 := ⟨ok_X3_copyFrom, na_X3_copyFrom, g_tb3 (k := 171) rfl, g_tb3 (k := 172) rfl, g_tb3 (k := 173) rfl, _, _, rfl⟩
theorem kV_X1_55 : gLV RX1 55 mX1_hasTally 1 0 := ⟨ok_X1_hasTally, na_X1_hasTally, g_tb1 (k := 141) rfl, g_tb1 (k := 142) rfl, g_tb1 (k := 143) rfl, _, _, rfl⟩
theorem kV_X1_59 : gLV RX1 59 mX3_get 1 2 := ⟨ok_X3_get, na_X3_get, g_tb1 (k := 148) rfl, g_tb1 (k := 149) rfl, g_tb1 (k := 150) rfl, _, _, rfl⟩
theorem kV_X1_82 : gLV RX1 82 mX1_walledCells 1 0 := ⟨ok_X1_walledCells, na_X1_walledCells, g_tb1 (k := 225) rfl, g_tb1 (k := 226) rfl, g_tb1 (k := 227) rfl, _, _, rfl⟩
theorem kV_X1_89 : gLV RX1 89 mX1_turned 2 0 := ⟨ok_X1_turned, na_X1_turned, g_tb2 (k := 133) rfl, g_tb2 (k := 135) rfl, g_tbs (k := 2) rfl, _, _, rfl⟩
theorem kV_X1_93 : gLV RX1 93 mX1_cellsLitFrom 1 0 := ⟨ok_X1_cellsLitFrom, na_X1_cellsLitFrom, g_tb2 (k := 128) rfl, g_tb2 (k := 129) rfl, g_tb2 (k := 130) rfl, _, _, rfl⟩
theorem kV_X1_73 : gLV RX1 73 mX3_put 2 2 := ⟨ok_X3_put, na_X3_put, g_tb2 (k := 156) rfl, g_tb2 (k := 157) rfl, g_tb2 (k := 158) rfl, _, _, rfl⟩
theorem kV_X1_77 : gLV RX1 77 mX1_relight 0 0 := ⟨ok_X1_relight, na_X1_relight, g_tb2 (k := 124) rfl, g_tb2 (k := 126) rfl, g_tbs (k := 1) rfl, _, _, rfl⟩
theorem kV_X1_96 : gLV RX1 96 mX1_isBurning 1 0 := ⟨ok_X1_isBurning, na_X1_isBurning, g_tb3 (k := 128) rfl, g_tb1 (k := 206) rfl, g_tb1 (k := 207) rfl, _, _, rfl⟩
theorem kV_X1_99 : gLV RX1 99 mX1_neighbours 2 0 := ⟨ok_X1_neighbours, na_X1_neighbours, g_tb3 (k := 142) rfl, g_tb3 (k := 26) rfl, g_tb3 (k := 27) rfl, _, _, rfl⟩
theorem kV_X2_34 : gLV RX2 34 mX1_copyFrom 1 0 := ⟨ok_X1_copyFrom, na_X1_copyFrom, g_tb3 (k := 167) rfl, g_tb3 (k := 168) rfl, g_tb3 (k := 169) rfl, _, _, rfl⟩
theorem kV_X2_38 : gLV RX2 38 mX3_copyFrom 1 2 := ⟨ok_X3_copyFrom, na_X3_copyFrom, g_tb3 (k := 176) rfl, g_tb3 (k := 172) rfl, g_tb3 (k := 173) rfl, _, _, rfl⟩
theorem kV_X2_48 : gLV RX2 48 mX3_get 1 2 := ⟨ok_X3_get, na_X3_get, g_tb1 (k := 191) rfl, g_tb1 (k := 149) rfl, g_tb1 (k := 150) rfl, _, _, rfl⟩
theorem kV_X2_52 : gLV RX2 52 mX3_put 2 2 := ⟨ok_X3_put, na_X3_put, g_tb2 (k := 233) rfl, g_tb2 (k := 157) rfl, g_tb2 (k := 158) rfl, _, _, rfl⟩
theorem kV_X2_56 : gLV RX2 56 mX2_trait 2 1 := ⟨ok_X2_trait, na_X2_trait, g_tb1 (k := 187) rfl, g_tb1 (k := 188) rfl, g_tb1 (k := 189) rfl, _, _, rfl⟩
theorem kV_X2_60 : gLV RX2 60 mX2_setTrait 3 1 := ⟨ok_X2_setTrait, na_X2_setTrait, g_tb2 (k := 229) rfl, g_tb2 (k := 230) rfl, g_tb2 (k := 231) rfl, _, _, rfl⟩
theorem kV_X2_64 : gLV RX2 64 mX2_setCell 2 1 := ⟨ok_X2_setCell, na_X2_setCell, g_tb2 (k := 225) rfl, g_tb2 (k := 226) rfl, g_tb2 (k := 227) rfl, _, _, rfl⟩
theorem kV_X2_67 : gLV RX2 67 mX2_setGoal 2 1 := ⟨ok_X2_setGoal, na_X2_setGoal, g_tb2 (k := 234) rfl, g_tb2 (k := 235) rfl, g_tb2 (k := 236) rfl, _, _, rfl⟩
theorem kV_X2_70 : gLV RX2 70 mX2_cellOf 1 1 := ⟨ok_X2_cellOf, na_X2_cellOf, g_tb1 (k := 217) rfl, g_tb1 (k := 218) rfl, g_tb1 (k := 219) rfl, _, _, rfl⟩
theorem kV_X2_73 : gLV RX2 73 mX2_goalOf 1 1 := ⟨ok_X2_goalOf, na_X2_goalOf, g_tb3 (k := 99) rfl, g_tb3 (k := 100) rfl, g_tb3 (k := 101) rfl, _, _, rfl⟩
theorem kV_X2_76 : gLV RX2 76 mX1_thingIn 1 0 := ⟨ok_X1_thingIn, na_X1_thingIn, g_tb1 (k := 197) rfl, g_tb1 (k := 198) rfl, g_tb1 (k := 199) rfl, _, _, rfl⟩
theorem kV_X2_79 : gLV RX2 79 mX1_amountIn 1 0 := ⟨ok_X1_amountIn, na_X1_amountIn, g_tb1 (k := 201) rfl, g_tb1 (k := 202) rfl, g_tb1 (k := 203) rfl, _, _, rfl⟩
theorem kV_X2_82 : gLV RX2 82 mX1_isBurning 1 0 := ⟨ok_X1_isBurning, na_X1_isBurning, g_tb1 (k := 205) rfl, g_tb1 (k := 206) rfl, g_tb1 (k := 207) rfl, _, _, rfl⟩
theorem kV_X2_86 : gLV RX2 86 mX1_isLit 1 0 := ⟨ok_X1_isLit, na_X1_isLit, g_tb1 (k := 209) rfl, g_tb1 (k := 210) rfl, g_tb1 (k := 211) rfl, _, _, rfl⟩
theorem kV_X2_89 : gLV RX2 89 mX2_ghostsIn 1 1 := ⟨ok_X2_ghostsIn, na_X2_ghostsIn, g_tb1 (k := 213) rfl, g_tb1 (k := 214) rfl, g_tb1 (k := 215) rfl, _, _, rfl⟩
theorem kV_X2_92 : gLV RX2 92 mX1_candleCount 0 0 := ⟨ok_X1_candleCount, na_X1_candleCount, g_tb1 (k := 162) rfl, g_tb1 (k := 163) rfl, g_tb1 (k := 164) rfl, _, _, rfl⟩
theorem kV_X2_96 : gLV RX2 96 mX1_burningCount 0 0 := ⟨ok_X1_burningCount, na_X1_burningCount, g_tb1 (k := 166) rfl, g_tb1 (k := 167) rfl, g_tb1 (k := 168) rfl, _, _, rfl⟩
theorem kV_X2_99 : gLV RX2 99 mX1_mirrorCount 0 0 := ⟨ok_X1_mirrorCount, na_X1_mirrorCount, g_tb1 (k := 170) rfl, g_tb1 (k := 171) rfl, g_tb1 (k := 172) rfl, _, _, rfl⟩
theorem kV_X2_102 : gLV RX2 102 mX1_tallyCount 0 0 := ⟨ok_X1_tallyCount, na_X1_tallyCount, g_tb1 (k := 174) rfl, g_tb1 (k := 128) rfl, g_tb1 (k := 129) rfl, _, _, rfl⟩
theorem kV_X2_105 : gLV RX2 105 mX1_wallCount 0 0 := ⟨ok_X1_wallCount, na_X1_wallCount, g_tb1 (k := 175) rfl, g_tb1 (k := 176) rfl, g_tb1 (k := 177) rfl, _, _, rfl⟩
theorem kV_X2_108 : gLV RX2 108 mX1_litCount 0 0 := ⟨ok_X1_litCount, na_X1_litCount, g_tb1 (k := 179) rfl, g_tb1 (k := 180) rfl, g_tb1 (k := 181) rfl, _, _, rfl⟩
theorem kV_X2_111 : gLV RX2 111 mX2_sumOfTrait 1 1 := ⟨ok_X2_sumOfTrait, na_X2_sumOfTrait, g_tb1 (k := 183) rfl, g_tb1 (k := 184) rfl, g_tb1 (k := 185) rfl, _, _, rfl⟩
theorem kV_X2_114 : gLV RX2 114 mX1_sumOfMarks 0 0 := ⟨ok_X1_sumOfMarks, na_X1_sumOfMarks, g_tb1 (k := 192) rfl, g_tb1 (k := 138) rfl, g_tb1 (k := 139) rfl, _, _, rfl⟩
theorem kV_X4_38 : gLV RX4 38 mX1_neighbours 2 0 := ⟨ok_X1_neighbours, na_X1_neighbours, g_tb3 (k := 25) rfl, g_tb3 (k := 26) rfl, g_tb3 (k := 27) rfl, _, _, rfl⟩
theorem kV_X2_117 : gLV RX2 117 mX2_mayPass 1 1 := ⟨ok_X2_mayPass, na_X2_mayPass, g_tb3 (k := 15) rfl, g_tb3 (k := 16) rfl, g_tb3 (k := 17) rfl, _, _, rfl⟩
theorem kV_X2_120 : gLV RX2 120 mX4_fewestSteps 4 3 := ⟨ok_X4_fewestSteps, na_X4_fewestSteps, g_tb3 (k := 19) rfl, g_tb3 (k := 20) rfl, g_tb3 (k := 21) rfl, _, _, rfl⟩
theorem kV_X4_42 : gLV RX4 42 mX1_walledCells 1 0 := ⟨ok_X1_walledCells, na_X1_walledCells, g_tb3 (k := 107) rfl, g_tb1 (k := 226) rfl, g_tb1 (k := 227) rfl, _, _, rfl⟩
theorem kV_X2_124 : gLV RX2 124 mX4_firstDirection 1 3 := ⟨ok_X4_firstDirection, na_X4_firstDirection, g_tb3 (k := 103) rfl, g_tb3 (k := 104) rfl, g_tb3 (k := 105) rfl, _, _, rfl⟩
theorem kV_X2_137 : gLV RX2 137 mX2_nextDirection 1 1 := ⟨ok_X2_nextDirection, na_X2_nextDirection, g_tb3 (k := 133) rfl, g_tb3 (k := 96) rfl, g_tb3 (k := 97) rfl, _, _, rfl⟩
theorem kV_X2_145 : gLV RX2 145 mX1_hasWall 2 0 := ⟨ok_X1_hasWall, na_X1_hasWall, g_tb3 (k := 137) rfl, g_tb1 (k := 222) rfl, g_tb1 (k := 223) rfl, _, _, rfl⟩
theorem kV_X2_149 : gLV RX2 149 mX1_blowOutAround 1 0 := ⟨ok_X1_blowOutAround, na_X1_blowOutAround, g_tb3 (k := 138) rfl, g_tb3 (k := 139) rfl, g_tb3 (k := 140) rfl, _, _, rfl⟩
theorem kV_X2_152 : gLV RX2 152 mX1_hasTally 1 0 := ⟨ok_X1_hasTally, na_X1_hasTally, g_tb3 (k := 147) rfl, g_tb1 (k := 142) rfl, g_tb1 (k := 143) rfl, _, _, rfl⟩
theorem kV_X2_155 : gLV RX2 155 mX1_addMark 1 0 := ⟨ok_X1_addMark, na_X1_addMark, g_tb3 (k := 148) rfl, g_tb3 (k := 149) rfl, g_tb3 (k := 150) rfl, _, _, rfl⟩
theorem kV_X2_128 : gLV RX2 128 mX1_burnDown 0 0 := ⟨ok_X1_burnDown, na_X1_burnDown, g_tb3 (k := 124) rfl, g_tb3 (k := 125) rfl, g_tb3 (k := 126) rfl, _, _, rfl⟩
theorem kV_X2_131 : gLV RX2 131 mX2_takeStep 1 1 := ⟨ok_X2_takeStep, na_X2_takeStep, g_tb3 (k := 129) rfl, g_tb3 (k := 131) rfl, g_tbs (k := 5) rfl, _, _, rfl⟩
theorem kV_X2_134 : gLV RX2 134 mX2_hauntsOrFears 1 1 := ⟨ok_X2_hauntsOrFears, na_X2_hauntsOrFears, g_tb3 (k := 143) rfl, g_tb3 (k := 145) rfl, g_tbs (k := 6) rfl, _, _, rfl⟩
theorem kV_X5_44 : gLV RX5 44 mX1_switchWall 2 0 := ⟨ok_X1_switchWall, na_X1_switchWall, g_tb2 (k := 118) rfl, g_tb2 (k := 119) rfl, g_tb2 (k := 120) rfl, _, _, rfl⟩
theorem kV_X5_50 : gLV RX5 50 mX1_hasWall 2 0 := ⟨ok_X1_hasWall, na_X1_hasWall, g_tb1 (k := 221) rfl, g_tb1 (k := 222) rfl, g_tb1 (k := 223) rfl, _, _, rfl⟩
theorem kV_X5_82 : gLV RX5 82 mX1_thingIn 1 0 := ⟨ok_X1_thingIn, na_X1_thingIn, g_tb2 (k := 150) rfl, g_tb1 (k := 198) rfl, g_tb1 (k := 199) rfl, _, _, rfl⟩
theorem kV_X5_58 : gLV RX5 58 mX1_candleCount 0 0 := ⟨ok_X1_candleCount, na_X1_candleCount, g_tb2 (k := 145) rfl, g_tb1 (k := 163) rfl, g_tb1 (k := 164) rfl, _, _, rfl⟩
theorem kV_X5_62 : gLV RX5 62 mX5_checkRoomFor 3 4 := ⟨ok_X5_checkRoomFor, na_X5_checkRoomFor, g_tb2 (k := 146) rfl, g_tb2 (k := 148) rfl, g_tbs (k := 3) rfl, _, _, rfl⟩
theorem kV_X5_66 : gLV RX5 66 mX1_addCandle 2 0 := ⟨ok_X1_addCandle, na_X1_addCandle, g_tb2 (k := 152) rfl, g_tb2 (k := 153) rfl, g_tb2 (k := 154) rfl, _, _, rfl⟩
theorem kV_X5_69 : gLV RX5 69 mX1_mirrorCount 0 0 := ⟨ok_X1_mirrorCount, na_X1_mirrorCount, g_tb2 (k := 167) rfl, g_tb1 (k := 171) rfl, g_tb1 (k := 172) rfl, _, _, rfl⟩
theorem kV_X5_72 : gLV RX5 72 mX1_addMirror 2 0 := ⟨ok_X1_addMirror, na_X1_addMirror, g_tb2 (k := 168) rfl, g_tb2 (k := 169) rfl, g_tb2 (k := 170) rfl, _, _, rfl⟩
theorem kV_X5_76 : gLV RX5 76 mX1_tallyCount 0 0 := ⟨ok_X1_tallyCount, na_X1_tallyCount, g_tb1 (k := 127) rfl, g_tb1 (k := 128) rfl, g_tb1 (k := 129) rfl, _, _, rfl⟩
theorem kV_X5_79 : gLV RX5 79 mX1_addTally 1 0 := ⟨ok_X1_addTally, na_X1_addTally, g_tb2 (k := 179) rfl, g_tb2 (k := 180) rfl, g_tb2 (k := 181) rfl, _, _, rfl⟩
theorem kV_X5_88 : gLV RX5 88 mX1_clear 1 0 := ⟨ok_X1_clear, na_X1_clear, g_tb2 (k := 191) rfl, g_tb2 (k := 192) rfl, g_tb2 (k := 193) rfl, _, _, rfl⟩
theorem kV_X5_91 : gLV RX5 91 mX1_hasCandleWithWax 1 0 := ⟨ok_X1_hasCandleWithWax, na_X1_hasCandleWithWax, g_tb2 (k := 202) rfl, g_tb2 (k := 203) rfl, g_tb2 (k := 204) rfl, _, _, rfl⟩
theorem kV_X5_97 : gLV RX5 97 mX1_switchCandle 1 0 := ⟨ok_X1_switchCandle, na_X1_switchCandle, g_tb2 (k := 207) rfl, g_tb2 (k := 208) rfl, g_tb2 (k := 209) rfl, _, _, rfl⟩
theorem kV_X5_100 : gLV RX5 100 mX1_isBurning 1 0 := ⟨ok_X1_isBurning, na_X1_isBurning, g_tb2 (k := 211) rfl, g_tb1 (k := 206) rfl, g_tb1 (k := 207) rfl, _, _, rfl⟩
theorem kV_X5_111 : gLV RX5 111 mX2_addGhost 2 1 := ⟨ok_X2_addGhost, na_X2_addGhost, g_tb2 (k := 221) rfl, g_tb2 (k := 222) rfl, g_tb2 (k := 223) rfl, _, _, rfl⟩
theorem kV_X5_114 : gLV RX5 114 mX5_checkGhost 1 4 := ⟨ok_X5_checkGhost, na_X5_checkGhost, g_tb3 (k := 5) rfl, g_tb3 (k := 7) rfl, g_tbs (k := 4) rfl, _, _, rfl⟩
theorem kV_X5_117 : gLV RX5 117 mX2_setGoal 2 1 := ⟨ok_X2_setGoal, na_X2_setGoal, g_tb3 (k := 10) rfl, g_tb2 (k := 235) rfl, g_tb2 (k := 236) rfl, _, _, rfl⟩
theorem kV_X5_120 : gLV RX5 120 mX2_stepsTo 2 1 := ⟨ok_X2_stepsTo, na_X2_stepsTo, g_tb3 (k := 11) rfl, g_tb3 (k := 12) rfl, g_tb3 (k := 13) rfl, _, _, rfl⟩
theorem kV_X5_123 : gLV RX5 123 mX2_mayPass 1 1 := ⟨ok_X2_mayPass, na_X2_mayPass, g_tb3 (k := 36) rfl, g_tb3 (k := 16) rfl, g_tb3 (k := 17) rfl, _, _, rfl⟩
theorem kV_X5_128 : gLV RX5 128 mX2_setTrait 3 1 := ⟨ok_X2_setTrait, na_X2_setTrait, g_tb3 (k := 38) rfl, g_tb2 (k := 230) rfl, g_tb2 (k := 231) rfl, _, _, rfl⟩
theorem kV_X5_131 : gLV RX5 131 mX2_sumOfTrait 1 1 := ⟨ok_X2_sumOfTrait, na_X2_sumOfTrait, g_tb3 (k := 39) rfl, g_tb1 (k := 184) rfl, g_tb1 (k := 185) rfl, _, _, rfl⟩
theorem kV_X5_137 : gLV RX5 137 mX2_aboutCell 2 1 := ⟨ok_X2_aboutCell, na_X2_aboutCell, g_tb1 (k := 193) rfl, g_tb1 (k := 194) rfl, g_tb1 (k := 195) rfl, _, _, rfl⟩
theorem kV_X5_140 : gLV RX5 140 mX2_trait 2 1 := ⟨ok_X2_trait, na_X2_trait, g_tb1 (k := 229) rfl, g_tb1 (k := 188) rfl, g_tb1 (k := 189) rfl, _, _, rfl⟩
theorem kV_X5_143 : gLV RX5 143 mX2_aboutAll 1 1 := ⟨ok_X2_aboutAll, na_X2_aboutAll, g_tb1 (k := 158) rfl, g_tb1 (k := 159) rfl, g_tb1 (k := 160) rfl, _, _, rfl⟩
theorem kV_X5_146 : gLV RX5 146 mX1_cellsLitFrom 1 0 := ⟨ok_X1_cellsLitFrom, na_X1_cellsLitFrom, g_tb3 (k := 79) rfl, g_tb2 (k := 129) rfl, g_tb2 (k := 130) rfl, _, _, rfl⟩
theorem kV_X5_156 : gLV RX5 156 mX2_nextDirection 1 1 := ⟨ok_X2_nextDirection, na_X2_nextDirection, g_tb3 (k := 95) rfl, g_tb3 (k := 96) rfl, g_tb3 (k := 97) rfl, _, _, rfl⟩
theorem kV_X5_162 : gLV RX5 162 mX2_passHour 0 1 := ⟨ok_X2_passHour, na_X2_passHour, g_tb3 (k := 120) rfl, g_tb3 (k := 121) rfl, g_tb3 (k := 122) rfl, _, _, rfl⟩
theorem kV_X5_182 : gLV RX5 182 mX2_copyFrom 1 1 := ⟨ok_X2_copyFrom, na_X2_copyFrom, g_tb3 (k := 163) rfl, g_tb3 (k := 164) rfl, g_tb3 (k := 165) rfl, _, _, rfl⟩
theorem kV_X5_165 : gLV RX5 165 mX5_hauntsAhead 2 4 := ⟨ok_X5_hauntsAhead, na_X5_hauntsAhead, g_tb3 (k := 159) rfl, g_tb3 (k := 161) rfl, g_tbs (k := 7) rfl, _, _, rfl⟩
theorem kV_X5_168 : gLV RX5 168 mX1_burningCount 0 0 := ⟨ok_X1_burningCount, na_X1_burningCount, g_tb3 (k := 177) rfl, g_tb1 (k := 167) rfl, g_tb1 (k := 168) rfl, _, _, rfl⟩
theorem kV_X5_171 : gLV RX5 171 mX1_litCount 0 0 := ⟨ok_X1_litCount, na_X1_litCount, g_tb3 (k := 178) rfl, g_tb1 (k := 180) rfl, g_tb1 (k := 181) rfl, _, _, rfl⟩
theorem kV_X5_174 : gLV RX5 174 mX2_ghostsAtGoals 0 1 := ⟨ok_X2_ghostsAtGoals, na_X2_ghostsAtGoals, g_tb3 (k := 179) rfl, g_tb3 (k := 180) rfl, g_tb3 (k := 181) rfl, _, _, rfl⟩
theorem kV_X5_179 : gLV RX5 179 mX1_hasTally 1 0 := ⟨ok_X1_hasTally, na_X1_hasTally, g_tb3 (k := 191) rfl, g_tb1 (k := 142) rfl, g_tb1 (k := 143) rfl, _, _, rfl⟩
theorem kV_X5_186 : gLV RX5 186 mX1_amountIn 1 0 := ⟨ok_X1_amountIn, na_X1_amountIn, g_tb3 (k := 192) rfl, g_tb1 (k := 202) rfl, g_tb1 (k := 203) rfl, _, _, rfl⟩
theorem kV_X5_189 : gLV RX5 189 mX1_sumOfMarks 0 0 := ⟨ok_X1_sumOfMarks, na_X1_sumOfMarks, g_tb1 (k := 137) rfl, g_tb1 (k := 138) rfl, g_tb1 (k := 139) rfl, _, _, rfl⟩
theorem kV_X6_60 : gLV RX6 60 mX6_things 2 5 := ⟨ok_X6_things, na_X6_things, g_tb4 (k := 29) rfl, g_tb4 (k := 31) rfl, g_tbs (k := 9) rfl, _, _, rfl⟩
theorem kV_X6_62 : gLV RX6 62 mX6_fail 1 5 := ⟨ok_X6_fail, na_X6_fail, g_tb4 (k := 25) rfl, g_tb4 (k := 27) rfl, g_tbs (k := 8) rfl, _, _, rfl⟩
theorem kV_X6_66 : gLV RX6 66 mX6_set 4 5 := ⟨ok_X6_set, na_X6_set, g_tb4 (k := 33) rfl, g_tb4 (k := 35) rfl, g_tbs (k := 10) rfl, _, _, rfl⟩
theorem kV_X6_70 : gLV RX6 70 mX6_hasWall 2 5 := ⟨ok_X6_hasWall, na_X6_hasWall, g_tb4 (k := 61) rfl, g_tb4 (k := 63) rfl, g_tbs (k := 12) rfl, _, _, rfl⟩
theorem kV_X6_73 : gLV RX6 73 mX6_turned 2 5 := ⟨ok_X6_turned, na_X6_turned, g_tb4 (k := 65) rfl, g_tb4 (k := 67) rfl, g_tbs (k := 13) rfl, _, _, rfl⟩
theorem kV_X6_76 : gLV RX6 76 mX6_shine 1 5 := ⟨ok_X6_shine, na_X6_shine, g_tb4 (k := 57) rfl, g_tb4 (k := 59) rfl, g_tbs (k := 11) rfl, _, _, rfl⟩
theorem kV_X6_80 : gLV RX6 80 mX6_litCells 0 5 := ⟨ok_X6_litCells, na_X6_litCells, g_tb4 (k := 69) rfl, g_tb4 (k := 71) rfl, g_tbs (k := 14) rfl, _, _, rfl⟩
theorem kV_X6_89 : gLV RX6 89 mX6_reckonLight 0 5 := ⟨ok_X6_reckonLight, na_X6_reckonLight, g_tb4 (k := 85) rfl, g_tb4 (k := 87) rfl, g_tbs (k := 17) rfl, _, _, rfl⟩
theorem kV_X6_92 : gLV RX6 92 mX6_reckonWays 1 5 := ⟨ok_X6_reckonWays, na_X6_reckonWays, g_tb4 (k := 89) rfl, g_tb4 (k := 91) rfl, g_tbs (k := 18) rfl, _, _, rfl⟩
theorem kV_X6_95 : gLV RX6 95 mX6_sp 2 5 := ⟨ok_X6_sp, na_X6_sp, g_tb4 (k := 93) rfl, g_tb4 (k := 95) rfl, g_tbs (k := 19) rfl, _, _, rfl⟩
theorem kV_X6_98 : gLV RX6 98 mX6_from 2 5 := ⟨ok_X6_from, na_X6_from, g_tb4 (k := 97) rfl, g_tb4 (k := 99) rfl, g_tbs (k := 20) rfl, _, _, rfl⟩
theorem kV_X6_101 : gLV RX6 101 mX6_wayOf 2 5 := ⟨ok_X6_wayOf, na_X6_wayOf, g_tb4 (k := 81) rfl, g_tb4 (k := 83) rfl, g_tbs (k := 16) rfl, _, _, rfl⟩
theorem kV_X6_104 : gLV RX6 104 mX6_isGhost 1 5 := ⟨ok_X6_isGhost, na_X6_isGhost, g_tb4 (k := 77) rfl, g_tb4 (k := 79) rfl, g_tbs (k := 15) rfl, _, _, rfl⟩
theorem kV_X6_108 : gLV RX6 108 mX6_nextOf 1 5 := ⟨ok_X6_nextOf, na_X6_nextOf, g_tb4 (k := 108) rfl, g_tb4 (k := 110) rfl, g_tbs (k := 21) rfl, _, _, rfl⟩
theorem kV_X6_117 : gLV RX6 117 mX6_put 3 5 := ⟨ok_X6_put, na_X6_put, g_tb4 (k := 123) rfl, g_tb4 (k := 125) rfl, g_tbs (k := 22) rfl, _, _, rfl⟩
theorem kV_X6_121 : gLV RX6 121 mX6_cellTold 2 5 := ⟨ok_X6_cellTold, na_X6_cellTold, g_tb4 (k := 135) rfl, g_tb4 (k := 137) rfl, g_tbs (k := 23) rfl, _, _, rfl⟩
theorem kV_X6_124 : gLV RX6 124 mX6_ghostTold 2 5 := ⟨ok_X6_ghostTold, na_X6_ghostTold, g_tb4 (k := 147) rfl, g_tb4 (k := 149) rfl, g_tbs (k := 24) rfl, _, _, rfl⟩
theorem kV_X6_127 : gLV RX6 127 mX6_burning 0 5 := ⟨ok_X6_burning, na_X6_burning, g_tb4 (k := 159) rfl, g_tb4 (k := 161) rfl, g_tbs (k := 26) rfl, _, _, rfl⟩
theorem kV_X6_130 : gLV RX6 130 mX6_walls 0 5 := ⟨ok_X6_walls, na_X6_walls, g_tb4 (k := 163) rfl, g_tb4 (k := 165) rfl, g_tbs (k := 27) rfl, _, _, rfl⟩
theorem kV_X6_133 : gLV RX6 133 mX6_marks 0 5 := ⟨ok_X6_marks, na_X6_marks, g_tb4 (k := 167) rfl, g_tb4 (k := 169) rfl, g_tbs (k := 28) rfl, _, _, rfl⟩
theorem kV_X6_136 : gLV RX6 136 mX6_counted 1 5 := ⟨ok_X6_counted, na_X6_counted, g_tb4 (k := 155) rfl, g_tb4 (k := 157) rfl, g_tbs (k := 25) rfl, _, _, rfl⟩
theorem kV_X6_139 : gLV RX6 139 mX6_step 1 5 := ⟨ok_X6_step, na_X6_step, g_tb4 (k := 183) rfl, g_tb4 (k := 185) rfl, g_tbs (k := 31) rfl, _, _, rfl⟩
theorem kV_X6_142 : gLV RX6 142 mX6_haunt 1 5 := ⟨ok_X6_haunt, na_X6_haunt, g_tb4 (k := 187) rfl, g_tb4 (k := 189) rfl, g_tbs (k := 32) rfl, _, _, rfl⟩
theorem kV_X6_145 : gLV RX6 145 mX6_hourOn 0 5 := ⟨ok_X6_hourOn, na_X6_hourOn, g_tb4 (k := 179) rfl, g_tb4 (k := 181) rfl, g_tbs (k := 30) rfl, _, _, rfl⟩
theorem kV_X6_148 : gLV RX6 148 mX6_hoursOn 1 5 := ⟨ok_X6_hoursOn, na_X6_hoursOn, g_tb4 (k := 175) rfl, g_tb4 (k := 177) rfl, g_tbs (k := 29) rfl, _, _, rfl⟩
theorem kV_X6_156 : gLV RX6 156 mX6_kept 0 5 := ⟨ok_X6_kept, na_X6_kept, g_tb4 (k := 195) rfl, g_tb4 (k := 197) rfl, g_tbs (k := 33) rfl, _, _, rfl⟩
theorem kV_X6_160 : gLV RX6 160 mX6_bringBack 1 5 := ⟨ok_X6_bringBack, na_X6_bringBack, g_tb4 (k := 207) rfl, g_tb4 (k := 209) rfl, g_tbs (k := 34) rfl, _, _, rfl⟩
theorem kV_L_7 : gLV RL 7 mX5_wall 3 4 := ⟨ok_X5_wall, na_X5_wall, g_tb1 (k := 236) rfl, g_tb1 (k := 237) rfl, g_tb1 (k := 238) rfl, _, _, rfl⟩
theorem kV_L_19 : gLV RL 19 mX5_candle 3 4 := ⟨ok_X5_candle, na_X5_candle, g_tb2 (k := 140) rfl, g_tb2 (k := 141) rfl, g_tb2 (k := 142) rfl, _, _, rfl⟩
theorem kV_L_23 : gLV RL 23 mX5_mirror 3 4 := ⟨ok_X5_mirror, na_X5_mirror, g_tb2 (k := 163) rfl, g_tb2 (k := 164) rfl, g_tb2 (k := 165) rfl, _, _, rfl⟩
theorem kV_L_27 : gLV RL 27 mX5_tally 2 4 := ⟨ok_X5_tally, na_X5_tally, g_tb2 (k := 175) rfl, g_tb2 (k := 176) rfl, g_tb2 (k := 177) rfl, _, _, rfl⟩
theorem kV_L_31 : gLV RL 31 mX5_remove 2 4 := ⟨ok_X5_remove, na_X5_remove, g_tb2 (k := 186) rfl, g_tb2 (k := 187) rfl, g_tb2 (k := 188) rfl, _, _, rfl⟩
theorem kV_L_34 : gLV RL 34 mX5_light 2 4 := ⟨ok_X5_light, na_X5_light, g_tb2 (k := 198) rfl, g_tb2 (k := 199) rfl, g_tb2 (k := 200) rfl, _, _, rfl⟩
theorem kV_L_38 : gLV RL 38 mX5_come 3 4 := ⟨ok_X5_come, na_X5_come, g_tb2 (k := 215) rfl, g_tb2 (k := 216) rfl, g_tb2 (k := 217) rfl, _, _, rfl⟩
theorem kV_L_41 : gLV RL 41 mX5_send 3 4 := ⟨ok_X5_send, na_X5_send, g_tb3 (k := 1) rfl, g_tb3 (k := 2) rfl, g_tb3 (k := 3) rfl, _, _, rfl⟩
theorem kV_L_44 : gLV RL 44 mX5_rite 1 4 := ⟨ok_X5_rite, na_X5_rite, g_tb3 (k := 32) rfl, g_tb3 (k := 33) rfl, g_tb3 (k := 34) rfl, _, _, rfl⟩
theorem kV_L_48 : gLV RL 48 mX5_cell 3 4 := ⟨ok_X5_cell, na_X5_cell, g_tb3 (k := 43) rfl, g_tb3 (k := 44) rfl, g_tb3 (k := 45) rfl, _, _, rfl⟩
theorem kV_L_51 : gLV RL 51 mX5_walled 3 4 := ⟨ok_X5_walled, na_X5_walled, g_tb3 (k := 54) rfl, g_tb3 (k := 55) rfl, g_tb3 (k := 56) rfl, _, _, rfl⟩
theorem kV_L_54 : gLV RL 54 mX5_ghost 2 4 := ⟨ok_X5_ghost, na_X5_ghost, g_tb3 (k := 61) rfl, g_tb3 (k := 62) rfl, g_tb3 (k := 63) rfl, _, _, rfl⟩
theorem kV_L_57 : gLV RL 57 mX5_count 1 4 := ⟨ok_X5_count, na_X5_count, g_tb3 (k := 68) rfl, g_tb3 (k := 69) rfl, g_tb3 (k := 70) rfl, _, _, rfl⟩
theorem kV_L_60 : gLV RL 60 mX5_shines 2 4 := ⟨ok_X5_shines, na_X5_shines, g_tb3 (k := 75) rfl, g_tb3 (k := 76) rfl, g_tb3 (k := 77) rfl, _, _, rfl⟩
theorem kV_L_63 : gLV RL 63 mX5_way 3 4 := ⟨ok_X5_way, na_X5_way, g_tb3 (k := 84) rfl, g_tb3 (k := 85) rfl, g_tb3 (k := 86) rfl, _, _, rfl⟩
theorem kV_L_66 : gLV RL 66 mX5_next 1 4 := ⟨ok_X5_next, na_X5_next, g_tb3 (k := 91) rfl, g_tb3 (k := 92) rfl, g_tb3 (k := 93) rfl, _, _, rfl⟩
theorem kV_L_69 : gLV RL 69 mX5_pass 1 4 := ⟨ok_X5_pass, na_X5_pass, g_tb3 (k := 112) rfl, g_tb3 (k := 113) rfl, g_tb3 (k := 114) rfl, _, _, rfl⟩
theorem kV_L_72 : gLV RL 72 mX5_foresee 2 4 := ⟨ok_X5_foresee, na_X5_foresee, g_tb3 (k := 155) rfl, g_tb3 (k := 156) rfl, g_tb3 (k := 157) rfl, _, _, rfl⟩
theorem kV_L_75 : gLV RL 75 mX5_reaches 3 4 := ⟨ok_X5_reaches, na_X5_reaches, g_tb3 (k := 186) rfl, g_tb3 (k := 187) rfl, g_tb3 (k := 188) rfl, _, _, rfl⟩
theorem kV_L_78 : gLV RL 78 mX5_advise 1 4 := ⟨ok_X5_advise, na_X5_advise, g_tb3 (k := 196) rfl, g_tb3 (k := 197) rfl, g_tb3 (k := 198) rfl, _, _, rfl⟩
theorem kV_L_90 : gLV RL 90 mX6_wall 3 5 := ⟨ok_X6_wall, na_X6_wall, g_tb4 (k := 8) rfl, g_tb4 (k := 9) rfl, g_tb4 (k := 10) rfl, _, _, rfl⟩
theorem kV_L_91 : gLV RL 91 mX6_thrown 0 5 := ⟨ok_X6_thrown, na_X6_thrown, g_tb4 (k := 4) rfl, g_tb4 (k := 5) rfl, g_tb4 (k := 6) rfl, _, _, rfl⟩
theorem kV_L_97 : gLV RL 97 mX6_candle 3 5 := ⟨ok_X6_candle, na_X6_candle, g_tb4 (k := 21) rfl, g_tb4 (k := 22) rfl, g_tb4 (k := 23) rfl, _, _, rfl⟩
theorem kV_L_101 : gLV RL 101 mX6_mirror 3 5 := ⟨ok_X6_mirror, na_X6_mirror, g_tb4 (k := 37) rfl, g_tb4 (k := 38) rfl, g_tb4 (k := 39) rfl, _, _, rfl⟩
theorem kV_L_105 : gLV RL 105 mX6_tally 2 5 := ⟨ok_X6_tally, na_X6_tally, g_tb4 (k := 41) rfl, g_tb4 (k := 42) rfl, g_tb4 (k := 43) rfl, _, _, rfl⟩
theorem kV_L_108 : gLV RL 108 mX6_remove 2 5 := ⟨ok_X6_remove, na_X6_remove, g_tb4 (k := 45) rfl, g_tb4 (k := 46) rfl, g_tb4 (k := 47) rfl, _, _, rfl⟩
theorem kV_L_111 : gLV RL 111 mX6_light 2 5 := ⟨ok_X6_light, na_X6_light, g_tb4 (k := 49) rfl, g_tb4 (k := 50) rfl, g_tb4 (k := 51) rfl, _, _, rfl⟩
theorem kV_L_114 : gLV RL 114 mX6_come 3 5 := ⟨ok_X6_come, na_X6_come, g_tb4 (k := 112) rfl, g_tb4 (k := 113) rfl, g_tb4 (k := 114) rfl, _, _, rfl⟩
theorem kV_L_117 : gLV RL 117 mX6_send 3 5 := ⟨ok_X6_send, na_X6_send, g_tb4 (k := 119) rfl, g_tb4 (k := 120) rfl, g_tb4 (k := 121) rfl, _, _, rfl⟩
theorem kV_L_121 : gLV RL 121 mX6_rite 1 5 := ⟨ok_X6_rite, na_X6_rite, g_tb4 (k := 127) rfl, g_tb4 (k := 128) rfl, g_tb4 (k := 129) rfl, _, _, rfl⟩
theorem kV_L_124 : gLV RL 124 mX6_cell 3 5 := ⟨ok_X6_cell, na_X6_cell, g_tb4 (k := 131) rfl, g_tb4 (k := 132) rfl, g_tb4 (k := 133) rfl, _, _, rfl⟩
theorem kV_L_127 : gLV RL 127 mX6_walled 3 5 := ⟨ok_X6_walled, na_X6_walled, g_tb4 (k := 139) rfl, g_tb4 (k := 140) rfl, g_tb4 (k := 141) rfl, _, _, rfl⟩
theorem kV_L_130 : gLV RL 130 mX6_ghost 2 5 := ⟨ok_X6_ghost, na_X6_ghost, g_tb4 (k := 143) rfl, g_tb4 (k := 144) rfl, g_tb4 (k := 145) rfl, _, _, rfl⟩
theorem kV_L_133 : gLV RL 133 mX6_count 1 5 := ⟨ok_X6_count, na_X6_count, g_tb4 (k := 151) rfl, g_tb4 (k := 152) rfl, g_tb4 (k := 153) rfl, _, _, rfl⟩
theorem kV_L_136 : gLV RL 136 mX6_shines 2 5 := ⟨ok_X6_shines, na_X6_shines, g_tb4 (k := 53) rfl, g_tb4 (k := 54) rfl, g_tb4 (k := 55) rfl, _, _, rfl⟩
theorem kV_L_139 : gLV RL 139 mX6_way 3 5 := ⟨ok_X6_way, na_X6_way, g_tb4 (k := 73) rfl, g_tb4 (k := 74) rfl, g_tb4 (k := 75) rfl, _, _, rfl⟩
theorem kV_L_142 : gLV RL 142 mX6_next 1 5 := ⟨ok_X6_next, na_X6_next, g_tb4 (k := 104) rfl, g_tb4 (k := 105) rfl, g_tb4 (k := 106) rfl, _, _, rfl⟩
theorem kV_L_145 : gLV RL 145 mX6_pass 1 5 := ⟨ok_X6_pass, na_X6_pass, g_tb4 (k := 171) rfl, g_tb4 (k := 172) rfl, g_tb4 (k := 173) rfl, _, _, rfl⟩
theorem kV_L_148 : gLV RL 148 mX6_foresee 2 5 := ⟨ok_X6_foresee, na_X6_foresee, g_tb4 (k := 191) rfl, g_tb4 (k := 192) rfl, g_tb4 (k := 193) rfl, _, _, rfl⟩
theorem kV_L_151 : gLV RL 151 mX6_reaches 3 5 := ⟨ok_X6_reaches, na_X6_reaches, g_tb4 (k := 211) rfl, g_tb4 (k := 212) rfl, g_tb4 (k := 213) rfl, _, _, rfl⟩
theorem kV_L_154 : gLV RL 154 mX6_advise 1 5 := ⟨ok_X6_advise, na_X6_advise, g_tb4 (k := 215) rfl, g_tb4 (k := 216) rfl, g_tb4 (k := 217) rfl, _, _, rfl⟩
theorem kV_L_155 : gLV RL 155 mX5_mean 0 4 := ⟨ok_X5_mean, na_X5_mean, g_tb1 (k := 123) rfl, g_tb1 (k := 124) rfl, g_tb1 (k := 125) rfl, _, _, rfl⟩
theorem kV_L_159 : gLV RL 159 mX6_mean 0 5 := ⟨ok_X6_mean, na_X6_mean, g_tb4 (k := 219) rfl, g_tb4 (k := 220) rfl, g_tb4 (k := 221) rfl, _, _, rfl⟩
theorem kV_L_160 : gLV RL 160 mX5_digest 0 4 := ⟨ok_X5_digest, na_X5_digest, g_tb1 (k := 152) rfl, g_tb1 (k := 153) rfl, g_tb1 (k := 154) rfl, _, _, rfl⟩
theorem kV_L_164 : gLV RL 164 mX6_digest 0 5 := ⟨ok_X6_digest, na_X6_digest, g_tb4 (k := 223) rfl, g_tb4 (k := 224) rfl, g_tb4 (k := 225) rfl, _, _, rfl⟩
theorem kS_X0_17 : gLS RX0 17 mX0_only 1 := ⟨ok_X0_only, na_X0_only, g_tb2 (k := 93) rfl, g_tb2 (k := 94) rfl⟩
theorem kS_X0_21 : gLS RX0 21 mX0_moved 2 := ⟨ok_X0_moved, na_X0_moved, g_tb2 (k := 96) rfl, g_tb2 (k := 97) rfl⟩
theorem kS_X1_49 : gLS RX1 49 mJ13_bitCount_95d88 1 := ⟨ok_J13_bitCount_95d88, na_J13_bitCount_95d88, g_tb1 (k := 131) rfl, g_tb1 (k := 132) rfl⟩
theorem kS_X1_63 : gLS RX1 63 mX0_holds 2 := ⟨ok_X0_holds, na_X0_holds, g_tb1 (k := 145) rfl, g_tb1 (k := 146) rfl⟩
theorem kS_X1_69 : gLS RX1 69 mX0_only 1 := ⟨ok_X0_only, na_X0_only, g_tb2 (k := 122) rfl, g_tb2 (k := 94) rfl⟩
theorem kS_X1_85 : gLS RX1 85 mX0_moved 2 := ⟨ok_X0_moved, na_X0_moved, g_tb2 (k := 123) rfl, g_tb2 (k := 97) rfl⟩
theorem kS_X4_9 : gLS RX4 9 mX0_only 1 := ⟨ok_X0_only, na_X0_only, g_tb3 (k := 23) rfl, g_tb2 (k := 94) rfl⟩
theorem kS_X4_45 : gLS RX4 45 mX0_moved 2 := ⟨ok_X0_moved, na_X0_moved, g_tb3 (k := 108) rfl, g_tb2 (k := 97) rfl⟩
theorem kS_X2_140 : gLS RX2 140 mX0_neighbour 2 := ⟨ok_X0_neighbour, na_X0_neighbour, g_tb3 (k := 134) rfl, g_tb3 (k := 135) rfl⟩
theorem kS_X5_19 : gLS RX5 19 mX5_checkedCell 2 := ⟨ok_X5_checkedCell, na_X5_checkedCell, g_tb2 (k := 0) rfl, g_tb2 (k := 1) rfl⟩
theorem kS_X5_23 : gLS RX5 23 mX5_checkDirection 1 := ⟨ok_X5_checkDirection, na_X5_checkDirection, g_tb2 (k := 71) rfl, g_tb2 (k := 72) rfl⟩
theorem kS_X5_27 : gLS RX5 27 mX0_isRim 2 := ⟨ok_X0_isRim, na_X0_isRim, g_tb2 (k := 90) rfl, g_tb2 (k := 91) rfl⟩
theorem kS_X5_134 : gLS RX5 134 mX5_checkWhat 2 := ⟨ok_X5_checkWhat, na_X5_checkWhat, g_tb3 (k := 47) rfl, g_tb3 (k := 48) rfl⟩
theorem kS_X5_150 : gLS RX5 150 mJ13_bitCount_95d88 1 := ⟨ok_J13_bitCount_95d88, na_J13_bitCount_95d88, g_tb3 (k := 80) rfl, g_tb1 (k := 132) rfl⟩
theorem kS_X5_159 : gLS RX5 159 mX5_checkHours 2 := ⟨ok_X5_checkHours, na_X5_checkHours, g_tb3 (k := 116) rfl, g_tb3 (k := 117) rfl⟩
theorem kS_X6_45 : gLS RX6 45 mX6_isIn 3 := ⟨ok_X6_isIn, na_X6_isIn, g_tb4 (k := 15) rfl, g_tb4 (k := 16) rfl⟩
theorem kS_X6_52 : gLS RX6 52 mX6_isCell 2 := ⟨ok_X6_isCell, na_X6_isCell, g_tb4 (k := 12) rfl, g_tb4 (k := 13) rfl⟩
theorem kS_X6_56 : gLS RX6 56 mX6_beside 2 := ⟨ok_X6_beside, na_X6_beside, g_tb4 (k := 18) rfl, g_tb4 (k := 19) rfl⟩
theorem kW_L_85 : gLW RL 85 mL_wall 5 := ⟨ok_L_wall, na_L_wall, g_tb1 (k := 230) rfl, g_tb1 (k := 231) rfl⟩
theorem kW_L_95 : gLW RL 95 mL_candle 5 := ⟨ok_L_candle, na_L_candle, g_tb2 (k := 137) rfl, g_tb2 (k := 138) rfl⟩
theorem kW_L_98 : gLW RL 98 mL_mirror 5 := ⟨ok_L_mirror, na_L_mirror, g_tb2 (k := 160) rfl, g_tb2 (k := 161) rfl⟩
theorem kW_L_102 : gLW RL 102 mL_tally 4 := ⟨ok_L_tally, na_L_tally, g_tb2 (k := 172) rfl, g_tb2 (k := 173) rfl⟩
theorem kW_L_106 : gLW RL 106 mL_remove 4 := ⟨ok_L_remove, na_L_remove, g_tb2 (k := 183) rfl, g_tb2 (k := 184) rfl⟩
theorem kW_L_109 : gLW RL 109 mL_light 4 := ⟨ok_L_light, na_L_light, g_tb2 (k := 195) rfl, g_tb2 (k := 196) rfl⟩
theorem kW_L_112 : gLW RL 112 mL_come 5 := ⟨ok_L_come, na_L_come, g_tb2 (k := 212) rfl, g_tb2 (k := 213) rfl⟩
theorem kW_L_115 : gLW RL 115 mL_send 5 := ⟨ok_L_send, na_L_send, g_tb2 (k := 238) rfl, g_tb2 (k := 239) rfl⟩
theorem kW_L_118 : gLW RL 118 mL_rite 3 := ⟨ok_L_rite, na_L_rite, g_tb3 (k := 29) rfl, g_tb3 (k := 30) rfl⟩
theorem kW_L_122 : gLW RL 122 mL_cell 5 := ⟨ok_L_cell, na_L_cell, g_tb3 (k := 40) rfl, g_tb3 (k := 41) rfl⟩
theorem kW_L_125 : gLW RL 125 mL_walled 5 := ⟨ok_L_walled, na_L_walled, g_tb3 (k := 51) rfl, g_tb3 (k := 52) rfl⟩
theorem kW_L_128 : gLW RL 128 mL_ghost 4 := ⟨ok_L_ghost, na_L_ghost, g_tb3 (k := 58) rfl, g_tb3 (k := 59) rfl⟩
theorem kW_L_131 : gLW RL 131 mL_count 3 := ⟨ok_L_count, na_L_count, g_tb3 (k := 65) rfl, g_tb3 (k := 66) rfl⟩
theorem kW_L_134 : gLW RL 134 mL_shines 4 := ⟨ok_L_shines, na_L_shines, g_tb3 (k := 72) rfl, g_tb3 (k := 73) rfl⟩
theorem kW_L_137 : gLW RL 137 mL_way 5 := ⟨ok_L_way, na_L_way, g_tb3 (k := 81) rfl, g_tb3 (k := 82) rfl⟩
theorem kW_L_140 : gLW RL 140 mL_next 3 := ⟨ok_L_next, na_L_next, g_tb3 (k := 88) rfl, g_tb3 (k := 89) rfl⟩
theorem kW_L_143 : gLW RL 143 mL_pass 3 := ⟨ok_L_pass, na_L_pass, g_tb3 (k := 109) rfl, g_tb3 (k := 110) rfl⟩
theorem kW_L_146 : gLW RL 146 mL_foresee 4 := ⟨ok_L_foresee, na_L_foresee, g_tb3 (k := 152) rfl, g_tb3 (k := 153) rfl⟩
theorem kW_L_149 : gLW RL 149 mL_reaches 5 := ⟨ok_L_reaches, na_L_reaches, g_tb3 (k := 183) rfl, g_tb3 (k := 184) rfl⟩
theorem kW_L_152 : gLW RL 152 mL_advise 3 := ⟨ok_L_advise, na_L_advise, g_tb3 (k := 193) rfl, g_tb3 (k := 194) rfl⟩
theorem kI_X1_11 : gLI RX1 11 mX3_init 1 := ⟨ok_X3_init, na_X3_init, rfl, rfl, g_tb1 (k := 40) rfl, Or.inl (g_tb1 (k := 39) rfl)⟩
theorem kI_X2_27 : gLI RX2 27 mX3_init 1 := ⟨ok_X3_init, na_X3_init, rfl, rfl, g_tb1 (k := 40) rfl, Or.inl (g_tb1 (k := 97) rfl)⟩
theorem kI_L_81 : gLI RL 81 mX5_init 0 := ⟨ok_X5_init, na_X5_init, rfl, rfl, g_tb1 (k := 20) rfl, Or.inl (g_tb1 (k := 19) rfl)⟩
theorem kI_L_84 : gLI RL 84 mX6_init 0 := ⟨ok_X6_init, na_X6_init, rfl, rfl, g_tb3 (k := 203) rfl, Or.inl (g_tb3 (k := 202) rfl)⟩
theorem kI_X5_9 : gLI RX5 9 mX2_init 0 := ⟨ok_X2_init, na_X2_init, rfl, rfl, g_tb1 (k := 28) rfl, Or.inr ⟨"GhostCandles", g_tb1 (k := 27) rfl⟩⟩
theorem kI_X2_11 : gLI RX2 11 mX1_init 0 := ⟨ok_X1_init, na_X1_init, rfl, rfl, g_tb1 (k := 34) rfl, Or.inr ⟨"GhostCandles", g_tb1 (k := 33) rfl⟩⟩
theorem kI_X2_20 : gLI RX2 20 mX4_init 0 := ⟨ok_X4_init, na_X4_init, rfl, rfl, g_tb1 (k := 80) rfl, Or.inr ⟨"GhostCandles", g_tb1 (k := 79) rfl⟩⟩
theorem kF_X3_7 : gFL RX3 7 2 0 (.array .int) true := ⟨_, _, _, rfl, Nat.le_of_ble_eq_true rfl, by decide +kernel, rfl, rfl, Or.inl (g_tb1 (k := 43) rfl)⟩
theorem kF_X1_14 : gFL RX1 14 0 8 (.object "GhostCandles$Row") true := ⟨_, _, _, rfl, Nat.le_of_ble_eq_true rfl, by decide +kernel, rfl, rfl, Or.inl (g_tb1 (k := 57) rfl)⟩
theorem kF_X1_20 : gFL RX1 20 0 0 (.long) false := ⟨_, _, _, rfl, Nat.le_of_ble_eq_true rfl, by decide +kernel, rfl, rfl, Or.inl (g_tb1 (k := 48) rfl)⟩
theorem kF_X1_24 : gFL RX1 24 0 1 (.long) false := ⟨_, _, _, rfl, Nat.le_of_ble_eq_true rfl, by decide +kernel, rfl, rfl, Or.inl (g_tb1 (k := 49) rfl)⟩
theorem kF_X1_27 : gFL RX1 27 0 2 (.long) false := ⟨_, _, _, rfl, Nat.le_of_ble_eq_true rfl, by decide +kernel, rfl, rfl, Or.inl (g_tb1 (k := 50) rfl)⟩
theorem kF_X1_30 : gFL RX1 30 0 3 (.long) false := ⟨_, _, _, rfl, Nat.le_of_ble_eq_true rfl, by decide +kernel, rfl, rfl, Or.inl (g_tb1 (k := 51) rfl)⟩
theorem kF_X1_33 : gFL RX1 33 0 4 (.long) false := ⟨_, _, _, rfl, Nat.le_of_ble_eq_true rfl, by decide +kernel, rfl, rfl, Or.inl (g_tb1 (k := 52) rfl)⟩
theorem kF_X1_36 : gFL RX1 36 0 5 (.long) false := ⟨_, _, _, rfl, Nat.le_of_ble_eq_true rfl, by decide +kernel, rfl, rfl, Or.inl (g_tb1 (k := 53) rfl)⟩
theorem kF_X1_39 : gFL RX1 39 0 6 (.long) false := ⟨_, _, _, rfl, Nat.le_of_ble_eq_true rfl, by decide +kernel, rfl, rfl, Or.inl (g_tb1 (k := 54) rfl)⟩
theorem kF_X1_42 : gFL RX1 42 0 7 (.long) false := ⟨_, _, _, rfl, Nat.le_of_ble_eq_true rfl, by decide +kernel, rfl, rfl, Or.inl (g_tb1 (k := 56) rfl)⟩
theorem kF_X2_12 : gFL RX2 12 1 0 (.object "GhostCandles$House") true := ⟨_, _, _, rfl, Nat.le_of_ble_eq_true rfl, by decide +kernel, rfl, rfl, Or.inl (g_tb1 (k := 98) rfl)⟩
theorem kF_X2_21 : gFL RX2 21 1 1 (.object "GhostCandles$Ways") true := ⟨_, _, _, rfl, Nat.le_of_ble_eq_true rfl, by decide +kernel, rfl, rfl, Or.inl (g_tb1 (k := 100) rfl)⟩
theorem kF_X2_30 : gFL RX2 30 1 2 (.object "GhostCandles$Row") true := ⟨_, _, _, rfl, Nat.le_of_ble_eq_true rfl, by decide +kernel, rfl, rfl, Or.inl (g_tb1 (k := 101) rfl)⟩
theorem kF_X2_41 : gFL RX2 41 1 3 (.int) false := ⟨_, _, _, rfl, Nat.le_of_ble_eq_true rfl, by decide +kernel, rfl, rfl, Or.inl (g_tb1 (k := 102) rfl)⟩
theorem kF_X2_45 : gFL RX2 45 1 4 (.int) false := ⟨_, _, _, rfl, Nat.le_of_ble_eq_true rfl, by decide +kernel, rfl, rfl, Or.inl (g_tb1 (k := 104) rfl)⟩
theorem kF_X4_15 : gFL RX4 15 3 0 (.long) false := ⟨_, _, _, rfl, Nat.le_of_ble_eq_true rfl, by decide +kernel, rfl, rfl, Or.inl (g_tb1 (k := 83) rfl)⟩
theorem kF_X4_21 : gFL RX4 21 3 1 (.boolean) false := ⟨_, _, _, rfl, Nat.le_of_ble_eq_true rfl, by decide +kernel, rfl, rfl, Or.inl (g_tb1 (k := 84) rfl)⟩
theorem kF_X4_32 : gFL RX4 32 3 2 (.long) false := ⟨_, _, _, rfl, Nat.le_of_ble_eq_true rfl, by decide +kernel, rfl, rfl, Or.inl (g_tb1 (k := 85) rfl)⟩
theorem kF_X4_35 : gFL RX4 35 3 3 (.long) false := ⟨_, _, _, rfl, Nat.le_of_ble_eq_true rfl, by decide +kernel, rfl, rfl, Or.inl (g_tb1 (k := 86) rfl)⟩
theorem kF_X5_10 : gFL RX5 10 4 0 (.object "GhostCandles$Night") true := ⟨_, _, _, rfl, Nat.le_of_ble_eq_true rfl, by decide +kernel, rfl, rfl, Or.inl (g_tb1 (k := 116) rfl)⟩
theorem kF_X5_16 : gFL RX5 16 4 1 (.object "GhostCandles$Night") true := ⟨_, _, _, rfl, Nat.le_of_ble_eq_true rfl, by decide +kernel, rfl, rfl, Or.inl (g_tb1 (k := 117) rfl)⟩
theorem kF_X6_9 : gFL RX6 9 5 1 (.array .boolean) true := ⟨_, _, _, rfl, Nat.le_of_ble_eq_true rfl, by decide +kernel, rfl, rfl, Or.inl (g_tb3 (k := 207) rfl)⟩
theorem kF_X6_13 : gFL RX6 13 5 2 (.array .boolean) true := ⟨_, _, _, rfl, Nat.le_of_ble_eq_true rfl, by decide +kernel, rfl, rfl, Or.inl (g_tb3 (k := 208) rfl)⟩
theorem kF_X6_16 : gFL RX6 16 5 3 (.array .int) true := ⟨_, _, _, rfl, Nat.le_of_ble_eq_true rfl, by decide +kernel, rfl, rfl, Or.inl (g_tb3 (k := 209) rfl)⟩
theorem kF_X6_20 : gFL RX6 20 5 4 (.array .int) true := ⟨_, _, _, rfl, Nat.le_of_ble_eq_true rfl, by decide +kernel, rfl, rfl, Or.inl (g_tb3 (k := 210) rfl)⟩
theorem kF_X6_23 : gFL RX6 23 5 5 (.array .int) true := ⟨_, _, _, rfl, Nat.le_of_ble_eq_true rfl, by decide +kernel, rfl, rfl, Or.inl (g_tb3 (k := 211) rfl)⟩
theorem kF_X6_26 : gFL RX6 26 5 7 (.array .int) true := ⟨_, _, _, rfl, Nat.le_of_ble_eq_true rfl, by decide +kernel, rfl, rfl, Or.inl (g_tb3 (k := 213) rfl)⟩
theorem kF_X6_29 : gFL RX6 29 5 8 (.array .int) true := ⟨_, _, _, rfl, Nat.le_of_ble_eq_true rfl, by decide +kernel, rfl, rfl, Or.inl (g_tb3 (k := 214) rfl)⟩
theorem kF_X6_32 : gFL RX6 32 5 9 (.array .boolean) true := ⟨_, _, _, rfl, Nat.le_of_ble_eq_true rfl, by decide +kernel, rfl, rfl, Or.inl (g_tb3 (k := 215) rfl)⟩
theorem kF_X6_35 : gFL RX6 35 5 10 (.array .int) true := ⟨_, _, _, rfl, Nat.le_of_ble_eq_true rfl, by decide +kernel, rfl, rfl, Or.inl (g_tb3 (k := 216) rfl)⟩
theorem kF_X6_38 : gFL RX6 38 5 11 (.array .int) true := ⟨_, _, _, rfl, Nat.le_of_ble_eq_true rfl, by decide +kernel, rfl, rfl, Or.inl (g_tb3 (k := 217) rfl)⟩
theorem kF_X6_41 : gFL RX6 41 5 0 (.int) false := ⟨_, _, _, rfl, Nat.le_of_ble_eq_true rfl, by decide +kernel, rfl, rfl, Or.inl (g_tb3 (k := 206) rfl)⟩
theorem kF_X6_49 : gFL RX6 49 5 6 (.int) false := ⟨_, _, _, rfl, Nat.le_of_ble_eq_true rfl, by decide +kernel, rfl, rfl, Or.inl (g_tb3 (k := 212) rfl)⟩
theorem kF_X4_25 : gFL RX4 25 0 7 (.long) false := ⟨_, _, _, rfl, Nat.le_of_ble_eq_true rfl, by decide +kernel, rfl, rfl, Or.inr ⟨"GhostCandles", g_tb1 (k := 55) rfl⟩⟩
theorem kF_X5_40 : gFL RX5 40 1 0 (.object "GhostCandles$House") true := ⟨_, _, _, rfl, Nat.le_of_ble_eq_true rfl, by decide +kernel, rfl, rfl, Or.inr ⟨"GhostCandles", g_tb1 (k := 99) rfl⟩⟩
theorem kF_X5_105 : gFL RX5 105 1 3 (.int) false := ⟨_, _, _, rfl, Nat.le_of_ble_eq_true rfl, by decide +kernel, rfl, rfl, Or.inr ⟨"GhostCandles", g_tb1 (k := 103) rfl⟩⟩
theorem kC_J13_314 : Jvm.Cond.constantLong RJ13 314 (6148914691236517205) ∈ lw_tbl := g_tb1 (k := 134) rfl
theorem kC_J13_316 : Jvm.Cond.constantLong RJ13 316 (3689348814741910323) ∈ lw_tbl := g_tb1 (k := 135) rfl
theorem kC_J13_318 : Jvm.Cond.constantLong RJ13 318 (1085102592571150095) ∈ lw_tbl := g_tb1 (k := 136) rfl
theorem kC_X0_11 : Jvm.Cond.constantLong RX0 11 (-4620710844295151873) ∈ lw_tbl := g_tb2 (k := 99) rfl
theorem kC_X0_13 : Jvm.Cond.constantLong RX0 13 (9223372036854775807) ∈ lw_tbl := g_tb2 (k := 100) rfl
theorem kC_X0_15 : Jvm.Cond.constantLong RX0 15 (-18049651735527938) ∈ lw_tbl := g_tb2 (k := 101) rfl
theorem kC_X1_80 : Jvm.Cond.constantLong RX1 80 (-1) ∈ lw_tbl := g_tb2 (k := 132) rfl
theorem kC_X4_30 : Jvm.Cond.constantLong RX4 30 (-1) ∈ lw_tbl := g_tb3 (k := 24) rfl
theorem kC_X5_192 : Jvm.Cond.constantLong RX5 192 (1009) ∈ lw_tbl := g_tb1 (k := 156) rfl
theorem kC_X5_194 : Jvm.Cond.constantLong RX5 194 (31) ∈ lw_tbl := g_tb1 (k := 157) rfl
theorem kC_X6_164 : Jvm.Cond.constantLong RX6 164 (1009) ∈ lw_tbl := g_tb4 (k := 227) rfl
theorem kC_X6_166 : Jvm.Cond.constantLong RX6 166 (31) ∈ lw_tbl := g_tb4 (k := 228) rfl
theorem kN_L_8 : Jvm.Cond.classLink RL 8 RX5 ∈ lw_tbl := g_tb1 (k := 17) rfl
theorem kN_L_82 : Jvm.Cond.classLink RL 82 RX6 ∈ lw_tbl := g_tb3 (k := 200) rfl
theorem kN_X1_9 : Jvm.Cond.classLink RX1 9 RX3 ∈ lw_tbl := g_tb1 (k := 37) rfl
theorem kN_X2_9 : Jvm.Cond.classLink RX2 9 RX1 ∈ lw_tbl := g_tb1 (k := 31) rfl
theorem kN_X2_18 : Jvm.Cond.classLink RX2 18 RX4 ∈ lw_tbl := g_tb1 (k := 77) rfl
theorem kN_X2_25 : Jvm.Cond.classLink RX2 25 RX3 ∈ lw_tbl := g_tb1 (k := 96) rfl
theorem kN_X5_7 : Jvm.Cond.classLink RX5 7 RX2 ∈ lw_tbl := g_tb1 (k := 25) rfl
theorem kMk_X1 : Jvm.Cond.instantiable RX1 9 ∈ lw_tbl ∧ Jvm.Cond.initialized RX1 ∈ lw_tbl := ⟨g_tb1 (k := 32) rfl, g_tb1 (k := 3) rfl⟩
theorem kMk_X2 : Jvm.Cond.instantiable RX2 5 ∈ lw_tbl ∧ Jvm.Cond.initialized RX2 ∈ lw_tbl := ⟨g_tb1 (k := 26) rfl, g_tb1 (k := 2) rfl⟩
theorem kMk_X3 : Jvm.Cond.instantiable RX3 1 ∈ lw_tbl ∧ Jvm.Cond.initialized RX3 ∈ lw_tbl := ⟨g_tb1 (k := 38) rfl, g_tb1 (k := 4) rfl⟩
theorem kMk_X4 : Jvm.Cond.instantiable RX4 4 ∈ lw_tbl ∧ Jvm.Cond.initialized RX4 ∈ lw_tbl := ⟨g_tb1 (k := 78) rfl, g_tb1 (k := 5) rfl⟩
theorem kMk_X5 : Jvm.Cond.instantiable RX5 2 ∈ lw_tbl ∧ Jvm.Cond.initialized RX5 ∈ lw_tbl := ⟨g_tb1 (k := 18) rfl, g_tb1 (k := 1) rfl⟩
theorem kMk_X6 : Jvm.Cond.instantiable RX6 12 ∈ lw_tbl ∧ Jvm.Cond.initialized RX6 ∈ lw_tbl := ⟨g_tb3 (k := 201) rfl, g_tb1 (k := 6) rfl⟩
theorem kO_X1_3 : Jvm.Cond.methodLink RX1 3 objectInit ∈ lw_tbl := g_tb1 (k := 36) rfl
theorem kO_X2_3 : Jvm.Cond.methodLink RX2 3 objectInit ∈ lw_tbl := g_tb1 (k := 30) rfl
theorem kO_X3_1 : Jvm.Cond.methodLink RX3 1 objectInit ∈ lw_tbl := g_tb1 (k := 42) rfl
theorem kO_X4_3 : Jvm.Cond.methodLink RX4 3 objectInit ∈ lw_tbl := g_tb1 (k := 82) rfl
theorem kO_X5_1 : Jvm.Cond.methodLink RX5 1 objectInit ∈ lw_tbl := g_tb1 (k := 22) rfl
theorem kO_X6_1 : Jvm.Cond.methodLink RX6 1 objectInit ∈ lw_tbl := g_tb3 (k := 205) rfl
set_option maxRecDepth 100000 in
theorem kX_S_37 : ∀ w ∈ vx_atS RX5 37 "java/lang/IllegalStateException" gNames, w ∈ lw_tbl := by decide +kernel
set_option maxRecDepth 100000 in
theorem kY_S_37 : ∀ w ∈ vx_atS RX5 37 "java/lang/IllegalStateException" gNames, (goodWord w = true ∨ gNwK w = true) ∧ vx_ot w = true := by decide +kernel
theorem kT_X5_wall_20 : gTN mX5_wall 20 33 "java/lang/IllegalStateException" := ⟨35, 37, "there is no such neighbour", by decide +kernel, rfl, dX5_wall_23, dX5_wall_24, dX5_wall_26, dX5_wall_29, g_tb2 (k := 102) rfl, g_tb1 (k := 13) rfl, g_tb2 (k := 111) rfl, fun w hw => ⟨kX_S_37 w hw, (kY_S_37 w hw).1, (kY_S_37 w hw).2⟩, by decide +kernel⟩
set_option maxRecDepth 100000 in
theorem kX_A_57 : ∀ w ∈ vx_atS RX5 57 "java/lang/IllegalArgumentException" gNames, w ∈ lw_tbl := by decide +kernel
set_option maxRecDepth 100000 in
theorem kY_A_57 : ∀ w ∈ vx_atS RX5 57 "java/lang/IllegalArgumentException" gNames, (goodWord w = true ∨ gNwK w = true) ∧ vx_ot w = true := by decide +kernel
theorem kT_X5_candle_18 : gTN mX5_candle 18 53 "java/lang/IllegalArgumentException" := ⟨55, 57, "wax is not 1 to 60", by decide +kernel, rfl, dX5_candle_21, dX5_candle_22, dX5_candle_24, dX5_candle_27, g_tb2 (k := 74) rfl, g_tb1 (k := 11) rfl, g_tb2 (k := 144) rfl, fun w hw => ⟨kX_A_57 w hw, (kY_A_57 w hw).1, (kY_A_57 w hw).2⟩, by decide +kernel⟩
theorem kT_X5_remove_24 : gTN mX5_remove 24 33 "java/lang/IllegalStateException" := ⟨86, 37, "the cell has no thing", by decide +kernel, rfl, dX5_remove_27, dX5_remove_28, dX5_remove_30, dX5_remove_33, g_tb2 (k := 102) rfl, g_tb1 (k := 13) rfl, g_tb2 (k := 190) rfl, fun w hw => ⟨kX_S_37 w hw, (kY_S_37 w hw).1, (kY_S_37 w hw).2⟩, by decide +kernel⟩
theorem kT_X5_light_20 : gTN mX5_light 20 33 "java/lang/IllegalStateException" := ⟨95, 37, "there is no candle in the cell, or it has no wax", by decide +kernel, rfl, dX5_light_23, dX5_light_24, dX5_light_26, dX5_light_29, g_tb2 (k := 102) rfl, g_tb1 (k := 13) rfl, g_tb2 (k := 206) rfl, fun w hw => ⟨kX_S_37 w hw, (kY_S_37 w hw).1, (kY_S_37 w hw).2⟩, by decide +kernel⟩
theorem kT_X5_come_17 : gTN mX5_come 17 53 "java/lang/IllegalArgumentException" := ⟨103, 57, "pace is not 1 to 3", by decide +kernel, rfl, dX5_come_20, dX5_come_21, dX5_come_23, dX5_come_26, g_tb2 (k := 74) rfl, g_tb1 (k := 11) rfl, g_tb2 (k := 219) rfl, fun w hw => ⟨kX_A_57 w hw, (kY_A_57 w hw).1, (kY_A_57 w hw).2⟩, by decide +kernel⟩
theorem kT_X5_come_39 : gTN mX5_come 39 33 "java/lang/IllegalStateException" := ⟨109, 37, "there are 6 ghosts", by decide +kernel, rfl, dX5_come_42, dX5_come_43, dX5_come_45, dX5_come_48, g_tb2 (k := 102) rfl, g_tb1 (k := 13) rfl, g_tb2 (k := 220) rfl, fun w hw => ⟨kX_S_37 w hw, (kY_S_37 w hw).1, (kY_S_37 w hw).2⟩, by decide +kernel⟩
theorem kT_X5_rite_16 : gTN mX5_rite 16 33 "java/lang/IllegalStateException" := ⟨126, 37, "the ghost may pass a wall", by decide +kernel, rfl, dX5_rite_19, dX5_rite_20, dX5_rite_22, dX5_rite_25, g_tb2 (k := 102) rfl, g_tb1 (k := 13) rfl, g_tb3 (k := 37) rfl, fun w hw => ⟨kX_S_37 w hw, (kY_S_37 w hw).1, (kY_S_37 w hw).2⟩, by decide +kernel⟩
theorem kT_X5_reaches_17 : gTN mX5_reaches 17 53 "java/lang/IllegalArgumentException" := ⟨177, 57, "marks is not 0 to 99", by decide +kernel, rfl, dX5_reaches_20, dX5_reaches_21, dX5_reaches_23, dX5_reaches_26, g_tb2 (k := 74) rfl, g_tb1 (k := 11) rfl, g_tb3 (k := 190) rfl, fun w hw => ⟨kX_A_57 w hw, (kY_A_57 w hw).1, (kY_A_57 w hw).2⟩, by decide +kernel⟩
set_option maxRecDepth 100000 in
theorem kX_I_200 : ∀ w ∈ vx_atS RX5 200 "java/lang/IndexOutOfBoundsException" gNames, w ∈ lw_tbl := by decide +kernel
set_option maxRecDepth 100000 in
theorem kY_I_200 : ∀ w ∈ vx_atS RX5 200 "java/lang/IndexOutOfBoundsException" gNames, (goodWord w = true ∨ gNwK w = true) ∧ vx_ot w = true := by decide +kernel
theorem kT_X5_checkedCell_20 : gTN mX5_checkedCell 20 196 "java/lang/IndexOutOfBoundsException" := ⟨198, 200, "x is not 0 to 8, or y is not 0 to 6", by decide +kernel, rfl, dX5_checkedCell_23, dX5_checkedCell_24, dX5_checkedCell_26, dX5_checkedCell_29, g_tb2 (k := 3) rfl, g_tb1 (k := 10) rfl, g_tb2 (k := 44) rfl, fun w hw => ⟨kX_I_200 w hw, (kY_I_200 w hw).1, (kY_I_200 w hw).2⟩, by decide +kernel⟩
theorem kT_X5_checkDirection_9 : gTN mX5_checkDirection 9 53 "java/lang/IllegalArgumentException" := ⟨201, 57, "direction is not 0 to 3", by decide +kernel, rfl, dX5_checkDirection_12, dX5_checkDirection_13, dX5_checkDirection_15, dX5_checkDirection_18, g_tb2 (k := 74) rfl, g_tb1 (k := 11) rfl, g_tb2 (k := 83) rfl, fun w hw => ⟨kX_A_57 w hw, (kY_A_57 w hw).1, (kY_A_57 w hw).2⟩, by decide +kernel⟩
theorem kT_X5_checkWhat_9 : gTN mX5_checkWhat 9 196 "java/lang/IndexOutOfBoundsException" := ⟨203, 200, "there is no such what", by decide +kernel, rfl, dX5_checkWhat_12, dX5_checkWhat_13, dX5_checkWhat_15, dX5_checkWhat_18, g_tb2 (k := 3) rfl, g_tb1 (k := 10) rfl, g_tb3 (k := 50) rfl, fun w hw => ⟨kX_I_200 w hw, (kY_I_200 w hw).1, (kY_I_200 w hw).2⟩, by decide +kernel⟩
theorem kT_X5_checkHours_10 : gTN mX5_checkHours 10 53 "java/lang/IllegalArgumentException" := ⟨205, 57, "hours are too few or too many", by decide +kernel, rfl, dX5_checkHours_13, dX5_checkHours_14, dX5_checkHours_16, dX5_checkHours_19, g_tb2 (k := 74) rfl, g_tb1 (k := 11) rfl, g_tb3 (k := 119) rfl, fun w hw => ⟨kX_A_57 w hw, (kY_A_57 w hw).1, (kY_A_57 w hw).2⟩, by decide +kernel⟩
theorem kT_X5_checkGhost_15 : gTN mX5_checkGhost 15 196 "java/lang/IndexOutOfBoundsException" := ⟨207, 200, "there is no such ghost", by decide +kernel, rfl, dX5_checkGhost_18, dX5_checkGhost_19, dX5_checkGhost_21, dX5_checkGhost_24, g_tb2 (k := 3) rfl, g_tb1 (k := 10) rfl, g_tb3 (k := 9) rfl, fun w hw => ⟨kX_I_200 w hw, (kY_I_200 w hw).1, (kY_I_200 w hw).2⟩, by decide +kernel⟩
theorem kT_X5_checkRoomFor_19 : gTN mX5_checkRoomFor 19 33 "java/lang/IllegalStateException" := ⟨209, 37, "there are too many, or the cell has a thing", by decide +kernel, rfl, dX5_checkRoomFor_22, dX5_checkRoomFor_23, dX5_checkRoomFor_25, dX5_checkRoomFor_28, g_tb2 (k := 102) rfl, g_tb1 (k := 13) rfl, g_tb2 (k := 151) rfl, fun w hw => ⟨kX_S_37 w hw, (kY_S_37 w hw).1, (kY_S_37 w hw).2⟩, by decide +kernel⟩
theorem kMin : Jvm.Cond.methodLink RX6 84 Lib.Math.min.name ∈ lw_tbl := g_tb4 (k := 101) rfl
theorem kCpy : Jvm.Cond.methodLink RX6 111 arraycopyName ∈ lw_tbl := g_tb4 (k := 116) rfl
theorem kClo : Jvm.Cond.methodLink RX6 152 gCloneN ∈ lw_tbl := g_tb4 (k := 201) rfl
theorem kArr : Jvm.Cond.classLink RX6 151 "[I" ∈ lw_tbl := g_tb4 (k := 199) rfl
