/-! the methods, and what the pool numbers of each class lead to (by program out of the printed names) -/
abbrev mX0_only : gM := (yX0_only, cX0_only, 1, (some .long), [])
abbrev mX0_holds : gM := (yX0_holds, cX0_holds, 3, (some .boolean), [])
abbrev mX0_moved : gM := (yX0_moved, cX0_moved, 3, (some .long), [])
abbrev mX0_isRim : gM := (yX0_isRim, cX0_isRim, 2, (some .boolean), [])
abbrev mX0_neighbour : gM := (yX0_neighbour, cX0_neighbour, 2, (some .int), [])
abbrev mX3_init : gM := (yX3_init, cX3_init, 2, none, [])
abbrev mX1_init : gM := (yX1_init, cX1_init, 1, none, [])
abbrev mX3_get : gM := (yX3_get, cX3_get, 2, (some .int), [])
abbrev mX3_copyFrom : gM := (yX3_copyFrom, cX3_copyFrom, 3, none, [])
abbrev mX1_copyFrom : gM := (yX1_copyFrom, cX1_copyFrom, 2, none, [])
abbrev mJ13_bitCount_95d88 : gM := (yJ13_bitCount_95d88, cJ13_bitCount_95d88, 2, (some .int), [])
abbrev mX1_candleCount : gM := (yX1_candleCount, cX1_candleCount, 1, (some .int), [])
abbrev mX1_burningCount : gM := (yX1_burningCount, cX1_burningCount, 1, (some .int), [])
abbrev mX1_mirrorCount : gM := (yX1_mirrorCount, cX1_mirrorCount, 1, (some .int), [])
abbrev mX1_tallyCount : gM := (yX1_tallyCount, cX1_tallyCount, 1, (some .int), [])
abbrev mX1_wallCount : gM := (yX1_wallCount, cX1_wallCount, 1, (some .int), [])
abbrev mX1_litCount : gM := (yX1_litCount, cX1_litCount, 1, (some .int), [])
abbrev mX1_hasTally : gM := (yX1_hasTally, cX1_hasTally, 2, (some .boolean), [])
abbrev mX1_sumOfMarks : gM := (yX1_sumOfMarks, cX1_sumOfMarks, 3, (some .int), [])
abbrev mX1_isBurning : gM := (yX1_isBurning, cX1_isBurning, 2, (some .boolean), [])
abbrev mX1_isLit : gM := (yX1_isLit, cX1_isLit, 2, (some .boolean), [])
abbrev mX1_hasCandleWithWax : gM := (yX1_hasCandleWithWax, cX1_hasCandleWithWax, 2, (some .boolean), [])
abbrev mX1_amountIn : gM := (yX1_amountIn, cX1_amountIn, 2, (some .int), [])
abbrev mX1_thingIn : gM := (yX1_thingIn, cX1_thingIn, 2, (some .int), [])
abbrev mX3_put : gM := (yX3_put, cX3_put, 3, none, [])
abbrev mX1_walledCells : gM := (yX1_walledCells, cX1_walledCells, 2, (some .long), [])
abbrev mX1_turned : gM := (yX1_turned, cX1_turned, 4, (some .int), [])
abbrev mX1_cellsLitFrom : gM := (yX1_cellsLitFrom, cX1_cellsLitFrom, 11, (some .long), [])
abbrev mX1_relight : gM := (yX1_relight, cX1_relight, 2, none, [])
abbrev mX1_addCandle : gM := (yX1_addCandle, cX1_addCandle, 3, none, [])
abbrev mX1_addMirror : gM := (yX1_addMirror, cX1_addMirror, 3, none, [])
abbrev mX1_addTally : gM := (yX1_addTally, cX1_addTally, 2, none, [])
abbrev mX1_clear : gM := (yX1_clear, cX1_clear, 4, none, [])
abbrev mX1_switchCandle : gM := (yX1_switchCandle, cX1_switchCandle, 2, none, [])
abbrev mX1_hasWall : gM := (yX1_hasWall, cX1_hasWall, 3, (some .boolean), [])
abbrev mX1_switchWall : gM := (yX1_switchWall, cX1_switchWall, 7, none, [])
abbrev mX1_neighbours : gM := (yX1_neighbours, cX1_neighbours, 9, (some .long), [])
abbrev mX1_burnDown : gM := (yX1_burnDown, cX1_burnDown, 3, none, [])
abbrev mX1_blowOutAround : gM := (yX1_blowOutAround, cX1_blowOutAround, 4, none, [])
abbrev mX1_addMark : gM := (yX1_addMark, cX1_addMark, 3, none, [])
abbrev mX4_init : gM := (yX4_init, cX4_init, 1, none, [])
abbrev mX2_init : gM := (yX2_init, cX2_init, 1, none, [])
abbrev mX2_copyFrom : gM := (yX2_copyFrom, cX2_copyFrom, 2, none, [])
abbrev mX2_trait : gM := (yX2_trait, cX2_trait, 3, (some .int), [])
abbrev mX2_setTrait : gM := (yX2_setTrait, cX2_setTrait, 4, none, [])
abbrev mX2_sumOfTrait : gM := (yX2_sumOfTrait, cX2_sumOfTrait, 4, (some .int), [])
abbrev mX2_mayPass : gM := (yX2_mayPass, cX2_mayPass, 2, (some .boolean), [])
abbrev mX2_cellOf : gM := (yX2_cellOf, cX2_cellOf, 2, (some .int), [])
abbrev mX2_goalOf : gM := (yX2_goalOf, cX2_goalOf, 2, (some .int), [])
abbrev mX2_setCell : gM := (yX2_setCell, cX2_setCell, 3, none, [])
abbrev mX2_setGoal : gM := (yX2_setGoal, cX2_setGoal, 3, none, [])
abbrev mX2_addGhost : gM := (yX2_addGhost, cX2_addGhost, 4, (some .int), [])
abbrev mX2_ghostsIn : gM := (yX2_ghostsIn, cX2_ghostsIn, 4, (some .int), [])
abbrev mX2_ghostsAtGoals : gM := (yX2_ghostsAtGoals, cX2_ghostsAtGoals, 3, (some .int), [])
abbrev mX2_aboutCell : gM := (yX2_aboutCell, cX2_aboutCell, 3, (some .int), [])
abbrev mX2_aboutAll : gM := (yX2_aboutAll, cX2_aboutAll, 2, (some .int), [])
abbrev mX4_fewestSteps : gM := (yX4_fewestSteps, cX4_fewestSteps, 12, (some .int), [])
abbrev mX2_stepsTo : gM := (yX2_stepsTo, cX2_stepsTo, 3, (some .int), [])
abbrev mX4_firstDirection : gM := (yX4_firstDirection, cX4_firstDirection, 5, (some .int), [])
abbrev mX2_nextDirection : gM := (yX2_nextDirection, cX2_nextDirection, 3, (some .int), [])
abbrev mX2_takeStep : gM := (yX2_takeStep, cX2_takeStep, 5, none, [])
abbrev mX2_hauntsOrFears : gM := (yX2_hauntsOrFears, cX2_hauntsOrFears, 3, (some .boolean), [])
abbrev mX2_passHour : gM := (yX2_passHour, cX2_passHour, 4, (some .int), [])
abbrev mX5_init : gM := (yX5_init, cX5_init, 1, none, [])
abbrev mX5_checkedCell : gM := (yX5_checkedCell, cX5_checkedCell, 2, (some .int), [])
abbrev mX5_checkDirection : gM := (yX5_checkDirection, cX5_checkDirection, 1, none, [])
abbrev mX5_wall : gM := (yX5_wall, cX5_wall, 5, (some .boolean), [])
abbrev mX5_checkRoomFor : gM := (yX5_checkRoomFor, cX5_checkRoomFor, 4, none, [])
abbrev mX5_candle : gM := (yX5_candle, cX5_candle, 5, (some .int), [])
abbrev mX5_mirror : gM := (yX5_mirror, cX5_mirror, 5, (some .int), [])
abbrev mX5_tally : gM := (yX5_tally, cX5_tally, 4, (some .int), [])
abbrev mX5_remove : gM := (yX5_remove, cX5_remove, 5, (some .int), [])
abbrev mX5_light : gM := (yX5_light, cX5_light, 4, (some .boolean), [])
abbrev mX5_come : gM := (yX5_come, cX5_come, 5, (some .int), [])
abbrev mX5_checkGhost : gM := (yX5_checkGhost, cX5_checkGhost, 2, none, [])
abbrev mX5_send : gM := (yX5_send, cX5_send, 5, (some .int), [])
abbrev mX5_rite : gM := (yX5_rite, cX5_rite, 2, (some .int), [])
abbrev mX5_checkWhat : gM := (yX5_checkWhat, cX5_checkWhat, 2, none, [])
abbrev mX5_cell : gM := (yX5_cell, cX5_cell, 5, (some .int), [])
abbrev mX5_walled : gM := (yX5_walled, cX5_walled, 5, (some .boolean), [])
abbrev mX5_ghost : gM := (yX5_ghost, cX5_ghost, 3, (some .int), [])
abbrev mX5_count : gM := (yX5_count, cX5_count, 2, (some .int), [])
abbrev mX5_way : gM := (yX5_way, cX5_way, 5, (some .int), [])
abbrev mX5_next : gM := (yX5_next, cX5_next, 2, (some .int), [])
abbrev mX5_checkHours : gM := (yX5_checkHours, cX5_checkHours, 2, none, [])
abbrev mX5_pass : gM := (yX5_pass, cX5_pass, 4, (some .int), [])
abbrev mX5_hauntsAhead : gM := (yX5_hauntsAhead, cX5_hauntsAhead, 5, (some .int), [])
abbrev mX5_foresee : gM := (yX5_foresee, cX5_foresee, 4, (some .int), [])
abbrev mX5_mean : gM := (yX5_mean, cX5_mean, 2, (some .double), [])
abbrev mX6_init : gM := (yX6_init, cX6_init, 1, none, [])
abbrev mX7_init : gM := (yX7_init, cX7_init, 1, none, [])
abbrev mX7_goX : gM := (yX7_goX, cX7_goX, 1, (some .int), [])
abbrev mX7_goY : gM := (yX7_goY, cX7_goY, 1, (some .int), [])
abbrev mX7_isIn : gM := (yX7_isIn, cX7_isIn, 2, (some .boolean), [])
abbrev mX7_turnWall : gM := (yX7_turnWall, cX7_turnWall, 4, none, [])
abbrev mX7_things : gM := (yX7_things, cX7_things, 5, (some .int), [])
abbrev mX7_shine : gM := (yX7_shine, cX7_shine, 11, none, [])
abbrev mX7_lit : gM := (yX7_lit, cX7_lit, 4, (some (.array (.array .boolean))), [])
abbrev mX7_many : gM := (yX7_many, cX7_many, 10, (some .int), [])
abbrev mX7_way : gM := (yX7_way, cX7_way, 16, (some .int), [])
abbrev mX7_next : gM := (yX7_next, cX7_next, 9, (some .int), [])
abbrev mX7_pass : gM := (yX7_pass, cX7_pass, 10, (some .int), [])
abbrev mX7_burning : gM := (yX7_burning, cX7_burning, 4, (some .int), [])
abbrev mX7_isSame : gM := (yX7_isSame, cX7_isSame, 12, (some .boolean), [])
abbrev mJ9_abs_0f7a4 : gM := (yJ9_abs_0f7a4, cJ9_abs_0f7a4, 1, (some .int), [])
abbrev mL_below : gM := (yL_below, cL_below, 2, (some .int), [])
abbrev mL_cell : gM := (yL_cell, cL_cell, 2, (some .int), [])
abbrev mL_act : gM := (yL_act, cL_act, 15, (some .boolean), [])
abbrev mL_build : gM := (yL_build, cL_build, 4, (some (.object "GhostCandlesLaw$Sim")), [])
abbrev mL_law : gM := (yL_law, cL_law, 26, some .boolean, [])
theorem g_tb1 {k : Nat} {w : Jvm.Cond} (h : tables_1_1[k]? = some w) : w ∈ lw_tbl := List.mem_append_right _ (List.mem_append_left _ (List.mem_of_getElem? h))
theorem g_tb2 {k : Nat} {w : Jvm.Cond} (h : tables_1_2[k]? = some w) : w ∈ lw_tbl := List.mem_append_right _ (List.mem_append_right _ (List.mem_append_left _ (List.mem_of_getElem? h)))
theorem g_tb3 {k : Nat} {w : Jvm.Cond} (h : tables_1_3[k]? = some w) : w ∈ lw_tbl := List.mem_append_right _ (List.mem_append_right _ (List.mem_append_right _ (List.mem_append_left _ (List.mem_of_getElem? h))))
theorem g_tb4 {k : Nat} {w : Jvm.Cond} (h : tables_1_4[k]? = some w) : w ∈ lw_tbl := List.mem_append_right _ (List.mem_append_right _ (List.mem_append_right _ (List.mem_append_right _ (List.mem_of_getElem? h))))
theorem g_tbs {k : Nat} {w : Jvm.Cond} (h : (k2_sels lw_privs)[k]? = some w) : w ∈ lw_tbl := List.mem_append_left _ (List.mem_of_getElem? h)
theorem na_X0_only : gNa mX0_only 1 := by unfold gNa; decide +kernel
theorem ok_X0_only : gOK mX0_only := ⟨by decide +kernel, g_tb2 (k := 34) rfl, g_tb1 (k := 12) rfl, ⟨by decide +kernel, by decide +kernel⟩, Nat.le_of_ble_eq_true rfl, rfl⟩
theorem na_X0_holds : gNa mX0_holds 2 := by unfold gNa; decide +kernel
theorem ok_X0_holds : gOK mX0_holds := ⟨by decide +kernel, g_tb1 (k := 212) rfl, g_tb1 (k := 12) rfl, ⟨by decide +kernel, by decide +kernel⟩, Nat.le_of_ble_eq_true rfl, rfl⟩
theorem na_X0_moved : gNa mX0_moved 2 := by unfold gNa; decide +kernel
theorem ok_X0_moved : gOK mX0_moved := ⟨by decide +kernel, g_tb2 (k := 37) rfl, g_tb1 (k := 12) rfl, ⟨by decide +kernel, by decide +kernel⟩, Nat.le_of_ble_eq_true rfl, rfl⟩
theorem na_X0_isRim : gNa mX0_isRim 2 := by unfold gNa; decide +kernel
theorem ok_X0_isRim : gOK mX0_isRim := ⟨by decide +kernel, g_tb2 (k := 31) rfl, g_tb1 (k := 12) rfl, ⟨by decide +kernel, by decide +kernel⟩, Nat.le_of_ble_eq_true rfl, rfl⟩
theorem na_X0_neighbour : gNa mX0_neighbour 2 := by unfold gNa; decide +kernel
theorem ok_X0_neighbour : gOK mX0_neighbour := ⟨by decide +kernel, g_tb2 (k := 188) rfl, g_tb1 (k := 12) rfl, ⟨by decide +kernel, by decide +kernel⟩, Nat.le_of_ble_eq_true rfl, rfl⟩
theorem na_X3_init : gNa mX3_init 1 := by unfold gNa; decide +kernel
theorem ok_X3_init : gOK mX3_init := ⟨by decide +kernel, g_tb1 (k := 41) rfl, g_tb1 (k := 4) rfl, ⟨by decide +kernel, by decide +kernel⟩, Nat.le_of_ble_eq_true rfl, rfl⟩
theorem na_X1_init : gNa mX1_init 0 := by unfold gNa; decide +kernel
theorem ok_X1_init : gOK mX1_init := ⟨by decide +kernel, g_tb1 (k := 35) rfl, g_tb1 (k := 3) rfl, ⟨by decide +kernel, by decide +kernel⟩, Nat.le_of_ble_eq_true rfl, rfl⟩
theorem na_X3_get : gNa mX3_get 1 := by unfold gNa; decide +kernel
theorem ok_X3_get : gOK mX3_get := ⟨by decide +kernel, g_tb1 (k := 224) rfl, g_tb1 (k := 4) rfl, ⟨by decide +kernel, by decide +kernel⟩, Nat.le_of_ble_eq_true rfl, rfl⟩
theorem na_X3_copyFrom : gNa mX3_copyFrom 1 := by unfold gNa; decide +kernel
theorem ok_X3_copyFrom : gOK mX3_copyFrom := ⟨by decide +kernel, g_tb2 (k := 232) rfl, g_tb1 (k := 4) rfl, ⟨by decide +kernel, by decide +kernel⟩, Nat.le_of_ble_eq_true rfl, rfl⟩
theorem na_X1_copyFrom : gNa mX1_copyFrom 1 := by unfold gNa; decide +kernel
theorem ok_X1_copyFrom : gOK mX1_copyFrom := ⟨by decide +kernel, g_tb2 (k := 228) rfl, g_tb1 (k := 3) rfl, ⟨by decide +kernel, by decide +kernel⟩, Nat.le_of_ble_eq_true rfl, rfl⟩
theorem na_J13_bitCount_95d88 : gNa mJ13_bitCount_95d88 1 := by unfold gNa; decide +kernel
theorem ok_J13_bitCount_95d88 : gOK mJ13_bitCount_95d88 := ⟨by decide +kernel, g_tb2 (k := 73) rfl, g_tb1 (k := 14) rfl, ⟨by decide +kernel, by decide +kernel⟩, Nat.le_of_ble_eq_true rfl, rfl⟩
theorem na_X1_candleCount : gNa mX1_candleCount 0 := by unfold gNa; decide +kernel
theorem ok_X1_candleCount : gOK mX1_candleCount := ⟨by decide +kernel, g_tb2 (k := 70) rfl, g_tb1 (k := 3) rfl, ⟨by decide +kernel, by decide +kernel⟩, Nat.le_of_ble_eq_true rfl, rfl⟩
theorem na_X1_burningCount : gNa mX1_burningCount 0 := by unfold gNa; decide +kernel
theorem ok_X1_burningCount : gOK mX1_burningCount := ⟨by decide +kernel, g_tb2 (k := 80) rfl, g_tb1 (k := 3) rfl, ⟨by decide +kernel, by decide +kernel⟩, Nat.le_of_ble_eq_true rfl, rfl⟩
theorem na_X1_mirrorCount : gNa mX1_mirrorCount 0 := by unfold gNa; decide +kernel
theorem ok_X1_mirrorCount : gOK mX1_mirrorCount := ⟨by decide +kernel, g_tb2 (k := 84) rfl, g_tb1 (k := 3) rfl, ⟨by decide +kernel, by decide +kernel⟩, Nat.le_of_ble_eq_true rfl, rfl⟩
theorem na_X1_tallyCount : gNa mX1_tallyCount 0 := by unfold gNa; decide +kernel
theorem ok_X1_tallyCount : gOK mX1_tallyCount := ⟨by decide +kernel, g_tb2 (k := 88) rfl, g_tb1 (k := 3) rfl, ⟨by decide +kernel, by decide +kernel⟩, Nat.le_of_ble_eq_true rfl, rfl⟩
theorem na_X1_wallCount : gNa mX1_wallCount 0 := by unfold gNa; decide +kernel
theorem ok_X1_wallCount : gOK mX1_wallCount := ⟨by decide +kernel, g_tb2 (k := 92) rfl, g_tb1 (k := 3) rfl, ⟨by decide +kernel, by decide +kernel⟩, Nat.le_of_ble_eq_true rfl, rfl⟩
theorem na_X1_litCount : gNa mX1_litCount 0 := by unfold gNa; decide +kernel
theorem ok_X1_litCount : gOK mX1_litCount := ⟨by decide +kernel, g_tb2 (k := 96) rfl, g_tb1 (k := 3) rfl, ⟨by decide +kernel, by decide +kernel⟩, Nat.le_of_ble_eq_true rfl, rfl⟩
theorem na_X1_hasTally : gNa mX1_hasTally 1 := by unfold gNa; decide +kernel
theorem ok_X1_hasTally : gOK mX1_hasTally := ⟨by decide +kernel, g_tb1 (k := 216) rfl, g_tb1 (k := 3) rfl, ⟨by decide +kernel, by decide +kernel⟩, Nat.le_of_ble_eq_true rfl, rfl⟩
theorem na_X1_sumOfMarks : gNa mX1_sumOfMarks 0 := by unfold gNa; decide +kernel
theorem ok_X1_sumOfMarks : gOK mX1_sumOfMarks := ⟨by decide +kernel, g_tb2 (k := 104) rfl, g_tb1 (k := 3) rfl, ⟨by decide +kernel, by decide +kernel⟩, Nat.le_of_ble_eq_true rfl, rfl⟩
theorem na_X1_isBurning : gNa mX1_isBurning 1 := by unfold gNa; decide +kernel
theorem ok_X1_isBurning : gOK mX1_isBurning := ⟨by decide +kernel, g_tb1 (k := 228) rfl, g_tb1 (k := 3) rfl, ⟨by decide +kernel, by decide +kernel⟩, Nat.le_of_ble_eq_true rfl, rfl⟩
theorem na_X1_isLit : gNa mX1_isLit 1 := by unfold gNa; decide +kernel
theorem ok_X1_isLit : gOK mX1_isLit := ⟨by decide +kernel, g_tb1 (k := 232) rfl, g_tb1 (k := 3) rfl, ⟨by decide +kernel, by decide +kernel⟩, Nat.le_of_ble_eq_true rfl, rfl⟩
theorem na_X1_hasCandleWithWax : gNa mX1_hasCandleWithWax 1 := by unfold gNa; decide +kernel
theorem ok_X1_hasCandleWithWax : gOK mX1_hasCandleWithWax := ⟨by decide +kernel, g_tb3 (k := 154) rfl, g_tb1 (k := 3) rfl, ⟨by decide +kernel, by decide +kernel⟩, Nat.le_of_ble_eq_true rfl, rfl⟩
theorem na_X1_amountIn : gNa mX1_amountIn 1 := by unfold gNa; decide +kernel
theorem ok_X1_amountIn : gOK mX1_amountIn := ⟨by decide +kernel, g_tb1 (k := 220) rfl, g_tb1 (k := 3) rfl, ⟨by decide +kernel, by decide +kernel⟩, Nat.le_of_ble_eq_true rfl, rfl⟩
theorem na_X1_thingIn : gNa mX1_thingIn 1 := by unfold gNa; decide +kernel
theorem ok_X1_thingIn : gOK mX1_thingIn := ⟨by decide +kernel, g_tb1 (k := 209) rfl, g_tb1 (k := 3) rfl, ⟨by decide +kernel, by decide +kernel⟩, Nat.le_of_ble_eq_true rfl, rfl⟩
theorem na_X3_put : gNa mX3_put 2 := by unfold gNa; decide +kernel
theorem ok_X3_put : gOK mX3_put := ⟨by decide +kernel, g_tb2 (k := 167) rfl, g_tb1 (k := 4) rfl, ⟨by decide +kernel, by decide +kernel⟩, Nat.le_of_ble_eq_true rfl, rfl⟩
theorem na_X1_walledCells : gNa mX1_walledCells 1 := by unfold gNa; decide +kernel
theorem ok_X1_walledCells : gOK mX1_walledCells := ⟨by decide +kernel, g_tb2 (k := 48) rfl, g_tb1 (k := 3) rfl, ⟨by decide +kernel, by decide +kernel⟩, Nat.le_of_ble_eq_true rfl, rfl⟩
theorem na_X1_turned : gNa mX1_turned 2 := by unfold gNa; decide +kernel
theorem ok_X1_turned : gOK mX1_turned := ⟨by decide +kernel, g_tb2 (k := 180) rfl, g_tb1 (k := 3) rfl, ⟨by decide +kernel, by decide +kernel⟩, Nat.le_of_ble_eq_true rfl, rfl⟩
theorem na_X1_cellsLitFrom : gNa mX1_cellsLitFrom 1 := by unfold gNa; decide +kernel
theorem ok_X1_cellsLitFrom : gOK mX1_cellsLitFrom := ⟨by decide +kernel, g_tb2 (k := 176) rfl, g_tb1 (k := 3) rfl, ⟨by decide +kernel, by decide +kernel⟩, Nat.le_of_ble_eq_true rfl, rfl⟩
theorem na_X1_relight : gNa mX1_relight 0 := by unfold gNa; decide +kernel
theorem ok_X1_relight : gOK mX1_relight := ⟨by decide +kernel, g_tb2 (k := 172) rfl, g_tb1 (k := 3) rfl, ⟨by decide +kernel, by decide +kernel⟩, Nat.le_of_ble_eq_true rfl, rfl⟩
theorem na_X1_addCandle : gNa mX1_addCandle 2 := by unfold gNa; decide +kernel
theorem ok_X1_addCandle : gOK mX1_addCandle := ⟨by decide +kernel, g_tb3 (k := 120) rfl, g_tb1 (k := 3) rfl, ⟨by decide +kernel, by decide +kernel⟩, Nat.le_of_ble_eq_true rfl, rfl⟩
theorem na_X1_addMirror : gNa mX1_addMirror 2 := by unfold gNa; decide +kernel
theorem ok_X1_addMirror : gOK mX1_addMirror := ⟨by decide +kernel, g_tb3 (k := 129) rfl, g_tb1 (k := 3) rfl, ⟨by decide +kernel, by decide +kernel⟩, Nat.le_of_ble_eq_true rfl, rfl⟩
theorem na_X1_addTally : gNa mX1_addTally 1 := by unfold gNa; decide +kernel
theorem ok_X1_addTally : gOK mX1_addTally := ⟨by decide +kernel, g_tb3 (k := 137) rfl, g_tb1 (k := 3) rfl, ⟨by decide +kernel, by decide +kernel⟩, Nat.le_of_ble_eq_true rfl, rfl⟩
theorem na_X1_clear : gNa mX1_clear 1 := by unfold gNa; decide +kernel
theorem ok_X1_clear : gOK mX1_clear := ⟨by decide +kernel, g_tb3 (k := 146) rfl, g_tb1 (k := 3) rfl, ⟨by decide +kernel, by decide +kernel⟩, Nat.le_of_ble_eq_true rfl, rfl⟩
theorem na_X1_switchCandle : gNa mX1_switchCandle 1 := by unfold gNa; decide +kernel
theorem ok_X1_switchCandle : gOK mX1_switchCandle := ⟨by decide +kernel, g_tb2 (k := 238) rfl, g_tb1 (k := 3) rfl, ⟨by decide +kernel, by decide +kernel⟩, Nat.le_of_ble_eq_true rfl, rfl⟩
theorem na_X1_hasWall : gNa mX1_hasWall 2 := by unfold gNa; decide +kernel
theorem ok_X1_hasWall : gOK mX1_hasWall := ⟨by decide +kernel, g_tb2 (k := 44) rfl, g_tb1 (k := 3) rfl, ⟨by decide +kernel, by decide +kernel⟩, Nat.le_of_ble_eq_true rfl, rfl⟩
theorem na_X1_switchWall : gNa mX1_switchWall 2 := by unfold gNa; decide +kernel
theorem ok_X1_switchWall : gOK mX1_switchWall := ⟨by decide +kernel, g_tb3 (k := 103) rfl, g_tb1 (k := 3) rfl, ⟨by decide +kernel, by decide +kernel⟩, Nat.le_of_ble_eq_true rfl, rfl⟩
theorem na_X1_neighbours : gNa mX1_neighbours 2 := by unfold gNa; decide +kernel
theorem ok_X1_neighbours : gOK mX1_neighbours := ⟨by decide +kernel, g_tb2 (k := 126) rfl, g_tb1 (k := 3) rfl, ⟨by decide +kernel, by decide +kernel⟩, Nat.le_of_ble_eq_true rfl, rfl⟩
theorem na_X1_burnDown : gNa mX1_burnDown 0 := by unfold gNa; decide +kernel
theorem ok_X1_burnDown : gOK mX1_burnDown := ⟨by decide +kernel, g_tb2 (k := 162) rfl, g_tb1 (k := 3) rfl, ⟨by decide +kernel, by decide +kernel⟩, Nat.le_of_ble_eq_true rfl, rfl⟩
theorem na_X1_blowOutAround : gNa mX1_blowOutAround 1 := by unfold gNa; decide +kernel
theorem ok_X1_blowOutAround : gOK mX1_blowOutAround := ⟨by decide +kernel, g_tb2 (k := 202) rfl, g_tb1 (k := 3) rfl, ⟨by decide +kernel, by decide +kernel⟩, Nat.le_of_ble_eq_true rfl, rfl⟩
theorem na_X1_addMark : gNa mX1_addMark 1 := by unfold gNa; decide +kernel
theorem ok_X1_addMark : gOK mX1_addMark := ⟨by decide +kernel, g_tb2 (k := 212) rfl, g_tb1 (k := 3) rfl, ⟨by decide +kernel, by decide +kernel⟩, Nat.le_of_ble_eq_true rfl, rfl⟩
theorem na_X4_init : gNa mX4_init 0 := by unfold gNa; decide +kernel
theorem ok_X4_init : gOK mX4_init := ⟨by decide +kernel, g_tb1 (k := 81) rfl, g_tb1 (k := 5) rfl, ⟨by decide +kernel, by decide +kernel⟩, Nat.le_of_ble_eq_true rfl, rfl⟩
theorem na_X2_init : gNa mX2_init 0 := by unfold gNa; decide +kernel
theorem ok_X2_init : gOK mX2_init := ⟨by decide +kernel, g_tb1 (k := 29) rfl, g_tb1 (k := 2) rfl, ⟨by decide +kernel, by decide +kernel⟩, Nat.le_of_ble_eq_true rfl, rfl⟩
theorem na_X2_copyFrom : gNa mX2_copyFrom 1 := by unfold gNa; decide +kernel
theorem ok_X2_copyFrom : gOK mX2_copyFrom := ⟨by decide +kernel, g_tb2 (k := 224) rfl, g_tb1 (k := 2) rfl, ⟨by decide +kernel, by decide +kernel⟩, Nat.le_of_ble_eq_true rfl, rfl⟩
theorem na_X2_trait : gNa mX2_trait 2 := by unfold gNa; decide +kernel
theorem ok_X2_trait : gOK mX2_trait := ⟨by decide +kernel, g_tb2 (k := 4) rfl, g_tb1 (k := 2) rfl, ⟨by decide +kernel, by decide +kernel⟩, Nat.le_of_ble_eq_true rfl, rfl⟩
theorem na_X2_setTrait : gNa mX2_setTrait 3 := by unfold gNa; decide +kernel
theorem ok_X2_setTrait : gOK mX2_setTrait := ⟨by decide +kernel, g_tb2 (k := 196) rfl, g_tb1 (k := 2) rfl, ⟨by decide +kernel, by decide +kernel⟩, Nat.le_of_ble_eq_true rfl, rfl⟩
theorem na_X2_sumOfTrait : gNa mX2_sumOfTrait 1 := by unfold gNa; decide +kernel
theorem ok_X2_sumOfTrait : gOK mX2_sumOfTrait := ⟨by decide +kernel, g_tb2 (k := 100) rfl, g_tb1 (k := 2) rfl, ⟨by decide +kernel, by decide +kernel⟩, Nat.le_of_ble_eq_true rfl, rfl⟩
theorem na_X2_mayPass : gNa mX2_mayPass 1 := by unfold gNa; decide +kernel
theorem ok_X2_mayPass : gOK mX2_mayPass := ⟨by decide +kernel, g_tb2 (k := 116) rfl, g_tb1 (k := 2) rfl, ⟨by decide +kernel, by decide +kernel⟩, Nat.le_of_ble_eq_true rfl, rfl⟩
theorem na_X2_cellOf : gNa mX2_cellOf 1 := by unfold gNa; decide +kernel
theorem ok_X2_cellOf : gOK mX2_cellOf := ⟨by decide +kernel, g_tb2 (k := 0) rfl, g_tb1 (k := 2) rfl, ⟨by decide +kernel, by decide +kernel⟩, Nat.le_of_ble_eq_true rfl, rfl⟩
theorem na_X2_goalOf : gNa mX2_goalOf 1 := by unfold gNa; decide +kernel
theorem ok_X2_goalOf : gOK mX2_goalOf := ⟨by decide +kernel, g_tb2 (k := 140) rfl, g_tb1 (k := 2) rfl, ⟨by decide +kernel, by decide +kernel⟩, Nat.le_of_ble_eq_true rfl, rfl⟩
theorem na_X2_setCell : gNa mX2_setCell 2 := by unfold gNa; decide +kernel
theorem ok_X2_setCell : gOK mX2_setCell := ⟨by decide +kernel, g_tb2 (k := 192) rfl, g_tb1 (k := 2) rfl, ⟨by decide +kernel, by decide +kernel⟩, Nat.le_of_ble_eq_true rfl, rfl⟩
theorem na_X2_setGoal : gNa mX2_setGoal 2 := by unfold gNa; decide +kernel
theorem ok_X2_setGoal : gOK mX2_setGoal := ⟨by decide +kernel, g_tb3 (k := 209) rfl, g_tb1 (k := 2) rfl, ⟨by decide +kernel, by decide +kernel⟩, Nat.le_of_ble_eq_true rfl, rfl⟩
theorem na_X2_addGhost : gNa mX2_addGhost 2 := by unfold gNa; decide +kernel
theorem ok_X2_addGhost : gOK mX2_addGhost := ⟨by decide +kernel, g_tb3 (k := 205) rfl, g_tb1 (k := 2) rfl, ⟨by decide +kernel, by decide +kernel⟩, Nat.le_of_ble_eq_true rfl, rfl⟩
theorem na_X2_ghostsIn : gNa mX2_ghostsIn 1 := by unfold gNa; decide +kernel
theorem ok_X2_ghostsIn : gOK mX2_ghostsIn := ⟨by decide +kernel, g_tb1 (k := 236) rfl, g_tb1 (k := 2) rfl, ⟨by decide +kernel, by decide +kernel⟩, Nat.le_of_ble_eq_true rfl, rfl⟩
theorem na_X2_ghostsAtGoals : gNa mX2_ghostsAtGoals 0 := by unfold gNa; decide +kernel
theorem ok_X2_ghostsAtGoals : gOK mX2_ghostsAtGoals := ⟨by decide +kernel, g_tb3 (k := 4) rfl, g_tb1 (k := 2) rfl, ⟨by decide +kernel, by decide +kernel⟩, Nat.le_of_ble_eq_true rfl, rfl⟩
theorem na_X2_aboutCell : gNa mX2_aboutCell 2 := by unfold gNa; decide +kernel
theorem ok_X2_aboutCell : gOK mX2_aboutCell := ⟨by decide +kernel, g_tb1 (k := 205) rfl, g_tb1 (k := 2) rfl, ⟨by decide +kernel, by decide +kernel⟩, Nat.le_of_ble_eq_true rfl, rfl⟩
theorem na_X2_aboutAll : gNa mX2_aboutAll 1 := by unfold gNa; decide +kernel
theorem ok_X2_aboutAll : gOK mX2_aboutAll := ⟨by decide +kernel, g_tb2 (k := 66) rfl, g_tb1 (k := 2) rfl, ⟨by decide +kernel, by decide +kernel⟩, Nat.le_of_ble_eq_true rfl, rfl⟩
theorem na_X4_fewestSteps : gNa mX4_fewestSteps 4 := by unfold gNa; decide +kernel
theorem ok_X4_fewestSteps : gOK mX4_fewestSteps := ⟨by decide +kernel, g_tb2 (k := 120) rfl, g_tb1 (k := 5) rfl, ⟨by decide +kernel, by decide +kernel⟩, Nat.le_of_ble_eq_true rfl, rfl⟩
theorem na_X2_stepsTo : gNa mX2_stepsTo 2 := by unfold gNa; decide +kernel
theorem ok_X2_stepsTo : gOK mX2_stepsTo := ⟨by decide +kernel, g_tb2 (k := 112) rfl, g_tb1 (k := 2) rfl, ⟨by decide +kernel, by decide +kernel⟩, Nat.le_of_ble_eq_true rfl, rfl⟩
theorem na_X4_firstDirection : gNa mX4_firstDirection 1 := by unfold gNa; decide +kernel
theorem ok_X4_firstDirection : gOK mX4_firstDirection := ⟨by decide +kernel, g_tb2 (k := 144) rfl, g_tb1 (k := 5) rfl, ⟨by decide +kernel, by decide +kernel⟩, Nat.le_of_ble_eq_true rfl, rfl⟩
theorem na_X2_nextDirection : gNa mX2_nextDirection 1 := by unfold gNa; decide +kernel
theorem ok_X2_nextDirection : gOK mX2_nextDirection := ⟨by decide +kernel, g_tb2 (k := 136) rfl, g_tb1 (k := 2) rfl, ⟨by decide +kernel, by decide +kernel⟩, Nat.le_of_ble_eq_true rfl, rfl⟩
theorem na_X2_takeStep : gNa mX2_takeStep 1 := by unfold gNa; decide +kernel
theorem ok_X2_takeStep : gOK mX2_takeStep := ⟨by decide +kernel, g_tb2 (k := 184) rfl, g_tb1 (k := 2) rfl, ⟨by decide +kernel, by decide +kernel⟩, Nat.le_of_ble_eq_true rfl, rfl⟩
theorem na_X2_hauntsOrFears : gNa mX2_hauntsOrFears 1 := by unfold gNa; decide +kernel
theorem ok_X2_hauntsOrFears : gOK mX2_hauntsOrFears := ⟨by decide +kernel, g_tb2 (k := 207) rfl, g_tb1 (k := 2) rfl, ⟨by decide +kernel, by decide +kernel⟩, Nat.le_of_ble_eq_true rfl, rfl⟩
theorem na_X2_passHour : gNa mX2_passHour 0 := by unfold gNa; decide +kernel
theorem ok_X2_passHour : gOK mX2_passHour := ⟨by decide +kernel, g_tb2 (k := 158) rfl, g_tb1 (k := 2) rfl, ⟨by decide +kernel, by decide +kernel⟩, Nat.le_of_ble_eq_true rfl, rfl⟩
theorem na_X5_init : gNa mX5_init 0 := by unfold gNa; decide +kernel
theorem ok_X5_init : gOK mX5_init := ⟨by decide +kernel, g_tb1 (k := 21) rfl, g_tb1 (k := 1) rfl, ⟨by decide +kernel, by decide +kernel⟩, Nat.le_of_ble_eq_true rfl, rfl⟩
theorem na_X5_checkedCell : gNa mX5_checkedCell 2 := by unfold gNa; decide +kernel
theorem ok_X5_checkedCell : gOK mX5_checkedCell := ⟨by decide +kernel, g_tb1 (k := 129) rfl, g_tb1 (k := 1) rfl, ⟨by decide +kernel, by decide +kernel⟩, Nat.le_of_ble_eq_true rfl, rfl⟩
theorem na_X5_checkDirection : gNa mX5_checkDirection 1 := by unfold gNa; decide +kernel
theorem ok_X5_checkDirection : gOK mX5_checkDirection := ⟨by decide +kernel, g_tb2 (k := 12) rfl, g_tb1 (k := 1) rfl, ⟨by decide +kernel, by decide +kernel⟩, Nat.le_of_ble_eq_true rfl, rfl⟩
theorem na_X5_wall : gNa mX5_wall 3 := by unfold gNa; decide +kernel
theorem ok_X5_wall : gOK mX5_wall := ⟨by decide +kernel, g_tb3 (k := 83) rfl, g_tb1 (k := 1) rfl, ⟨by decide +kernel, by decide +kernel⟩, Nat.le_of_ble_eq_true rfl, rfl⟩
theorem na_X5_checkRoomFor : gNa mX5_checkRoomFor 3 := by unfold gNa; decide +kernel
theorem ok_X5_checkRoomFor : gOK mX5_checkRoomFor := ⟨by decide +kernel, g_tb3 (k := 114) rfl, g_tb1 (k := 1) rfl, ⟨by decide +kernel, by decide +kernel⟩, Nat.le_of_ble_eq_true rfl, rfl⟩
theorem na_X5_candle : gNa mX5_candle 3 := by unfold gNa; decide +kernel
theorem ok_X5_candle : gOK mX5_candle := ⟨by decide +kernel, g_tb3 (k := 108) rfl, g_tb1 (k := 1) rfl, ⟨by decide +kernel, by decide +kernel⟩, Nat.le_of_ble_eq_true rfl, rfl⟩
theorem na_X5_mirror : gNa mX5_mirror 3 := by unfold gNa; decide +kernel
theorem ok_X5_mirror : gOK mX5_mirror := ⟨by decide +kernel, g_tb3 (k := 124) rfl, g_tb1 (k := 1) rfl, ⟨by decide +kernel, by decide +kernel⟩, Nat.le_of_ble_eq_true rfl, rfl⟩
theorem na_X5_tally : gNa mX5_tally 2 := by unfold gNa; decide +kernel
theorem ok_X5_tally : gOK mX5_tally := ⟨by decide +kernel, g_tb3 (k := 133) rfl, g_tb1 (k := 1) rfl, ⟨by decide +kernel, by decide +kernel⟩, Nat.le_of_ble_eq_true rfl, rfl⟩
theorem na_X5_remove : gNa mX5_remove 2 := by unfold gNa; decide +kernel
theorem ok_X5_remove : gOK mX5_remove := ⟨by decide +kernel, g_tb3 (k := 141) rfl, g_tb1 (k := 1) rfl, ⟨by decide +kernel, by decide +kernel⟩, Nat.le_of_ble_eq_true rfl, rfl⟩
theorem na_X5_light : gNa mX5_light 2 := by unfold gNa; decide +kernel
theorem ok_X5_light : gOK mX5_light := ⟨by decide +kernel, g_tb3 (k := 150) rfl, g_tb1 (k := 1) rfl, ⟨by decide +kernel, by decide +kernel⟩, Nat.le_of_ble_eq_true rfl, rfl⟩
theorem na_X5_come : gNa mX5_come 3 := by unfold gNa; decide +kernel
theorem ok_X5_come : gOK mX5_come := ⟨by decide +kernel, g_tb3 (k := 199) rfl, g_tb1 (k := 1) rfl, ⟨by decide +kernel, by decide +kernel⟩, Nat.le_of_ble_eq_true rfl, rfl⟩
theorem na_X5_checkGhost : gNa mX5_checkGhost 1 := by unfold gNa; decide +kernel
theorem ok_X5_checkGhost : gOK mX5_checkGhost := ⟨by decide +kernel, g_tb2 (k := 56) rfl, g_tb1 (k := 1) rfl, ⟨by decide +kernel, by decide +kernel⟩, Nat.le_of_ble_eq_true rfl, rfl⟩
theorem na_X5_send : gNa mX5_send 3 := by unfold gNa; decide +kernel
theorem ok_X5_send : gOK mX5_send := ⟨by decide +kernel, g_tb3 (k := 223) rfl, g_tb1 (k := 1) rfl, ⟨by decide +kernel, by decide +kernel⟩, Nat.le_of_ble_eq_true rfl, rfl⟩
theorem na_X5_rite : gNa mX5_rite 1 := by unfold gNa; decide +kernel
theorem ok_X5_rite : gOK mX5_rite := ⟨by decide +kernel, g_tb3 (k := 213) rfl, g_tb1 (k := 1) rfl, ⟨by decide +kernel, by decide +kernel⟩, Nat.le_of_ble_eq_true rfl, rfl⟩
theorem na_X5_checkWhat : gNa mX5_checkWhat 2 := by unfold gNa; decide +kernel
theorem ok_X5_checkWhat : gOK mX5_checkWhat := ⟨by decide +kernel, g_tb1 (k := 200) rfl, g_tb1 (k := 1) rfl, ⟨by decide +kernel, by decide +kernel⟩, Nat.le_of_ble_eq_true rfl, rfl⟩
theorem na_X5_cell : gNa mX5_cell 3 := by unfold gNa; decide +kernel
theorem ok_X5_cell : gOK mX5_cell := ⟨by decide +kernel, g_tb1 (k := 126) rfl, g_tb1 (k := 1) rfl, ⟨by decide +kernel, by decide +kernel⟩, Nat.le_of_ble_eq_true rfl, rfl⟩
theorem na_X5_walled : gNa mX5_walled 3 := by unfold gNa; decide +kernel
theorem ok_X5_walled : gOK mX5_walled := ⟨by decide +kernel, g_tb2 (k := 9) rfl, g_tb1 (k := 1) rfl, ⟨by decide +kernel, by decide +kernel⟩, Nat.le_of_ble_eq_true rfl, rfl⟩
theorem na_X5_ghost : gNa mX5_ghost 2 := by unfold gNa; decide +kernel
theorem ok_X5_ghost : gOK mX5_ghost := ⟨by decide +kernel, g_tb2 (k := 52) rfl, g_tb1 (k := 1) rfl, ⟨by decide +kernel, by decide +kernel⟩, Nat.le_of_ble_eq_true rfl, rfl⟩
theorem na_X5_count : gNa mX5_count 1 := by unfold gNa; decide +kernel
theorem ok_X5_count : gOK mX5_count := ⟨by decide +kernel, g_tb2 (k := 62) rfl, g_tb1 (k := 1) rfl, ⟨by decide +kernel, by decide +kernel⟩, Nat.le_of_ble_eq_true rfl, rfl⟩
theorem na_X5_way : gNa mX5_way 3 := by unfold gNa; decide +kernel
theorem ok_X5_way : gOK mX5_way := ⟨by decide +kernel, g_tb2 (k := 108) rfl, g_tb1 (k := 1) rfl, ⟨by decide +kernel, by decide +kernel⟩, Nat.le_of_ble_eq_true rfl, rfl⟩
theorem na_X5_next : gNa mX5_next 1 := by unfold gNa; decide +kernel
theorem ok_X5_next : gOK mX5_next := ⟨by decide +kernel, g_tb2 (k := 132) rfl, g_tb1 (k := 1) rfl, ⟨by decide +kernel, by decide +kernel⟩, Nat.le_of_ble_eq_true rfl, rfl⟩
theorem na_X5_checkHours : gNa mX5_checkHours 2 := by unfold gNa; decide +kernel
theorem ok_X5_checkHours : gOK mX5_checkHours := ⟨by decide +kernel, g_tb2 (k := 153) rfl, g_tb1 (k := 1) rfl, ⟨by decide +kernel, by decide +kernel⟩, Nat.le_of_ble_eq_true rfl, rfl⟩
theorem na_X5_pass : gNa mX5_pass 1 := by unfold gNa; decide +kernel
theorem ok_X5_pass : gOK mX5_pass := ⟨by decide +kernel, g_tb2 (k := 150) rfl, g_tb1 (k := 1) rfl, ⟨by decide +kernel, by decide +kernel⟩, Nat.le_of_ble_eq_true rfl, rfl⟩
theorem na_X5_hauntsAhead : gNa mX5_hauntsAhead 2 := by unfold gNa; decide +kernel
theorem ok_X5_hauntsAhead : gOK mX5_hauntsAhead := ⟨by decide +kernel, g_tb2 (k := 220) rfl, g_tb1 (k := 1) rfl, ⟨by decide +kernel, by decide +kernel⟩, Nat.le_of_ble_eq_true rfl, rfl⟩
theorem na_X5_foresee : gNa mX5_foresee 2 := by unfold gNa; decide +kernel
theorem ok_X5_foresee : gOK mX5_foresee := ⟨by decide +kernel, g_tb2 (k := 216) rfl, g_tb1 (k := 1) rfl, ⟨by decide +kernel, by decide +kernel⟩, Nat.le_of_ble_eq_true rfl, rfl⟩
theorem na_X5_mean : gNa mX5_mean 0 := by unfold gNa; decide +kernel
theorem ok_X5_mean : gOK mX5_mean := ⟨by decide +kernel, g_tb3 (k := 59) rfl, g_tb1 (k := 1) rfl, ⟨by decide +kernel, by decide +kernel⟩, Nat.le_of_ble_eq_true rfl, rfl⟩
theorem na_X6_init : gNa mX6_init 0 := by unfold gNa; decide +kernel
theorem ok_X6_init : gOK mX6_init := ⟨by decide +kernel, g_tb3 (k := 162) rfl, g_tb1 (k := 15) rfl, ⟨by decide +kernel, by decide +kernel⟩, Nat.le_of_ble_eq_true rfl, rfl⟩
theorem na_X7_init : gNa mX7_init 0 := by unfold gNa; decide +kernel
theorem ok_X7_init : gOK mX7_init := ⟨by decide +kernel, g_tb3 (k := 232) rfl, g_tb1 (k := 6) rfl, ⟨by decide +kernel, by decide +kernel⟩, Nat.le_of_ble_eq_true rfl, rfl⟩
theorem na_X7_goX : gNa mX7_goX 1 := by unfold gNa; decide +kernel
theorem ok_X7_goX : gOK mX7_goX := ⟨by decide +kernel, g_tb3 (k := 25) rfl, g_tb1 (k := 6) rfl, ⟨by decide +kernel, by decide +kernel⟩, Nat.le_of_ble_eq_true rfl, rfl⟩
theorem na_X7_goY : gNa mX7_goY 1 := by unfold gNa; decide +kernel
theorem ok_X7_goY : gOK mX7_goY := ⟨by decide +kernel, g_tb3 (k := 28) rfl, g_tb1 (k := 6) rfl, ⟨by decide +kernel, by decide +kernel⟩, Nat.le_of_ble_eq_true rfl, rfl⟩
theorem na_X7_isIn : gNa mX7_isIn 2 := by unfold gNa; decide +kernel
theorem ok_X7_isIn : gOK mX7_isIn := ⟨by decide +kernel, g_tb3 (k := 31) rfl, g_tb1 (k := 6) rfl, ⟨by decide +kernel, by decide +kernel⟩, Nat.le_of_ble_eq_true rfl, rfl⟩
theorem na_X7_turnWall : gNa mX7_turnWall 3 := by unfold gNa; decide +kernel
theorem ok_X7_turnWall : gOK mX7_turnWall := ⟨by decide +kernel, g_tb3 (k := 79) rfl, g_tb1 (k := 6) rfl, ⟨by decide +kernel, by decide +kernel⟩, Nat.le_of_ble_eq_true rfl, rfl⟩
theorem na_X7_things : gNa mX7_things 1 := by unfold gNa; decide +kernel
theorem ok_X7_things : gOK mX7_things := ⟨by decide +kernel, g_tb3 (k := 47) rfl, g_tb1 (k := 6) rfl, ⟨by decide +kernel, by decide +kernel⟩, Nat.le_of_ble_eq_true rfl, rfl⟩
theorem na_X7_shine : gNa mX7_shine 3 := by unfold gNa; decide +kernel
theorem ok_X7_shine : gOK mX7_shine := ⟨by decide +kernel, g_tb3 (k := 22) rfl, g_tb1 (k := 6) rfl, ⟨by decide +kernel, by decide +kernel⟩, Nat.le_of_ble_eq_true rfl, rfl⟩
theorem na_X7_lit : gNa mX7_lit 0 := by unfold gNa; decide +kernel
theorem ok_X7_lit : gOK mX7_lit := ⟨by decide +kernel, g_tb3 (k := 16) rfl, g_tb1 (k := 6) rfl, ⟨by decide +kernel, by decide +kernel⟩, Nat.le_of_ble_eq_true rfl, rfl⟩
theorem na_X7_many : gNa mX7_many 1 := by unfold gNa; decide +kernel
theorem ok_X7_many : gOK mX7_many := ⟨by decide +kernel, g_tb3 (k := 54) rfl, g_tb1 (k := 6) rfl, ⟨by decide +kernel, by decide +kernel⟩, Nat.le_of_ble_eq_true rfl, rfl⟩
theorem na_X7_way : gNa mX7_way 6 := by unfold gNa; decide +kernel
theorem ok_X7_way : gOK mX7_way := ⟨by decide +kernel, g_tb3 (k := 35) rfl, g_tb1 (k := 6) rfl, ⟨by decide +kernel, by decide +kernel⟩, Nat.le_of_ble_eq_true rfl, rfl⟩
theorem na_X7_next : gNa mX7_next 1 := by unfold gNa; decide +kernel
theorem ok_X7_next : gOK mX7_next := ⟨by decide +kernel, g_tb3 (k := 12) rfl, g_tb1 (k := 6) rfl, ⟨by decide +kernel, by decide +kernel⟩, Nat.le_of_ble_eq_true rfl, rfl⟩
theorem na_X7_pass : gNa mX7_pass 0 := by unfold gNa; decide +kernel
theorem ok_X7_pass : gOK mX7_pass := ⟨by decide +kernel, g_tb3 (k := 8) rfl, g_tb1 (k := 6) rfl, ⟨by decide +kernel, by decide +kernel⟩, Nat.le_of_ble_eq_true rfl, rfl⟩
theorem na_X7_burning : gNa mX7_burning 0 := by unfold gNa; decide +kernel
theorem ok_X7_burning : gOK mX7_burning := ⟨by decide +kernel, g_tb3 (k := 51) rfl, g_tb1 (k := 6) rfl, ⟨by decide +kernel, by decide +kernel⟩, Nat.le_of_ble_eq_true rfl, rfl⟩
theorem na_X7_isSame : gNa mX7_isSame 1 := by unfold gNa; decide +kernel
theorem ok_X7_isSame : gOK mX7_isSame := ⟨by decide +kernel, g_tb3 (k := 40) rfl, g_tb1 (k := 6) rfl, ⟨by decide +kernel, by decide +kernel⟩, Nat.le_of_ble_eq_true rfl, rfl⟩
theorem na_L_below : gNa mL_below 2 := by unfold gNa; decide +kernel
theorem ok_L_below : gOK mL_below := ⟨by decide +kernel, g_tb3 (k := 71) rfl, g_tb1 (k := 0) rfl, ⟨by decide +kernel, by decide +kernel⟩, Nat.le_of_ble_eq_true rfl, rfl⟩
theorem na_L_cell : gNa mL_cell 2 := by unfold gNa; decide +kernel
theorem ok_L_cell : gOK mL_cell := ⟨by decide +kernel, g_tb3 (k := 64) rfl, g_tb1 (k := 0) rfl, ⟨by decide +kernel, by decide +kernel⟩, Nat.le_of_ble_eq_true rfl, rfl⟩
theorem na_L_act : gNa mL_act 3 := by unfold gNa; decide +kernel
theorem ok_L_act : gOK mL_act := ⟨by decide +kernel, g_tb3 (k := 68) rfl, g_tb1 (k := 0) rfl, ⟨by decide +kernel, by decide +kernel⟩, Nat.le_of_ble_eq_true rfl, rfl⟩
theorem na_L_build : gNa mL_build 2 := by unfold gNa; decide +kernel
theorem ok_L_build : gOK mL_build := ⟨by decide +kernel, g_tb3 (k := 227) rfl, g_tb1 (k := 0) rfl, ⟨by decide +kernel, by decide +kernel⟩, Nat.le_of_ble_eq_true rfl, rfl⟩
theorem kV_X3_13 : gLV RX3 13 mX3_get 1 2 := ⟨ok_X3_get, na_X3_get, g_tb2 (k := 233) rfl, g_tb1 (k := 222) rfl, g_tb1 (k := 223) rfl, _, _, rfl⟩
theorem kV_X1_45 : gLV RX1 45 mX3_copyFrom 1 2 := ⟨ok_X3_copyFrom, na_X3_copyFrom, g_tb2 (k := 229) rfl, g_tb2 (k := 230) rfl, g_tb2 (k := 231) rfl, _, _, rfl⟩
theorem kV_X1_55 : gLV RX1 55 mX1_hasTally 1 0 := ⟨ok_X1_hasTally, na_X1_hasTally, g_tb1 (k := 213) rfl, g_tb1 (k := 214) rfl, g_tb1 (k := 215) rfl, _, _, rfl⟩
theorem kV_X1_59 : gLV RX1 59 mX3_get 1 2 := ⟨ok_X3_get, na_X3_get, g_tb1 (k := 221) rfl, g_tb1 (k := 222) rfl, g_tb1 (k := 223) rfl, _, _, rfl⟩
theorem kV_X1_82 : gLV RX1 82 mX1_walledCells 1 0 := ⟨ok_X1_walledCells, na_X1_walledCells, g_tb2 (k := 45) rfl, g_tb2 (k := 46) rfl, g_tb2 (k := 47) rfl, _, _, rfl⟩
theorem kV_X1_89 : gLV RX1 89 mX1_turned 2 0 := ⟨ok_X1_turned, na_X1_turned, g_tb2 (k := 177) rfl, g_tb2 (k := 179) rfl, g_tbs (k := 3) rfl, _, _, rfl⟩
theorem kV_X1_93 : gLV RX1 93 mX1_cellsLitFrom 1 0 := ⟨ok_X1_cellsLitFrom, na_X1_cellsLitFrom, g_tb2 (k := 173) rfl, g_tb2 (k := 174) rfl, g_tb2 (k := 175) rfl, _, _, rfl⟩
theorem kV_X1_73 : gLV RX1 73 mX3_put 2 2 := ⟨ok_X3_put, na_X3_put, g_tb2 (k := 164) rfl, g_tb2 (k := 165) rfl, g_tb2 (k := 166) rfl, _, _, rfl⟩
theorem kV_X1_77 : gLV RX1 77 mX1_relight 0 0 := ⟨ok_X1_relight, na_X1_relight, g_tb2 (k := 169) rfl, g_tb2 (k := 171) rfl, g_tbs (k := 2) rfl, _, _, rfl⟩
theorem kV_X1_96 : gLV RX1 96 mX1_isBurning 1 0 := ⟨ok_X1_isBurning, na_X1_isBurning, g_tb2 (k := 163) rfl, g_tb1 (k := 226) rfl, g_tb1 (k := 227) rfl, _, _, rfl⟩
theorem kV_X1_99 : gLV RX1 99 mX1_neighbours 2 0 := ⟨ok_X1_neighbours, na_X1_neighbours, g_tb2 (k := 203) rfl, g_tb2 (k := 124) rfl, g_tb2 (k := 125) rfl, _, _, rfl⟩
theorem kV_X2_34 : gLV RX2 34 mX1_copyFrom 1 0 := ⟨ok_X1_copyFrom, na_X1_copyFrom, g_tb2 (k := 225) rfl, g_tb2 (k := 226) rfl, g_tb2 (k := 227) rfl, _, _, rfl⟩
theorem kV_X2_38 : gLV RX2 38 mX3_copyFrom 1 2 := ⟨ok_X3_copyFrom, na_X3_copyFrom, g_tb2 (k := 234) rfl, g_tb2 (k := 230) rfl, g_tb2 (k := 231) rfl, _, _, rfl⟩
theorem kV_X2_48 : gLV RX2 48 mX3_get 1 2 := ⟨ok_X3_get, na_X3_get, g_tb2 (k := 5) rfl, g_tb1 (k := 222) rfl, g_tb1 (k := 223) rfl, _, _, rfl⟩
theorem kV_X2_52 : gLV RX2 52 mX3_put 2 2 := ⟨ok_X3_put, na_X3_put, g_tb2 (k := 197) rfl, g_tb2 (k := 165) rfl, g_tb2 (k := 166) rfl, _, _, rfl⟩
theorem kV_X2_56 : gLV RX2 56 mX2_trait 2 1 := ⟨ok_X2_trait, na_X2_trait, g_tb2 (k := 1) rfl, g_tb2 (k := 2) rfl, g_tb2 (k := 3) rfl, _, _, rfl⟩
theorem kV_X2_60 : gLV RX2 60 mX2_setTrait 3 1 := ⟨ok_X2_setTrait, na_X2_setTrait, g_tb2 (k := 193) rfl, g_tb2 (k := 194) rfl, g_tb2 (k := 195) rfl, _, _, rfl⟩
theorem kV_X2_64 : gLV RX2 64 mX2_setCell 2 1 := ⟨ok_X2_setCell, na_X2_setCell, g_tb2 (k := 189) rfl, g_tb2 (k := 190) rfl, g_tb2 (k := 191) rfl, _, _, rfl⟩
theorem kV_X2_67 : gLV RX2 67 mX2_setGoal 2 1 := ⟨ok_X2_setGoal, na_X2_setGoal, g_tb3 (k := 206) rfl, g_tb3 (k := 207) rfl, g_tb3 (k := 208) rfl, _, _, rfl⟩
theorem kV_X2_70 : gLV RX2 70 mX2_cellOf 1 1 := ⟨ok_X2_cellOf, na_X2_cellOf, g_tb1 (k := 237) rfl, g_tb1 (k := 238) rfl, g_tb1 (k := 239) rfl, _, _, rfl⟩
theorem kV_X2_73 : gLV RX2 73 mX2_goalOf 1 1 := ⟨ok_X2_goalOf, na_X2_goalOf, g_tb2 (k := 137) rfl, g_tb2 (k := 138) rfl, g_tb2 (k := 139) rfl, _, _, rfl⟩
theorem kV_X2_76 : gLV RX2 76 mX1_thingIn 1 0 := ⟨ok_X1_thingIn, na_X1_thingIn, g_tb1 (k := 206) rfl, g_tb1 (k := 207) rfl, g_tb1 (k := 208) rfl, _, _, rfl⟩
theorem kV_X2_79 : gLV RX2 79 mX1_amountIn 1 0 := ⟨ok_X1_amountIn, na_X1_amountIn, g_tb1 (k := 217) rfl, g_tb1 (k := 218) rfl, g_tb1 (k := 219) rfl, _, _, rfl⟩
theorem kV_X2_82 : gLV RX2 82 mX1_isBurning 1 0 := ⟨ok_X1_isBurning, na_X1_isBurning, g_tb1 (k := 225) rfl, g_tb1 (k := 226) rfl, g_tb1 (k := 227) rfl, _, _, rfl⟩
theorem kV_X2_86 : gLV RX2 86 mX1_isLit 1 0 := ⟨ok_X1_isLit, na_X1_isLit, g_tb1 (k := 229) rfl, g_tb1 (k := 230) rfl, g_tb1 (k := 231) rfl, _, _, rfl⟩
theorem kV_X2_89 : gLV RX2 89 mX2_ghostsIn 1 1 := ⟨ok_X2_ghostsIn, na_X2_ghostsIn, g_tb1 (k := 233) rfl, g_tb1 (k := 234) rfl, g_tb1 (k := 235) rfl, _, _, rfl⟩
theorem kV_X2_92 : gLV RX2 92 mX1_candleCount 0 0 := ⟨ok_X1_candleCount, na_X1_candleCount, g_tb2 (k := 67) rfl, g_tb2 (k := 68) rfl, g_tb2 (k := 69) rfl, _, _, rfl⟩
theorem kV_X2_96 : gLV RX2 96 mX1_burningCount 0 0 := ⟨ok_X1_burningCount, na_X1_burningCount, g_tb2 (k := 77) rfl, g_tb2 (k := 78) rfl, g_tb2 (k := 79) rfl, _, _, rfl⟩
theorem kV_X2_99 : gLV RX2 99 mX1_mirrorCount 0 0 := ⟨ok_X1_mirrorCount, na_X1_mirrorCount, g_tb2 (k := 81) rfl, g_tb2 (k := 82) rfl, g_tb2 (k := 83) rfl, _, _, rfl⟩
theorem kV_X2_102 : gLV RX2 102 mX1_tallyCount 0 0 := ⟨ok_X1_tallyCount, na_X1_tallyCount, g_tb2 (k := 85) rfl, g_tb2 (k := 86) rfl, g_tb2 (k := 87) rfl, _, _, rfl⟩
theorem kV_X2_105 : gLV RX2 105 mX1_wallCount 0 0 := ⟨ok_X1_wallCount, na_X1_wallCount, g_tb2 (k := 89) rfl, g_tb2 (k := 90) rfl, g_tb2 (k := 91) rfl, _, _, rfl⟩
theorem kV_X2_108 : gLV RX2 108 mX1_litCount 0 0 := ⟨ok_X1_litCount, na_X1_litCount, g_tb2 (k := 93) rfl, g_tb2 (k := 94) rfl, g_tb2 (k := 95) rfl, _, _, rfl⟩
theorem kV_X2_111 : gLV RX2 111 mX2_sumOfTrait 1 1 := ⟨ok_X2_sumOfTrait, na_X2_sumOfTrait, g_tb2 (k := 97) rfl, g_tb2 (k := 98) rfl, g_tb2 (k := 99) rfl, _, _, rfl⟩
theorem kV_X2_114 : gLV RX2 114 mX1_sumOfMarks 0 0 := ⟨ok_X1_sumOfMarks, na_X1_sumOfMarks, g_tb2 (k := 101) rfl, g_tb2 (k := 102) rfl, g_tb2 (k := 103) rfl, _, _, rfl⟩
theorem kV_X4_38 : gLV RX4 38 mX1_neighbours 2 0 := ⟨ok_X1_neighbours, na_X1_neighbours, g_tb2 (k := 123) rfl, g_tb2 (k := 124) rfl, g_tb2 (k := 125) rfl, _, _, rfl⟩
theorem kV_X2_117 : gLV RX2 117 mX2_mayPass 1 1 := ⟨ok_X2_mayPass, na_X2_mayPass, g_tb2 (k := 113) rfl, g_tb2 (k := 114) rfl, g_tb2 (k := 115) rfl, _, _, rfl⟩
theorem kV_X2_120 : gLV RX2 120 mX4_fewestSteps 4 3 := ⟨ok_X4_fewestSteps, na_X4_fewestSteps, g_tb2 (k := 117) rfl, g_tb2 (k := 118) rfl, g_tb2 (k := 119) rfl, _, _, rfl⟩
theorem kV_X4_42 : gLV RX4 42 mX1_walledCells 1 0 := ⟨ok_X1_walledCells, na_X1_walledCells, g_tb2 (k := 145) rfl, g_tb2 (k := 46) rfl, g_tb2 (k := 47) rfl, _, _, rfl⟩
theorem kV_X2_124 : gLV RX2 124 mX4_firstDirection 1 3 := ⟨ok_X4_firstDirection, na_X4_firstDirection, g_tb2 (k := 141) rfl, g_tb2 (k := 142) rfl, g_tb2 (k := 143) rfl, _, _, rfl⟩
theorem kV_X2_137 : gLV RX2 137 mX2_nextDirection 1 1 := ⟨ok_X2_nextDirection, na_X2_nextDirection, g_tb2 (k := 185) rfl, g_tb2 (k := 134) rfl, g_tb2 (k := 135) rfl, _, _, rfl⟩
theorem kV_X2_145 : gLV RX2 145 mX1_hasWall 2 0 := ⟨ok_X1_hasWall, na_X1_hasWall, g_tb2 (k := 198) rfl, g_tb2 (k := 42) rfl, g_tb2 (k := 43) rfl, _, _, rfl⟩
theorem kV_X2_149 : gLV RX2 149 mX1_blowOutAround 1 0 := ⟨ok_X1_blowOutAround, na_X1_blowOutAround, g_tb2 (k := 199) rfl, g_tb2 (k := 200) rfl, g_tb2 (k := 201) rfl, _, _, rfl⟩
theorem kV_X2_152 : gLV RX2 152 mX1_hasTally 1 0 := ⟨ok_X1_hasTally, na_X1_hasTally, g_tb2 (k := 208) rfl, g_tb1 (k := 214) rfl, g_tb1 (k := 215) rfl, _, _, rfl⟩
theorem kV_X2_155 : gLV RX2 155 mX1_addMark 1 0 := ⟨ok_X1_addMark, na_X1_addMark, g_tb2 (k := 209) rfl, g_tb2 (k := 210) rfl, g_tb2 (k := 211) rfl, _, _, rfl⟩
theorem kV_X2_128 : gLV RX2 128 mX1_burnDown 0 0 := ⟨ok_X1_burnDown, na_X1_burnDown, g_tb2 (k := 159) rfl, g_tb2 (k := 160) rfl, g_tb2 (k := 161) rfl, _, _, rfl⟩
theorem kV_X2_131 : gLV RX2 131 mX2_takeStep 1 1 := ⟨ok_X2_takeStep, na_X2_takeStep, g_tb2 (k := 181) rfl, g_tb2 (k := 183) rfl, g_tbs (k := 4) rfl, _, _, rfl⟩
theorem kV_X2_134 : gLV RX2 134 mX2_hauntsOrFears 1 1 := ⟨ok_X2_hauntsOrFears, na_X2_hauntsOrFears, g_tb2 (k := 204) rfl, g_tb2 (k := 206) rfl, g_tbs (k := 5) rfl, _, _, rfl⟩
theorem kV_X5_44 : gLV RX5 44 mX1_switchWall 2 0 := ⟨ok_X1_switchWall, na_X1_switchWall, g_tb3 (k := 100) rfl, g_tb3 (k := 101) rfl, g_tb3 (k := 102) rfl, _, _, rfl⟩
theorem kV_X5_50 : gLV RX5 50 mX1_hasWall 2 0 := ⟨ok_X1_hasWall, na_X1_hasWall, g_tb2 (k := 41) rfl, g_tb2 (k := 42) rfl, g_tb2 (k := 43) rfl, _, _, rfl⟩
theorem kV_X5_82 : gLV RX5 82 mX1_thingIn 1 0 := ⟨ok_X1_thingIn, na_X1_thingIn, g_tb3 (k := 115) rfl, g_tb1 (k := 207) rfl, g_tb1 (k := 208) rfl, _, _, rfl⟩
theorem kV_X5_58 : gLV RX5 58 mX1_candleCount 0 0 := ⟨ok_X1_candleCount, na_X1_candleCount, g_tb3 (k := 110) rfl, g_tb2 (k := 68) rfl, g_tb2 (k := 69) rfl, _, _, rfl⟩
theorem kV_X5_62 : gLV RX5 62 mX5_checkRoomFor 3 4 := ⟨ok_X5_checkRoomFor, na_X5_checkRoomFor, g_tb3 (k := 111) rfl, g_tb3 (k := 113) rfl, g_tbs (k := 7) rfl, _, _, rfl⟩
theorem kV_X5_66 : gLV RX5 66 mX1_addCandle 2 0 := ⟨ok_X1_addCandle, na_X1_addCandle, g_tb3 (k := 117) rfl, g_tb3 (k := 118) rfl, g_tb3 (k := 119) rfl, _, _, rfl⟩
theorem kV_X5_69 : gLV RX5 69 mX1_mirrorCount 0 0 := ⟨ok_X1_mirrorCount, na_X1_mirrorCount, g_tb3 (k := 125) rfl, g_tb2 (k := 82) rfl, g_tb2 (k := 83) rfl, _, _, rfl⟩
theorem kV_X5_72 : gLV RX5 72 mX1_addMirror 2 0 := ⟨ok_X1_addMirror, na_X1_addMirror, g_tb3 (k := 126) rfl, g_tb3 (k := 127) rfl, g_tb3 (k := 128) rfl, _, _, rfl⟩
theorem kV_X5_76 : gLV RX5 76 mX1_tallyCount 0 0 := ⟨ok_X1_tallyCount, na_X1_tallyCount, g_tb3 (k := 60) rfl, g_tb2 (k := 86) rfl, g_tb2 (k := 87) rfl, _, _, rfl⟩
theorem kV_X5_79 : gLV RX5 79 mX1_addTally 1 0 := ⟨ok_X1_addTally, na_X1_addTally, g_tb3 (k := 134) rfl, g_tb3 (k := 135) rfl, g_tb3 (k := 136) rfl, _, _, rfl⟩
theorem kV_X5_88 : gLV RX5 88 mX1_clear 1 0 := ⟨ok_X1_clear, na_X1_clear, g_tb3 (k := 143) rfl, g_tb3 (k := 144) rfl, g_tb3 (k := 145) rfl, _, _, rfl⟩
theorem kV_X5_91 : gLV RX5 91 mX1_hasCandleWithWax 1 0 := ⟨ok_X1_hasCandleWithWax, na_X1_hasCandleWithWax, g_tb3 (k := 151) rfl, g_tb3 (k := 152) rfl, g_tb3 (k := 153) rfl, _, _, rfl⟩
theorem kV_X5_97 : gLV RX5 97 mX1_switchCandle 1 0 := ⟨ok_X1_switchCandle, na_X1_switchCandle, g_tb2 (k := 235) rfl, g_tb2 (k := 236) rfl, g_tb2 (k := 237) rfl, _, _, rfl⟩
theorem kV_X5_100 : gLV RX5 100 mX1_isBurning 1 0 := ⟨ok_X1_isBurning, na_X1_isBurning, g_tb3 (k := 156) rfl, g_tb1 (k := 226) rfl, g_tb1 (k := 227) rfl, _, _, rfl⟩
theorem kV_X5_111 : gLV RX5 111 mX2_addGhost 2 1 := ⟨ok_X2_addGhost, na_X2_addGhost, g_tb3 (k := 202) rfl, g_tb3 (k := 203) rfl, g_tb3 (k := 204) rfl, _, _, rfl⟩
theorem kV_X5_114 : gLV RX5 114 mX5_checkGhost 1 4 := ⟨ok_X5_checkGhost, na_X5_checkGhost, g_tb2 (k := 53) rfl, g_tb2 (k := 55) rfl, g_tbs (k := 1) rfl, _, _, rfl⟩
theorem kV_X5_117 : gLV RX5 117 mX2_setGoal 2 1 := ⟨ok_X2_setGoal, na_X2_setGoal, g_tb3 (k := 224) rfl, g_tb3 (k := 207) rfl, g_tb3 (k := 208) rfl, _, _, rfl⟩
theorem kV_X5_120 : gLV RX5 120 mX2_stepsTo 2 1 := ⟨ok_X2_stepsTo, na_X2_stepsTo, g_tb2 (k := 109) rfl, g_tb2 (k := 110) rfl, g_tb2 (k := 111) rfl, _, _, rfl⟩
theorem kV_X5_123 : gLV RX5 123 mX2_mayPass 1 1 := ⟨ok_X2_mayPass, na_X2_mayPass, g_tb3 (k := 214) rfl, g_tb2 (k := 114) rfl, g_tb2 (k := 115) rfl, _, _, rfl⟩
theorem kV_X5_128 : gLV RX5 128 mX2_setTrait 3 1 := ⟨ok_X2_setTrait, na_X2_setTrait, g_tb3 (k := 216) rfl, g_tb2 (k := 194) rfl, g_tb2 (k := 195) rfl, _, _, rfl⟩
theorem kV_X5_131 : gLV RX5 131 mX2_sumOfTrait 1 1 := ⟨ok_X2_sumOfTrait, na_X2_sumOfTrait, g_tb3 (k := 217) rfl, g_tb2 (k := 98) rfl, g_tb2 (k := 99) rfl, _, _, rfl⟩
theorem kV_X5_137 : gLV RX5 137 mX2_aboutCell 2 1 := ⟨ok_X2_aboutCell, na_X2_aboutCell, g_tb1 (k := 202) rfl, g_tb1 (k := 203) rfl, g_tb1 (k := 204) rfl, _, _, rfl⟩
theorem kV_X5_140 : gLV RX5 140 mX2_trait 2 1 := ⟨ok_X2_trait, na_X2_trait, g_tb2 (k := 58) rfl, g_tb2 (k := 2) rfl, g_tb2 (k := 3) rfl, _, _, rfl⟩
theorem kV_X5_143 : gLV RX5 143 mX2_aboutAll 1 1 := ⟨ok_X2_aboutAll, na_X2_aboutAll, g_tb2 (k := 63) rfl, g_tb2 (k := 64) rfl, g_tb2 (k := 65) rfl, _, _, rfl⟩
theorem kV_X5_156 : gLV RX5 156 mX2_nextDirection 1 1 := ⟨ok_X2_nextDirection, na_X2_nextDirection, g_tb2 (k := 133) rfl, g_tb2 (k := 134) rfl, g_tb2 (k := 135) rfl, _, _, rfl⟩
theorem kV_X5_162 : gLV RX5 162 mX2_passHour 0 1 := ⟨ok_X2_passHour, na_X2_passHour, g_tb2 (k := 155) rfl, g_tb2 (k := 156) rfl, g_tb2 (k := 157) rfl, _, _, rfl⟩
theorem kV_X5_182 : gLV RX5 182 mX2_copyFrom 1 1 := ⟨ok_X2_copyFrom, na_X2_copyFrom, g_tb2 (k := 221) rfl, g_tb2 (k := 222) rfl, g_tb2 (k := 223) rfl, _, _, rfl⟩
theorem kV_X5_165 : gLV RX5 165 mX5_hauntsAhead 2 4 := ⟨ok_X5_hauntsAhead, na_X5_hauntsAhead, g_tb2 (k := 217) rfl, g_tb2 (k := 219) rfl, g_tbs (k := 6) rfl, _, _, rfl⟩
theorem kV_X5_168 : gLV RX5 168 mX1_burningCount 0 0 := ⟨ok_X1_burningCount, na_X1_burningCount, g_tb2 (k := 239) rfl, g_tb2 (k := 78) rfl, g_tb2 (k := 79) rfl, _, _, rfl⟩
theorem kV_X5_171 : gLV RX5 171 mX1_litCount 0 0 := ⟨ok_X1_litCount, na_X1_litCount, g_tb3 (k := 0) rfl, g_tb2 (k := 94) rfl, g_tb2 (k := 95) rfl, _, _, rfl⟩
theorem kV_X5_174 : gLV RX5 174 mX2_ghostsAtGoals 0 1 := ⟨ok_X2_ghostsAtGoals, na_X2_ghostsAtGoals, g_tb3 (k := 1) rfl, g_tb3 (k := 2) rfl, g_tb3 (k := 3) rfl, _, _, rfl⟩
theorem kV_X5_189 : gLV RX5 189 mX1_sumOfMarks 0 0 := ⟨ok_X1_sumOfMarks, na_X1_sumOfMarks, g_tb3 (k := 61) rfl, g_tb2 (k := 102) rfl, g_tb2 (k := 103) rfl, _, _, rfl⟩
theorem kV_X7_60 : gLV RX7 60 mX7_shine 3 6 := ⟨ok_X7_shine, na_X7_shine, g_tb3 (k := 19) rfl, g_tb3 (k := 20) rfl, g_tb3 (k := 21) rfl, _, _, rfl⟩
theorem kV_X7_64 : gLV RX7 64 mX7_lit 0 6 := ⟨ok_X7_lit, na_X7_lit, g_tb3 (k := 13) rfl, g_tb3 (k := 14) rfl, g_tb3 (k := 15) rfl, _, _, rfl⟩
theorem kV_X7_84 : gLV RX7 84 mX7_way 6 6 := ⟨ok_X7_way, na_X7_way, g_tb3 (k := 32) rfl, g_tb3 (k := 33) rfl, g_tb3 (k := 34) rfl, _, _, rfl⟩
theorem kV_X7_94 : gLV RX7 94 mX7_next 1 6 := ⟨ok_X7_next, na_X7_next, g_tb3 (k := 9) rfl, g_tb3 (k := 10) rfl, g_tb3 (k := 11) rfl, _, _, rfl⟩
theorem kV_X7_104 : gLV RX7 104 mX5_cell 3 4 := ⟨ok_X5_cell, na_X5_cell, g_tb3 (k := 41) rfl, g_tb1 (k := 124) rfl, g_tb1 (k := 125) rfl, _, _, rfl⟩
theorem kV_X7_110 : gLV RX7 110 mX5_walled 3 4 := ⟨ok_X5_walled, na_X5_walled, g_tb3 (k := 42) rfl, g_tb2 (k := 7) rfl, g_tb2 (k := 8) rfl, _, _, rfl⟩
theorem kV_X7_114 : gLV RX7 114 mX5_ghost 2 4 := ⟨ok_X5_ghost, na_X5_ghost, g_tb3 (k := 43) rfl, g_tb2 (k := 50) rfl, g_tb2 (k := 51) rfl, _, _, rfl⟩
theorem kV_X7_118 : gLV RX7 118 mX7_things 1 6 := ⟨ok_X7_things, na_X7_things, g_tb3 (k := 44) rfl, g_tb3 (k := 45) rfl, g_tb3 (k := 46) rfl, _, _, rfl⟩
theorem kV_X7_121 : gLV RX7 121 mX7_burning 0 6 := ⟨ok_X7_burning, na_X7_burning, g_tb3 (k := 48) rfl, g_tb3 (k := 49) rfl, g_tb3 (k := 50) rfl, _, _, rfl⟩
theorem kV_X7_129 : gLV RX7 129 mX5_count 1 4 := ⟨ok_X5_count, na_X5_count, g_tb3 (k := 55) rfl, g_tb2 (k := 60) rfl, g_tb2 (k := 61) rfl, _, _, rfl⟩
theorem kV_X7_132 : gLV RX7 132 mX5_mean 0 4 := ⟨ok_X5_mean, na_X5_mean, g_tb3 (k := 56) rfl, g_tb3 (k := 57) rfl, g_tb3 (k := 58) rfl, _, _, rfl⟩
theorem kV_L_36 : gLV RL 36 mX7_turnWall 3 6 := ⟨ok_X7_turnWall, na_X7_turnWall, g_tb3 (k := 76) rfl, g_tb3 (k := 77) rfl, g_tb3 (k := 78) rfl, _, _, rfl⟩
theorem kV_L_40 : gLV RL 40 mX5_wall 3 4 := ⟨ok_X5_wall, na_X5_wall, g_tb3 (k := 80) rfl, g_tb3 (k := 81) rfl, g_tb3 (k := 82) rfl, _, _, rfl⟩
theorem kV_L_50 : gLV RL 50 mX7_things 1 6 := ⟨ok_X7_things, na_X7_things, g_tb3 (k := 104) rfl, g_tb3 (k := 45) rfl, g_tb3 (k := 46) rfl, _, _, rfl⟩
theorem kV_L_60 : gLV RL 60 mX5_candle 3 4 := ⟨ok_X5_candle, na_X5_candle, g_tb3 (k := 105) rfl, g_tb3 (k := 106) rfl, g_tb3 (k := 107) rfl, _, _, rfl⟩
theorem kV_L_64 : gLV RL 64 mX5_mirror 3 4 := ⟨ok_X5_mirror, na_X5_mirror, g_tb3 (k := 121) rfl, g_tb3 (k := 122) rfl, g_tb3 (k := 123) rfl, _, _, rfl⟩
theorem kV_L_68 : gLV RL 68 mX5_tally 2 4 := ⟨ok_X5_tally, na_X5_tally, g_tb3 (k := 130) rfl, g_tb3 (k := 131) rfl, g_tb3 (k := 132) rfl, _, _, rfl⟩
theorem kV_L_71 : gLV RL 71 mX5_remove 2 4 := ⟨ok_X5_remove, na_X5_remove, g_tb3 (k := 138) rfl, g_tb3 (k := 139) rfl, g_tb3 (k := 140) rfl, _, _, rfl⟩
theorem kV_L_74 : gLV RL 74 mX5_light 2 4 := ⟨ok_X5_light, na_X5_light, g_tb3 (k := 147) rfl, g_tb3 (k := 148) rfl, g_tb3 (k := 149) rfl, _, _, rfl⟩
theorem kV_L_96 : gLV RL 96 mX5_come 3 4 := ⟨ok_X5_come, na_X5_come, g_tb3 (k := 196) rfl, g_tb3 (k := 197) rfl, g_tb3 (k := 198) rfl, _, _, rfl⟩
theorem kV_L_103 : gLV RL 103 mX5_rite 1 4 := ⟨ok_X5_rite, na_X5_rite, g_tb3 (k := 210) rfl, g_tb3 (k := 211) rfl, g_tb3 (k := 212) rfl, _, _, rfl⟩
theorem kV_L_106 : gLV RL 106 mX7_lit 0 6 := ⟨ok_X7_lit, na_X7_lit, g_tb3 (k := 218) rfl, g_tb3 (k := 14) rfl, g_tb3 (k := 15) rfl, _, _, rfl⟩
theorem kV_L_110 : gLV RL 110 mX7_way 6 6 := ⟨ok_X7_way, na_X7_way, g_tb3 (k := 219) rfl, g_tb3 (k := 33) rfl, g_tb3 (k := 34) rfl, _, _, rfl⟩
theorem kV_L_114 : gLV RL 114 mX5_send 3 4 := ⟨ok_X5_send, na_X5_send, g_tb3 (k := 220) rfl, g_tb3 (k := 221) rfl, g_tb3 (k := 222) rfl, _, _, rfl⟩
theorem kV_L_131 : gLV RL 131 mX5_count 1 4 := ⟨ok_X5_count, na_X5_count, g_tb2 (k := 59) rfl, g_tb2 (k := 60) rfl, g_tb2 (k := 61) rfl, _, _, rfl⟩
theorem kV_L_135 : gLV RL 135 mX5_ghost 2 4 := ⟨ok_X5_ghost, na_X5_ghost, g_tb2 (k := 49) rfl, g_tb2 (k := 50) rfl, g_tb2 (k := 51) rfl, _, _, rfl⟩
theorem kV_L_138 : gLV RL 138 mX5_way 3 4 := ⟨ok_X5_way, na_X5_way, g_tb2 (k := 105) rfl, g_tb2 (k := 106) rfl, g_tb2 (k := 107) rfl, _, _, rfl⟩
theorem kV_L_140 : gLV RL 140 mX5_next 1 4 := ⟨ok_X5_next, na_X5_next, g_tb2 (k := 129) rfl, g_tb2 (k := 130) rfl, g_tb2 (k := 131) rfl, _, _, rfl⟩
theorem kV_L_143 : gLV RL 143 mX5_walled 3 4 := ⟨ok_X5_walled, na_X5_walled, g_tb2 (k := 6) rfl, g_tb2 (k := 7) rfl, g_tb2 (k := 8) rfl, _, _, rfl⟩
theorem kV_L_146 : gLV RL 146 mX5_cell 3 4 := ⟨ok_X5_cell, na_X5_cell, g_tb1 (k := 123) rfl, g_tb1 (k := 124) rfl, g_tb1 (k := 125) rfl, _, _, rfl⟩
theorem kV_L_148 : gLV RL 148 mX5_foresee 2 4 := ⟨ok_X5_foresee, na_X5_foresee, g_tb2 (k := 213) rfl, g_tb2 (k := 214) rfl, g_tb2 (k := 215) rfl, _, _, rfl⟩
theorem kV_L_151 : gLV RL 151 mX5_pass 1 4 := ⟨ok_X5_pass, na_X5_pass, g_tb2 (k := 147) rfl, g_tb2 (k := 148) rfl, g_tb2 (k := 149) rfl, _, _, rfl⟩
theorem kV_L_154 : gLV RL 154 mX7_pass 0 6 := ⟨ok_X7_pass, na_X7_pass, g_tb3 (k := 5) rfl, g_tb3 (k := 6) rfl, g_tb3 (k := 7) rfl, _, _, rfl⟩
theorem kV_L_162 : gLV RL 162 mX7_isSame 1 6 := ⟨ok_X7_isSame, na_X7_isSame, g_tb3 (k := 37) rfl, g_tb3 (k := 38) rfl, g_tb3 (k := 39) rfl, _, _, rfl⟩
theorem kS_X0_17 : gLS RX0 17 mX0_only 1 := ⟨ok_X0_only, na_X0_only, g_tb2 (k := 32) rfl, g_tb2 (k := 33) rfl⟩
theorem kS_X0_21 : gLS RX0 21 mX0_moved 2 := ⟨ok_X0_moved, na_X0_moved, g_tb2 (k := 35) rfl, g_tb2 (k := 36) rfl⟩
theorem kS_X1_49 : gLS RX1 49 mJ13_bitCount_95d88 1 := ⟨ok_J13_bitCount_95d88, na_J13_bitCount_95d88, g_tb2 (k := 71) rfl, g_tb2 (k := 72) rfl⟩
theorem kS_X1_63 : gLS RX1 63 mX0_holds 2 := ⟨ok_X0_holds, na_X0_holds, g_tb1 (k := 210) rfl, g_tb1 (k := 211) rfl⟩
theorem kS_X1_69 : gLS RX1 69 mX0_only 1 := ⟨ok_X0_only, na_X0_only, g_tb2 (k := 168) rfl, g_tb2 (k := 33) rfl⟩
theorem kS_X1_85 : gLS RX1 85 mX0_moved 2 := ⟨ok_X0_moved, na_X0_moved, g_tb2 (k := 128) rfl, g_tb2 (k := 36) rfl⟩
theorem kS_X4_9 : gLS RX4 9 mX0_only 1 := ⟨ok_X0_only, na_X0_only, g_tb2 (k := 121) rfl, g_tb2 (k := 33) rfl⟩
theorem kS_X4_45 : gLS RX4 45 mX0_moved 2 := ⟨ok_X0_moved, na_X0_moved, g_tb2 (k := 146) rfl, g_tb2 (k := 36) rfl⟩
theorem kS_X2_140 : gLS RX2 140 mX0_neighbour 2 := ⟨ok_X0_neighbour, na_X0_neighbour, g_tb2 (k := 186) rfl, g_tb2 (k := 187) rfl⟩
theorem kS_X5_19 : gLS RX5 19 mX5_checkedCell 2 := ⟨ok_X5_checkedCell, na_X5_checkedCell, g_tb1 (k := 127) rfl, g_tb1 (k := 128) rfl⟩
theorem kS_X5_23 : gLS RX5 23 mX5_checkDirection 1 := ⟨ok_X5_checkDirection, na_X5_checkDirection, g_tb2 (k := 10) rfl, g_tb2 (k := 11) rfl⟩
theorem kS_X5_27 : gLS RX5 27 mX0_isRim 2 := ⟨ok_X0_isRim, na_X0_isRim, g_tb2 (k := 29) rfl, g_tb2 (k := 30) rfl⟩
theorem kS_X5_134 : gLS RX5 134 mX5_checkWhat 2 := ⟨ok_X5_checkWhat, na_X5_checkWhat, g_tb1 (k := 198) rfl, g_tb1 (k := 199) rfl⟩
theorem kS_X5_159 : gLS RX5 159 mX5_checkHours 2 := ⟨ok_X5_checkHours, na_X5_checkHours, g_tb2 (k := 151) rfl, g_tb2 (k := 152) rfl⟩
theorem kS_X7_49 : gLS RX7 49 mX7_goX 1 := ⟨ok_X7_goX, na_X7_goX, g_tb3 (k := 23) rfl, g_tb3 (k := 24) rfl⟩
theorem kS_X7_53 : gLS RX7 53 mX7_goY 1 := ⟨ok_X7_goY, na_X7_goY, g_tb3 (k := 26) rfl, g_tb3 (k := 27) rfl⟩
theorem kS_X7_56 : gLS RX7 56 mX7_isIn 2 := ⟨ok_X7_isIn, na_X7_isIn, g_tb3 (k := 29) rfl, g_tb3 (k := 30) rfl⟩
theorem kS_X7_125 : gLS RX7 125 mX7_many 1 := ⟨ok_X7_many, na_X7_many, g_tb3 (k := 52) rfl, g_tb3 (k := 53) rfl⟩
theorem kS_L_9 : gLS RL 9 mL_below 2 := ⟨ok_L_below, na_L_below, g_tb3 (k := 69) rfl, g_tb3 (k := 70) rfl⟩
theorem kS_L_25 : gLS RL 25 mX7_goX 1 := ⟨ok_X7_goX, na_X7_goX, g_tb3 (k := 73) rfl, g_tb3 (k := 24) rfl⟩
theorem kS_L_29 : gLS RL 29 mX7_goY 1 := ⟨ok_X7_goY, na_X7_goY, g_tb3 (k := 74) rfl, g_tb3 (k := 27) rfl⟩
theorem kS_L_32 : gLS RL 32 mX7_isIn 2 := ⟨ok_X7_isIn, na_X7_isIn, g_tb3 (k := 75) rfl, g_tb3 (k := 30) rfl⟩
theorem kS_L_118 : gLS RL 118 mL_cell 2 := ⟨ok_L_cell, na_L_cell, g_tb3 (k := 62) rfl, g_tb3 (k := 63) rfl⟩
theorem kS_L_122 : gLS RL 122 mL_act 3 := ⟨ok_L_act, na_L_act, g_tb3 (k := 66) rfl, g_tb3 (k := 67) rfl⟩
theorem kS_L_127 : gLS RL 127 mL_build 2 := ⟨ok_L_build, na_L_build, g_tb3 (k := 225) rfl, g_tb3 (k := 226) rfl⟩
theorem kI_X1_11 : gLI RX1 11 mX3_init 1 := ⟨ok_X3_init, na_X3_init, rfl, rfl, g_tb1 (k := 40) rfl, Or.inl (g_tb1 (k := 39) rfl)⟩
theorem kI_X2_27 : gLI RX2 27 mX3_init 1 := ⟨ok_X3_init, na_X3_init, rfl, rfl, g_tb1 (k := 40) rfl, Or.inl (g_tb1 (k := 97) rfl)⟩
theorem kI_L_126 : gLI RL 126 mX5_init 0 := ⟨ok_X5_init, na_X5_init, rfl, rfl, g_tb1 (k := 20) rfl, Or.inl (g_tb1 (k := 19) rfl)⟩
theorem kI_X5_9 : gLI RX5 9 mX2_init 0 := ⟨ok_X2_init, na_X2_init, rfl, rfl, g_tb1 (k := 28) rfl, Or.inr ⟨"GhostCandles", g_tb1 (k := 27) rfl⟩⟩
theorem kI_X2_11 : gLI RX2 11 mX1_init 0 := ⟨ok_X1_init, na_X1_init, rfl, rfl, g_tb1 (k := 34) rfl, Or.inr ⟨"GhostCandles", g_tb1 (k := 33) rfl⟩⟩
theorem kI_X2_20 : gLI RX2 20 mX4_init 0 := ⟨ok_X4_init, na_X4_init, rfl, rfl, g_tb1 (k := 80) rfl, Or.inr ⟨"GhostCandles", g_tb1 (k := 79) rfl⟩⟩
theorem kI_L_79 : gLI RL 79 mX6_init 0 := ⟨ok_X6_init, na_X6_init, rfl, rfl, g_tb3 (k := 161) rfl, Or.inr ⟨"GhostCandlesLaw", g_tb3 (k := 160) rfl⟩⟩
theorem kI_L_117 : gLI RL 117 mX7_init 0 := ⟨ok_X7_init, na_X7_init, rfl, rfl, g_tb3 (k := 231) rfl, Or.inr ⟨"GhostCandlesLaw", g_tb3 (k := 230) rfl⟩⟩
theorem kF_X3_7 : gFL RX3 7 2 0 (.array .int) true := ⟨_, _, _, rfl, Nat.le_of_ble_eq_true rfl, by decide +kernel, rfl, rfl, Or.inl (g_tb1 (k := 43) rfl)⟩
theorem kF_X1_14 : gFL RX1 14 0 8 (.object "GhostCandles$Row") true := ⟨_, _, _, rfl, Nat.le_of_ble_eq_true rfl, by decide +kernel, rfl, rfl, Or.inl (g_tb1 (k := 57) rfl)⟩
theorem kF_X1_20 : gFL RX1 20 0 0 (.long) false := ⟨_, _, _, rfl, Nat.le_of_ble_eq_true rfl, by decide +kernel, rfl, rfl, Or.inl (g_tb1 (k := 48) rfl)⟩
theorem kF_X1_24 : gFL RX1 24 0 1 (.long) false := ⟨_, _, _, rfl, Nat.le_of_ble_eq_true rfl, by decide +kernel, rfl, rfl, Or.inl (g_tb1 (k := 49) rfl)⟩
theorem kF_X1_27 : gFL RX1 27 0 2 (.long) false := ⟨_, _, _, rfl, Nat.le_of_ble_eq_true rfl, by decide +kernel, rfl, rfl, Or.inl (g_tb1 (k := 50) rfl)⟩
theorem kF_X1_30 : gFL RX1 30 0 3 (.long) false := ⟨_, _, _, rfl, Nat.le_of_ble_eq_true rfl, by decide +kernel, rfl, rfl, Or.inl (g_tb1 (k := 51) rfl)⟩
theorem kF_X1_33 : gFL RX1 33 0 4 (.long) false := ⟨_, _, _, rfl, Nat.le_of_ble_eq_true rfl, by decide +kernel, rfl, rfl, Or.inl (g_tb1 (k := 52) rfl)⟩
theorem kF_X1_36 : gFL RX1 36 0 5 (.long) false := ⟨_, _, _, rfl, Nat.le_of_ble_eq_true rfl, by decide +kernel, rfl, rfl, Or.inl (g_tb1 (k := 53) rfl)⟩
theorem kF_X1_39 : gFL RX1 39 0 6 (.long) false := ⟨_, _, _, rfl, Nat.le_of_ble_eq_true rfl, by decide +kernel, rfl, rfl, Or.inl (g_tb1 (k := 54) rfl)⟩
theorem kF_X1_42 : gFL RX1 42 0 7 (.long) false := ⟨_, _, _, rfl, Nat.le_of_ble_eq_true rfl, by decide +kernel, rfl, rfl, Or.inl (g_tb1 (k := 56) rfl)⟩
theorem kF_X2_12 : gFL RX2 12 1 0 (.object "GhostCandles$House") true := ⟨_, _, _, rfl, Nat.le_of_ble_eq_true rfl, by decide +kernel, rfl, rfl, Or.inl (g_tb1 (k := 98) rfl)⟩
theorem kF_X2_21 : gFL RX2 21 1 1 (.object "GhostCandles$Ways") true := ⟨_, _, _, rfl, Nat.le_of_ble_eq_true rfl, by decide +kernel, rfl, rfl, Or.inl (g_tb1 (k := 100) rfl)⟩
theorem kF_X2_30 : gFL RX2 30 1 2 (.object "GhostCandles$Row") true := ⟨_, _, _, rfl, Nat.le_of_ble_eq_true rfl, by decide +kernel, rfl, rfl, Or.inl (g_tb1 (k := 101) rfl)⟩
theorem kF_X2_41 : gFL RX2 41 1 3 (.int) false := ⟨_, _, _, rfl, Nat.le_of_ble_eq_true rfl, by decide +kernel, rfl, rfl, Or.inl (g_tb1 (k := 102) rfl)⟩
theorem kF_X2_45 : gFL RX2 45 1 4 (.int) false := ⟨_, _, _, rfl, Nat.le_of_ble_eq_true rfl, by decide +kernel, rfl, rfl, Or.inl (g_tb1 (k := 104) rfl)⟩
theorem kF_X4_15 : gFL RX4 15 3 0 (.long) false := ⟨_, _, _, rfl, Nat.le_of_ble_eq_true rfl, by decide +kernel, rfl, rfl, Or.inl (g_tb1 (k := 83) rfl)⟩
theorem kF_X4_21 : gFL RX4 21 3 1 (.boolean) false := ⟨_, _, _, rfl, Nat.le_of_ble_eq_true rfl, by decide +kernel, rfl, rfl, Or.inl (g_tb1 (k := 84) rfl)⟩
theorem kF_X4_32 : gFL RX4 32 3 2 (.long) false := ⟨_, _, _, rfl, Nat.le_of_ble_eq_true rfl, by decide +kernel, rfl, rfl, Or.inl (g_tb1 (k := 85) rfl)⟩
theorem kF_X4_35 : gFL RX4 35 3 3 (.long) false := ⟨_, _, _, rfl, Nat.le_of_ble_eq_true rfl, by decide +kernel, rfl, rfl, Or.inl (g_tb1 (k := 86) rfl)⟩
theorem kF_X5_10 : gFL RX5 10 4 0 (.object "GhostCandles$Night") true := ⟨_, _, _, rfl, Nat.le_of_ble_eq_true rfl, by decide +kernel, rfl, rfl, Or.inl (g_tb1 (k := 116) rfl)⟩
theorem kF_X5_16 : gFL RX5 16 4 1 (.object "GhostCandles$Night") true := ⟨_, _, _, rfl, Nat.le_of_ble_eq_true rfl, by decide +kernel, rfl, rfl, Or.inl (g_tb1 (k := 117) rfl)⟩
theorem kF_X6_7 : gFL RX6 7 5 5 (.boolean) false := ⟨_, _, _, rfl, Nat.le_of_ble_eq_true rfl, by decide +kernel, rfl, rfl, Or.inl (g_tb3 (k := 174) rfl)⟩
theorem kF_X7_9 : gFL RX7 9 6 0 (.array (.array (.array .boolean))) false := ⟨_, _, _, rfl, Nat.le_of_ble_eq_true rfl, by decide +kernel, rfl, rfl, Or.inl (g_tb3 (k := 239) rfl)⟩
theorem kF_X7_16 : gFL RX7 16 6 1 (.array (.array .int)) false := ⟨_, _, _, rfl, Nat.le_of_ble_eq_true rfl, by decide +kernel, rfl, rfl, Or.inl (g_tb4 (k := 1) rfl)⟩
theorem kF_X7_19 : gFL RX7 19 6 2 (.array (.array .int)) false := ⟨_, _, _, rfl, Nat.le_of_ble_eq_true rfl, by decide +kernel, rfl, rfl, Or.inl (g_tb4 (k := 3) rfl)⟩
theorem kF_X7_24 : gFL RX7 24 6 3 (.array (.array .boolean)) false := ⟨_, _, _, rfl, Nat.le_of_ble_eq_true rfl, by decide +kernel, rfl, rfl, Or.inl (g_tb4 (k := 5) rfl)⟩
theorem kF_X7_29 : gFL RX7 29 6 4 (.array (.object "GhostCandlesLaw$Ghost")) false := ⟨_, _, _, rfl, Nat.le_of_ble_eq_true rfl, by decide +kernel, rfl, rfl, Or.inl (g_tb4 (k := 7) rfl)⟩
theorem kF_X7_33 : gFL RX7 33 6 7 (.array .int) false := ⟨_, _, _, rfl, Nat.le_of_ble_eq_true rfl, by decide +kernel, rfl, rfl, Or.inl (g_tb4 (k := 11) rfl)⟩
theorem kF_X7_37 : gFL RX7 37 6 8 (.array .int) false := ⟨_, _, _, rfl, Nat.le_of_ble_eq_true rfl, by decide +kernel, rfl, rfl, Or.inl (g_tb4 (k := 12) rfl)⟩
theorem kF_X7_68 : gFL RX7 68 5 0 (.int) false := ⟨_, _, _, rfl, Nat.le_of_ble_eq_true rfl, by decide +kernel, rfl, rfl, Or.inl (g_tb3 (k := 165) rfl)⟩
theorem kF_X7_71 : gFL RX7 71 5 1 (.int) false := ⟨_, _, _, rfl, Nat.le_of_ble_eq_true rfl, by decide +kernel, rfl, rfl, Or.inl (g_tb3 (k := 167) rfl)⟩
theorem kF_X7_74 : gFL RX7 74 5 5 (.boolean) false := ⟨_, _, _, rfl, Nat.le_of_ble_eq_true rfl, by decide +kernel, rfl, rfl, Or.inl (g_tb3 (k := 176) rfl)⟩
theorem kF_X7_78 : gFL RX7 78 5 3 (.int) false := ⟨_, _, _, rfl, Nat.le_of_ble_eq_true rfl, by decide +kernel, rfl, rfl, Or.inl (g_tb3 (k := 171) rfl)⟩
theorem kF_X7_81 : gFL RX7 81 5 4 (.int) false := ⟨_, _, _, rfl, Nat.le_of_ble_eq_true rfl, by decide +kernel, rfl, rfl, Or.inl (g_tb3 (k := 173) rfl)⟩
theorem kF_X7_88 : gFL RX7 88 6 6 (.int) false := ⟨_, _, _, rfl, Nat.le_of_ble_eq_true rfl, by decide +kernel, rfl, rfl, Or.inl (g_tb4 (k := 10) rfl)⟩
theorem kF_X7_91 : gFL RX7 91 5 2 (.int) false := ⟨_, _, _, rfl, Nat.le_of_ble_eq_true rfl, by decide +kernel, rfl, rfl, Or.inl (g_tb3 (k := 169) rfl)⟩
theorem kF_X7_98 : gFL RX7 98 5 7 (.int) false := ⟨_, _, _, rfl, Nat.le_of_ble_eq_true rfl, by decide +kernel, rfl, rfl, Or.inl (g_tb3 (k := 178) rfl)⟩
theorem kF_X7_101 : gFL RX7 101 5 6 (.int) false := ⟨_, _, _, rfl, Nat.le_of_ble_eq_true rfl, by decide +kernel, rfl, rfl, Or.inl (g_tb3 (k := 177) rfl)⟩
theorem kF_X7_45 : gFL RX7 45 6 5 (.int) false := ⟨_, _, _, rfl, Nat.le_of_ble_eq_true rfl, by decide +kernel, rfl, rfl, Or.inl (g_tb4 (k := 9) rfl)⟩
theorem kF_L_15 : gFL RL 15 6 4 (.array (.object "GhostCandlesLaw$Ghost")) false := ⟨_, _, _, rfl, Nat.le_of_ble_eq_true rfl, by decide +kernel, rfl, rfl, Or.inl (g_tb4 (k := 8) rfl)⟩
theorem kF_L_21 : gFL RL 21 6 1 (.array (.array .int)) false := ⟨_, _, _, rfl, Nat.le_of_ble_eq_true rfl, by decide +kernel, rfl, rfl, Or.inl (g_tb4 (k := 2) rfl)⟩
theorem kF_L_46 : gFL RL 46 6 0 (.array (.array (.array .boolean))) false := ⟨_, _, _, rfl, Nat.le_of_ble_eq_true rfl, by decide +kernel, rfl, rfl, Or.inl (g_tb4 (k := 0) rfl)⟩
theorem kF_L_53 : gFL RL 53 6 2 (.array (.array .int)) false := ⟨_, _, _, rfl, Nat.le_of_ble_eq_true rfl, by decide +kernel, rfl, rfl, Or.inl (g_tb4 (k := 4) rfl)⟩
theorem kF_L_56 : gFL RL 56 6 3 (.array (.array .boolean)) false := ⟨_, _, _, rfl, Nat.le_of_ble_eq_true rfl, by decide +kernel, rfl, rfl, Or.inl (g_tb4 (k := 6) rfl)⟩
theorem kF_L_80 : gFL RL 80 5 0 (.int) false := ⟨_, _, _, rfl, Nat.le_of_ble_eq_true rfl, by decide +kernel, rfl, rfl, Or.inl (g_tb3 (k := 164) rfl)⟩
theorem kF_L_84 : gFL RL 84 5 1 (.int) false := ⟨_, _, _, rfl, Nat.le_of_ble_eq_true rfl, by decide +kernel, rfl, rfl, Or.inl (g_tb3 (k := 166) rfl)⟩
theorem kF_L_87 : gFL RL 87 5 3 (.int) false := ⟨_, _, _, rfl, Nat.le_of_ble_eq_true rfl, by decide +kernel, rfl, rfl, Or.inl (g_tb3 (k := 170) rfl)⟩
theorem kF_L_90 : gFL RL 90 5 4 (.int) false := ⟨_, _, _, rfl, Nat.le_of_ble_eq_true rfl, by decide +kernel, rfl, rfl, Or.inl (g_tb3 (k := 172) rfl)⟩
theorem kF_L_93 : gFL RL 93 5 2 (.int) false := ⟨_, _, _, rfl, Nat.le_of_ble_eq_true rfl, by decide +kernel, rfl, rfl, Or.inl (g_tb3 (k := 168) rfl)⟩
theorem kF_L_99 : gFL RL 99 5 5 (.boolean) false := ⟨_, _, _, rfl, Nat.le_of_ble_eq_true rfl, by decide +kernel, rfl, rfl, Or.inl (g_tb3 (k := 175) rfl)⟩
theorem kF_X4_25 : gFL RX4 25 0 7 (.long) false := ⟨_, _, _, rfl, Nat.le_of_ble_eq_true rfl, by decide +kernel, rfl, rfl, Or.inr ⟨"GhostCandles", g_tb1 (k := 55) rfl⟩⟩
theorem kF_X5_40 : gFL RX5 40 1 0 (.object "GhostCandles$House") true := ⟨_, _, _, rfl, Nat.le_of_ble_eq_true rfl, by decide +kernel, rfl, rfl, Or.inr ⟨"GhostCandles", g_tb1 (k := 99) rfl⟩⟩
theorem kF_X5_105 : gFL RX5 105 1 3 (.int) false := ⟨_, _, _, rfl, Nat.le_of_ble_eq_true rfl, by decide +kernel, rfl, rfl, Or.inr ⟨"GhostCandles", g_tb1 (k := 103) rfl⟩⟩
theorem kC_J13_314 : Jvm.Cond.constantLong RJ13 314 (6148914691236517205) ∈ lw_tbl := g_tb2 (k := 74) rfl
theorem kC_J13_316 : Jvm.Cond.constantLong RJ13 316 (3689348814741910323) ∈ lw_tbl := g_tb2 (k := 75) rfl
theorem kC_J13_318 : Jvm.Cond.constantLong RJ13 318 (1085102592571150095) ∈ lw_tbl := g_tb2 (k := 76) rfl
theorem kC_X0_11 : Jvm.Cond.constantLong RX0 11 (-4620710844295151873) ∈ lw_tbl := g_tb2 (k := 38) rfl
theorem kC_X0_13 : Jvm.Cond.constantLong RX0 13 (9223372036854775807) ∈ lw_tbl := g_tb2 (k := 39) rfl
theorem kC_X0_15 : Jvm.Cond.constantLong RX0 15 (-18049651735527938) ∈ lw_tbl := g_tb2 (k := 40) rfl
theorem kC_X1_80 : Jvm.Cond.constantLong RX1 80 (-1) ∈ lw_tbl := g_tb2 (k := 127) rfl
theorem kC_X4_30 : Jvm.Cond.constantLong RX4 30 (-1) ∈ lw_tbl := g_tb2 (k := 122) rfl
theorem kN_L_16 : Jvm.Cond.classLink RL 16 RX7 ∈ lw_tbl := g_tb3 (k := 228) rfl
theorem kN_L_41 : Jvm.Cond.classLink RL 41 RX5 ∈ lw_tbl := g_tb1 (k := 17) rfl
theorem kN_L_77 : Jvm.Cond.classLink RL 77 RX6 ∈ lw_tbl := g_tb3 (k := 157) rfl
theorem kN_X1_9 : Jvm.Cond.classLink RX1 9 RX3 ∈ lw_tbl := g_tb1 (k := 37) rfl
theorem kN_X2_9 : Jvm.Cond.classLink RX2 9 RX1 ∈ lw_tbl := g_tb1 (k := 31) rfl
theorem kN_X2_18 : Jvm.Cond.classLink RX2 18 RX4 ∈ lw_tbl := g_tb1 (k := 77) rfl
theorem kN_X2_25 : Jvm.Cond.classLink RX2 25 RX3 ∈ lw_tbl := g_tb1 (k := 96) rfl
theorem kN_X5_7 : Jvm.Cond.classLink RX5 7 RX2 ∈ lw_tbl := g_tb1 (k := 25) rfl
theorem kN_X7_27 : Jvm.Cond.classLink RX7 27 RX6 ∈ lw_tbl := g_tb3 (k := 238) rfl
theorem kMk_X1 : Jvm.Cond.instantiable RX1 9 ∈ lw_tbl ∧ Jvm.Cond.initialized RX1 ∈ lw_tbl := ⟨g_tb1 (k := 32) rfl, g_tb1 (k := 3) rfl⟩
theorem kMk_X2 : Jvm.Cond.instantiable RX2 5 ∈ lw_tbl ∧ Jvm.Cond.initialized RX2 ∈ lw_tbl := ⟨g_tb1 (k := 26) rfl, g_tb1 (k := 2) rfl⟩
theorem kMk_X3 : Jvm.Cond.instantiable RX3 1 ∈ lw_tbl ∧ Jvm.Cond.initialized RX3 ∈ lw_tbl := ⟨g_tb1 (k := 38) rfl, g_tb1 (k := 4) rfl⟩
theorem kMk_X4 : Jvm.Cond.instantiable RX4 4 ∈ lw_tbl ∧ Jvm.Cond.initialized RX4 ∈ lw_tbl := ⟨g_tb1 (k := 78) rfl, g_tb1 (k := 5) rfl⟩
theorem kMk_X5 : Jvm.Cond.instantiable RX5 2 ∈ lw_tbl ∧ Jvm.Cond.initialized RX5 ∈ lw_tbl := ⟨g_tb1 (k := 18) rfl, g_tb1 (k := 1) rfl⟩
theorem kMk_X6 : Jvm.Cond.instantiable RX6 8 ∈ lw_tbl ∧ Jvm.Cond.initialized RX6 ∈ lw_tbl := ⟨g_tb3 (k := 159) rfl, g_tb1 (k := 15) rfl⟩
theorem kMk_X7 : Jvm.Cond.instantiable RX7 9 ∈ lw_tbl ∧ Jvm.Cond.initialized RX7 ∈ lw_tbl := ⟨g_tb3 (k := 229) rfl, g_tb1 (k := 6) rfl⟩
theorem kO_X1_3 : Jvm.Cond.methodLink RX1 3 objectInit ∈ lw_tbl := g_tb1 (k := 36) rfl
theorem kO_X2_3 : Jvm.Cond.methodLink RX2 3 objectInit ∈ lw_tbl := g_tb1 (k := 30) rfl
theorem kO_X3_1 : Jvm.Cond.methodLink RX3 1 objectInit ∈ lw_tbl := g_tb1 (k := 42) rfl
theorem kO_X4_3 : Jvm.Cond.methodLink RX4 3 objectInit ∈ lw_tbl := g_tb1 (k := 82) rfl
theorem kO_X5_1 : Jvm.Cond.methodLink RX5 1 objectInit ∈ lw_tbl := g_tb1 (k := 22) rfl
theorem kO_X6_1 : Jvm.Cond.methodLink RX6 1 objectInit ∈ lw_tbl := g_tb3 (k := 163) rfl
theorem kO_X7_1 : Jvm.Cond.methodLink RX7 1 objectInit ∈ lw_tbl := g_tb3 (k := 233) rfl
set_option maxRecDepth 100000 in
theorem kX_S_37 : ∀ w ∈ vx_atS RX5 37 "java/lang/IllegalStateException" gNames, w ∈ lw_tbl := by decide +kernel
set_option maxRecDepth 100000 in
theorem kY_S_37 : ∀ w ∈ vx_atS RX5 37 "java/lang/IllegalStateException" gNames, (goodWord w = true ∨ gNwK w = true) ∧ vx_ot w = true := by decide +kernel
theorem kT_X5_wall_20 : gTN mX5_wall 20 33 "java/lang/IllegalStateException" := ⟨35, 37, "there is no such neighbour", by decide +kernel, rfl, dX5_wall_23, dX5_wall_24, dX5_wall_26, dX5_wall_29, g_tb3 (k := 84) rfl, g_tb1 (k := 13) rfl, g_tb3 (k := 93) rfl, fun w hw => ⟨kX_S_37 w hw, (kY_S_37 w hw).1, (kY_S_37 w hw).2⟩, by decide +kernel⟩
set_option maxRecDepth 100000 in
theorem kX_A_57 : ∀ w ∈ vx_atS RX5 57 "java/lang/IllegalArgumentException" gNames, w ∈ lw_tbl := by decide +kernel
set_option maxRecDepth 100000 in
theorem kY_A_57 : ∀ w ∈ vx_atS RX5 57 "java/lang/IllegalArgumentException" gNames, (goodWord w = true ∨ gNwK w = true) ∧ vx_ot w = true := by decide +kernel
theorem kT_X5_candle_18 : gTN mX5_candle 18 53 "java/lang/IllegalArgumentException" := ⟨55, 57, "wax is not 1 to 60", by decide +kernel, rfl, dX5_candle_21, dX5_candle_22, dX5_candle_24, dX5_candle_27, g_tb2 (k := 13) rfl, g_tb1 (k := 11) rfl, g_tb3 (k := 109) rfl, fun w hw => ⟨kX_A_57 w hw, (kY_A_57 w hw).1, (kY_A_57 w hw).2⟩, by decide +kernel⟩
theorem kT_X5_remove_24 : gTN mX5_remove 24 33 "java/lang/IllegalStateException" := ⟨86, 37, "the cell has no thing", by decide +kernel, rfl, dX5_remove_27, dX5_remove_28, dX5_remove_30, dX5_remove_33, g_tb3 (k := 84) rfl, g_tb1 (k := 13) rfl, g_tb3 (k := 142) rfl, fun w hw => ⟨kX_S_37 w hw, (kY_S_37 w hw).1, (kY_S_37 w hw).2⟩, by decide +kernel⟩
theorem kT_X5_light_20 : gTN mX5_light 20 33 "java/lang/IllegalStateException" := ⟨95, 37, "there is no candle in the cell, or it has no wax", by decide +kernel, rfl, dX5_light_23, dX5_light_24, dX5_light_26, dX5_light_29, g_tb3 (k := 84) rfl, g_tb1 (k := 13) rfl, g_tb3 (k := 155) rfl, fun w hw => ⟨kX_S_37 w hw, (kY_S_37 w hw).1, (kY_S_37 w hw).2⟩, by decide +kernel⟩
theorem kT_X5_come_17 : gTN mX5_come 17 53 "java/lang/IllegalArgumentException" := ⟨103, 57, "pace is not 1 to 3", by decide +kernel, rfl, dX5_come_20, dX5_come_21, dX5_come_23, dX5_come_26, g_tb2 (k := 13) rfl, g_tb1 (k := 11) rfl, g_tb3 (k := 200) rfl, fun w hw => ⟨kX_A_57 w hw, (kY_A_57 w hw).1, (kY_A_57 w hw).2⟩, by decide +kernel⟩
theorem kT_X5_come_39 : gTN mX5_come 39 33 "java/lang/IllegalStateException" := ⟨109, 37, "there are 6 ghosts", by decide +kernel, rfl, dX5_come_42, dX5_come_43, dX5_come_45, dX5_come_48, g_tb3 (k := 84) rfl, g_tb1 (k := 13) rfl, g_tb3 (k := 201) rfl, fun w hw => ⟨kX_S_37 w hw, (kY_S_37 w hw).1, (kY_S_37 w hw).2⟩, by decide +kernel⟩
theorem kT_X5_rite_16 : gTN mX5_rite 16 33 "java/lang/IllegalStateException" := ⟨126, 37, "the ghost may pass a wall", by decide +kernel, rfl, dX5_rite_19, dX5_rite_20, dX5_rite_22, dX5_rite_25, g_tb3 (k := 84) rfl, g_tb1 (k := 13) rfl, g_tb3 (k := 215) rfl, fun w hw => ⟨kX_S_37 w hw, (kY_S_37 w hw).1, (kY_S_37 w hw).2⟩, by decide +kernel⟩
set_option maxRecDepth 100000 in
theorem kX_I_200 : ∀ w ∈ vx_atS RX5 200 "java/lang/IndexOutOfBoundsException" gNames, w ∈ lw_tbl := by decide +kernel
set_option maxRecDepth 100000 in
theorem kY_I_200 : ∀ w ∈ vx_atS RX5 200 "java/lang/IndexOutOfBoundsException" gNames, (goodWord w = true ∨ gNwK w = true) ∧ vx_ot w = true := by decide +kernel
theorem kT_X5_checkedCell_20 : gTN mX5_checkedCell 20 196 "java/lang/IndexOutOfBoundsException" := ⟨198, 200, "x is not 0 to 8, or y is not 0 to 6", by decide +kernel, rfl, dX5_checkedCell_23, dX5_checkedCell_24, dX5_checkedCell_26, dX5_checkedCell_29, g_tb1 (k := 130) rfl, g_tb1 (k := 10) rfl, g_tb1 (k := 171) rfl, fun w hw => ⟨kX_I_200 w hw, (kY_I_200 w hw).1, (kY_I_200 w hw).2⟩, by decide +kernel⟩
theorem kT_X5_checkDirection_9 : gTN mX5_checkDirection 9 53 "java/lang/IllegalArgumentException" := ⟨201, 57, "direction is not 0 to 3", by decide +kernel, rfl, dX5_checkDirection_12, dX5_checkDirection_13, dX5_checkDirection_15, dX5_checkDirection_18, g_tb2 (k := 13) rfl, g_tb1 (k := 11) rfl, g_tb2 (k := 22) rfl, fun w hw => ⟨kX_A_57 w hw, (kY_A_57 w hw).1, (kY_A_57 w hw).2⟩, by decide +kernel⟩
theorem kT_X5_checkWhat_9 : gTN mX5_checkWhat 9 196 "java/lang/IndexOutOfBoundsException" := ⟨203, 200, "there is no such what", by decide +kernel, rfl, dX5_checkWhat_12, dX5_checkWhat_13, dX5_checkWhat_15, dX5_checkWhat_18, g_tb1 (k := 130) rfl, g_tb1 (k := 10) rfl, g_tb1 (k := 201) rfl, fun w hw => ⟨kX_I_200 w hw, (kY_I_200 w hw).1, (kY_I_200 w hw).2⟩, by decide +kernel⟩
theorem kT_X5_checkHours_10 : gTN mX5_checkHours 10 53 "java/lang/IllegalArgumentException" := ⟨205, 57, "hours are too few or too many", by decide +kernel, rfl, dX5_checkHours_13, dX5_checkHours_14, dX5_checkHours_16, dX5_checkHours_19, g_tb2 (k := 13) rfl, g_tb1 (k := 11) rfl, g_tb2 (k := 154) rfl, fun w hw => ⟨kX_A_57 w hw, (kY_A_57 w hw).1, (kY_A_57 w hw).2⟩, by decide +kernel⟩
theorem kT_X5_checkGhost_15 : gTN mX5_checkGhost 15 196 "java/lang/IndexOutOfBoundsException" := ⟨207, 200, "there is no such ghost", by decide +kernel, rfl, dX5_checkGhost_18, dX5_checkGhost_19, dX5_checkGhost_21, dX5_checkGhost_24, g_tb1 (k := 130) rfl, g_tb1 (k := 10) rfl, g_tb2 (k := 57) rfl, fun w hw => ⟨kX_I_200 w hw, (kY_I_200 w hw).1, (kY_I_200 w hw).2⟩, by decide +kernel⟩
theorem kT_X5_checkRoomFor_19 : gTN mX5_checkRoomFor 19 33 "java/lang/IllegalStateException" := ⟨209, 37, "there are too many, or the cell has a thing", by decide +kernel, rfl, dX5_checkRoomFor_22, dX5_checkRoomFor_23, dX5_checkRoomFor_25, dX5_checkRoomFor_28, g_tb3 (k := 84) rfl, g_tb1 (k := 13) rfl, g_tb3 (k := 116) rfl, fun w hw => ⟨kX_S_37 w hw, (kY_S_37 w hw).1, (kY_S_37 w hw).2⟩, by decide +kernel⟩
theorem kA_L_134 : Jvm.Cond.classLink RL 134 "[[I" ∈ lw_tbl := g_tb4 (k := 35) rfl
theorem kA_X7_7 : Jvm.Cond.classLink RX7 7 "[[[Z" ∈ lw_tbl := g_tb3 (k := 234) rfl
theorem kA_X7_14 : Jvm.Cond.classLink RX7 14 "[[I" ∈ lw_tbl := g_tb3 (k := 236) rfl
theorem kA_X7_22 : Jvm.Cond.classLink RX7 22 "[[Z" ∈ lw_tbl := g_tb3 (k := 17) rfl
theorem kJ_L_7 : Jvm.Cond.constant RL 7 (2147483647) ∈ lw_tbl := g_tb3 (k := 72) rfl
theorem kJ_L_8 : Jvm.Cond.constant RL 8 (790386105) ∈ lw_tbl := g_tb3 (k := 65) rfl
theorem kB_L_157 : Jvm.Cond.methodLink RL 157 Lib.Math.abs.name ∈ lw_tbl := g_tb4 (k := 32) rfl
