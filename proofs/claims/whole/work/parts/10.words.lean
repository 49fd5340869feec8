theorem z_t1 {w : Cond} (h : w ∈ tables_1_1) : w ∈ lw_tbl := List.mem_append_right _ (show w ∈ tables_1 from List.mem_append_left _ h)
theorem z_t2 {w : Cond} (h : w ∈ tables_1_2) : w ∈ lw_tbl := List.mem_append_right _ (show w ∈ tables_1 from List.mem_append_right _ (List.mem_append_left _ h))
theorem z_t3 {w : Cond} (h : w ∈ tables_1_3) : w ∈ lw_tbl := List.mem_append_right _ (show w ∈ tables_1 from List.mem_append_right _ (List.mem_append_right _ (List.mem_append_left _ h)))
theorem z_t4 {w : Cond} (h : w ∈ tables_1_4) : w ∈ lw_tbl := List.mem_append_right _ (show w ∈ tables_1 from List.mem_append_right _ (List.mem_append_right _ (List.mem_append_right _ (List.mem_append_left _ h))))
theorem z_t5 {w : Cond} (h : w ∈ tables_1_5) : w ∈ lw_tbl := List.mem_append_right _ (show w ∈ tables_1 from List.mem_append_right _ (List.mem_append_right _ (List.mem_append_right _ (List.mem_append_right _ (List.mem_append_left _ h)))))
theorem z_t6 {w : Cond} (h : w ∈ tables_1_6) : w ∈ lw_tbl := List.mem_append_right _ (show w ∈ tables_1 from List.mem_append_right _ (List.mem_append_right _ (List.mem_append_right _ (List.mem_append_right _ (List.mem_append_right _ (List.mem_append_left _ h))))))
theorem z_t7 {w : Cond} (h : w ∈ tables_1_7) : w ∈ lw_tbl := List.mem_append_right _ (show w ∈ tables_1 from List.mem_append_right _ (List.mem_append_right _ (List.mem_append_right _ (List.mem_append_right _ (List.mem_append_right _ (List.mem_append_right _ (List.mem_append_left _ h)))))))
theorem z_t8 {w : Cond} (h : w ∈ tables_1_8) : w ∈ lw_tbl := List.mem_append_right _ (show w ∈ tables_1 from List.mem_append_right _ (List.mem_append_right _ (List.mem_append_right _ (List.mem_append_right _ (List.mem_append_right _ (List.mem_append_right _ (List.mem_append_right _ (h))))))))
abbrev M_J0_length_8abf5 : z_M := (yJ0_length_8abf5, cJ0_length_8abf5, 1, (some .int))
abbrev M_J0_charAt_5068e : z_M := (yJ0_charAt_5068e, cJ0_charAt_5068e, 2, (some .char))
abbrev M_J0_coder_7d493 : z_M := (yJ0_coder_7d493, cJ0_coder_7d493, 1, (some .byte))
abbrev M_J0_isLatin1_aae02 : z_M := (yJ0_isLatin1_aae02, cJ0_isLatin1_aae02, 1, (some .boolean))
abbrev M_J0_checkIndex_df160 : z_M := (yJ0_checkIndex_df160, cJ0_checkIndex_df160, 2, none)
abbrev M_J1_charAt_3b067 : z_M := (yJ1_charAt_3b067, cJ1_charAt_3b067, 2, (some .char))
abbrev M_J3_checkIndex_8e157 : z_M := (yJ3_checkIndex_8e157, cJ3_checkIndex_8e157, 3, (some .int))
abbrev M_X9_init : z_M := (yX9_init, cX9_init, 1, none)
abbrev M_X8_init : z_M := (yX8_init, cX8_init, 1, none)
abbrev M_X7_init : z_M := (yX7_init, cX7_init, 3, none)
abbrev M_X5_init : z_M := (yX5_init, cX5_init, 1, none)
abbrev M_X1_init : z_M := (yX1_init, cX1_init, 1, none)
abbrev M_X0_init : z_M := (yX0_init, cX0_init, 2, none)
abbrev M_X2_init : z_M := (yX2_init, cX2_init, 3, none)
abbrev M_X4_init : z_M := (yX4_init, cX4_init, 2, none)
abbrev M_X6_init : z_M := (yX6_init, cX6_init, 2, none)
abbrev M_X3_init : z_M := (yX3_init, cX3_init, 1, none)
abbrev M_X10_init : z_M := (yX10_init, cX10_init, 2, none)
abbrev M_X11_init : z_M := (yX11_init, cX11_init, 1, none)
abbrev M_X10_status : z_M := (yX10_status, cX10_status, 1, (some .int))
abbrev M_X11_status : z_M := (yX11_status, cX11_status, 1, (some .int))
abbrev M_J6_bitCount_0f7a4 : z_M := (yJ6_bitCount_0f7a4, cJ6_bitCount_0f7a4, 1, (some .int))
abbrev M_X10_count : z_M := (yX10_count, cX10_count, 2, (some .int))
abbrev M_X11_in : z_M := (yX11_in, cX11_in, 6, (some .boolean))
abbrev M_X11_wallsThere : z_M := (yX11_wallsThere, cX11_wallsThere, 3, (some .int))
abbrev M_X11_count : z_M := (yX11_count, cX11_count, 2, (some .int))
abbrev M_X10_refuse : z_M := (yX10_refuse, cX10_refuse, 2, (some .int))
abbrev M_X9_become : z_M := (yX9_become, cX9_become, 3, none)
abbrev M_X10_grant : z_M := (yX10_grant, cX10_grant, 2, (some .int))
abbrev M_X10_back : z_M := (yX10_back, cX10_back, 2, (some .int))
abbrev M_X11_tell : z_M := (yX11_tell, cX11_tell, 2, (some .int))
abbrev M_X11_lasting : z_M := (yX11_lasting, cX11_lasting, 2, (some .int))
abbrev M_X11_back : z_M := (yX11_back, cX11_back, 3, (some .int))
abbrev M_X10_image : z_M := (yX10_image, cX10_image, 2, (some .int))
abbrev M_X11_image : z_M := (yX11_image, cX11_image, 3, (some .int))
abbrev M_X9_hasPair : z_M := (yX9_hasPair, cX9_hasPair, 2, (some .boolean))
abbrev M_X9_wornAt : z_M := (yX9_wornAt, cX9_wornAt, 3, (some .int))
abbrev M_X10_drawn : z_M := (yX10_drawn, cX10_drawn, 3, (some .int))
abbrev M_X11_drawn : z_M := (yX11_drawn, cX11_drawn, 3, (some .int))
abbrev M_X10_drawBehind : z_M := (yX10_drawBehind, cX10_drawBehind, 1, (some .int))
abbrev M_X10_isPart : z_M := (yX10_isPart, cX10_isPart, 1, (some .boolean))
abbrev M_X0_passDay : z_M := (yX0_passDay, cX0_passDay, 2, (some .int))
abbrev M_X0_remember : z_M := (yX0_remember, cX0_remember, 5, none)
abbrev M_X9_placeOf : z_M := (yX9_placeOf, cX9_placeOf, 2, (some .int))
abbrev M_X1_beside : z_M := (yX1_beside, cX1_beside, 4, (some .int))
abbrev M_X9_isWall : z_M := (yX9_isWall, cX9_isWall, 2, (some .boolean))
abbrev M_X1_setLawWords : z_M := (yX1_setLawWords, cX1_setLawWords, 7, none)
abbrev M_X9_hasLaw : z_M := (yX9_hasLaw, cX9_hasLaw, 2, (some .boolean))
abbrev M_X9_lawAt : z_M := (yX9_lawAt, cX9_lawAt, 2, (some (.object "SoleReader$Text")))
abbrev M_X9_lawInForce : z_M := (yX9_lawInForce, cX9_lawInForce, 1, (some (.object "SoleReader$Text")))
abbrev M_X7_field : z_M := (yX7_field, cX7_field, 3, (some .int))
abbrev M_X1_joined : z_M := (yX1_joined, cX1_joined, 5, (some .long))
abbrev M_X1_reckon : z_M := (yX1_reckon, cX1_reckon, 8, (some .boolean))
abbrev M_X1_lastThatHolds : z_M := (yX1_lastThatHolds, cX1_lastThatHolds, 4, (some .int))
abbrev M_X1_target : z_M := (yX1_target, cX1_target, 6, (some .int))
abbrev M_X1_leaves : z_M := (yX1_leaves, cX1_leaves, 4, (some .int))
abbrev M_X1_wears : z_M := (yX1_wears, cX1_wears, 7, (some .int))
abbrev M_X10_turned : z_M := (yX10_turned, cX10_turned, 2, (some .int))
abbrev M_X0_carryOut : z_M := (yX0_carryOut, cX0_carryOut, 10, (some .int))
abbrev M_X10_liveOnPaper : z_M := (yX10_liveOnPaper, cX10_liveOnPaper, 9, (some .int))
abbrev M_X10_years : z_M := (yX10_years, cX10_years, 3, (some .int))
abbrev M_X11_keepAll : z_M := (yX11_keepAll, cX11_keepAll, 3, none)
abbrev M_X11_draw : z_M := (yX11_draw, cX11_draw, 2, (some .int))
abbrev M_X11_beside : z_M := (yX11_beside, cX11_beside, 4, (some .int))
abbrev M_X11_is : z_M := (yX11_is, cX11_is, 2, (some .boolean))
abbrev M_X11_isWall : z_M := (yX11_isWall, cX11_isWall, 2, (some .boolean))
abbrev M_X11_wornOf : z_M := (yX11_wornOf, cX11_wornOf, 3, (some .int))
abbrev M_X11_isPair : z_M := (yX11_isPair, cX11_isPair, 2, (some .boolean))
abbrev M_X11_reckon : z_M := (yX11_reckon, cX11_reckon, 6, (some .long))
abbrev M_X11_reckonAll : z_M := (yX11_reckonAll, cX11_reckonAll, 7, none)
abbrev M_X11_isSo : z_M := (yX11_isSo, cX11_isSo, 2, (some .boolean))
abbrev M_X11_tells : z_M := (yX11_tells, cX11_tells, 12, (some .long))
abbrev M_X11_stepOf : z_M := (yX11_stepOf, cX11_stepOf, 5, (some .int))
abbrev M_X11_bounded : z_M := (yX11_bounded, cX11_bounded, 4, (some .int))
abbrev M_X11_wearsAt : z_M := (yX11_wearsAt, cX11_wearsAt, 5, (some .int))
abbrev M_X11_wearsNow : z_M := (yX11_wearsNow, cX11_wearsNow, 3, (some .int))
abbrev M_X11_wear : z_M := (yX11_wear, cX11_wear, 4, none)
abbrev M_X11_stepIt : z_M := (yX11_stepIt, cX11_stepIt, 3, none)
abbrev M_X11_turned : z_M := (yX11_turned, cX11_turned, 2, (some .int))
abbrev M_X11_turnIt : z_M := (yX11_turnIt, cX11_turnIt, 4, none)
abbrev M_X11_putBack : z_M := (yX11_putBack, cX11_putBack, 3, none)
abbrev M_X11_years : z_M := (yX11_years, cX11_years, 9, (some .int))
abbrev M_X10_compare : z_M := (yX10_compare, cX10_compare, 4, (some .int))
abbrev M_X11_isLaw : z_M := (yX11_isLaw, cX11_isLaw, 2, (some .boolean))
abbrev M_X11_isPart : z_M := (yX11_isPart, cX11_isPart, 1, (some .boolean))
abbrev M_X11_compare : z_M := (yX11_compare, cX11_compare, 6, (some .int))
abbrev M_J7_fill_d0a16 : z_M := (yJ7_fill_d0a16, cJ7_fill_d0a16, 5, none)
abbrev M_X6_fewSlip : z_M := (yX6_fewSlip, cX6_fewSlip, 7, (some .long))
abbrev M_X10_few : z_M := (yX10_few, cX10_few, 3, (some .long))
abbrev M_X11_few : z_M := (yX11_few, cX11_few, 8, (some .long))
abbrev M_X10_cutOff : z_M := (yX10_cutOff, cX10_cutOff, 5, (some .int))
abbrev M_X11_cutOff : z_M := (yX11_cutOff, cX11_cutOff, 7, (some .int))
abbrev M_X3_candidates : z_M := (yX3_candidates, cX3_candidates, 6, (some .int))
abbrev M_X3_mostAlike : z_M := (yX3_mostAlike, cX3_mostAlike, 8, (some .int))
abbrev M_X3_choosePart : z_M := (yX3_choosePart, cX3_choosePart, 5, (some .boolean))
abbrev M_X10_look : z_M := (yX10_look, cX10_look, 2, (some .int))
abbrev M_X11_thatCanBe : z_M := (yX11_thatCanBe, cX11_thatCanBe, 5, (some .int))
abbrev M_X11_mostAlike : z_M := (yX11_mostAlike, cX11_mostAlike, 7, (some .int))
abbrev M_X11_look : z_M := (yX11_look, cX11_look, 7, (some .int))
abbrev M_X10_canBe : z_M := (yX10_canBe, cX10_canBe, 1, (some .int))
abbrev M_X11_canBe : z_M := (yX11_canBe, cX11_canBe, 1, (some .int))
abbrev M_X10_forget : z_M := (yX10_forget, cX10_forget, 2, (some .int))
abbrev M_X11_forget : z_M := (yX11_forget, cX11_forget, 2, (some .int))
abbrev M_X10_seen : z_M := (yX10_seen, cX10_seen, 3, (some .int))
abbrev M_X11_seen : z_M := (yX11_seen, cX11_seen, 4, (some .int))
abbrev M_X10_lasts : z_M := (yX10_lasts, cX10_lasts, 5, (some .int))
abbrev M_X11_lasts : z_M := (yX11_lasts, cX11_lasts, 5, (some .int))
abbrev M_X3_differ : z_M := (yX3_differ, cX3_differ, 5, (some .int))
abbrev M_X3_nearestTo : z_M := (yX3_nearestTo, cX3_nearestTo, 5, (some .int))
abbrev M_X10_likest : z_M := (yX10_likest, cX10_likest, 2, (some .int))
abbrev M_X11_differ : z_M := (yX11_differ, cX11_differ, 6, (some .int))
abbrev M_X11_likest : z_M := (yX11_likest, cX11_likest, 6, (some .int))
abbrev M_J7_fill_53178 : z_M := (yJ7_fill_53178, cJ7_fill_53178, 4, none)
abbrev M_X3_keepIfLess : z_M := (yX3_keepIfLess, cX3_keepIfLess, 2, none)
abbrev M_X3_partFrom : z_M := (yX3_partFrom, cX3_partFrom, 6, none)
abbrev M_X3_couple : z_M := (yX3_couple, cX3_couple, 2, none)
abbrev M_X10_couples : z_M := (yX10_couples, cX10_couples, 2, (some .int))
abbrev M_X11_goesWith : z_M := (yX11_goesWith, cX11_goesWith, 6, (some .boolean))
abbrev M_X11_findCouples : z_M := (yX11_findCouples, cX11_findCouples, 7, (some .int))
abbrev M_X11_couples : z_M := (yX11_couples, cX11_couples, 3, (some .int))
abbrev M_X10_isCell : z_M := (yX10_isCell, cX10_isCell, 1, (some .boolean))
abbrev M_X4_layOut : z_M := (yX4_layOut, cX4_layOut, 5, none)
abbrev M_X4_reach : z_M := (yX4_reach, cX4_reach, 5, none)
abbrev M_X4_behind : z_M := (yX4_behind, cX4_behind, 3, (some .int))
abbrev M_X4_shortest : z_M := (yX4_shortest, cX4_shortest, 7, (some .int))
abbrev M_X10_within : z_M := (yX10_within, cX10_within, 6, (some .int))
abbrev M_X11_isCell : z_M := (yX11_isCell, cX11_isCell, 1, (some .boolean))
abbrev M_X11_laySteps : z_M := (yX11_laySteps, cX11_laySteps, 3, none)
abbrev M_X11_acted : z_M := (yX11_acted, cX11_acted, 3, (some .int))
abbrev M_X11_layLeft : z_M := (yX11_layLeft, cX11_layLeft, 7, none)
abbrev M_X11_stateOf : z_M := (yX11_stateOf, cX11_stateOf, 2, (some .int))
abbrev M_X11_within : z_M := (yX11_within, cX11_within, 5, (some .int))
abbrev M_X6_spread : z_M := (yX6_spread, cX6_spread, 6, none)
abbrev M_X6_byChance : z_M := (yX6_byChance, cX6_byChance, 8, (some .long))
abbrev M_X10_chance : z_M := (yX10_chance, cX10_chance, 4, (some .long))
abbrev M_X11_chance : z_M := (yX11_chance, cX11_chance, 8, (some .long))
abbrev M_X4_cheapest : z_M := (yX4_cheapest, cX4_cheapest, 3, (some .int))
abbrev M_X4_cheapen : z_M := (yX4_cheapen, cX4_cheapen, 8, none)
abbrev M_X4_leastWorn : z_M := (yX4_leastWorn, cX4_leastWorn, 7, (some .int))
abbrev M_X10_least : z_M := (yX10_least, cX10_least, 3, (some .int))
abbrev M_X11_least : z_M := (yX11_least, cX11_least, 8, (some .int))
abbrev M_X4_actAt : z_M := (yX4_actAt, cX4_actAt, 4, (some .int))
abbrev M_X10_way : z_M := (yX10_way, cX10_way, 5, (some .int))
abbrev M_X11_way : z_M := (yX11_way, cX11_way, 7, (some .int))
abbrev M_X10_isWaysNumber : z_M := (yX10_isWaysNumber, cX10_isWaysNumber, 1, (some .boolean))
abbrev M_X10_canCountWays : z_M := (yX10_canCountWays, cX10_canCountWays, 5, (some .boolean))
abbrev M_X6_gather : z_M := (yX6_gather, cX6_gather, 9, none)
abbrev M_X6_countWays : z_M := (yX6_countWays, cX6_countWays, 9, none)
abbrev M_X6_endCells : z_M := (yX6_endCells, cX6_endCells, 6, (some .int))
abbrev M_X10_ends : z_M := (yX10_ends, cX10_ends, 5, (some .int))
abbrev M_X11_canAsk : z_M := (yX11_canAsk, cX11_canAsk, 5, (some .boolean))
abbrev M_X11_placeOf : z_M := (yX11_placeOf, cX11_placeOf, 4, (some .int))
abbrev M_X11_layWays : z_M := (yX11_layWays, cX11_layWays, 12, none)
abbrev M_X11_ends : z_M := (yX11_ends, cX11_ends, 7, (some .int))
abbrev M_X6_howMany : z_M := (yX6_howMany, cX6_howMany, 7, (some .long))
abbrev M_X10_ways : z_M := (yX10_ways, cX10_ways, 5, (some .long))
abbrev M_X11_ways : z_M := (yX11_ways, cX11_ways, 8, (some .long))
abbrev M_X8_takeBack : z_M := (yX8_takeBack, cX8_takeBack, 4, (some .int))
abbrev M_X10_undo : z_M := (yX10_undo, cX10_undo, 1, (some .int))
abbrev M_X11_undo : z_M := (yX11_undo, cX11_undo, 1, (some .int))
abbrev M_X8_add : z_M := (yX8_add, cX8_add, 2, none)
abbrev M_X10_attempt : z_M := (yX10_attempt, cX10_attempt, 5, (some .int))
abbrev M_X10_pass : z_M := (yX10_pass, cX10_pass, 1, (some .int))
abbrev M_X11_remember : z_M := (yX11_remember, cX11_remember, 3, none)
abbrev M_X11_passNow : z_M := (yX11_passNow, cX11_passNow, 1, (some .int))
abbrev M_X11_pass : z_M := (yX11_pass, cX11_pass, 1, (some .int))
abbrev M_X10_mend : z_M := (yX10_mend, cX10_mend, 3, (some .int))
abbrev M_X11_leavesOf : z_M := (yX11_leavesOf, cX11_leavesOf, 3, (some .int))
abbrev M_X11_mendNow : z_M := (yX11_mendNow, cX11_mendNow, 5, (some .int))
abbrev M_X11_mend : z_M := (yX11_mend, cX11_mend, 3, (some .int))
abbrev M_X10_pause : z_M := (yX10_pause, cX10_pause, 2, (some .int))
abbrev M_X11_pauseNow : z_M := (yX11_pauseNow, cX11_pauseNow, 2, (some .int))
abbrev M_X11_pause : z_M := (yX11_pause, cX11_pause, 2, (some .int))
abbrev M_X10_turn : z_M := (yX10_turn, cX10_turn, 3, (some .int))
abbrev M_X11_turnNow : z_M := (yX11_turnNow, cX11_turnNow, 3, (some .int))
abbrev M_X11_turn : z_M := (yX11_turn, cX11_turn, 3, (some .int))
abbrev M_X10_step : z_M := (yX10_step, cX10_step, 2, (some .int))
abbrev M_X11_stepNow : z_M := (yX11_stepNow, cX11_stepNow, 3, (some .int))
abbrev M_X11_step : z_M := (yX11_step, cX11_step, 2, (some .int))
abbrev M_X10_force : z_M := (yX10_force, cX10_force, 3, (some .int))
abbrev M_X11_change : z_M := (yX11_change, cX11_change, 4, (some .int))
abbrev M_X11_force : z_M := (yX11_force, cX11_force, 2, (some .int))
abbrev M_X10_stopped : z_M := (yX10_stopped, cX10_stopped, 1, (some .int))
abbrev M_X11_stopped : z_M := (yX11_stopped, cX11_stopped, 1, (some .int))
abbrev M_X10_fault : z_M := (yX10_fault, cX10_fault, 1, (some .int))
abbrev M_X11_fault : z_M := (yX11_fault, cX11_fault, 1, (some .int))
abbrev M_X7_clear : z_M := (yX7_clear, cX7_clear, 1, none)
abbrev M_X5_kindOf : z_M := (yX5_kindOf, cX5_kindOf, 1, (some .int))
abbrev M_X5_advance : z_M := (yX5_advance, cX5_advance, 2, none)
abbrev M_X5_among : z_M := (yX5_among, cX5_among, 6, (some .int))
abbrev M_X5_failHere : z_M := (yX5_failHere, cX5_failHere, 1, (some .boolean))
abbrev M_X7_set : z_M := (yX7_set, cX7_set, 4, none)
abbrev M_X5_isSign : z_M := (yX5_isSign, cX5_isSign, 2, (some .boolean))
abbrev M_X5_skipSign : z_M := (yX5_skipSign, cX5_skipSign, 2, (some .boolean))
abbrev M_X7_emit : z_M := (yX7_emit, cX7_emit, 3, none)
abbrev M_X5_readNamed : z_M := (yX5_readNamed, cX5_readNamed, 2, (some .boolean))
abbrev M_X5_readPart : z_M := (yX5_readPart, cX5_readPart, 2, (some .boolean))
abbrev M_X5_readTerm : z_M := (yX5_readTerm, cX5_readTerm, 5, (some .boolean))
abbrev M_X5_readSum : z_M := (yX5_readSum, cX5_readSum, 5, (some .boolean))
abbrev M_X5_isWord : z_M := (yX5_isWord, cX5_isWord, 2, (some .boolean))
abbrev M_X5_skipWord : z_M := (yX5_skipWord, cX5_skipWord, 2, (some .boolean))
abbrev M_X5_readTimes : z_M := (yX5_readTimes, cX5_readTimes, 2, (some .boolean))
abbrev M_X5_readPlain : z_M := (yX5_readPlain, cX5_readPlain, 5, (some .boolean))
abbrev M_X7_landHere : z_M := (yX7_landHere, cX7_landHere, 2, none)
abbrev M_X5_readBoth : z_M := (yX5_readBoth, cX5_readBoth, 5, (some .boolean))
abbrev M_X5_readTest : z_M := (yX5_readTest, cX5_readTest, 5, (some .boolean))
abbrev M_X5_readClause : z_M := (yX5_readClause, cX5_readClause, 3, (some .boolean))
abbrev M_X5_read : z_M := (yX5_read, cX5_read, 3, (some .boolean))
abbrev M_X8_become : z_M := (yX8_become, cX8_become, 2, none)
abbrev M_X2_setOrderWords : z_M := (yX2_setOrderWords, cX2_setOrderWords, 5, none)
abbrev M_X2_obey : z_M := (yX2_obey, cX2_obey, 10, (some .boolean))
abbrev M_X2_run : z_M := (yX2_run, cX2_run, 7, (some .int))
abbrev M_X10_orders : z_M := (yX10_orders, cX10_orders, 3, (some .int))
abbrev M_X11_isSmall : z_M := (yX11_isSmall, cX11_isSmall, 1, (some .boolean))
abbrev M_X11_isDigit : z_M := (yX11_isDigit, cX11_isDigit, 1, (some .boolean))
abbrev M_X11_next : z_M := (yX11_next, cX11_next, 1, none)
abbrev M_X11_begin : z_M := (yX11_begin, cX11_begin, 1, none)
abbrev M_X11_beginText : z_M := (yX11_beginText, cX11_beginText, 2, none)
abbrev M_X11_isWord : z_M := (yX11_isWord, cX11_isWord, 3, (some .boolean))
abbrev M_X11_must : z_M := (yX11_must, cX11_must, 2, none)
abbrev M_X11_push : z_M := (yX11_push, cX11_push, 3, none)
abbrev M_X11_isSign : z_M := (yX11_isSign, cX11_isSign, 2, (some .boolean))
abbrev M_X11_openBracket : z_M := (yX11_openBracket, cX11_openBracket, 2, none)
abbrev M_X11_orderPartAt : z_M := (yX11_orderPartAt, cX11_orderPartAt, 3, (some .int))
abbrev M_X11_partAt : z_M := (yX11_partAt, cX11_partAt, 3, (some .int))
abbrev M_X11_emit : z_M := (yX11_emit, cX11_emit, 3, none)
abbrev M_X11_leaf : z_M := (yX11_leaf, cX11_leaf, 4, none)
abbrev M_X11_number : z_M := (yX11_number, cX11_number, 6, (some .int))
abbrev M_X11_readPart : z_M := (yX11_readPart, cX11_readPart, 4, (some .int))
abbrev M_X11_readPlain : z_M := (yX11_readPlain, cX11_readPlain, 1, (some .int))
abbrev M_X11_binds : z_M := (yX11_binds, cX11_binds, 1, (some .int))
abbrev M_X11_settle : z_M := (yX11_settle, cX11_settle, 2, none)
abbrev M_X11_inner : z_M := (yX11_inner, cX11_inner, 3, (some .int))
abbrev M_X11_isCompared : z_M := (yX11_isCompared, cX11_isCompared, 2, (some .boolean))
abbrev M_X11_behindSum : z_M := (yX11_behindSum, cX11_behindSum, 4, (some .int))
abbrev M_X11_behindTest : z_M := (yX11_behindTest, cX11_behindTest, 2, (some .int))
abbrev M_X11_readExpression : z_M := (yX11_readExpression, cX11_readExpression, 3, none)
abbrev M_X11_readSum : z_M := (yX11_readSum, cX11_readSum, 2, none)
abbrev M_X11_readOrder : z_M := (yX11_readOrder, cX11_readOrder, 4, none)
abbrev M_X11_endText : z_M := (yX11_endText, cX11_endText, 1, none)
abbrev M_X11_sumOf : z_M := (yX11_sumOf, cX11_sumOf, 2, (some .int))
abbrev M_X11_act : z_M := (yX11_act, cX11_act, 4, (some .int))
abbrev M_X11_run : z_M := (yX11_run, cX11_run, 5, (some .int))
abbrev M_X11_giveBack : z_M := (yX11_giveBack, cX11_giveBack, 3, none)
abbrev M_X11_orders : z_M := (yX11_orders, cX11_orders, 4, (some .int))
abbrev M_X7_copy : z_M := (yX7_copy, cX7_copy, 2, (some (.object "SoleReader$Text")))
abbrev M_X10_law : z_M := (yX10_law, cX10_law, 2, (some .int))
abbrev M_X11_readLaw : z_M := (yX11_readLaw, cX11_readLaw, 4, none)
abbrev M_X11_law : z_M := (yX11_law, cX11_law, 3, (some .int))
abbrev M_X10_brads : z_M := (yX10_brads, cX10_brads, 1, (some .int))
abbrev M_X11_brads : z_M := (yX11_brads, cX11_brads, 1, (some .int))
abbrev M_X10_canBePair : z_M := (yX10_canBePair, cX10_canBePair, 3, (some .boolean))
abbrev M_X9_addPair : z_M := (yX9_addPair, cX9_addPair, 5, none)
abbrev M_X10_row : z_M := (yX10_row, cX10_row, 6, (some .int))
abbrev M_X11_come : z_M := (yX11_come, cX11_come, 6, (some .int))
abbrev M_X11_row : z_M := (yX11_row, cX11_row, 4, (some .int))
abbrev M_X10_end : z_M := (yX10_end, cX10_end, 2, (some .int))
abbrev M_X11_end : z_M := (yX11_end, cX11_end, 2, (some .int))
abbrev M_X5_put : z_M := (yX5_put, cX5_put, 3, none)
abbrev M_X10_feed : z_M := (yX10_feed, cX10_feed, 6, (some .int))
abbrev M_X11_four : z_M := (yX11_four, cX11_four, 3, none)
abbrev M_X11_feed : z_M := (yX11_feed, cX11_feed, 6, (some .int))
abbrev M_X10_terms : z_M := (yX10_terms, cX10_terms, 4, (some .int))
abbrev M_X11_terms : z_M := (yX11_terms, cX11_terms, 4, (some .int))
abbrev M_X10_asks : z_M := (yX10_asks, cX10_asks, 4, (some .int))
abbrev M_X11_asks : z_M := (yX11_asks, cX11_asks, 4, (some .int))
abbrev M_X10_walls : z_M := (yX10_walls, cX10_walls, 1, (some .int))
abbrev M_X11_walls : z_M := (yX11_walls, cX11_walls, 1, (some .int))
abbrev M_X10_wall : z_M := (yX10_wall, cX10_wall, 4, (some .int))
abbrev M_X11_wall : z_M := (yX11_wall, cX11_wall, 4, (some .int))
abbrev M_X10_of : z_M := (yX10_of, cX10_of, 3, (some .int))
abbrev M_X11_of : z_M := (yX11_of, cX11_of, 3, (some .int))
abbrev M_X10_pair : z_M := (yX10_pair, cX10_pair, 4, (some .int))
abbrev M_X11_pair : z_M := (yX11_pair, cX11_pair, 4, (some .int))
abbrev M_L_law : z_M := (yL_law, cL_law, 4, (some .boolean))
theorem ml_X9_3 : Cond.methodLink RX9 3 Lib.objectInit ∈ lw_tbl := z_t1 (List.mem_of_getElem? (i := 34) rfl)
theorem ac_int : Cond.arrayClass .int ∈ lw_tbl := z_t1 (List.mem_of_getElem? (i := 109) rfl)
theorem in_X9 : ∀ w ∈ u_ws RX9 TX9 13, w ∈ lw_tbl ∧ goodWord w = true := by decide +kernel
theorem lk_X9_9 : z_lk RX9 9 9 0 := ⟨RX9, TX9, 13, rfl, by decide, z_t1 (List.mem_of_getElem? (i := 39) rfl), in_X9⟩
theorem wk_9_0 : z_wk 9 0 (.array .int) true := ⟨RX9, TX9, 13, tyX9, rfl, tyX9_ok, nmX9, rfl, by decide +kernel, rfl⟩
theorem lk_X9_15 : z_lk RX9 15 9 1 := ⟨RX9, TX9, 13, rfl, by decide, z_t1 (List.mem_of_getElem? (i := 44) rfl), in_X9⟩
theorem wk_9_1 : z_wk 9 1 (.array .int) true := ⟨RX9, TX9, 13, tyX9, rfl, tyX9_ok, nmX9, rfl, by decide +kernel, rfl⟩
theorem lk_X9_18 : z_lk RX9 18 9 2 := ⟨RX9, TX9, 13, rfl, by decide, z_t1 (List.mem_of_getElem? (i := 48) rfl), in_X9⟩
theorem wk_9_2 : z_wk 9 2 (.array .int) true := ⟨RX9, TX9, 13, tyX9, rfl, tyX9_ok, nmX9, rfl, by decide +kernel, rfl⟩
theorem lk_X9_21 : z_lk RX9 21 9 3 := ⟨RX9, TX9, 13, rfl, by decide, z_t1 (List.mem_of_getElem? (i := 51) rfl), in_X9⟩
theorem wk_9_3 : z_wk 9 3 (.array .int) true := ⟨RX9, TX9, 13, tyX9, rfl, tyX9_ok, nmX9, rfl, by decide +kernel, rfl⟩
theorem lk_X9_27 : z_lk RX9 27 9 4 := ⟨RX9, TX9, 13, rfl, by decide, z_t1 (List.mem_of_getElem? (i := 54) rfl), in_X9⟩
theorem wk_9_4 : z_wk 9 4 (.array .int) true := ⟨RX9, TX9, 13, tyX9, rfl, tyX9_ok, nmX9, rfl, by decide +kernel, rfl⟩
theorem lk_X9_30 : z_lk RX9 30 9 5 := ⟨RX9, TX9, 13, rfl, by decide, z_t1 (List.mem_of_getElem? (i := 60) rfl), in_X9⟩
theorem wk_9_5 : z_wk 9 5 (.array .int) true := ⟨RX9, TX9, 13, tyX9, rfl, tyX9_ok, nmX9, rfl, by decide +kernel, rfl⟩
theorem lk_X9_33 : z_lk RX9 33 9 6 := ⟨RX9, TX9, 13, rfl, by decide, z_t1 (List.mem_of_getElem? (i := 63) rfl), in_X9⟩
theorem wk_9_6 : z_wk 9 6 (.array .int) true := ⟨RX9, TX9, 13, tyX9, rfl, tyX9_ok, nmX9, rfl, by decide +kernel, rfl⟩
theorem cl_X9_36 : Cond.classLink RX9 36 RX7 ∈ lw_tbl := z_t1 (List.mem_of_getElem? (i := 37) rfl)
theorem lk_X9_38 : z_lk RX9 38 9 7 := ⟨RX9, TX9, 13, rfl, by decide, z_t1 (List.mem_of_getElem? (i := 66) rfl), in_X9⟩
theorem wk_9_7 : z_wk 9 7 (.array (.object "SoleReader$Text")) true := ⟨RX9, TX9, 13, tyX9, rfl, tyX9_ok, nmX9, rfl, by decide +kernel, rfl⟩
theorem lk_X9_42 : z_lk RX9 42 9 8 := ⟨RX9, TX9, 13, rfl, by decide, z_t1 (List.mem_of_getElem? (i := 68) rfl), in_X9⟩
theorem wk_9_8 : z_wk 9 8 .int false := ⟨RX9, TX9, 13, tyX9, rfl, tyX9_ok, nmX9, rfl, by decide +kernel, rfl⟩
theorem lk_X9_46 : z_lk RX9 46 9 9 := ⟨RX9, TX9, 13, rfl, by decide, z_t1 (List.mem_of_getElem? (i := 72) rfl), in_X9⟩
theorem wk_9_9 : z_wk 9 9 .int false := ⟨RX9, TX9, 13, tyX9, rfl, tyX9_ok, nmX9, rfl, by decide +kernel, rfl⟩
theorem lk_X9_49 : z_lk RX9 49 9 10 := ⟨RX9, TX9, 13, rfl, by decide, z_t1 (List.mem_of_getElem? (i := 75) rfl), in_X9⟩
theorem wk_9_10 : z_wk 9 10 .int false := ⟨RX9, TX9, 13, tyX9, rfl, tyX9_ok, nmX9, rfl, by decide +kernel, rfl⟩
theorem lk_X9_52 : z_lk RX9 52 9 11 := ⟨RX9, TX9, 13, rfl, by decide, z_t1 (List.mem_of_getElem? (i := 78) rfl), in_X9⟩
theorem wk_9_11 : z_wk 9 11 .int false := ⟨RX9, TX9, 13, tyX9, rfl, tyX9_ok, nmX9, rfl, by decide +kernel, rfl⟩
theorem lk_X9_55 : z_lk RX9 55 9 12 := ⟨RX9, TX9, 13, rfl, by decide, z_t1 (List.mem_of_getElem? (i := 80) rfl), in_X9⟩
theorem wk_9_12 : z_wk 9 12 .int false := ⟨RX9, TX9, 13, tyX9, rfl, tyX9_ok, nmX9, rfl, by decide +kernel, rfl⟩
theorem ck_X9_init : z_ck M_X9_init 0 := ⟨z_t1 (List.mem_of_getElem? (i := 33) rfl), z_t1 (List.mem_of_getElem? (i := 2) rfl), ⟨by decide +kernel, by decide +kernel, by decide +kernel⟩, by decide, by decide +kernel⟩
theorem ml_X8_3 : Cond.methodLink RX8 3 Lib.objectInit ∈ lw_tbl := z_t1 (List.mem_of_getElem? (i := 116) rfl)
theorem in_X8 : ∀ w ∈ u_ws RX8 TX8 2, w ∈ lw_tbl ∧ goodWord w = true := by decide +kernel
theorem lk_X8_11 : z_lk RX8 11 8 0 := ⟨RX8, TX8, 2, rfl, by decide, z_t1 (List.mem_of_getElem? (i := 117) rfl), in_X8⟩
theorem wk_8_0 : z_wk 8 0 (.array .int) true := ⟨RX8, TX8, 2, tyX8, rfl, tyX8_ok, nmX8, rfl, by decide +kernel, rfl⟩
theorem lk_X8_15 : z_lk RX8 15 8 1 := ⟨RX8, TX8, 2, rfl, by decide, z_t1 (List.mem_of_getElem? (i := 118) rfl), in_X8⟩
theorem wk_8_1 : z_wk 8 1 .int false := ⟨RX8, TX8, 2, tyX8, rfl, tyX8_ok, nmX8, rfl, by decide +kernel, rfl⟩
theorem ck_X8_init : z_ck M_X8_init 0 := ⟨z_t1 (List.mem_of_getElem? (i := 115) rfl), z_t1 (List.mem_of_getElem? (i := 3) rfl), ⟨by decide +kernel, by decide +kernel, by decide +kernel⟩, by decide, by decide +kernel⟩
theorem ml_X7_1 : Cond.methodLink RX7 1 Lib.objectInit ∈ lw_tbl := z_t1 (List.mem_of_getElem? (i := 137) rfl)
theorem in_X7 : ∀ w ∈ u_ws RX7 TX7 5, w ∈ lw_tbl ∧ goodWord w = true := by decide +kernel
theorem lk_X7_7 : z_lk RX7 7 7 3 := ⟨RX7, TX7, 5, rfl, by decide, z_t1 (List.mem_of_getElem? (i := 143) rfl), in_X7⟩
theorem wk_7_3 : z_wk 7 3 .int false := ⟨RX7, TX7, 5, tyX7, rfl, tyX7_ok, nmX7, rfl, by decide +kernel, rfl⟩
theorem lk_X7_13 : z_lk RX7 13 7 4 := ⟨RX7, TX7, 5, rfl, by decide, z_t1 (List.mem_of_getElem? (i := 146) rfl), in_X7⟩
theorem wk_7_4 : z_wk 7 4 .int false := ⟨RX7, TX7, 5, tyX7, rfl, tyX7_ok, nmX7, rfl, by decide +kernel, rfl⟩
theorem lk_X7_16 : z_lk RX7 16 7 0 := ⟨RX7, TX7, 5, rfl, by decide, z_t1 (List.mem_of_getElem? (i := 138) rfl), in_X7⟩
theorem wk_7_0 : z_wk 7 0 (.array .int) true := ⟨RX7, TX7, 5, tyX7, rfl, tyX7_ok, nmX7, rfl, by decide +kernel, rfl⟩
theorem lk_X7_20 : z_lk RX7 20 7 1 := ⟨RX7, TX7, 5, rfl, by decide, z_t1 (List.mem_of_getElem? (i := 140) rfl), in_X7⟩
theorem wk_7_1 : z_wk 7 1 (.array .int) true := ⟨RX7, TX7, 5, tyX7, rfl, tyX7_ok, nmX7, rfl, by decide +kernel, rfl⟩
theorem lk_X7_23 : z_lk RX7 23 7 2 := ⟨RX7, TX7, 5, rfl, by decide, z_t1 (List.mem_of_getElem? (i := 142) rfl), in_X7⟩
theorem wk_7_2 : z_wk 7 2 (.array .int) true := ⟨RX7, TX7, 5, tyX7, rfl, tyX7_ok, nmX7, rfl, by decide +kernel, rfl⟩
theorem ck_X7_init : z_ck M_X7_init 2 := ⟨z_t1 (List.mem_of_getElem? (i := 136) rfl), z_t1 (List.mem_of_getElem? (i := 5) rfl), ⟨by decide +kernel, by decide +kernel, by decide +kernel⟩, by decide, by decide +kernel⟩
theorem ml_X5_3 : Cond.methodLink RX5 3 Lib.objectInit ∈ lw_tbl := z_t1 (List.mem_of_getElem? (i := 131) rfl)
theorem in_X5 : ∀ w ∈ u_ws RX5 TX5 10, w ∈ lw_tbl ∧ goodWord w = true := by decide +kernel
theorem lk_X5_9 : z_lk RX5 9 5 0 := ⟨RX5, TX5, 10, rfl, by decide, z_t1 (List.mem_of_getElem? (i := 161) rfl), in_X5⟩
theorem wk_5_0 : z_wk 5 0 (.array .int) true := ⟨RX5, TX5, 10, tyX5, rfl, tyX5_ok, nmX5, rfl, by decide +kernel, rfl⟩
theorem nk_X5_15 : z_nk RX5 15 7 5 [.null, .null, .null, .int 0, .int 0] := ⟨RX7, TX7, tyX7, rfl, tyX7_ok, in_X7, z_t1 (List.mem_of_getElem? (i := 132) rfl), z_t1 (List.mem_of_getElem? (i := 133) rfl), z_t1 (List.mem_of_getElem? (i := 5) rfl), by decide +kernel, fun _ => rfl⟩
theorem ml_X5_17 : Cond.methodLink RX5 17 yX7_init ∈ lw_tbl := z_t1 (List.mem_of_getElem? (i := 134) rfl)
theorem im_X7_init : Cond.instanceMethod yX7_init ∈ lw_tbl := z_t1 (List.mem_of_getElem? (i := 135) rfl)
theorem lk_X5_20 : z_lk RX5 20 5 1 := ⟨RX5, TX5, 10, rfl, by decide, z_t1 (List.mem_of_getElem? (i := 163) rfl), in_X5⟩
theorem wk_5_1 : z_wk 5 1 (.object "SoleReader$Text") true := ⟨RX5, TX5, 10, tyX5, rfl, tyX5_ok, nmX5, rfl, by decide +kernel, rfl⟩
theorem lk_X5_24 : z_lk RX5 24 5 2 := ⟨RX5, TX5, 10, rfl, by decide, z_t1 (List.mem_of_getElem? (i := 165) rfl), in_X5⟩
theorem wk_5_2 : z_wk 5 2 .int false := ⟨RX5, TX5, 10, tyX5, rfl, tyX5_ok, nmX5, rfl, by decide +kernel, rfl⟩
theorem lk_X5_28 : z_lk RX5 28 5 3 := ⟨RX5, TX5, 10, rfl, by decide, z_t1 (List.mem_of_getElem? (i := 167) rfl), in_X5⟩
theorem wk_5_3 : z_wk 5 3 .int false := ⟨RX5, TX5, 10, tyX5, rfl, tyX5_ok, nmX5, rfl, by decide +kernel, rfl⟩
theorem lk_X5_31 : z_lk RX5 31 5 4 := ⟨RX5, TX5, 10, rfl, by decide, z_t1 (List.mem_of_getElem? (i := 169) rfl), in_X5⟩
theorem wk_5_4 : z_wk 5 4 .boolean false := ⟨RX5, TX5, 10, tyX5, rfl, tyX5_ok, nmX5, rfl, by decide +kernel, rfl⟩
theorem lk_X5_35 : z_lk RX5 35 5 5 := ⟨RX5, TX5, 10, rfl, by decide, z_t1 (List.mem_of_getElem? (i := 170) rfl), in_X5⟩
theorem wk_5_5 : z_wk 5 5 .int false := ⟨RX5, TX5, 10, tyX5, rfl, tyX5_ok, nmX5, rfl, by decide +kernel, rfl⟩
theorem lk_X5_38 : z_lk RX5 38 5 6 := ⟨RX5, TX5, 10, rfl, by decide, z_t1 (List.mem_of_getElem? (i := 171) rfl), in_X5⟩
theorem wk_5_6 : z_wk 5 6 .int false := ⟨RX5, TX5, 10, tyX5, rfl, tyX5_ok, nmX5, rfl, by decide +kernel, rfl⟩
theorem lk_X5_41 : z_lk RX5 41 5 7 := ⟨RX5, TX5, 10, rfl, by decide, z_t1 (List.mem_of_getElem? (i := 172) rfl), in_X5⟩
theorem wk_5_7 : z_wk 5 7 .int false := ⟨RX5, TX5, 10, tyX5, rfl, tyX5_ok, nmX5, rfl, by decide +kernel, rfl⟩
theorem lk_X5_44 : z_lk RX5 44 5 8 := ⟨RX5, TX5, 10, rfl, by decide, z_t1 (List.mem_of_getElem? (i := 173) rfl), in_X5⟩
theorem wk_5_8 : z_wk 5 8 .int false := ⟨RX5, TX5, 10, tyX5, rfl, tyX5_ok, nmX5, rfl, by decide +kernel, rfl⟩
theorem lk_X5_47 : z_lk RX5 47 5 9 := ⟨RX5, TX5, 10, rfl, by decide, z_t1 (List.mem_of_getElem? (i := 174) rfl), in_X5⟩
theorem wk_5_9 : z_wk 5 9 .int false := ⟨RX5, TX5, 10, tyX5, rfl, tyX5_ok, nmX5, rfl, by decide +kernel, rfl⟩
theorem ck_X5_init : z_ck M_X5_init 0 := ⟨z_t1 (List.mem_of_getElem? (i := 130) rfl), z_t1 (List.mem_of_getElem? (i := 4) rfl), ⟨by decide +kernel, by decide +kernel, by decide +kernel⟩, by decide, by decide +kernel⟩
theorem ml_X1_3 : Cond.methodLink RX1 3 Lib.objectInit ∈ lw_tbl := z_t1 (List.mem_of_getElem? (i := 201) rfl)
theorem in_X1 : ∀ w ∈ u_ws RX1 TX1 3, w ∈ lw_tbl ∧ goodWord w = true := by decide +kernel
theorem lk_X1_9 : z_lk RX1 9 1 0 := ⟨RX1, TX1, 3, rfl, by decide, z_t1 (List.mem_of_getElem? (i := 202) rfl), in_X1⟩
theorem wk_1_0 : z_wk 1 0 (.array .int) true := ⟨RX1, TX1, 3, tyX1, rfl, tyX1_ok, nmX1, rfl, by decide +kernel, rfl⟩
theorem ac_long : Cond.arrayClass .long ∈ lw_tbl := z_t1 (List.mem_of_getElem? (i := 214) rfl)
theorem lk_X1_15 : z_lk RX1 15 1 1 := ⟨RX1, TX1, 3, rfl, by decide, z_t1 (List.mem_of_getElem? (i := 204) rfl), in_X1⟩
theorem wk_1_1 : z_wk 1 1 (.array .long) true := ⟨RX1, TX1, 3, tyX1, rfl, tyX1_ok, nmX1, rfl, by decide +kernel, rfl⟩
theorem lk_X1_19 : z_lk RX1 19 1 2 := ⟨RX1, TX1, 3, rfl, by decide, z_t1 (List.mem_of_getElem? (i := 205) rfl), in_X1⟩
theorem wk_1_2 : z_wk 1 2 .int false := ⟨RX1, TX1, 3, tyX1, rfl, tyX1_ok, nmX1, rfl, by decide +kernel, rfl⟩
theorem ck_X1_init : z_ck M_X1_init 0 := ⟨z_t1 (List.mem_of_getElem? (i := 200) rfl), z_t1 (List.mem_of_getElem? (i := 6) rfl), ⟨by decide +kernel, by decide +kernel, by decide +kernel⟩, by decide, by decide +kernel⟩
theorem ml_X0_3 : Cond.methodLink RX0 3 Lib.objectInit ∈ lw_tbl := z_t1 (List.mem_of_getElem? (i := 220) rfl)
theorem in_X0 : ∀ w ∈ u_ws RX0 TX0 2, w ∈ lw_tbl ∧ goodWord w = true := by decide +kernel
theorem lk_X0_11 : z_lk RX0 11 0 1 := ⟨RX0, TX0, 2, rfl, by decide, z_t1 (List.mem_of_getElem? (i := 222) rfl), in_X0⟩
theorem wk_0_1 : z_wk 0 1 (.array .int) true := ⟨RX0, TX0, 2, tyX0, rfl, tyX0_ok, nmX0, rfl, by decide +kernel, rfl⟩
theorem lk_X0_17 : z_lk RX0 17 0 0 := ⟨RX0, TX0, 2, rfl, by decide, z_t1 (List.mem_of_getElem? (i := 221) rfl), in_X0⟩
theorem wk_0_0 : z_wk 0 0 (.object "SoleReader$Asker") true := ⟨RX0, TX0, 2, tyX0, rfl, tyX0_ok, nmX0, rfl, by decide +kernel, rfl⟩
theorem ck_X0_init : z_ck M_X0_init 1 := ⟨z_t1 (List.mem_of_getElem? (i := 219) rfl), z_t1 (List.mem_of_getElem? (i := 7) rfl), ⟨by decide +kernel, by decide +kernel, by decide +kernel⟩, by decide, by decide +kernel⟩
theorem ml_X2_3 : Cond.methodLink RX2 3 Lib.objectInit ∈ lw_tbl := z_t1 (List.mem_of_getElem? (i := 235) rfl)
theorem nk_X2_9 : z_nk RX2 9 9 13 [.null, .null, .null, .null, .null, .null, .null, .null, .int 0, .int 0, .int 0, .int 0, .int 0] := ⟨RX9, TX9, tyX9, rfl, tyX9_ok, in_X9, z_t1 (List.mem_of_getElem? (i := 236) rfl), z_t1 (List.mem_of_getElem? (i := 30) rfl), z_t1 (List.mem_of_getElem? (i := 2) rfl), by decide +kernel, fun _ => rfl⟩
theorem ml_X2_11 : Cond.methodLink RX2 11 yX9_init ∈ lw_tbl := z_t1 (List.mem_of_getElem? (i := 237) rfl)
theorem im_X9_init : Cond.instanceMethod yX9_init ∈ lw_tbl := z_t1 (List.mem_of_getElem? (i := 32) rfl)
theorem in_X2 : ∀ w ∈ u_ws RX2 TX2 7, w ∈ lw_tbl ∧ goodWord w = true := by decide +kernel
theorem lk_X2_12 : z_lk RX2 12 2 2 := ⟨RX2, TX2, 7, rfl, by decide, z_t2 (List.mem_of_getElem? (i := 2) rfl), in_X2⟩
theorem wk_2_2 : z_wk 2 2 (.object "SoleReader$Yard") true := ⟨RX2, TX2, 7, tyX2, rfl, tyX2_ok, nmX2, rfl, by decide +kernel, rfl⟩
theorem nk_X2_18 : z_nk RX2 18 8 2 [.null, .int 0] := ⟨RX8, TX8, tyX8, rfl, tyX8_ok, in_X8, z_t1 (List.mem_of_getElem? (i := 238) rfl), z_t1 (List.mem_of_getElem? (i := 112) rfl), z_t1 (List.mem_of_getElem? (i := 3) rfl), by decide +kernel, fun _ => rfl⟩
theorem im_X8_init : Cond.instanceMethod yX8_init ∈ lw_tbl := z_t1 (List.mem_of_getElem? (i := 114) rfl)
theorem lk_X2_21 : z_lk RX2 21 2 3 := ⟨RX2, TX2, 7, rfl, by decide, z_t2 (List.mem_of_getElem? (i := 3) rfl), in_X2⟩
theorem wk_2_3 : z_wk 2 3 (.object "SoleReader$UndoLog") true := ⟨RX2, TX2, 7, tyX2, rfl, tyX2_ok, nmX2, rfl, by decide +kernel, rfl⟩
theorem lk_X2_25 : z_lk RX2 25 2 4 := ⟨RX2, TX2, 7, rfl, by decide, z_t2 (List.mem_of_getElem? (i := 4) rfl), in_X2⟩
theorem wk_2_4 : z_wk 2 4 .int false := ⟨RX2, TX2, 7, tyX2, rfl, tyX2_ok, nmX2, rfl, by decide +kernel, rfl⟩
theorem lk_X2_29 : z_lk RX2 29 2 5 := ⟨RX2, TX2, 7, rfl, by decide, z_t2 (List.mem_of_getElem? (i := 5) rfl), in_X2⟩
theorem wk_2_5 : z_wk 2 5 .int false := ⟨RX2, TX2, 7, tyX2, rfl, tyX2_ok, nmX2, rfl, by decide +kernel, rfl⟩
theorem lk_X2_32 : z_lk RX2 32 2 6 := ⟨RX2, TX2, 7, rfl, by decide, z_t2 (List.mem_of_getElem? (i := 6) rfl), in_X2⟩
theorem wk_2_6 : z_wk 2 6 .int false := ⟨RX2, TX2, 7, tyX2, rfl, tyX2_ok, nmX2, rfl, by decide +kernel, rfl⟩
theorem lk_X2_35 : z_lk RX2 35 2 0 := ⟨RX2, TX2, 7, rfl, by decide, z_t2 (List.mem_of_getElem? (i := 0) rfl), in_X2⟩
theorem wk_2_0 : z_wk 2 0 (.object "SoleReader$Asker") true := ⟨RX2, TX2, 7, tyX2, rfl, tyX2_ok, nmX2, rfl, by decide +kernel, rfl⟩
theorem lk_X2_39 : z_lk RX2 39 2 1 := ⟨RX2, TX2, 7, rfl, by decide, z_t2 (List.mem_of_getElem? (i := 1) rfl), in_X2⟩
theorem wk_2_1 : z_wk 2 1 (.object "SoleReader$Acts") true := ⟨RX2, TX2, 7, tyX2, rfl, tyX2_ok, nmX2, rfl, by decide +kernel, rfl⟩
theorem ck_X2_init : z_ck M_X2_init 2 := ⟨z_t1 (List.mem_of_getElem? (i := 234) rfl), z_t1 (List.mem_of_getElem? (i := 8) rfl), ⟨by decide +kernel, by decide +kernel, by decide +kernel⟩, by decide, by decide +kernel⟩
theorem ml_X4_3 : Cond.methodLink RX4 3 Lib.objectInit ∈ lw_tbl := z_t2 (List.mem_of_getElem? (i := 28) rfl)
theorem in_X4 : ∀ w ∈ u_ws RX4 TX4 9, w ∈ lw_tbl ∧ goodWord w = true := by decide +kernel
theorem lk_X4_9 : z_lk RX4 9 4 1 := ⟨RX4, TX4, 9, rfl, by decide, z_t2 (List.mem_of_getElem? (i := 30) rfl), in_X4⟩
theorem wk_4_1 : z_wk 4 1 (.array .int) true := ⟨RX4, TX4, 9, tyX4, rfl, tyX4_ok, nmX4, rfl, by decide +kernel, rfl⟩
theorem lk_X4_15 : z_lk RX4 15 4 2 := ⟨RX4, TX4, 9, rfl, by decide, z_t2 (List.mem_of_getElem? (i := 32) rfl), in_X4⟩
theorem wk_4_2 : z_wk 4 2 (.array .int) true := ⟨RX4, TX4, 9, tyX4, rfl, tyX4_ok, nmX4, rfl, by decide +kernel, rfl⟩
theorem lk_X4_18 : z_lk RX4 18 4 3 := ⟨RX4, TX4, 9, rfl, by decide, z_t2 (List.mem_of_getElem? (i := 33) rfl), in_X4⟩
theorem wk_4_3 : z_wk 4 3 (.array .int) true := ⟨RX4, TX4, 9, tyX4, rfl, tyX4_ok, nmX4, rfl, by decide +kernel, rfl⟩
theorem lk_X4_21 : z_lk RX4 21 4 4 := ⟨RX4, TX4, 9, rfl, by decide, z_t2 (List.mem_of_getElem? (i := 34) rfl), in_X4⟩
theorem wk_4_4 : z_wk 4 4 (.array .int) true := ⟨RX4, TX4, 9, tyX4, rfl, tyX4_ok, nmX4, rfl, by decide +kernel, rfl⟩
theorem lk_X4_24 : z_lk RX4 24 4 5 := ⟨RX4, TX4, 9, rfl, by decide, z_t2 (List.mem_of_getElem? (i := 35) rfl), in_X4⟩
theorem wk_4_5 : z_wk 4 5 (.array .int) true := ⟨RX4, TX4, 9, tyX4, rfl, tyX4_ok, nmX4, rfl, by decide +kernel, rfl⟩
theorem ac_boolean : Cond.arrayClass .boolean ∈ lw_tbl := z_t1 (List.mem_of_getElem? (i := 125) rfl)
theorem lk_X4_27 : z_lk RX4 27 4 6 := ⟨RX4, TX4, 9, rfl, by decide, z_t2 (List.mem_of_getElem? (i := 36) rfl), in_X4⟩
theorem wk_4_6 : z_wk 4 6 (.array .boolean) true := ⟨RX4, TX4, 9, tyX4, rfl, tyX4_ok, nmX4, rfl, by decide +kernel, rfl⟩
theorem lk_X4_31 : z_lk RX4 31 4 7 := ⟨RX4, TX4, 9, rfl, by decide, z_t2 (List.mem_of_getElem? (i := 37) rfl), in_X4⟩
theorem wk_4_7 : z_wk 4 7 .int false := ⟨RX4, TX4, 9, tyX4, rfl, tyX4_ok, nmX4, rfl, by decide +kernel, rfl⟩
theorem lk_X4_35 : z_lk RX4 35 4 8 := ⟨RX4, TX4, 9, rfl, by decide, z_t2 (List.mem_of_getElem? (i := 38) rfl), in_X4⟩
theorem wk_4_8 : z_wk 4 8 .int false := ⟨RX4, TX4, 9, tyX4, rfl, tyX4_ok, nmX4, rfl, by decide +kernel, rfl⟩
theorem lk_X4_38 : z_lk RX4 38 4 0 := ⟨RX4, TX4, 9, rfl, by decide, z_t2 (List.mem_of_getElem? (i := 29) rfl), in_X4⟩
theorem wk_4_0 : z_wk 4 0 (.object "SoleReader$Asker") true := ⟨RX4, TX4, 9, tyX4, rfl, tyX4_ok, nmX4, rfl, by decide +kernel, rfl⟩
theorem ck_X4_init : z_ck M_X4_init 1 := ⟨z_t2 (List.mem_of_getElem? (i := 27) rfl), z_t1 (List.mem_of_getElem? (i := 9) rfl), ⟨by decide +kernel, by decide +kernel, by decide +kernel⟩, by decide, by decide +kernel⟩
theorem ml_X6_3 : Cond.methodLink RX6 3 Lib.objectInit ∈ lw_tbl := z_t2 (List.mem_of_getElem? (i := 63) rfl)
theorem in_X6 : ∀ w ∈ u_ws RX6 TX6 6, w ∈ lw_tbl ∧ goodWord w = true := by decide +kernel
theorem lk_X6_11 : z_lk RX6 11 6 1 := ⟨RX6, TX6, 6, rfl, by decide, z_t2 (List.mem_of_getElem? (i := 65) rfl), in_X6⟩
theorem wk_6_1 : z_wk 6 1 (.array .long) true := ⟨RX6, TX6, 6, tyX6, rfl, tyX6_ok, nmX6, rfl, by decide +kernel, rfl⟩
theorem lk_X6_15 : z_lk RX6 15 6 2 := ⟨RX6, TX6, 6, rfl, by decide, z_t2 (List.mem_of_getElem? (i := 66) rfl), in_X6⟩
theorem wk_6_2 : z_wk 6 2 (.array .long) true := ⟨RX6, TX6, 6, tyX6, rfl, tyX6_ok, nmX6, rfl, by decide +kernel, rfl⟩
theorem lk_X6_18 : z_lk RX6 18 6 3 := ⟨RX6, TX6, 6, rfl, by decide, z_t2 (List.mem_of_getElem? (i := 67) rfl), in_X6⟩
theorem wk_6_3 : z_wk 6 3 (.array .long) true := ⟨RX6, TX6, 6, tyX6, rfl, tyX6_ok, nmX6, rfl, by decide +kernel, rfl⟩
theorem lk_X6_21 : z_lk RX6 21 6 4 := ⟨RX6, TX6, 6, rfl, by decide, z_t2 (List.mem_of_getElem? (i := 68) rfl), in_X6⟩
theorem wk_6_4 : z_wk 6 4 (.array .long) true := ⟨RX6, TX6, 6, tyX6, rfl, tyX6_ok, nmX6, rfl, by decide +kernel, rfl⟩
theorem lk_X6_24 : z_lk RX6 24 6 5 := ⟨RX6, TX6, 6, rfl, by decide, z_t2 (List.mem_of_getElem? (i := 69) rfl), in_X6⟩
theorem wk_6_5 : z_wk 6 5 (.array .long) true := ⟨RX6, TX6, 6, tyX6, rfl, tyX6_ok, nmX6, rfl, by decide +kernel, rfl⟩
theorem lk_X6_27 : z_lk RX6 27 6 0 := ⟨RX6, TX6, 6, rfl, by decide, z_t2 (List.mem_of_getElem? (i := 64) rfl), in_X6⟩
theorem wk_6_0 : z_wk 6 0 (.object "SoleReader$Paths") true := ⟨RX6, TX6, 6, tyX6, rfl, tyX6_ok, nmX6, rfl, by decide +kernel, rfl⟩
theorem ck_X6_init : z_ck M_X6_init 1 := ⟨z_t2 (List.mem_of_getElem? (i := 62) rfl), z_t1 (List.mem_of_getElem? (i := 10) rfl), ⟨by decide +kernel, by decide +kernel, by decide +kernel⟩, by decide, by decide +kernel⟩
theorem ml_X3_3 : Cond.methodLink RX3 3 Lib.objectInit ∈ lw_tbl := z_t2 (List.mem_of_getElem? (i := 88) rfl)
theorem in_X3 : ∀ w ∈ u_ws RX3 TX3 6, w ∈ lw_tbl ∧ goodWord w = true := by decide +kernel
theorem lk_X3_9 : z_lk RX3 9 3 0 := ⟨RX3, TX3, 6, rfl, by decide, z_t2 (List.mem_of_getElem? (i := 89) rfl), in_X3⟩
theorem wk_3_0 : z_wk 3 0 (.array .int) true := ⟨RX3, TX3, 6, tyX3, rfl, tyX3_ok, nmX3, rfl, by decide +kernel, rfl⟩
theorem lk_X3_15 : z_lk RX3 15 3 1 := ⟨RX3, TX3, 6, rfl, by decide, z_t2 (List.mem_of_getElem? (i := 90) rfl), in_X3⟩
theorem wk_3_1 : z_wk 3 1 (.array .int) true := ⟨RX3, TX3, 6, tyX3, rfl, tyX3_ok, nmX3, rfl, by decide +kernel, rfl⟩
theorem lk_X3_18 : z_lk RX3 18 3 2 := ⟨RX3, TX3, 6, rfl, by decide, z_t2 (List.mem_of_getElem? (i := 92) rfl), in_X3⟩
theorem wk_3_2 : z_wk 3 2 .int false := ⟨RX3, TX3, 6, tyX3, rfl, tyX3_ok, nmX3, rfl, by decide +kernel, rfl⟩
theorem lk_X3_22 : z_lk RX3 22 3 3 := ⟨RX3, TX3, 6, rfl, by decide, z_t2 (List.mem_of_getElem? (i := 94) rfl), in_X3⟩
theorem wk_3_3 : z_wk 3 3 .boolean false := ⟨RX3, TX3, 6, tyX3, rfl, tyX3_ok, nmX3, rfl, by decide +kernel, rfl⟩
theorem lk_X3_26 : z_lk RX3 26 3 4 := ⟨RX3, TX3, 6, rfl, by decide, z_t2 (List.mem_of_getElem? (i := 95) rfl), in_X3⟩
theorem wk_3_4 : z_wk 3 4 .int false := ⟨RX3, TX3, 6, tyX3, rfl, tyX3_ok, nmX3, rfl, by decide +kernel, rfl⟩
theorem lk_X3_29 : z_lk RX3 29 3 5 := ⟨RX3, TX3, 6, rfl, by decide, z_t2 (List.mem_of_getElem? (i := 97) rfl), in_X3⟩
theorem wk_3_5 : z_wk 3 5 .int false := ⟨RX3, TX3, 6, tyX3, rfl, tyX3_ok, nmX3, rfl, by decide +kernel, rfl⟩
theorem ck_X3_init : z_ck M_X3_init 0 := ⟨z_t2 (List.mem_of_getElem? (i := 87) rfl), z_t1 (List.mem_of_getElem? (i := 11) rfl), ⟨by decide +kernel, by decide +kernel, by decide +kernel⟩, by decide, by decide +kernel⟩
theorem in_X10 : ∀ w ∈ u_ws RX10 TX10 15, w ∈ lw_tbl ∧ goodWord w = true := by decide +kernel
theorem lk_X10_16 : z_lk RX10 16 10 1 := ⟨RX10, TX10, 15, rfl, by decide, z_t2 (List.mem_of_getElem? (i := 113) rfl), in_X10⟩
theorem nk_X10_9 : z_nk RX10 9 9 13 [.null, .null, .null, .null, .null, .null, .null, .null, .int 0, .int 0, .int 0, .int 0, .int 0] := ⟨RX9, TX9, tyX9, rfl, tyX9_ok, in_X9, z_t1 (List.mem_of_getElem? (i := 29) rfl), z_t1 (List.mem_of_getElem? (i := 30) rfl), z_t1 (List.mem_of_getElem? (i := 2) rfl), by decide +kernel, fun _ => rfl⟩
theorem ml_X10_11 : Cond.methodLink RX10 11 yX9_init ∈ lw_tbl := z_t1 (List.mem_of_getElem? (i := 31) rfl)
theorem ml_X10_3 : Cond.methodLink RX10 3 Lib.objectInit ∈ lw_tbl := z_t1 (List.mem_of_getElem? (i := 26) rfl)
theorem lk_X10_12 : z_lk RX10 12 10 0 := ⟨RX10, TX10, 15, rfl, by decide, z_t2 (List.mem_of_getElem? (i := 112) rfl), in_X10⟩
theorem wk_10_0 : z_wk 10 0 (.object "SoleReader$Yard") true := ⟨RX10, TX10, 15, tyX10, rfl, tyX10_ok, nmX10, rfl, by decide +kernel, rfl⟩
theorem cl_X10_9 : Cond.classLink RX10 9 RX9 ∈ lw_tbl := z_t1 (List.mem_of_getElem? (i := 29) rfl)
theorem wk_10_1 : z_wk 10 1 (.array (.object "SoleReader$Yard")) true := ⟨RX10, TX10, 15, tyX10, rfl, tyX10_ok, nmX10, rfl, by decide +kernel, rfl⟩
theorem lk_X10_20 : z_lk RX10 20 10 2 := ⟨RX10, TX10, 15, rfl, by decide, z_t2 (List.mem_of_getElem? (i := 114) rfl), in_X10⟩
theorem wk_10_2 : z_wk 10 2 (.array .boolean) true := ⟨RX10, TX10, 15, tyX10, rfl, tyX10_ok, nmX10, rfl, by decide +kernel, rfl⟩
theorem lk_X10_24 : z_lk RX10 24 10 3 := ⟨RX10, TX10, 15, rfl, by decide, z_t2 (List.mem_of_getElem? (i := 115) rfl), in_X10⟩
theorem wk_10_3 : z_wk 10 3 (.object "SoleReader$Yard") true := ⟨RX10, TX10, 15, tyX10, rfl, tyX10_ok, nmX10, rfl, by decide +kernel, rfl⟩
theorem nk_X10_27 : z_nk RX10 27 8 2 [.null, .int 0] := ⟨RX8, TX8, tyX8, rfl, tyX8_ok, in_X8, z_t1 (List.mem_of_getElem? (i := 111) rfl), z_t1 (List.mem_of_getElem? (i := 112) rfl), z_t1 (List.mem_of_getElem? (i := 3) rfl), by decide +kernel, fun _ => rfl⟩
theorem lk_X10_30 : z_lk RX10 30 10 4 := ⟨RX10, TX10, 15, rfl, by decide, z_t2 (List.mem_of_getElem? (i := 116) rfl), in_X10⟩
theorem wk_10_4 : z_wk 10 4 (.object "SoleReader$UndoLog") true := ⟨RX10, TX10, 15, tyX10, rfl, tyX10_ok, nmX10, rfl, by decide +kernel, rfl⟩
theorem nk_X10_34 : z_nk RX10 34 5 10 [.null, .null, .int 0, .int 0, .int 0, .int 0, .int 0, .int 0, .int 0, .int 0] := ⟨RX5, TX5, tyX5, rfl, tyX5_ok, in_X5, z_t1 (List.mem_of_getElem? (i := 126) rfl), z_t1 (List.mem_of_getElem? (i := 127) rfl), z_t1 (List.mem_of_getElem? (i := 4) rfl), by decide +kernel, fun _ => rfl⟩
theorem im_X5_init : Cond.instanceMethod yX5_init ∈ lw_tbl := z_t1 (List.mem_of_getElem? (i := 129) rfl)
theorem lk_X10_37 : z_lk RX10 37 10 5 := ⟨RX10, TX10, 15, rfl, by decide, z_t2 (List.mem_of_getElem? (i := 117) rfl), in_X10⟩
theorem wk_10_5 : z_wk 10 5 (.object "SoleReader$Reader") true := ⟨RX10, TX10, 15, tyX10, rfl, tyX10_ok, nmX10, rfl, by decide +kernel, rfl⟩
theorem nk_X10_41 : z_nk RX10 41 1 3 [.null, .null, .int 0] := ⟨RX1, TX1, tyX1, rfl, tyX1_ok, in_X1, z_t1 (List.mem_of_getElem? (i := 196) rfl), z_t1 (List.mem_of_getElem? (i := 197) rfl), z_t1 (List.mem_of_getElem? (i := 6) rfl), by decide +kernel, fun _ => rfl⟩
theorem im_X1_init : Cond.instanceMethod yX1_init ∈ lw_tbl := z_t1 (List.mem_of_getElem? (i := 199) rfl)
theorem lk_X10_44 : z_lk RX10 44 10 6 := ⟨RX10, TX10, 15, rfl, by decide, z_t2 (List.mem_of_getElem? (i := 118) rfl), in_X10⟩
theorem wk_10_6 : z_wk 10 6 (.object "SoleReader$Asker") true := ⟨RX10, TX10, 15, tyX10, rfl, tyX10_ok, nmX10, rfl, by decide +kernel, rfl⟩
theorem nk_X10_48 : z_nk RX10 48 0 2 [.null, .null] := ⟨RX0, TX0, tyX0, rfl, tyX0_ok, in_X0, z_t1 (List.mem_of_getElem? (i := 215) rfl), z_t1 (List.mem_of_getElem? (i := 216) rfl), z_t1 (List.mem_of_getElem? (i := 7) rfl), by decide +kernel, fun _ => rfl⟩
theorem ml_X10_50 : Cond.methodLink RX10 50 yX0_init ∈ lw_tbl := z_t1 (List.mem_of_getElem? (i := 217) rfl)
theorem im_X0_init : Cond.instanceMethod yX0_init ∈ lw_tbl := z_t1 (List.mem_of_getElem? (i := 218) rfl)
theorem lk_X10_53 : z_lk RX10 53 10 7 := ⟨RX10, TX10, 15, rfl, by decide, z_t2 (List.mem_of_getElem? (i := 119) rfl), in_X10⟩
theorem wk_10_7 : z_wk 10 7 (.object "SoleReader$Acts") true := ⟨RX10, TX10, 15, tyX10, rfl, tyX10_ok, nmX10, rfl, by decide +kernel, rfl⟩
theorem nk_X10_57 : z_nk RX10 57 2 7 [.null, .null, .null, .null, .int 0, .int 0, .int 0] := ⟨RX2, TX2, tyX2, rfl, tyX2_ok, in_X2, z_t1 (List.mem_of_getElem? (i := 230) rfl), z_t1 (List.mem_of_getElem? (i := 231) rfl), z_t1 (List.mem_of_getElem? (i := 8) rfl), by decide +kernel, fun _ => rfl⟩
theorem ml_X10_59 : Cond.methodLink RX10 59 yX2_init ∈ lw_tbl := z_t1 (List.mem_of_getElem? (i := 232) rfl)
theorem im_X2_init : Cond.instanceMethod yX2_init ∈ lw_tbl := z_t1 (List.mem_of_getElem? (i := 233) rfl)
theorem lk_X10_62 : z_lk RX10 62 10 8 := ⟨RX10, TX10, 15, rfl, by decide, z_t2 (List.mem_of_getElem? (i := 120) rfl), in_X10⟩
theorem wk_10_8 : z_wk 10 8 (.object "SoleReader$Errands") true := ⟨RX10, TX10, 15, tyX10, rfl, tyX10_ok, nmX10, rfl, by decide +kernel, rfl⟩
theorem nk_X10_66 : z_nk RX10 66 4 9 [.null, .null, .null, .null, .null, .null, .null, .int 0, .int 0] := ⟨RX4, TX4, tyX4, rfl, tyX4_ok, in_X4, z_t2 (List.mem_of_getElem? (i := 23) rfl), z_t2 (List.mem_of_getElem? (i := 24) rfl), z_t1 (List.mem_of_getElem? (i := 9) rfl), by decide +kernel, fun _ => rfl⟩
theorem ml_X10_68 : Cond.methodLink RX10 68 yX4_init ∈ lw_tbl := z_t2 (List.mem_of_getElem? (i := 25) rfl)
theorem im_X4_init : Cond.instanceMethod yX4_init ∈ lw_tbl := z_t2 (List.mem_of_getElem? (i := 26) rfl)
theorem lk_X10_69 : z_lk RX10 69 10 9 := ⟨RX10, TX10, 15, rfl, by decide, z_t2 (List.mem_of_getElem? (i := 121) rfl), in_X10⟩
theorem wk_10_9 : z_wk 10 9 (.object "SoleReader$Paths") true := ⟨RX10, TX10, 15, tyX10, rfl, tyX10_ok, nmX10, rfl, by decide +kernel, rfl⟩
theorem nk_X10_73 : z_nk RX10 73 6 6 [.null, .null, .null, .null, .null, .null] := ⟨RX6, TX6, tyX6, rfl, tyX6_ok, in_X6, z_t2 (List.mem_of_getElem? (i := 58) rfl), z_t2 (List.mem_of_getElem? (i := 59) rfl), z_t1 (List.mem_of_getElem? (i := 10) rfl), by decide +kernel, fun _ => rfl⟩
theorem ml_X10_75 : Cond.methodLink RX10 75 yX6_init ∈ lw_tbl := z_t2 (List.mem_of_getElem? (i := 60) rfl)
theorem im_X6_init : Cond.instanceMethod yX6_init ∈ lw_tbl := z_t2 (List.mem_of_getElem? (i := 61) rfl)
theorem lk_X10_78 : z_lk RX10 78 10 10 := ⟨RX10, TX10, 15, rfl, by decide, z_t2 (List.mem_of_getElem? (i := 122) rfl), in_X10⟩
theorem wk_10_10 : z_wk 10 10 (.object "SoleReader$Tallies") true := ⟨RX10, TX10, 15, tyX10, rfl, tyX10_ok, nmX10, rfl, by decide +kernel, rfl⟩
theorem nk_X10_82 : z_nk RX10 82 3 6 [.null, .null, .int 0, .int 0, .int 0, .int 0] := ⟨RX3, TX3, tyX3, rfl, tyX3_ok, in_X3, z_t2 (List.mem_of_getElem? (i := 83) rfl), z_t2 (List.mem_of_getElem? (i := 84) rfl), z_t1 (List.mem_of_getElem? (i := 11) rfl), by decide +kernel, fun _ => rfl⟩
theorem im_X3_init : Cond.instanceMethod yX3_init ∈ lw_tbl := z_t2 (List.mem_of_getElem? (i := 86) rfl)
theorem lk_X10_85 : z_lk RX10 85 10 11 := ⟨RX10, TX10, 15, rfl, by decide, z_t2 (List.mem_of_getElem? (i := 123) rfl), in_X10⟩
theorem wk_10_11 : z_wk 10 11 (.object "SoleReader$Likeness") true := ⟨RX10, TX10, 15, tyX10, rfl, tyX10_ok, nmX10, rfl, by decide +kernel, rfl⟩
theorem lk_X10_89 : z_lk RX10 89 10 12 := ⟨RX10, TX10, 15, rfl, by decide, z_t2 (List.mem_of_getElem? (i := 124) rfl), in_X10⟩
theorem wk_10_12 : z_wk 10 12 (.array .int) true := ⟨RX10, TX10, 15, tyX10, rfl, tyX10_ok, nmX10, rfl, by decide +kernel, rfl⟩
theorem lk_X10_93 : z_lk RX10 93 10 13 := ⟨RX10, TX10, 15, rfl, by decide, z_t2 (List.mem_of_getElem? (i := 125) rfl), in_X10⟩
theorem wk_10_13 : z_wk 10 13 .int false := ⟨RX10, TX10, 15, tyX10, rfl, tyX10_ok, nmX10, rfl, by decide +kernel, rfl⟩
theorem lk_X10_97 : z_lk RX10 97 10 14 := ⟨RX10, TX10, 15, rfl, by decide, z_t2 (List.mem_of_getElem? (i := 126) rfl), in_X10⟩
theorem wk_10_14 : z_wk 10 14 .int false := ⟨RX10, TX10, 15, tyX10, rfl, tyX10_ok, nmX10, rfl, by decide +kernel, rfl⟩
theorem ck_X10_init : z_ck M_X10_init 0 := ⟨z_t1 (List.mem_of_getElem? (i := 25) rfl), z_t1 (List.mem_of_getElem? (i := 1) rfl), ⟨by decide +kernel, by decide +kernel, by decide +kernel⟩, by decide, by decide +kernel⟩
theorem ml_X11_1 : Cond.methodLink RX11 1 Lib.objectInit ∈ lw_tbl := z_t5 (List.mem_of_getElem? (i := 92) rfl)
theorem in_X11 : ∀ w ∈ u_ws RX11 TX11 59, w ∈ lw_tbl ∧ goodWord w = true := by decide +kernel
theorem lk_X11_7 : z_lk RX11 7 11 2 := ⟨RX11, TX11, 59, rfl, by decide, z_t5 (List.mem_of_getElem? (i := 119) rfl), in_X11⟩
theorem wk_11_2 : z_wk 11 2 (.array .int) true := ⟨RX11, TX11, 59, tyX11, rfl, tyX11_ok, nmX11, rfl, by decide +kernel, rfl⟩
theorem lk_X11_13 : z_lk RX11 13 11 3 := ⟨RX11, TX11, 59, rfl, by decide, z_t5 (List.mem_of_getElem? (i := 120) rfl), in_X11⟩
theorem wk_11_3 : z_wk 11 3 (.array .int) true := ⟨RX11, TX11, 59, tyX11, rfl, tyX11_ok, nmX11, rfl, by decide +kernel, rfl⟩
theorem lk_X11_16 : z_lk RX11 16 11 4 := ⟨RX11, TX11, 59, rfl, by decide, z_t5 (List.mem_of_getElem? (i := 121) rfl), in_X11⟩
theorem wk_11_4 : z_wk 11 4 (.array .int) true := ⟨RX11, TX11, 59, tyX11, rfl, tyX11_ok, nmX11, rfl, by decide +kernel, rfl⟩
theorem lk_X11_19 : z_lk RX11 19 11 5 := ⟨RX11, TX11, 59, rfl, by decide, z_t5 (List.mem_of_getElem? (i := 122) rfl), in_X11⟩
theorem wk_11_5 : z_wk 11 5 (.array .boolean) true := ⟨RX11, TX11, 59, tyX11, rfl, tyX11_ok, nmX11, rfl, by decide +kernel, rfl⟩
theorem lk_X11_23 : z_lk RX11 23 11 6 := ⟨RX11, TX11, 59, rfl, by decide, z_t5 (List.mem_of_getElem? (i := 123) rfl), in_X11⟩
theorem wk_11_6 : z_wk 11 6 (.array .int) true := ⟨RX11, TX11, 59, tyX11, rfl, tyX11_ok, nmX11, rfl, by decide +kernel, rfl⟩
theorem lk_X11_26 : z_lk RX11 26 11 7 := ⟨RX11, TX11, 59, rfl, by decide, z_t5 (List.mem_of_getElem? (i := 124) rfl), in_X11⟩
theorem wk_11_7 : z_wk 11 7 (.array .int) true := ⟨RX11, TX11, 59, tyX11, rfl, tyX11_ok, nmX11, rfl, by decide +kernel, rfl⟩
theorem lk_X11_29 : z_lk RX11 29 11 9 := ⟨RX11, TX11, 59, rfl, by decide, z_t5 (List.mem_of_getElem? (i := 126) rfl), in_X11⟩
theorem wk_11_9 : z_wk 11 9 (.array .int) true := ⟨RX11, TX11, 59, tyX11, rfl, tyX11_ok, nmX11, rfl, by decide +kernel, rfl⟩
theorem lk_X11_32 : z_lk RX11 32 11 10 := ⟨RX11, TX11, 59, rfl, by decide, z_t5 (List.mem_of_getElem? (i := 127) rfl), in_X11⟩
theorem wk_11_10 : z_wk 11 10 (.array .int) true := ⟨RX11, TX11, 59, tyX11, rfl, tyX11_ok, nmX11, rfl, by decide +kernel, rfl⟩
theorem lk_X11_35 : z_lk RX11 35 11 12 := ⟨RX11, TX11, 59, rfl, by decide, z_t5 (List.mem_of_getElem? (i := 129) rfl), in_X11⟩
theorem wk_11_12 : z_wk 11 12 (.array .int) true := ⟨RX11, TX11, 59, tyX11, rfl, tyX11_ok, nmX11, rfl, by decide +kernel, rfl⟩
theorem lk_X11_38 : z_lk RX11 38 11 18 := ⟨RX11, TX11, 59, rfl, by decide, z_t5 (List.mem_of_getElem? (i := 135) rfl), in_X11⟩
theorem wk_11_18 : z_wk 11 18 .int false := ⟨RX11, TX11, 59, tyX11, rfl, tyX11_ok, nmX11, rfl, by decide +kernel, rfl⟩
theorem lk_X11_42 : z_lk RX11 42 11 22 := ⟨RX11, TX11, 59, rfl, by decide, z_t5 (List.mem_of_getElem? (i := 139) rfl), in_X11⟩
theorem wk_11_22 : z_wk 11 22 (.array .int) true := ⟨RX11, TX11, 59, tyX11, rfl, tyX11_ok, nmX11, rfl, by decide +kernel, rfl⟩
theorem lk_X11_45 : z_lk RX11 45 11 24 := ⟨RX11, TX11, 59, rfl, by decide, z_t5 (List.mem_of_getElem? (i := 141) rfl), in_X11⟩
theorem wk_11_24 : z_wk 11 24 (.array .int) true := ⟨RX11, TX11, 59, tyX11, rfl, tyX11_ok, nmX11, rfl, by decide +kernel, rfl⟩
theorem lk_X11_48 : z_lk RX11 48 11 25 := ⟨RX11, TX11, 59, rfl, by decide, z_t5 (List.mem_of_getElem? (i := 142) rfl), in_X11⟩
theorem wk_11_25 : z_wk 11 25 (.array .int) true := ⟨RX11, TX11, 59, tyX11, rfl, tyX11_ok, nmX11, rfl, by decide +kernel, rfl⟩
theorem lk_X11_51 : z_lk RX11 51 11 27 := ⟨RX11, TX11, 59, rfl, by decide, z_t5 (List.mem_of_getElem? (i := 144) rfl), in_X11⟩
theorem wk_11_27 : z_wk 11 27 (.array .int) true := ⟨RX11, TX11, 59, tyX11, rfl, tyX11_ok, nmX11, rfl, by decide +kernel, rfl⟩
theorem lk_X11_54 : z_lk RX11 54 11 28 := ⟨RX11, TX11, 59, rfl, by decide, z_t5 (List.mem_of_getElem? (i := 145) rfl), in_X11⟩
theorem wk_11_28 : z_wk 11 28 (.array .int) true := ⟨RX11, TX11, 59, tyX11, rfl, tyX11_ok, nmX11, rfl, by decide +kernel, rfl⟩
theorem kj_X11_57 : Cond.constantLong RX11 57 (525618) ∈ lw_tbl := z_t5 (List.mem_of_getElem? (i := 93) rfl)
theorem kj_X11_59 : Cond.constantLong RX11 59 (408612) ∈ lw_tbl := z_t5 (List.mem_of_getElem? (i := 94) rfl)
theorem kj_X11_61 : Cond.constantLong RX11 61 (525908) ∈ lw_tbl := z_t5 (List.mem_of_getElem? (i := 95) rfl)
theorem kj_X11_63 : Cond.constantLong RX11 63 (769614) ∈ lw_tbl := z_t5 (List.mem_of_getElem? (i := 96) rfl)
theorem kj_X11_65 : Cond.constantLong RX11 65 (24) ∈ lw_tbl := z_t5 (List.mem_of_getElem? (i := 97) rfl)
theorem kj_X11_67 : Cond.constantLong RX11 67 (25) ∈ lw_tbl := z_t5 (List.mem_of_getElem? (i := 98) rfl)
theorem kj_X11_69 : Cond.constantLong RX11 69 (23609) ∈ lw_tbl := z_t5 (List.mem_of_getElem? (i := 99) rfl)
theorem kj_X11_71 : Cond.constantLong RX11 71 (4153) ∈ lw_tbl := z_t5 (List.mem_of_getElem? (i := 100) rfl)
theorem kj_X11_73 : Cond.constantLong RX11 73 (441828) ∈ lw_tbl := z_t5 (List.mem_of_getElem? (i := 101) rfl)
theorem lk_X11_75 : z_lk RX11 75 11 31 := ⟨RX11, TX11, 59, rfl, by decide, z_t5 (List.mem_of_getElem? (i := 148) rfl), in_X11⟩
theorem wk_11_31 : z_wk 11 31 (.array .long) true := ⟨RX11, TX11, 59, tyX11, rfl, tyX11_ok, nmX11, rfl, by decide +kernel, rfl⟩
theorem kj_X11_79 : Cond.constantLong RX11 79 (146885) ∈ lw_tbl := z_t5 (List.mem_of_getElem? (i := 102) rfl)
theorem kj_X11_81 : Cond.constantLong RX11 81 (404362868) ∈ lw_tbl := z_t5 (List.mem_of_getElem? (i := 103) rfl)
theorem kj_X11_83 : Cond.constantLong RX11 83 (16819795) ∈ lw_tbl := z_t5 (List.mem_of_getElem? (i := 104) rfl)
theorem kj_X11_85 : Cond.constantLong RX11 85 (24162707) ∈ lw_tbl := z_t5 (List.mem_of_getElem? (i := 105) rfl)
theorem kj_X11_87 : Cond.constantLong RX11 87 (103820) ∈ lw_tbl := z_t5 (List.mem_of_getElem? (i := 106) rfl)
theorem kj_X11_89 : Cond.constantLong RX11 89 (20965) ∈ lw_tbl := z_t5 (List.mem_of_getElem? (i := 107) rfl)
theorem kj_X11_91 : Cond.constantLong RX11 91 (267436) ∈ lw_tbl := z_t5 (List.mem_of_getElem? (i := 108) rfl)
theorem lk_X11_93 : z_lk RX11 93 11 32 := ⟨RX11, TX11, 59, rfl, by decide, z_t5 (List.mem_of_getElem? (i := 149) rfl), in_X11⟩
theorem wk_11_32 : z_wk 11 32 (.array .long) true := ⟨RX11, TX11, 59, tyX11, rfl, tyX11_ok, nmX11, rfl, by decide +kernel, rfl⟩
theorem kj_X11_96 : Cond.constantLong RX11 96 (24282707) ∈ lw_tbl := z_t5 (List.mem_of_getElem? (i := 109) rfl)
theorem kj_X11_98 : Cond.constantLong RX11 98 (407951539) ∈ lw_tbl := z_t5 (List.mem_of_getElem? (i := 110) rfl)
theorem kj_X11_100 : Cond.constantLong RX11 100 (67155) ∈ lw_tbl := z_t5 (List.mem_of_getElem? (i := 111) rfl)
theorem lk_X11_102 : z_lk RX11 102 11 33 := ⟨RX11, TX11, 59, rfl, by decide, z_t5 (List.mem_of_getElem? (i := 150) rfl), in_X11⟩
theorem wk_11_33 : z_wk 11 33 (.array .long) true := ⟨RX11, TX11, 59, tyX11, rfl, tyX11_ok, nmX11, rfl, by decide +kernel, rfl⟩
theorem lk_X11_105 : z_lk RX11 105 11 35 := ⟨RX11, TX11, 59, rfl, by decide, z_t5 (List.mem_of_getElem? (i := 152) rfl), in_X11⟩
theorem wk_11_35 : z_wk 11 35 (.array .long) true := ⟨RX11, TX11, 59, tyX11, rfl, tyX11_ok, nmX11, rfl, by decide +kernel, rfl⟩
theorem lk_X11_108 : z_lk RX11 108 11 36 := ⟨RX11, TX11, 59, rfl, by decide, z_t5 (List.mem_of_getElem? (i := 153) rfl), in_X11⟩
theorem wk_11_36 : z_wk 11 36 (.array .long) true := ⟨RX11, TX11, 59, tyX11, rfl, tyX11_ok, nmX11, rfl, by decide +kernel, rfl⟩
theorem lk_X11_111 : z_lk RX11 111 11 37 := ⟨RX11, TX11, 59, rfl, by decide, z_t5 (List.mem_of_getElem? (i := 154) rfl), in_X11⟩
theorem wk_11_37 : z_wk 11 37 (.array .long) true := ⟨RX11, TX11, 59, tyX11, rfl, tyX11_ok, nmX11, rfl, by decide +kernel, rfl⟩
theorem lk_X11_114 : z_lk RX11 114 11 41 := ⟨RX11, TX11, 59, rfl, by decide, z_t5 (List.mem_of_getElem? (i := 158) rfl), in_X11⟩
theorem wk_11_41 : z_wk 11 41 (.array .int) true := ⟨RX11, TX11, 59, tyX11, rfl, tyX11_ok, nmX11, rfl, by decide +kernel, rfl⟩
theorem lk_X11_117 : z_lk RX11 117 11 42 := ⟨RX11, TX11, 59, rfl, by decide, z_t5 (List.mem_of_getElem? (i := 159) rfl), in_X11⟩
theorem wk_11_42 : z_wk 11 42 (.array .long) true := ⟨RX11, TX11, 59, tyX11, rfl, tyX11_ok, nmX11, rfl, by decide +kernel, rfl⟩
theorem lk_X11_120 : z_lk RX11 120 11 43 := ⟨RX11, TX11, 59, rfl, by decide, z_t5 (List.mem_of_getElem? (i := 160) rfl), in_X11⟩
theorem wk_11_43 : z_wk 11 43 (.array .int) true := ⟨RX11, TX11, 59, tyX11, rfl, tyX11_ok, nmX11, rfl, by decide +kernel, rfl⟩
theorem lk_X11_123 : z_lk RX11 123 11 44 := ⟨RX11, TX11, 59, rfl, by decide, z_t5 (List.mem_of_getElem? (i := 161) rfl), in_X11⟩
theorem wk_11_44 : z_wk 11 44 (.array .int) true := ⟨RX11, TX11, 59, tyX11, rfl, tyX11_ok, nmX11, rfl, by decide +kernel, rfl⟩
theorem lk_X11_126 : z_lk RX11 126 11 45 := ⟨RX11, TX11, 59, rfl, by decide, z_t5 (List.mem_of_getElem? (i := 162) rfl), in_X11⟩
theorem wk_11_45 : z_wk 11 45 (.array .long) true := ⟨RX11, TX11, 59, tyX11, rfl, tyX11_ok, nmX11, rfl, by decide +kernel, rfl⟩
theorem lk_X11_129 : z_lk RX11 129 11 46 := ⟨RX11, TX11, 59, rfl, by decide, z_t5 (List.mem_of_getElem? (i := 163) rfl), in_X11⟩
theorem wk_11_46 : z_wk 11 46 (.array .long) true := ⟨RX11, TX11, 59, tyX11, rfl, tyX11_ok, nmX11, rfl, by decide +kernel, rfl⟩
theorem lk_X11_132 : z_lk RX11 132 11 47 := ⟨RX11, TX11, 59, rfl, by decide, z_t5 (List.mem_of_getElem? (i := 164) rfl), in_X11⟩
theorem wk_11_47 : z_wk 11 47 (.array .int) true := ⟨RX11, TX11, 59, tyX11, rfl, tyX11_ok, nmX11, rfl, by decide +kernel, rfl⟩
theorem lk_X11_135 : z_lk RX11 135 11 48 := ⟨RX11, TX11, 59, rfl, by decide, z_t5 (List.mem_of_getElem? (i := 165) rfl), in_X11⟩
theorem wk_11_48 : z_wk 11 48 (.array .int) true := ⟨RX11, TX11, 59, tyX11, rfl, tyX11_ok, nmX11, rfl, by decide +kernel, rfl⟩
theorem lk_X11_138 : z_lk RX11 138 11 49 := ⟨RX11, TX11, 59, rfl, by decide, z_t5 (List.mem_of_getElem? (i := 166) rfl), in_X11⟩
theorem wk_11_49 : z_wk 11 49 (.array .long) true := ⟨RX11, TX11, 59, tyX11, rfl, tyX11_ok, nmX11, rfl, by decide +kernel, rfl⟩
theorem kj_X11_141 : Cond.constantLong RX11 141 (643248) ∈ lw_tbl := z_t5 (List.mem_of_getElem? (i := 112) rfl)
theorem kj_X11_143 : Cond.constantLong RX11 143 (677454) ∈ lw_tbl := z_t5 (List.mem_of_getElem? (i := 113) rfl)
theorem kj_X11_145 : Cond.constantLong RX11 145 (16832101) ∈ lw_tbl := z_t5 (List.mem_of_getElem? (i := 114) rfl)
theorem kj_X11_147 : Cond.constantLong RX11 147 (431556) ∈ lw_tbl := z_t5 (List.mem_of_getElem? (i := 115) rfl)
theorem kj_X11_149 : Cond.constantLong RX11 149 (525939) ∈ lw_tbl := z_t5 (List.mem_of_getElem? (i := 116) rfl)
theorem lk_X11_151 : z_lk RX11 151 11 50 := ⟨RX11, TX11, 59, rfl, by decide, z_t5 (List.mem_of_getElem? (i := 167) rfl), in_X11⟩
theorem wk_11_50 : z_wk 11 50 (.array .long) true := ⟨RX11, TX11, 59, tyX11, rfl, tyX11_ok, nmX11, rfl, by decide +kernel, rfl⟩
theorem lk_X11_154 : z_lk RX11 154 11 51 := ⟨RX11, TX11, 59, rfl, by decide, z_t5 (List.mem_of_getElem? (i := 168) rfl), in_X11⟩
theorem wk_11_51 : z_wk 11 51 (.array .int) true := ⟨RX11, TX11, 59, tyX11, rfl, tyX11_ok, nmX11, rfl, by decide +kernel, rfl⟩
theorem lk_X11_157 : z_lk RX11 157 11 54 := ⟨RX11, TX11, 59, rfl, by decide, z_t5 (List.mem_of_getElem? (i := 171) rfl), in_X11⟩
theorem wk_11_54 : z_wk 11 54 .int false := ⟨RX11, TX11, 59, tyX11, rfl, tyX11_ok, nmX11, rfl, by decide +kernel, rfl⟩
theorem lk_X11_160 : z_lk RX11 160 11 57 := ⟨RX11, TX11, 59, rfl, by decide, z_t5 (List.mem_of_getElem? (i := 174) rfl), in_X11⟩
theorem wk_11_57 : z_wk 11 57 (.array .int) true := ⟨RX11, TX11, 59, tyX11, rfl, tyX11_ok, nmX11, rfl, by decide +kernel, rfl⟩
theorem lk_X11_163 : z_lk RX11 163 11 58 := ⟨RX11, TX11, 59, rfl, by decide, z_t5 (List.mem_of_getElem? (i := 175) rfl), in_X11⟩
theorem wk_11_58 : z_wk 11 58 .int false := ⟨RX11, TX11, 59, tyX11, rfl, tyX11_ok, nmX11, rfl, by decide +kernel, rfl⟩
theorem ck_X11_init : z_ck M_X11_init 0 := ⟨z_t5 (List.mem_of_getElem? (i := 91) rfl), z_t1 (List.mem_of_getElem? (i := 12) rfl), ⟨by decide +kernel, by decide +kernel, by decide +kernel⟩, by decide, by decide +kernel⟩
theorem ck_X10_status : z_ck M_X10_status 0 := ⟨z_t5 (List.mem_of_getElem? (i := 86) rfl), z_t1 (List.mem_of_getElem? (i := 1) rfl), ⟨by decide +kernel, by decide +kernel, by decide +kernel⟩, by decide, by decide +kernel⟩
theorem lk_X11_166 : z_lk RX11 166 11 0 := ⟨RX11, TX11, 59, rfl, by decide, z_t5 (List.mem_of_getElem? (i := 117) rfl), in_X11⟩
theorem wk_11_0 : z_wk 11 0 .int false := ⟨RX11, TX11, 59, tyX11, rfl, tyX11_ok, nmX11, rfl, by decide +kernel, rfl⟩
theorem lk_X11_169 : z_lk RX11 169 11 1 := ⟨RX11, TX11, 59, rfl, by decide, z_t5 (List.mem_of_getElem? (i := 118) rfl), in_X11⟩
theorem ck_X11_status : z_ck M_X11_status 0 := ⟨z_t8 (List.mem_of_getElem? (i := 96) rfl), z_t1 (List.mem_of_getElem? (i := 12) rfl), ⟨by decide +kernel, by decide +kernel, by decide +kernel⟩, by decide, by decide +kernel⟩
theorem kc_J6_265 : Cond.constant RJ6 265 (1431655765) ∈ lw_tbl := z_t4 (List.mem_of_getElem? (i := 10) rfl)
theorem kc_J6_266 : Cond.constant RJ6 266 (858993459) ∈ lw_tbl := z_t4 (List.mem_of_getElem? (i := 11) rfl)
theorem kc_J6_267 : Cond.constant RJ6 267 (252645135) ∈ lw_tbl := z_t4 (List.mem_of_getElem? (i := 12) rfl)
theorem ck_J6_bitCount_0f7a4 : z_ck M_J6_bitCount_0f7a4 1 := ⟨z_t4 (List.mem_of_getElem? (i := 9) rfl), z_t1 (List.mem_of_getElem? (i := 19) rfl), ⟨by decide +kernel, by decide +kernel, by decide +kernel⟩, by decide, by decide +kernel⟩
theorem lk_X10_108 : z_lk RX10 108 9 8 := ⟨RX9, TX9, 13, rfl, by decide, z_t1 (List.mem_of_getElem? (i := 69) rfl), in_X9⟩
theorem lk_X10_148 : z_lk RX10 148 9 9 := ⟨RX9, TX9, 13, rfl, by decide, z_t1 (List.mem_of_getElem? (i := 73) rfl), in_X9⟩
theorem ml_X10_312 : Cond.methodLink RX10 312 yJ6_bitCount_0f7a4 ∈ lw_tbl := z_t5 (List.mem_of_getElem? (i := 82) rfl)
theorem st_J6_bitCount_0f7a4 : Cond.static yJ6_bitCount_0f7a4 ∈ lw_tbl := z_t4 (List.mem_of_getElem? (i := 8) rfl)
theorem lk_X10_269 : z_lk RX10 269 9 10 := ⟨RX9, TX9, 13, rfl, by decide, z_t1 (List.mem_of_getElem? (i := 77) rfl), in_X9⟩
theorem lk_X10_181 : z_lk RX10 181 9 11 := ⟨RX9, TX9, 13, rfl, by decide, z_t1 (List.mem_of_getElem? (i := 79) rfl), in_X9⟩
theorem lk_X10_115 : z_lk RX10 115 8 1 := ⟨RX8, TX8, 2, rfl, by decide, z_t1 (List.mem_of_getElem? (i := 119) rfl), in_X8⟩
theorem lk_X10_171 : z_lk RX10 171 5 2 := ⟨RX5, TX5, 10, rfl, by decide, z_t1 (List.mem_of_getElem? (i := 166) rfl), in_X5⟩
theorem lk_X10_214 : z_lk RX10 214 9 12 := ⟨RX9, TX9, 13, rfl, by decide, z_t1 (List.mem_of_getElem? (i := 81) rfl), in_X9⟩
theorem gs_X10_165 : Cond.fieldLink RX10 165 "SoleReader" "TERM_MOST" "[I" ∈ lw_tbl := z_t3 (List.mem_of_getElem? (i := 36) rfl)
theorem lk_X10_168 : z_lk RX10 168 9 4 := ⟨RX9, TX9, 13, rfl, by decide, z_t1 (List.mem_of_getElem? (i := 59) rfl), in_X9⟩
theorem gs_X10_309 : Cond.fieldLink RX10 309 "SoleReader" "REFUSALS" "[I" ∈ lw_tbl := z_t5 (List.mem_of_getElem? (i := 80) rfl)
theorem ck_X10_count : z_ck M_X10_count 1 := ⟨z_t5 (List.mem_of_getElem? (i := 79) rfl), z_t1 (List.mem_of_getElem? (i := 1) rfl), ⟨by decide +kernel, by decide +kernel, by decide +kernel⟩, by decide, by decide +kernel⟩
theorem ck_X11_in : z_ck M_X11_in 3 := ⟨z_t6 (List.mem_of_getElem? (i := 73) rfl), z_t1 (List.mem_of_getElem? (i := 12) rfl), ⟨by decide +kernel, by decide +kernel, by decide +kernel⟩, by decide, by decide +kernel⟩
theorem ck_X11_wallsThere : z_ck M_X11_wallsThere 0 := ⟨z_t8 (List.mem_of_getElem? (i := 54) rfl), z_t1 (List.mem_of_getElem? (i := 12) rfl), ⟨by decide +kernel, by decide +kernel, by decide +kernel⟩, by decide, by decide +kernel⟩
theorem ml_X11_541 : Cond.methodLink RX11 541 yX11_wallsThere ∈ lw_tbl := z_t8 (List.mem_of_getElem? (i := 51) rfl)
theorem vk_X11_wallsThere : Cond.instanceMethod yX11_wallsThere ∈ lw_tbl ∧ Cond.selects yX11_wallsThere.cls yX11_wallsThere yX11_wallsThere ∈ lw_tbl := ⟨z_t8 (List.mem_of_getElem? (i := 53) rfl), List.mem_append_left _ (List.mem_of_getElem? (i := 99) (by decide +kernel))⟩
theorem lk_X11_172 : z_lk RX11 172 11 8 := ⟨RX11, TX11, 59, rfl, by decide, z_t5 (List.mem_of_getElem? (i := 125) rfl), in_X11⟩
theorem lk_X11_239 : z_lk RX11 239 11 13 := ⟨RX11, TX11, 59, rfl, by decide, z_t5 (List.mem_of_getElem? (i := 130) rfl), in_X11⟩
theorem kj_X11_573 : Cond.constantLong RX11 573 (12) ∈ lw_tbl := z_t8 (List.mem_of_getElem? (i := 91) rfl)
theorem kj_X11_575 : Cond.constantLong RX11 575 (14) ∈ lw_tbl := z_t8 (List.mem_of_getElem? (i := 92) rfl)
theorem ml_X11_186 : Cond.methodLink RX11 186 yX11_in ∈ lw_tbl := z_t6 (List.mem_of_getElem? (i := 71) rfl)
theorem st_X11_in : Cond.static yX11_in ∈ lw_tbl := z_t6 (List.mem_of_getElem? (i := 72) rfl)
theorem ck_X11_count : z_ck M_X11_count 1 := ⟨z_t8 (List.mem_of_getElem? (i := 90) rfl), z_t1 (List.mem_of_getElem? (i := 12) rfl), ⟨by decide +kernel, by decide +kernel, by decide +kernel⟩, by decide, by decide +kernel⟩
theorem ck_X10_refuse : z_ck M_X10_refuse 1 := ⟨z_t2 (List.mem_of_getElem? (i := 171) rfl), z_t1 (List.mem_of_getElem? (i := 1) rfl), ⟨by decide +kernel, by decide +kernel, by decide +kernel⟩, by decide, by decide +kernel⟩
theorem ml_X9_58 : Cond.methodLink RX9 58 arraycopyName ∈ lw_tbl := z_t3 (List.mem_of_getElem? (i := 232) rfl)
theorem ck_X9_become : z_ck M_X9_become 1 := ⟨z_t3 (List.mem_of_getElem? (i := 231) rfl), z_t1 (List.mem_of_getElem? (i := 2) rfl), ⟨by decide +kernel, by decide +kernel, by decide +kernel⟩, by decide, by decide +kernel⟩
theorem ck_X10_grant : z_ck M_X10_grant 1 := ⟨z_t2 (List.mem_of_getElem? (i := 179) rfl), z_t1 (List.mem_of_getElem? (i := 1) rfl), ⟨by decide +kernel, by decide +kernel, by decide +kernel⟩, by decide, by decide +kernel⟩
theorem ml_X10_104 : Cond.methodLink RX10 104 yX10_refuse ∈ lw_tbl := z_t2 (List.mem_of_getElem? (i := 168) rfl)
theorem vk_X10_refuse : Cond.instanceMethod yX10_refuse ∈ lw_tbl ∧ Cond.selects yX10_refuse.cls yX10_refuse yX10_refuse ∈ lw_tbl := ⟨z_t2 (List.mem_of_getElem? (i := 170) rfl), List.mem_append_left _ (List.mem_of_getElem? (i := 0) (by decide +kernel))⟩
theorem ml_X10_306 : Cond.methodLink RX10 306 yX9_become ∈ lw_tbl := z_t5 (List.mem_of_getElem? (i := 57) rfl)
theorem vk_X9_become : Cond.instanceMethod yX9_become ∈ lw_tbl ∧ Cond.selects yX9_become.cls yX9_become yX9_become ∈ lw_tbl := ⟨z_t3 (List.mem_of_getElem? (i := 229) rfl), z_t3 (List.mem_of_getElem? (i := 230) rfl)⟩
theorem ml_X10_118 : Cond.methodLink RX10 118 yX10_grant ∈ lw_tbl := z_t2 (List.mem_of_getElem? (i := 176) rfl)
theorem vk_X10_grant : Cond.instanceMethod yX10_grant ∈ lw_tbl ∧ Cond.selects yX10_grant.cls yX10_grant yX10_grant ∈ lw_tbl := ⟨z_t2 (List.mem_of_getElem? (i := 178) rfl), List.mem_append_left _ (List.mem_of_getElem? (i := 1) (by decide +kernel))⟩
theorem ck_X10_back : z_ck M_X10_back 1 := ⟨z_t5 (List.mem_of_getElem? (i := 75) rfl), z_t1 (List.mem_of_getElem? (i := 1) rfl), ⟨by decide +kernel, by decide +kernel, by decide +kernel⟩, by decide, by decide +kernel⟩
theorem wk_11_1 : z_wk 11 1 .int false := ⟨RX11, TX11, 59, tyX11, rfl, tyX11_ok, nmX11, rfl, by decide +kernel, rfl⟩
theorem ck_X11_tell : z_ck M_X11_tell 1 := ⟨z_t6 (List.mem_of_getElem? (i := 62) rfl), z_t1 (List.mem_of_getElem? (i := 12) rfl), ⟨by decide +kernel, by decide +kernel, by decide +kernel⟩, by decide, by decide +kernel⟩
theorem wk_11_8 : z_wk 11 8 .int false := ⟨RX11, TX11, 59, tyX11, rfl, tyX11_ok, nmX11, rfl, by decide +kernel, rfl⟩
theorem ml_X11_175 : Cond.methodLink RX11 175 yX11_tell ∈ lw_tbl := z_t6 (List.mem_of_getElem? (i := 59) rfl)
theorem vk_X11_tell : Cond.instanceMethod yX11_tell ∈ lw_tbl ∧ Cond.selects yX11_tell.cls yX11_tell yX11_tell ∈ lw_tbl := ⟨z_t6 (List.mem_of_getElem? (i := 61) rfl), List.mem_append_left _ (List.mem_of_getElem? (i := 34) (by decide +kernel))⟩
theorem ck_X11_lasting : z_ck M_X11_lasting 1 := ⟨z_t6 (List.mem_of_getElem? (i := 81) rfl), z_t1 (List.mem_of_getElem? (i := 12) rfl), ⟨by decide +kernel, by decide +kernel, by decide +kernel⟩, by decide, by decide +kernel⟩
theorem ml_X11_190 : Cond.methodLink RX11 190 yX11_lasting ∈ lw_tbl := z_t6 (List.mem_of_getElem? (i := 78) rfl)
theorem vk_X11_lasting : Cond.instanceMethod yX11_lasting ∈ lw_tbl ∧ Cond.selects yX11_lasting.cls yX11_lasting yX11_lasting ∈ lw_tbl := ⟨z_t6 (List.mem_of_getElem? (i := 80) rfl), List.mem_append_left _ (List.mem_of_getElem? (i := 36) (by decide +kernel))⟩
theorem ck_X11_back : z_ck M_X11_back 1 := ⟨z_t6 (List.mem_of_getElem? (i := 77) rfl), z_t1 (List.mem_of_getElem? (i := 12) rfl), ⟨by decide +kernel, by decide +kernel, by decide +kernel⟩, by decide, by decide +kernel⟩
theorem ck_X10_image : z_ck M_X10_image 1 := ⟨z_t5 (List.mem_of_getElem? (i := 71) rfl), z_t1 (List.mem_of_getElem? (i := 1) rfl), ⟨by decide +kernel, by decide +kernel, by decide +kernel⟩, by decide, by decide +kernel⟩
theorem ck_X11_image : z_ck M_X11_image 1 := ⟨z_t6 (List.mem_of_getElem? (i := 70) rfl), z_t1 (List.mem_of_getElem? (i := 12) rfl), ⟨by decide +kernel, by decide +kernel, by decide +kernel⟩, by decide, by decide +kernel⟩
theorem ck_X9_hasPair : z_ck M_X9_hasPair 1 := ⟨z_t2 (List.mem_of_getElem? (i := 187) rfl), z_t1 (List.mem_of_getElem? (i := 2) rfl), ⟨by decide +kernel, by decide +kernel, by decide +kernel⟩, by decide, by decide +kernel⟩
theorem ck_X9_wornAt : z_ck M_X9_wornAt 2 := ⟨z_t2 (List.mem_of_getElem? (i := 191) rfl), z_t1 (List.mem_of_getElem? (i := 2) rfl), ⟨by decide +kernel, by decide +kernel, by decide +kernel⟩, by decide, by decide +kernel⟩
theorem lk_X10_132 : z_lk RX10 132 9 1 := ⟨RX9, TX9, 13, rfl, by decide, z_t1 (List.mem_of_getElem? (i := 46) rfl), in_X9⟩
theorem lk_X10_129 : z_lk RX10 129 9 0 := ⟨RX9, TX9, 13, rfl, by decide, z_t1 (List.mem_of_getElem? (i := 41) rfl), in_X9⟩
theorem ml_X10_121 : Cond.methodLink RX10 121 yX9_hasPair ∈ lw_tbl := z_t2 (List.mem_of_getElem? (i := 184) rfl)
theorem vk_X9_hasPair : Cond.instanceMethod yX9_hasPair ∈ lw_tbl ∧ Cond.selects yX9_hasPair.cls yX9_hasPair yX9_hasPair ∈ lw_tbl := ⟨z_t2 (List.mem_of_getElem? (i := 185) rfl), z_t2 (List.mem_of_getElem? (i := 186) rfl)⟩
theorem ml_X10_125 : Cond.methodLink RX10 125 yX9_wornAt ∈ lw_tbl := z_t2 (List.mem_of_getElem? (i := 188) rfl)
theorem vk_X9_wornAt : Cond.instanceMethod yX9_wornAt ∈ lw_tbl ∧ Cond.selects yX9_wornAt.cls yX9_wornAt yX9_wornAt ∈ lw_tbl := ⟨z_t2 (List.mem_of_getElem? (i := 189) rfl), z_t2 (List.mem_of_getElem? (i := 190) rfl)⟩
theorem ck_X10_drawn : z_ck M_X10_drawn 2 := ⟨z_t5 (List.mem_of_getElem? (i := 67) rfl), z_t1 (List.mem_of_getElem? (i := 1) rfl), ⟨by decide +kernel, by decide +kernel, by decide +kernel⟩, by decide, by decide +kernel⟩
theorem kj_X11_340 : Cond.constantLong RX11 340 (5) ∈ lw_tbl := z_t7 (List.mem_of_getElem? (i := 46) rfl)
theorem ck_X11_drawn : z_ck M_X11_drawn 2 := ⟨z_t8 (List.mem_of_getElem? (i := 86) rfl), z_t1 (List.mem_of_getElem? (i := 12) rfl), ⟨by decide +kernel, by decide +kernel, by decide +kernel⟩, by decide, by decide +kernel⟩
theorem kj_X10_334 : Cond.constantLong RX10 334 (1103) ∈ lw_tbl := z_t5 (List.mem_of_getElem? (i := 61) rfl)
theorem kj_X10_336 : Cond.constantLong RX10 336 (12345) ∈ lw_tbl := z_t5 (List.mem_of_getElem? (i := 62) rfl)
theorem kj_X10_338 : Cond.constantLong RX10 338 (1000003) ∈ lw_tbl := z_t5 (List.mem_of_getElem? (i := 63) rfl)
theorem ck_X10_drawBehind : z_ck M_X10_drawBehind 1 := ⟨z_t5 (List.mem_of_getElem? (i := 60) rfl), z_t1 (List.mem_of_getElem? (i := 1) rfl), ⟨by decide +kernel, by decide +kernel, by decide +kernel⟩, by decide, by decide +kernel⟩
theorem ck_X10_isPart : z_ck M_X10_isPart 1 := ⟨z_t3 (List.mem_of_getElem? (i := 17) rfl), z_t1 (List.mem_of_getElem? (i := 1) rfl), ⟨by decide +kernel, by decide +kernel, by decide +kernel⟩, by decide, by decide +kernel⟩
theorem lk_X0_80 : z_lk RX0 80 9 4 := ⟨RX9, TX9, 13, rfl, by decide, z_t1 (List.mem_of_getElem? (i := 55) rfl), in_X9⟩
theorem ck_X0_passDay : z_ck M_X0_passDay 1 := ⟨z_t4 (List.mem_of_getElem? (i := 24) rfl), z_t1 (List.mem_of_getElem? (i := 7) rfl), ⟨by decide +kernel, by decide +kernel, by decide +kernel⟩, by decide, by decide +kernel⟩
theorem lk_X0_52 : z_lk RX0 52 9 0 := ⟨RX9, TX9, 13, rfl, by decide, z_t1 (List.mem_of_getElem? (i := 40) rfl), in_X9⟩
theorem lk_X0_74 : z_lk RX0 74 9 1 := ⟨RX9, TX9, 13, rfl, by decide, z_t1 (List.mem_of_getElem? (i := 45) rfl), in_X9⟩
theorem ml_X0_38 : Cond.methodLink RX0 38 yX9_wornAt ∈ lw_tbl := z_t4 (List.mem_of_getElem? (i := 31) rfl)
theorem ck_X0_remember : z_ck M_X0_remember 4 := ⟨z_t4 (List.mem_of_getElem? (i := 30) rfl), z_t1 (List.mem_of_getElem? (i := 7) rfl), ⟨by decide +kernel, by decide +kernel, by decide +kernel⟩, by decide, by decide +kernel⟩
theorem ck_X9_placeOf : z_ck M_X9_placeOf 1 := ⟨z_t2 (List.mem_of_getElem? (i := 195) rfl), z_t1 (List.mem_of_getElem? (i := 2) rfl), ⟨by decide +kernel, by decide +kernel, by decide +kernel⟩, by decide, by decide +kernel⟩
theorem ck_X1_beside : z_ck M_X1_beside 2 := ⟨z_t2 (List.mem_of_getElem? (i := 202) rfl), z_t1 (List.mem_of_getElem? (i := 6) rfl), ⟨by decide +kernel, by decide +kernel, by decide +kernel⟩, by decide, by decide +kernel⟩
theorem ck_X9_isWall : z_ck M_X9_isWall 1 := ⟨z_t2 (List.mem_of_getElem? (i := 206) rfl), z_t1 (List.mem_of_getElem? (i := 2) rfl), ⟨by decide +kernel, by decide +kernel, by decide +kernel⟩, by decide, by decide +kernel⟩
theorem lk_X1_58 : z_lk RX1 58 9 2 := ⟨RX9, TX9, 13, rfl, by decide, z_t1 (List.mem_of_getElem? (i := 50) rfl), in_X9⟩
theorem lk_X1_63 : z_lk RX1 63 9 4 := ⟨RX9, TX9, 13, rfl, by decide, z_t1 (List.mem_of_getElem? (i := 58) rfl), in_X9⟩
theorem ck_X1_setLawWords : z_ck M_X1_setLawWords 5 := ⟨z_t2 (List.mem_of_getElem? (i := 210) rfl), z_t1 (List.mem_of_getElem? (i := 6) rfl), ⟨by decide +kernel, by decide +kernel, by decide +kernel⟩, by decide, by decide +kernel⟩
theorem ck_X9_hasLaw : z_ck M_X9_hasLaw 1 := ⟨z_t2 (List.mem_of_getElem? (i := 222) rfl), z_t1 (List.mem_of_getElem? (i := 2) rfl), ⟨by decide +kernel, by decide +kernel, by decide +kernel⟩, by decide, by decide +kernel⟩
theorem ml_X9_64 : Cond.methodLink RX9 64 yX9_hasLaw ∈ lw_tbl := z_t2 (List.mem_of_getElem? (i := 219) rfl)
theorem vk_X9_hasLaw : Cond.instanceMethod yX9_hasLaw ∈ lw_tbl ∧ Cond.selects yX9_hasLaw.cls yX9_hasLaw yX9_hasLaw ∈ lw_tbl := ⟨z_t2 (List.mem_of_getElem? (i := 220) rfl), z_t2 (List.mem_of_getElem? (i := 221) rfl)⟩
theorem ck_X9_lawAt : z_ck M_X9_lawAt 1 := ⟨z_t2 (List.mem_of_getElem? (i := 218) rfl), z_t1 (List.mem_of_getElem? (i := 2) rfl), ⟨by decide +kernel, by decide +kernel, by decide +kernel⟩, by decide, by decide +kernel⟩
theorem ml_X9_68 : Cond.methodLink RX9 68 yX9_lawAt ∈ lw_tbl := z_t2 (List.mem_of_getElem? (i := 215) rfl)
theorem vk_X9_lawAt : Cond.instanceMethod yX9_lawAt ∈ lw_tbl ∧ Cond.selects yX9_lawAt.cls yX9_lawAt yX9_lawAt ∈ lw_tbl := ⟨z_t2 (List.mem_of_getElem? (i := 216) rfl), z_t2 (List.mem_of_getElem? (i := 217) rfl)⟩
theorem ck_X9_lawInForce : z_ck M_X9_lawInForce 0 := ⟨z_t2 (List.mem_of_getElem? (i := 214) rfl), z_t1 (List.mem_of_getElem? (i := 2) rfl), ⟨by decide +kernel, by decide +kernel, by decide +kernel⟩, by decide, by decide +kernel⟩
theorem ck_X7_field : z_ck M_X7_field 2 := ⟨z_t2 (List.mem_of_getElem? (i := 230) rfl), z_t1 (List.mem_of_getElem? (i := 5) rfl), ⟨by decide +kernel, by decide +kernel, by decide +kernel⟩, by decide, by decide +kernel⟩
theorem ck_X1_joined : z_ck M_X1_joined 3 := ⟨z_t3 (List.mem_of_getElem? (i := 0) rfl), z_t1 (List.mem_of_getElem? (i := 6) rfl), ⟨by decide +kernel, by decide +kernel, by decide +kernel⟩, by decide, by decide +kernel⟩
theorem ml_X1_34 : Cond.methodLink RX1 34 Lib.Math.max.name ∈ lw_tbl := z_t2 (List.mem_of_getElem? (i := 235) rfl)
theorem ml_X1_40 : Cond.methodLink RX1 40 yX1_joined ∈ lw_tbl := z_t2 (List.mem_of_getElem? (i := 238) rfl)
theorem st_X1_joined : Cond.static yX1_joined ∈ lw_tbl := z_t2 (List.mem_of_getElem? (i := 239) rfl)
theorem kj_X1_44 : Cond.constantLong RX1 44 (1000000000) ∈ lw_tbl := z_t3 (List.mem_of_getElem? (i := 1) rfl)
theorem kj_X1_46 : Cond.constantLong RX1 46 (-1000000000) ∈ lw_tbl := z_t3 (List.mem_of_getElem? (i := 2) rfl)
theorem lk_X1_23 : z_lk RX1 23 7 3 := ⟨RX7, TX7, 5, rfl, by decide, z_t1 (List.mem_of_getElem? (i := 144) rfl), in_X7⟩
theorem lk_X1_28 : z_lk RX1 28 7 0 := ⟨RX7, TX7, 5, rfl, by decide, z_t1 (List.mem_of_getElem? (i := 139) rfl), in_X7⟩
theorem lk_X1_31 : z_lk RX1 31 7 1 := ⟨RX7, TX7, 5, rfl, by decide, z_t1 (List.mem_of_getElem? (i := 141) rfl), in_X7⟩
theorem ck_X1_reckon : z_ck M_X1_reckon 3 := ⟨z_t2 (List.mem_of_getElem? (i := 234) rfl), z_t1 (List.mem_of_getElem? (i := 6) rfl), ⟨by decide +kernel, by decide +kernel, by decide +kernel⟩, by decide, by decide +kernel⟩
theorem ml_X1_51 : Cond.methodLink RX1 51 yX7_field ∈ lw_tbl := z_t2 (List.mem_of_getElem? (i := 227) rfl)
theorem vk_X7_field : Cond.instanceMethod yX7_field ∈ lw_tbl ∧ Cond.selects yX7_field.cls yX7_field yX7_field ∈ lw_tbl := ⟨z_t2 (List.mem_of_getElem? (i := 228) rfl), z_t2 (List.mem_of_getElem? (i := 229) rfl)⟩
theorem ml_X1_54 : Cond.methodLink RX1 54 yX1_reckon ∈ lw_tbl := z_t2 (List.mem_of_getElem? (i := 231) rfl)
theorem vk_X1_reckon : Cond.instanceMethod yX1_reckon ∈ lw_tbl ∧ Cond.selects yX1_reckon.cls yX1_reckon yX1_reckon ∈ lw_tbl := ⟨z_t2 (List.mem_of_getElem? (i := 232) rfl), z_t2 (List.mem_of_getElem? (i := 233) rfl)⟩
theorem lk_X1_48 : z_lk RX1 48 7 4 := ⟨RX7, TX7, 5, rfl, by decide, z_t1 (List.mem_of_getElem? (i := 149) rfl), in_X7⟩
theorem ck_X1_lastThatHolds : z_ck M_X1_lastThatHolds 2 := ⟨z_t2 (List.mem_of_getElem? (i := 226) rfl), z_t1 (List.mem_of_getElem? (i := 6) rfl), ⟨by decide +kernel, by decide +kernel, by decide +kernel⟩, by decide, by decide +kernel⟩
theorem ml_X1_88 : Cond.methodLink RX1 88 yX1_beside ∈ lw_tbl := z_t2 (List.mem_of_getElem? (i := 200) rfl)
theorem st_X1_beside : Cond.static yX1_beside ∈ lw_tbl := z_t2 (List.mem_of_getElem? (i := 201) rfl)
theorem ml_X1_91 : Cond.methodLink RX1 91 yX9_isWall ∈ lw_tbl := z_t2 (List.mem_of_getElem? (i := 203) rfl)
theorem vk_X9_isWall : Cond.instanceMethod yX9_isWall ∈ lw_tbl ∧ Cond.selects yX9_isWall.cls yX9_isWall yX9_isWall ∈ lw_tbl := ⟨z_t2 (List.mem_of_getElem? (i := 204) rfl), z_t2 (List.mem_of_getElem? (i := 205) rfl)⟩
theorem ml_X1_66 : Cond.methodLink RX1 66 yX1_setLawWords ∈ lw_tbl := z_t2 (List.mem_of_getElem? (i := 207) rfl)
theorem vk_X1_setLawWords : Cond.instanceMethod yX1_setLawWords ∈ lw_tbl ∧ Cond.selects yX1_setLawWords.cls yX1_setLawWords yX1_setLawWords ∈ lw_tbl := ⟨z_t2 (List.mem_of_getElem? (i := 209) rfl), List.mem_append_left _ (List.mem_of_getElem? (i := 2) (by decide +kernel))⟩
theorem ml_X1_84 : Cond.methodLink RX1 84 yX9_lawInForce ∈ lw_tbl := z_t2 (List.mem_of_getElem? (i := 211) rfl)
theorem vk_X9_lawInForce : Cond.instanceMethod yX9_lawInForce ∈ lw_tbl ∧ Cond.selects yX9_lawInForce.cls yX9_lawInForce yX9_lawInForce ∈ lw_tbl := ⟨z_t2 (List.mem_of_getElem? (i := 212) rfl), z_t2 (List.mem_of_getElem? (i := 213) rfl)⟩
theorem ml_X1_70 : Cond.methodLink RX1 70 yX1_lastThatHolds ∈ lw_tbl := z_t2 (List.mem_of_getElem? (i := 223) rfl)
theorem vk_X1_lastThatHolds : Cond.instanceMethod yX1_lastThatHolds ∈ lw_tbl ∧ Cond.selects yX1_lastThatHolds.cls yX1_lastThatHolds yX1_lastThatHolds ∈ lw_tbl := ⟨z_t2 (List.mem_of_getElem? (i := 225) rfl), List.mem_append_left _ (List.mem_of_getElem? (i := 3) (by decide +kernel))⟩
theorem ck_X1_target : z_ck M_X1_target 3 := ⟨z_t2 (List.mem_of_getElem? (i := 199) rfl), z_t1 (List.mem_of_getElem? (i := 6) rfl), ⟨by decide +kernel, by decide +kernel, by decide +kernel⟩, by decide, by decide +kernel⟩
theorem ml_X1_77 : Cond.methodLink RX1 77 yX9_wornAt ∈ lw_tbl := z_t3 (List.mem_of_getElem? (i := 30) rfl)
theorem ml_X1_80 : Cond.methodLink RX1 80 yX9_placeOf ∈ lw_tbl := z_t3 (List.mem_of_getElem? (i := 31) rfl)
theorem vk_X9_placeOf : Cond.instanceMethod yX9_placeOf ∈ lw_tbl ∧ Cond.selects yX9_placeOf.cls yX9_placeOf yX9_placeOf ∈ lw_tbl := ⟨z_t2 (List.mem_of_getElem? (i := 193) rfl), z_t2 (List.mem_of_getElem? (i := 194) rfl)⟩
theorem ml_X1_74 : Cond.methodLink RX1 74 Lib.Math.min.name ∈ lw_tbl := z_t3 (List.mem_of_getElem? (i := 23) rfl)
theorem ck_X1_leaves : z_ck M_X1_leaves 3 := ⟨z_t3 (List.mem_of_getElem? (i := 29) rfl), z_t1 (List.mem_of_getElem? (i := 6) rfl), ⟨by decide +kernel, by decide +kernel, by decide +kernel⟩, by decide, by decide +kernel⟩
theorem ck_X1_wears : z_ck M_X1_wears 6 := ⟨z_t3 (List.mem_of_getElem? (i := 22) rfl), z_t1 (List.mem_of_getElem? (i := 6) rfl), ⟨by decide +kernel, by decide +kernel, by decide +kernel⟩, by decide, by decide +kernel⟩
theorem ck_X10_turned : z_ck M_X10_turned 2 := ⟨z_t4 (List.mem_of_getElem? (i := 40) rfl), z_t1 (List.mem_of_getElem? (i := 1) rfl), ⟨by decide +kernel, by decide +kernel, by decide +kernel⟩, by decide, by decide +kernel⟩
theorem lk_X0_66 : z_lk RX0 66 9 3 := ⟨RX9, TX9, 13, rfl, by decide, z_t1 (List.mem_of_getElem? (i := 52) rfl), in_X9⟩
theorem ml_X0_69 : Cond.methodLink RX0 69 Lib.Math.min.name ∈ lw_tbl := z_t4 (List.mem_of_getElem? (i := 37) rfl)
theorem st_X10_turned : Cond.static yX10_turned ∈ lw_tbl := z_t4 (List.mem_of_getElem? (i := 39) rfl)
theorem ml_X0_58 : Cond.methodLink RX0 58 yX9_lawInForce ∈ lw_tbl := z_t4 (List.mem_of_getElem? (i := 35) rfl)
theorem ml_X0_62 : Cond.methodLink RX0 62 yX1_wears ∈ lw_tbl := z_t4 (List.mem_of_getElem? (i := 36) rfl)
theorem vk_X1_wears : Cond.instanceMethod yX1_wears ∈ lw_tbl ∧ Cond.selects yX1_wears.cls yX1_wears yX1_wears ∈ lw_tbl := ⟨z_t3 (List.mem_of_getElem? (i := 20) rfl), z_t3 (List.mem_of_getElem? (i := 21) rfl)⟩
theorem ml_X0_55 : Cond.methodLink RX0 55 yX1_leaves ∈ lw_tbl := z_t4 (List.mem_of_getElem? (i := 34) rfl)
theorem vk_X1_leaves : Cond.instanceMethod yX1_leaves ∈ lw_tbl ∧ Cond.selects yX1_leaves.cls yX1_leaves yX1_leaves ∈ lw_tbl := ⟨z_t3 (List.mem_of_getElem? (i := 27) rfl), z_t3 (List.mem_of_getElem? (i := 28) rfl)⟩
theorem ml_X0_34 : Cond.methodLink RX0 34 yX0_remember ∈ lw_tbl := z_t4 (List.mem_of_getElem? (i := 27) rfl)
theorem vk_X0_remember : Cond.instanceMethod yX0_remember ∈ lw_tbl ∧ Cond.selects yX0_remember.cls yX0_remember yX0_remember ∈ lw_tbl := ⟨z_t4 (List.mem_of_getElem? (i := 29) rfl), List.mem_append_left _ (List.mem_of_getElem? (i := 23) (by decide +kernel))⟩
theorem ml_X0_42 : Cond.methodLink RX0 42 yX9_placeOf ∈ lw_tbl := z_t4 (List.mem_of_getElem? (i := 32) rfl)
theorem ml_X0_46 : Cond.methodLink RX0 46 yX1_target ∈ lw_tbl := z_t4 (List.mem_of_getElem? (i := 33) rfl)
theorem vk_X1_target : Cond.instanceMethod yX1_target ∈ lw_tbl ∧ Cond.selects yX1_target.cls yX1_target yX1_target ∈ lw_tbl := ⟨z_t2 (List.mem_of_getElem? (i := 197) rfl), z_t2 (List.mem_of_getElem? (i := 198) rfl)⟩
theorem ml_X0_29 : Cond.methodLink RX0 29 yX9_hasPair ∈ lw_tbl := z_t4 (List.mem_of_getElem? (i := 26) rfl)
theorem ml_X0_25 : Cond.methodLink RX0 25 yX0_passDay ∈ lw_tbl := z_t4 (List.mem_of_getElem? (i := 21) rfl)
theorem vk_X0_passDay : Cond.instanceMethod yX0_passDay ∈ lw_tbl ∧ Cond.selects yX0_passDay.cls yX0_passDay yX0_passDay ∈ lw_tbl := ⟨z_t4 (List.mem_of_getElem? (i := 23) rfl), List.mem_append_left _ (List.mem_of_getElem? (i := 22) (by decide +kernel))⟩
theorem st_X10_isPart : Cond.static yX10_isPart ∈ lw_tbl := z_t3 (List.mem_of_getElem? (i := 16) rfl)
theorem ck_X0_carryOut : z_ck M_X0_carryOut 4 := ⟨z_t4 (List.mem_of_getElem? (i := 19) rfl), z_t1 (List.mem_of_getElem? (i := 7) rfl), ⟨by decide +kernel, by decide +kernel, by decide +kernel⟩, by decide, by decide +kernel⟩
theorem ml_X10_317 : Cond.methodLink RX10 317 yX0_carryOut ∈ lw_tbl := z_t4 (List.mem_of_getElem? (i := 66) rfl)
theorem vk_X0_carryOut : Cond.instanceMethod yX0_carryOut ∈ lw_tbl ∧ Cond.selects yX0_carryOut.cls yX0_carryOut yX0_carryOut ∈ lw_tbl := ⟨z_t4 (List.mem_of_getElem? (i := 17) rfl), z_t4 (List.mem_of_getElem? (i := 18) rfl)⟩
theorem ml_X10_331 : Cond.methodLink RX10 331 yX10_drawBehind ∈ lw_tbl := z_t5 (List.mem_of_getElem? (i := 58) rfl)
theorem st_X10_drawBehind : Cond.static yX10_drawBehind ∈ lw_tbl := z_t5 (List.mem_of_getElem? (i := 59) rfl)
theorem ck_X10_liveOnPaper : z_ck M_X10_liveOnPaper 2 := ⟨z_t5 (List.mem_of_getElem? (i := 56) rfl), z_t1 (List.mem_of_getElem? (i := 1) rfl), ⟨by decide +kernel, by decide +kernel, by decide +kernel⟩, by decide, by decide +kernel⟩
theorem kc_X10_302 : Cond.constant RX10 302 (1000000) ∈ lw_tbl := z_t5 (List.mem_of_getElem? (i := 52) rfl)
theorem ml_X10_303 : Cond.methodLink RX10 303 yX10_liveOnPaper ∈ lw_tbl := z_t5 (List.mem_of_getElem? (i := 53) rfl)
theorem vk_X10_liveOnPaper : Cond.instanceMethod yX10_liveOnPaper ∈ lw_tbl ∧ Cond.selects yX10_liveOnPaper.cls yX10_liveOnPaper yX10_liveOnPaper ∈ lw_tbl := ⟨z_t5 (List.mem_of_getElem? (i := 55) rfl), List.mem_append_left _ (List.mem_of_getElem? (i := 33) (by decide +kernel))⟩
theorem ck_X10_years : z_ck M_X10_years 2 := ⟨z_t5 (List.mem_of_getElem? (i := 51) rfl), z_t1 (List.mem_of_getElem? (i := 1) rfl), ⟨by decide +kernel, by decide +kernel, by decide +kernel⟩, by decide, by decide +kernel⟩
theorem ck_X11_keepAll : z_ck M_X11_keepAll 1 := ⟨z_t7 (List.mem_of_getElem? (i := 106) rfl), z_t1 (List.mem_of_getElem? (i := 12) rfl), ⟨by decide +kernel, by decide +kernel, by decide +kernel⟩, by decide, by decide +kernel⟩
theorem lk_X11_559 : z_lk RX11 559 11 56 := ⟨RX11, TX11, 59, rfl, by decide, z_t5 (List.mem_of_getElem? (i := 173) rfl), in_X11⟩
theorem kj_X11_562 : Cond.constantLong RX11 562 (1103) ∈ lw_tbl := z_t8 (List.mem_of_getElem? (i := 80) rfl)
theorem kj_X11_564 : Cond.constantLong RX11 564 (12345) ∈ lw_tbl := z_t8 (List.mem_of_getElem? (i := 81) rfl)
theorem kj_X11_566 : Cond.constantLong RX11 566 (1000003) ∈ lw_tbl := z_t8 (List.mem_of_getElem? (i := 82) rfl)
theorem wk_11_56 : z_wk 11 56 .long false := ⟨RX11, TX11, 59, tyX11, rfl, tyX11_ok, nmX11, rfl, by decide +kernel, rfl⟩
theorem ck_X11_draw : z_ck M_X11_draw 1 := ⟨z_t8 (List.mem_of_getElem? (i := 79) rfl), z_t1 (List.mem_of_getElem? (i := 12) rfl), ⟨by decide +kernel, by decide +kernel, by decide +kernel⟩, by decide, by decide +kernel⟩
theorem kj_X11_199 : Cond.constantLong RX11 199 (4) ∈ lw_tbl := z_t6 (List.mem_of_getElem? (i := 111) rfl)
theorem ck_X11_beside : z_ck M_X11_beside 2 := ⟨z_t6 (List.mem_of_getElem? (i := 110) rfl), z_t1 (List.mem_of_getElem? (i := 12) rfl), ⟨by decide +kernel, by decide +kernel, by decide +kernel⟩, by decide, by decide +kernel⟩
theorem ck_X11_is : z_ck M_X11_is 2 := ⟨z_t6 (List.mem_of_getElem? (i := 118) rfl), z_t1 (List.mem_of_getElem? (i := 12) rfl), ⟨by decide +kernel, by decide +kernel, by decide +kernel⟩, by decide, by decide +kernel⟩
theorem ml_X11_195 : Cond.methodLink RX11 195 yX11_is ∈ lw_tbl := z_t6 (List.mem_of_getElem? (i := 116) rfl)
theorem st_X11_is : Cond.static yX11_is ∈ lw_tbl := z_t6 (List.mem_of_getElem? (i := 117) rfl)
theorem ck_X11_isWall : z_ck M_X11_isWall 1 := ⟨z_t6 (List.mem_of_getElem? (i := 115) rfl), z_t1 (List.mem_of_getElem? (i := 12) rfl), ⟨by decide +kernel, by decide +kernel, by decide +kernel⟩, by decide, by decide +kernel⟩
theorem ck_X11_wornOf : z_ck M_X11_wornOf 2 := ⟨z_t6 (List.mem_of_getElem? (i := 127) rfl), z_t1 (List.mem_of_getElem? (i := 12) rfl), ⟨by decide +kernel, by decide +kernel, by decide +kernel⟩, by decide, by decide +kernel⟩
theorem ck_X11_isPair : z_ck M_X11_isPair 1 := ⟨z_t6 (List.mem_of_getElem? (i := 102) rfl), z_t1 (List.mem_of_getElem? (i := 12) rfl), ⟨by decide +kernel, by decide +kernel, by decide +kernel⟩, by decide, by decide +kernel⟩
theorem lk_X11_398 : z_lk RX11 398 11 38 := ⟨RX11, TX11, 59, rfl, by decide, z_t5 (List.mem_of_getElem? (i := 155) rfl), in_X11⟩
theorem wk_11_38 : z_wk 11 38 .boolean false := ⟨RX11, TX11, 59, tyX11, rfl, tyX11_ok, nmX11, rfl, by decide +kernel, rfl⟩
theorem ck_X11_reckon : z_ck M_X11_reckon 3 := ⟨z_t6 (List.mem_of_getElem? (i := 139) rfl), z_t1 (List.mem_of_getElem? (i := 12) rfl), ⟨by decide +kernel, by decide +kernel, by decide +kernel⟩, by decide, by decide +kernel⟩
theorem lk_X11_412 : z_lk RX11 412 11 39 := ⟨RX11, TX11, 59, rfl, by decide, z_t5 (List.mem_of_getElem? (i := 156) rfl), in_X11⟩
theorem wk_11_39 : z_wk 11 39 .long false := ⟨RX11, TX11, 59, tyX11, rfl, tyX11_ok, nmX11, rfl, by decide +kernel, rfl⟩
theorem ml_X11_404 : Cond.methodLink RX11 404 yX11_reckon ∈ lw_tbl := z_t6 (List.mem_of_getElem? (i := 136) rfl)
theorem vk_X11_reckon : Cond.instanceMethod yX11_reckon ∈ lw_tbl ∧ Cond.selects yX11_reckon.cls yX11_reckon yX11_reckon ∈ lw_tbl := ⟨z_t6 (List.mem_of_getElem? (i := 138) rfl), List.mem_append_left _ (List.mem_of_getElem? (i := 45) (by decide +kernel))⟩
theorem kj_X11_408 : Cond.constantLong RX11 408 (-1000000000) ∈ lw_tbl := z_t6 (List.mem_of_getElem? (i := 140) rfl)
theorem kj_X11_410 : Cond.constantLong RX11 410 (1000000000) ∈ lw_tbl := z_t6 (List.mem_of_getElem? (i := 141) rfl)
theorem lk_X11_324 : z_lk RX11 324 11 20 := ⟨RX11, TX11, 59, rfl, by decide, z_t5 (List.mem_of_getElem? (i := 137) rfl), in_X11⟩
theorem ml_X11_211 : Cond.methodLink RX11 211 yX11_isPair ∈ lw_tbl := z_t6 (List.mem_of_getElem? (i := 99) rfl)
theorem vk_X11_isPair : Cond.instanceMethod yX11_isPair ∈ lw_tbl ∧ Cond.selects yX11_isPair.cls yX11_isPair yX11_isPair ∈ lw_tbl := ⟨z_t6 (List.mem_of_getElem? (i := 101) rfl), List.mem_append_left _ (List.mem_of_getElem? (i := 38) (by decide +kernel))⟩
theorem kj_X11_278 : Cond.constantLong RX11 278 (-1) ∈ lw_tbl := z_t6 (List.mem_of_getElem? (i := 123) rfl)
theorem lk_X11_401 : z_lk RX11 401 11 34 := ⟨RX11, TX11, 59, rfl, by decide, z_t5 (List.mem_of_getElem? (i := 151) rfl), in_X11⟩
theorem ck_X11_reckonAll : z_ck M_X11_reckonAll 2 := ⟨z_t6 (List.mem_of_getElem? (i := 135) rfl), z_t1 (List.mem_of_getElem? (i := 12) rfl), ⟨by decide +kernel, by decide +kernel, by decide +kernel⟩, by decide, by decide +kernel⟩
theorem ml_X11_415 : Cond.methodLink RX11 415 yX11_reckonAll ∈ lw_tbl := z_t6 (List.mem_of_getElem? (i := 132) rfl)
theorem vk_X11_reckonAll : Cond.instanceMethod yX11_reckonAll ∈ lw_tbl ∧ Cond.selects yX11_reckonAll.cls yX11_reckonAll yX11_reckonAll ∈ lw_tbl := ⟨z_t6 (List.mem_of_getElem? (i := 134) rfl), List.mem_append_left _ (List.mem_of_getElem? (i := 44) (by decide +kernel))⟩
theorem lk_X11_418 : z_lk RX11 418 11 40 := ⟨RX11, TX11, 59, rfl, by decide, z_t5 (List.mem_of_getElem? (i := 157) rfl), in_X11⟩
theorem wk_11_40 : z_wk 11 40 .long false := ⟨RX11, TX11, 59, tyX11, rfl, tyX11_ok, nmX11, rfl, by decide +kernel, rfl⟩
theorem ck_X11_isSo : z_ck M_X11_isSo 1 := ⟨z_t6 (List.mem_of_getElem? (i := 131) rfl), z_t1 (List.mem_of_getElem? (i := 12) rfl), ⟨by decide +kernel, by decide +kernel, by decide +kernel⟩, by decide, by decide +kernel⟩
theorem ml_X11_421 : Cond.methodLink RX11 421 yX11_isSo ∈ lw_tbl := z_t6 (List.mem_of_getElem? (i := 128) rfl)
theorem vk_X11_isSo : Cond.instanceMethod yX11_isSo ∈ lw_tbl ∧ Cond.selects yX11_isSo.cls yX11_isSo yX11_isSo ∈ lw_tbl := ⟨z_t6 (List.mem_of_getElem? (i := 130) rfl), List.mem_append_left _ (List.mem_of_getElem? (i := 43) (by decide +kernel))⟩
theorem wk_11_34 : z_wk 11 34 .int false := ⟨RX11, TX11, 59, tyX11, rfl, tyX11_ok, nmX11, rfl, by decide +kernel, rfl⟩
theorem ml_X11_219 : Cond.methodLink RX11 219 yX11_wornOf ∈ lw_tbl := z_t6 (List.mem_of_getElem? (i := 124) rfl)
theorem vk_X11_wornOf : Cond.instanceMethod yX11_wornOf ∈ lw_tbl ∧ Cond.selects yX11_wornOf.cls yX11_wornOf yX11_wornOf ∈ lw_tbl := ⟨z_t6 (List.mem_of_getElem? (i := 126) rfl), List.mem_append_left _ (List.mem_of_getElem? (i := 42) (by decide +kernel))⟩
theorem ck_X11_tells : z_ck M_X11_tells 6 := ⟨z_t6 (List.mem_of_getElem? (i := 122) rfl), z_t1 (List.mem_of_getElem? (i := 12) rfl), ⟨by decide +kernel, by decide +kernel, by decide +kernel⟩, by decide, by decide +kernel⟩
theorem ml_X11_436 : Cond.methodLink RX11 436 yX11_beside ∈ lw_tbl := z_t6 (List.mem_of_getElem? (i := 108) rfl)
theorem st_X11_beside : Cond.static yX11_beside ∈ lw_tbl := z_t6 (List.mem_of_getElem? (i := 109) rfl)
theorem ml_X11_439 : Cond.methodLink RX11 439 yX11_isWall ∈ lw_tbl := z_t6 (List.mem_of_getElem? (i := 112) rfl)
theorem vk_X11_isWall : Cond.instanceMethod yX11_isWall ∈ lw_tbl ∧ Cond.selects yX11_isWall.cls yX11_isWall yX11_isWall ∈ lw_tbl := ⟨z_t6 (List.mem_of_getElem? (i := 114) rfl), List.mem_append_left _ (List.mem_of_getElem? (i := 40) (by decide +kernel))⟩
theorem ml_X11_424 : Cond.methodLink RX11 424 yX11_tells ∈ lw_tbl := z_t6 (List.mem_of_getElem? (i := 119) rfl)
theorem vk_X11_tells : Cond.instanceMethod yX11_tells ∈ lw_tbl ∧ Cond.selects yX11_tells.cls yX11_tells yX11_tells ∈ lw_tbl := ⟨z_t6 (List.mem_of_getElem? (i := 121) rfl), List.mem_append_left _ (List.mem_of_getElem? (i := 41) (by decide +kernel))⟩
theorem ck_X11_stepOf : z_ck M_X11_stepOf 3 := ⟨z_t6 (List.mem_of_getElem? (i := 107) rfl), z_t1 (List.mem_of_getElem? (i := 12) rfl), ⟨by decide +kernel, by decide +kernel, by decide +kernel⟩, by decide, by decide +kernel⟩
theorem ck_X11_bounded : z_ck M_X11_bounded 3 := ⟨z_t6 (List.mem_of_getElem? (i := 167) rfl), z_t1 (List.mem_of_getElem? (i := 12) rfl), ⟨by decide +kernel, by decide +kernel, by decide +kernel⟩, by decide, by decide +kernel⟩
theorem ml_X11_428 : Cond.methodLink RX11 428 yX11_bounded ∈ lw_tbl := z_t6 (List.mem_of_getElem? (i := 165) rfl)
theorem st_X11_bounded : Cond.static yX11_bounded ∈ lw_tbl := z_t6 (List.mem_of_getElem? (i := 166) rfl)
theorem ck_X11_wearsAt : z_ck M_X11_wearsAt 4 := ⟨z_t6 (List.mem_of_getElem? (i := 164) rfl), z_t1 (List.mem_of_getElem? (i := 12) rfl), ⟨by decide +kernel, by decide +kernel, by decide +kernel⟩, by decide, by decide +kernel⟩
theorem ml_X11_432 : Cond.methodLink RX11 432 yX11_wearsAt ∈ lw_tbl := z_t6 (List.mem_of_getElem? (i := 161) rfl)
theorem vk_X11_wearsAt : Cond.instanceMethod yX11_wearsAt ∈ lw_tbl ∧ Cond.selects yX11_wearsAt.cls yX11_wearsAt yX11_wearsAt ∈ lw_tbl := ⟨z_t6 (List.mem_of_getElem? (i := 163) rfl), List.mem_append_left _ (List.mem_of_getElem? (i := 47) (by decide +kernel))⟩
theorem ck_X11_wearsNow : z_ck M_X11_wearsNow 2 := ⟨z_t6 (List.mem_of_getElem? (i := 160) rfl), z_t1 (List.mem_of_getElem? (i := 12) rfl), ⟨by decide +kernel, by decide +kernel, by decide +kernel⟩, by decide, by decide +kernel⟩
theorem ck_X11_wear : z_ck M_X11_wear 3 := ⟨z_t7 (List.mem_of_getElem? (i := 114) rfl), z_t1 (List.mem_of_getElem? (i := 12) rfl), ⟨by decide +kernel, by decide +kernel, by decide +kernel⟩, by decide, by decide +kernel⟩
theorem ml_X11_226 : Cond.methodLink RX11 226 yX11_wearsNow ∈ lw_tbl := z_t6 (List.mem_of_getElem? (i := 157) rfl)
theorem vk_X11_wearsNow : Cond.instanceMethod yX11_wearsNow ∈ lw_tbl ∧ Cond.selects yX11_wearsNow.cls yX11_wearsNow yX11_wearsNow ∈ lw_tbl := ⟨z_t6 (List.mem_of_getElem? (i := 159) rfl), List.mem_append_left _ (List.mem_of_getElem? (i := 46) (by decide +kernel))⟩
theorem ml_X11_442 : Cond.methodLink RX11 442 yX11_wear ∈ lw_tbl := z_t7 (List.mem_of_getElem? (i := 111) rfl)
theorem vk_X11_wear : Cond.instanceMethod yX11_wear ∈ lw_tbl ∧ Cond.selects yX11_wear.cls yX11_wear yX11_wear ∈ lw_tbl := ⟨z_t7 (List.mem_of_getElem? (i := 113) rfl), List.mem_append_left _ (List.mem_of_getElem? (i := 79) (by decide +kernel))⟩
theorem ck_X11_stepIt : z_ck M_X11_stepIt 2 := ⟨z_t7 (List.mem_of_getElem? (i := 110) rfl), z_t1 (List.mem_of_getElem? (i := 12) rfl), ⟨by decide +kernel, by decide +kernel, by decide +kernel⟩, by decide, by decide +kernel⟩
theorem ck_X11_turned : z_ck M_X11_turned 2 := ⟨z_t7 (List.mem_of_getElem? (i := 129) rfl), z_t1 (List.mem_of_getElem? (i := 12) rfl), ⟨by decide +kernel, by decide +kernel, by decide +kernel⟩, by decide, by decide +kernel⟩
theorem ml_X11_455 : Cond.methodLink RX11 455 yX11_turned ∈ lw_tbl := z_t7 (List.mem_of_getElem? (i := 127) rfl)
theorem st_X11_turned : Cond.static yX11_turned ∈ lw_tbl := z_t7 (List.mem_of_getElem? (i := 128) rfl)
theorem ck_X11_turnIt : z_ck M_X11_turnIt 2 := ⟨z_t7 (List.mem_of_getElem? (i := 126) rfl), z_t1 (List.mem_of_getElem? (i := 12) rfl), ⟨by decide +kernel, by decide +kernel, by decide +kernel⟩, by decide, by decide +kernel⟩
theorem ck_X11_putBack : z_ck M_X11_putBack 1 := ⟨z_t6 (List.mem_of_getElem? (i := 66) rfl), z_t1 (List.mem_of_getElem? (i := 12) rfl), ⟨by decide +kernel, by decide +kernel, by decide +kernel⟩, by decide, by decide +kernel⟩
theorem ml_X11_183 : Cond.methodLink RX11 183 yX11_putBack ∈ lw_tbl := z_t6 (List.mem_of_getElem? (i := 63) rfl)
theorem vk_X11_putBack : Cond.instanceMethod yX11_putBack ∈ lw_tbl ∧ Cond.selects yX11_putBack.cls yX11_putBack yX11_putBack ∈ lw_tbl := ⟨z_t6 (List.mem_of_getElem? (i := 65) rfl), List.mem_append_left _ (List.mem_of_getElem? (i := 35) (by decide +kernel))⟩
theorem ml_X11_458 : Cond.methodLink RX11 458 yX11_turnIt ∈ lw_tbl := z_t7 (List.mem_of_getElem? (i := 123) rfl)
theorem vk_X11_turnIt : Cond.instanceMethod yX11_turnIt ∈ lw_tbl ∧ Cond.selects yX11_turnIt.cls yX11_turnIt yX11_turnIt ∈ lw_tbl := ⟨z_t7 (List.mem_of_getElem? (i := 125) rfl), List.mem_append_left _ (List.mem_of_getElem? (i := 81) (by decide +kernel))⟩
theorem ml_X11_449 : Cond.methodLink RX11 449 yX11_stepIt ∈ lw_tbl := z_t7 (List.mem_of_getElem? (i := 107) rfl)
theorem vk_X11_stepIt : Cond.instanceMethod yX11_stepIt ∈ lw_tbl ∧ Cond.selects yX11_stepIt.cls yX11_stepIt yX11_stepIt ∈ lw_tbl := ⟨z_t7 (List.mem_of_getElem? (i := 109) rfl), List.mem_append_left _ (List.mem_of_getElem? (i := 78) (by decide +kernel))⟩
theorem ml_X11_570 : Cond.methodLink RX11 570 yX11_draw ∈ lw_tbl := z_t8 (List.mem_of_getElem? (i := 76) rfl)
theorem vk_X11_draw : Cond.instanceMethod yX11_draw ∈ lw_tbl ∧ Cond.selects yX11_draw.cls yX11_draw yX11_draw ∈ lw_tbl := ⟨z_t8 (List.mem_of_getElem? (i := 78) rfl), List.mem_append_left _ (List.mem_of_getElem? (i := 103) (by decide +kernel))⟩
theorem ml_X11_216 : Cond.methodLink RX11 216 yX11_stepOf ∈ lw_tbl := z_t6 (List.mem_of_getElem? (i := 104) rfl)
theorem vk_X11_stepOf : Cond.instanceMethod yX11_stepOf ∈ lw_tbl ∧ Cond.selects yX11_stepOf.cls yX11_stepOf yX11_stepOf ∈ lw_tbl := ⟨z_t6 (List.mem_of_getElem? (i := 106) rfl), List.mem_append_left _ (List.mem_of_getElem? (i := 39) (by decide +kernel))⟩
theorem kj_X11_280 : Cond.constantLong RX11 280 (1000000) ∈ lw_tbl := z_t6 (List.mem_of_getElem? (i := 230) rfl)
theorem kj_X11_568 : Cond.constantLong RX11 568 (60) ∈ lw_tbl := z_t8 (List.mem_of_getElem? (i := 75) rfl)
theorem ml_X11_179 : Cond.methodLink RX11 179 yX11_keepAll ∈ lw_tbl := z_t7 (List.mem_of_getElem? (i := 103) rfl)
theorem vk_X11_keepAll : Cond.instanceMethod yX11_keepAll ∈ lw_tbl ∧ Cond.selects yX11_keepAll.cls yX11_keepAll yX11_keepAll ∈ lw_tbl := ⟨z_t7 (List.mem_of_getElem? (i := 105) rfl), List.mem_append_left _ (List.mem_of_getElem? (i := 77) (by decide +kernel))⟩
theorem ck_X11_years : z_ck M_X11_years 2 := ⟨z_t8 (List.mem_of_getElem? (i := 74) rfl), z_t1 (List.mem_of_getElem? (i := 12) rfl), ⟨by decide +kernel, by decide +kernel, by decide +kernel⟩, by decide, by decide +kernel⟩
theorem ml_X10_151 : Cond.methodLink RX10 151 yX10_isPart ∈ lw_tbl := z_t3 (List.mem_of_getElem? (i := 15) rfl)
theorem ml_X10_298 : Cond.methodLink RX10 298 yX9_lawAt ∈ lw_tbl := z_t5 (List.mem_of_getElem? (i := 47) rfl)
theorem ml_X10_138 : Cond.methodLink RX10 138 yX9_placeOf ∈ lw_tbl := z_t2 (List.mem_of_getElem? (i := 192) rfl)
theorem ml_X10_158 : Cond.methodLink RX10 158 yX1_wears ∈ lw_tbl := z_t3 (List.mem_of_getElem? (i := 19) rfl)
theorem ml_X10_211 : Cond.methodLink RX10 211 yX9_hasLaw ∈ lw_tbl := z_t4 (List.mem_of_getElem? (i := 57) rfl)
theorem ck_X10_compare : z_ck M_X10_compare 3 := ⟨z_t5 (List.mem_of_getElem? (i := 46) rfl), z_t1 (List.mem_of_getElem? (i := 1) rfl), ⟨by decide +kernel, by decide +kernel, by decide +kernel⟩, by decide, by decide +kernel⟩
theorem ck_X11_isLaw : z_ck M_X11_isLaw 1 := ⟨z_t7 (List.mem_of_getElem? (i := 90) rfl), z_t1 (List.mem_of_getElem? (i := 12) rfl), ⟨by decide +kernel, by decide +kernel, by decide +kernel⟩, by decide, by decide +kernel⟩
theorem kj_X11_193 : Cond.constantLong RX11 193 (3) ∈ lw_tbl := z_t6 (List.mem_of_getElem? (i := 93) rfl)
theorem ck_X11_isPart : z_ck M_X11_isPart 1 := ⟨z_t6 (List.mem_of_getElem? (i := 156) rfl), z_t1 (List.mem_of_getElem? (i := 12) rfl), ⟨by decide +kernel, by decide +kernel, by decide +kernel⟩, by decide, by decide +kernel⟩
theorem ml_X11_395 : Cond.methodLink RX11 395 yX11_isLaw ∈ lw_tbl := z_t7 (List.mem_of_getElem? (i := 87) rfl)
theorem vk_X11_isLaw : Cond.instanceMethod yX11_isLaw ∈ lw_tbl ∧ Cond.selects yX11_isLaw.cls yX11_isLaw yX11_isLaw ∈ lw_tbl := ⟨z_t7 (List.mem_of_getElem? (i := 89) rfl), List.mem_append_left _ (List.mem_of_getElem? (i := 74) (by decide +kernel))⟩
theorem ml_X11_223 : Cond.methodLink RX11 223 yX11_isPart ∈ lw_tbl := z_t6 (List.mem_of_getElem? (i := 154) rfl)
theorem st_X11_isPart : Cond.static yX11_isPart ∈ lw_tbl := z_t6 (List.mem_of_getElem? (i := 155) rfl)
theorem ck_X11_compare : z_ck M_X11_compare 3 := ⟨z_t8 (List.mem_of_getElem? (i := 31) rfl), z_t1 (List.mem_of_getElem? (i := 12) rfl), ⟨by decide +kernel, by decide +kernel, by decide +kernel⟩, by decide, by decide +kernel⟩
theorem ck_J7_fill_d0a16 : z_ck M_J7_fill_d0a16 2 := ⟨z_t4 (List.mem_of_getElem? (i := 189) rfl), z_t1 (List.mem_of_getElem? (i := 20) rfl), ⟨by decide +kernel, by decide +kernel, by decide +kernel⟩, by decide, by decide +kernel⟩
theorem kj_X6_74 : Cond.constantLong RX6 74 (10) ∈ lw_tbl := z_t5 (List.mem_of_getElem? (i := 42) rfl)
theorem ml_X6_57 : Cond.methodLink RX6 57 yJ7_fill_d0a16 ∈ lw_tbl := z_t4 (List.mem_of_getElem? (i := 187) rfl)
theorem st_J7_fill_d0a16 : Cond.static yJ7_fill_d0a16 ∈ lw_tbl := z_t4 (List.mem_of_getElem? (i := 188) rfl)
theorem kj_X6_63 : Cond.constantLong RX6 63 (1000000000000) ∈ lw_tbl := z_t4 (List.mem_of_getElem? (i := 190) rfl)
theorem ck_X6_fewSlip : z_ck M_X6_fewSlip 3 := ⟨z_t5 (List.mem_of_getElem? (i := 41) rfl), z_t1 (List.mem_of_getElem? (i := 10) rfl), ⟨by decide +kernel, by decide +kernel, by decide +kernel⟩, by decide, by decide +kernel⟩
theorem kj_X10_229 : Cond.constantLong RX10 229 (-1) ∈ lw_tbl := z_t4 (List.mem_of_getElem? (i := 104) rfl)
theorem ml_X10_294 : Cond.methodLink RX10 294 yX6_fewSlip ∈ lw_tbl := z_t5 (List.mem_of_getElem? (i := 38) rfl)
theorem vk_X6_fewSlip : Cond.instanceMethod yX6_fewSlip ∈ lw_tbl ∧ Cond.selects yX6_fewSlip.cls yX6_fewSlip yX6_fewSlip ∈ lw_tbl := ⟨z_t5 (List.mem_of_getElem? (i := 39) rfl), z_t5 (List.mem_of_getElem? (i := 40) rfl)⟩
theorem ck_X10_few : z_ck M_X10_few 2 := ⟨z_t5 (List.mem_of_getElem? (i := 37) rfl), z_t1 (List.mem_of_getElem? (i := 1) rfl), ⟨by decide +kernel, by decide +kernel, by decide +kernel⟩, by decide, by decide +kernel⟩
theorem kj_X11_234 : Cond.constantLong RX11 234 (10) ∈ lw_tbl := z_t6 (List.mem_of_getElem? (i := 177) rfl)
theorem kj_X11_501 : Cond.constantLong RX11 501 (1000000000000) ∈ lw_tbl := z_t7 (List.mem_of_getElem? (i := 204) rfl)
theorem kj_X11_301 : Cond.constantLong RX11 301 (20) ∈ lw_tbl := z_t7 (List.mem_of_getElem? (i := 70) rfl)
theorem kj_X11_514 : Cond.constantLong RX11 514 (99) ∈ lw_tbl := z_t7 (List.mem_of_getElem? (i := 238) rfl)
theorem ck_X11_few : z_ck M_X11_few 2 := ⟨z_t8 (List.mem_of_getElem? (i := 27) rfl), z_t1 (List.mem_of_getElem? (i := 12) rfl), ⟨by decide +kernel, by decide +kernel, by decide +kernel⟩, by decide, by decide +kernel⟩
theorem kc_X10_292 : Cond.constant RX10 292 (-17318417) ∈ lw_tbl := z_t5 (List.mem_of_getElem? (i := 32) rfl)
theorem kc_X10_293 : Cond.constant RX10 293 (-1082402) ∈ lw_tbl := z_t5 (List.mem_of_getElem? (i := 33) rfl)
theorem kc_X10_291 : Cond.constant RX10 291 (33554431) ∈ lw_tbl := z_t5 (List.mem_of_getElem? (i := 31) rfl)
theorem ck_X10_cutOff : z_ck M_X10_cutOff 0 := ⟨z_t5 (List.mem_of_getElem? (i := 30) rfl), z_t1 (List.mem_of_getElem? (i := 1) rfl), ⟨by decide +kernel, by decide +kernel, by decide +kernel⟩, by decide, by decide +kernel⟩
theorem kc_X11_522 : Cond.constant RX11 522 (33554431) ∈ lw_tbl := z_t8 (List.mem_of_getElem? (i := 23) rfl)
theorem ck_X11_cutOff : z_ck M_X11_cutOff 0 := ⟨z_t8 (List.mem_of_getElem? (i := 22) rfl), z_t1 (List.mem_of_getElem? (i := 12) rfl), ⟨by decide +kernel, by decide +kernel, by decide +kernel⟩, by decide, by decide +kernel⟩
theorem lk_X3_71 : z_lk RX3 71 9 10 := ⟨RX9, TX9, 13, rfl, by decide, z_t1 (List.mem_of_getElem? (i := 76) rfl), in_X9⟩
theorem lk_X3_74 : z_lk RX3 74 9 5 := ⟨RX9, TX9, 13, rfl, by decide, z_t1 (List.mem_of_getElem? (i := 61) rfl), in_X9⟩
theorem ml_X3_32 : Cond.methodLink RX3 32 yX9_wornAt ∈ lw_tbl := z_t4 (List.mem_of_getElem? (i := 222) rfl)
theorem lk_X3_77 : z_lk RX3 77 9 6 := ⟨RX9, TX9, 13, rfl, by decide, z_t1 (List.mem_of_getElem? (i := 64) rfl), in_X9⟩
theorem lk_X3_44 : z_lk RX3 44 9 8 := ⟨RX9, TX9, 13, rfl, by decide, z_t1 (List.mem_of_getElem? (i := 70) rfl), in_X9⟩
theorem ck_X3_candidates : z_ck M_X3_candidates 1 := ⟨z_t5 (List.mem_of_getElem? (i := 13) rfl), z_t1 (List.mem_of_getElem? (i := 11) rfl), ⟨by decide +kernel, by decide +kernel, by decide +kernel⟩, by decide, by decide +kernel⟩
theorem ml_X3_87 : Cond.methodLink RX3 87 Lib.Math.max.name ∈ lw_tbl := z_t5 (List.mem_of_getElem? (i := 26) rfl)
theorem ck_X3_mostAlike : z_ck M_X3_mostAlike 3 := ⟨z_t5 (List.mem_of_getElem? (i := 25) rfl), z_t1 (List.mem_of_getElem? (i := 11) rfl), ⟨by decide +kernel, by decide +kernel, by decide +kernel⟩, by decide, by decide +kernel⟩
theorem ml_X3_84 : Cond.methodLink RX3 84 yX3_mostAlike ∈ lw_tbl := z_t5 (List.mem_of_getElem? (i := 23) rfl)
theorem st_X3_mostAlike : Cond.static yX3_mostAlike ∈ lw_tbl := z_t5 (List.mem_of_getElem? (i := 24) rfl)
theorem ml_X3_80 : Cond.methodLink RX3 80 yX3_candidates ∈ lw_tbl := z_t5 (List.mem_of_getElem? (i := 22) rfl)
theorem vk_X3_candidates : Cond.instanceMethod yX3_candidates ∈ lw_tbl ∧ Cond.selects yX3_candidates.cls yX3_candidates yX3_candidates ∈ lw_tbl := ⟨z_t5 (List.mem_of_getElem? (i := 11) rfl), z_t5 (List.mem_of_getElem? (i := 12) rfl)⟩
theorem ck_X3_choosePart : z_ck M_X3_choosePart 1 := ⟨z_t5 (List.mem_of_getElem? (i := 21) rfl), z_t1 (List.mem_of_getElem? (i := 11) rfl), ⟨by decide +kernel, by decide +kernel, by decide +kernel⟩, by decide, by decide +kernel⟩
theorem ml_X10_281 : Cond.methodLink RX10 281 yX3_choosePart ∈ lw_tbl := z_t5 (List.mem_of_getElem? (i := 18) rfl)
theorem vk_X3_choosePart : Cond.instanceMethod yX3_choosePart ∈ lw_tbl ∧ Cond.selects yX3_choosePart.cls yX3_choosePart yX3_choosePart ∈ lw_tbl := ⟨z_t5 (List.mem_of_getElem? (i := 19) rfl), z_t5 (List.mem_of_getElem? (i := 20) rfl)⟩
theorem lk_X10_288 : z_lk RX10 288 3 5 := ⟨RX3, TX3, 6, rfl, by decide, z_t2 (List.mem_of_getElem? (i := 98) rfl), in_X3⟩
theorem lk_X10_285 : z_lk RX10 285 3 4 := ⟨RX3, TX3, 6, rfl, by decide, z_t2 (List.mem_of_getElem? (i := 96) rfl), in_X3⟩
theorem ck_X10_look : z_ck M_X10_look 1 := ⟨z_t5 (List.mem_of_getElem? (i := 17) rfl), z_t1 (List.mem_of_getElem? (i := 1) rfl), ⟨by decide +kernel, by decide +kernel, by decide +kernel⟩, by decide, by decide +kernel⟩
theorem ck_X11_thatCanBe : z_ck M_X11_thatCanBe 0 := ⟨z_t8 (List.mem_of_getElem? (i := 10) rfl), z_t1 (List.mem_of_getElem? (i := 12) rfl), ⟨by decide +kernel, by decide +kernel, by decide +kernel⟩, by decide, by decide +kernel⟩
theorem ck_X11_mostAlike : z_ck M_X11_mostAlike 2 := ⟨z_t8 (List.mem_of_getElem? (i := 18) rfl), z_t1 (List.mem_of_getElem? (i := 12) rfl), ⟨by decide +kernel, by decide +kernel, by decide +kernel⟩, by decide, by decide +kernel⟩
theorem ml_X11_519 : Cond.methodLink RX11 519 yX11_mostAlike ∈ lw_tbl := z_t8 (List.mem_of_getElem? (i := 15) rfl)
theorem vk_X11_mostAlike : Cond.instanceMethod yX11_mostAlike ∈ lw_tbl ∧ Cond.selects yX11_mostAlike.cls yX11_mostAlike yX11_mostAlike ∈ lw_tbl := ⟨z_t8 (List.mem_of_getElem? (i := 17) rfl), List.mem_append_left _ (List.mem_of_getElem? (i := 95) (by decide +kernel))⟩
theorem ml_X11_516 : Cond.methodLink RX11 516 yX11_thatCanBe ∈ lw_tbl := z_t8 (List.mem_of_getElem? (i := 7) rfl)
theorem vk_X11_thatCanBe : Cond.instanceMethod yX11_thatCanBe ∈ lw_tbl ∧ Cond.selects yX11_thatCanBe.cls yX11_thatCanBe yX11_thatCanBe ∈ lw_tbl := ⟨z_t8 (List.mem_of_getElem? (i := 9) rfl), List.mem_append_left _ (List.mem_of_getElem? (i := 94) (by decide +kernel))⟩
theorem kc_X11_489 : Cond.constant RX11 489 (100000000) ∈ lw_tbl := z_t7 (List.mem_of_getElem? (i := 186) rfl)
theorem ck_X11_look : z_ck M_X11_look 1 := ⟨z_t8 (List.mem_of_getElem? (i := 14) rfl), z_t1 (List.mem_of_getElem? (i := 12) rfl), ⟨by decide +kernel, by decide +kernel, by decide +kernel⟩, by decide, by decide +kernel⟩
theorem ml_X10_278 : Cond.methodLink RX10 278 yX3_candidates ∈ lw_tbl := z_t5 (List.mem_of_getElem? (i := 10) rfl)
theorem ck_X10_canBe : z_ck M_X10_canBe 0 := ⟨z_t5 (List.mem_of_getElem? (i := 9) rfl), z_t1 (List.mem_of_getElem? (i := 1) rfl), ⟨by decide +kernel, by decide +kernel, by decide +kernel⟩, by decide, by decide +kernel⟩
theorem ck_X11_canBe : z_ck M_X11_canBe 0 := ⟨z_t8 (List.mem_of_getElem? (i := 6) rfl), z_t1 (List.mem_of_getElem? (i := 12) rfl), ⟨by decide +kernel, by decide +kernel, by decide +kernel⟩, by decide, by decide +kernel⟩
theorem ck_X10_forget : z_ck M_X10_forget 0 := ⟨z_t5 (List.mem_of_getElem? (i := 5) rfl), z_t1 (List.mem_of_getElem? (i := 1) rfl), ⟨by decide +kernel, by decide +kernel, by decide +kernel⟩, by decide, by decide +kernel⟩
theorem ck_X11_forget : z_ck M_X11_forget 0 := ⟨z_t8 (List.mem_of_getElem? (i := 2) rfl), z_t1 (List.mem_of_getElem? (i := 12) rfl), ⟨by decide +kernel, by decide +kernel, by decide +kernel⟩, by decide, by decide +kernel⟩
theorem lk_X10_272 : z_lk RX10 272 9 5 := ⟨RX9, TX9, 13, rfl, by decide, z_t1 (List.mem_of_getElem? (i := 62) rfl), in_X9⟩
theorem lk_X10_275 : z_lk RX10 275 9 6 := ⟨RX9, TX9, 13, rfl, by decide, z_t1 (List.mem_of_getElem? (i := 65) rfl), in_X9⟩
theorem ck_X10_seen : z_ck M_X10_seen 2 := ⟨z_t5 (List.mem_of_getElem? (i := 1) rfl), z_t1 (List.mem_of_getElem? (i := 1) rfl), ⟨by decide +kernel, by decide +kernel, by decide +kernel⟩, by decide, by decide +kernel⟩
theorem ck_X11_seen : z_ck M_X11_seen 2 := ⟨z_t7 (List.mem_of_getElem? (i := 237) rfl), z_t1 (List.mem_of_getElem? (i := 12) rfl), ⟨by decide +kernel, by decide +kernel, by decide +kernel⟩, by decide, by decide +kernel⟩
theorem ml_X10_154 : Cond.methodLink RX10 154 yX9_lawInForce ∈ lw_tbl := z_t3 (List.mem_of_getElem? (i := 18) rfl)
theorem ck_X10_lasts : z_ck M_X10_lasts 2 := ⟨z_t4 (List.mem_of_getElem? (i := 237) rfl), z_t1 (List.mem_of_getElem? (i := 1) rfl), ⟨by decide +kernel, by decide +kernel, by decide +kernel⟩, by decide, by decide +kernel⟩
theorem ck_X11_lasts : z_ck M_X11_lasts 2 := ⟨z_t7 (List.mem_of_getElem? (i := 233) rfl), z_t1 (List.mem_of_getElem? (i := 12) rfl), ⟨by decide +kernel, by decide +kernel, by decide +kernel⟩, by decide, by decide +kernel⟩
theorem ml_X3_38 : Cond.methodLink RX3 38 Lib.Math.abs.name ∈ lw_tbl := z_t4 (List.mem_of_getElem? (i := 223) rfl)
theorem ck_X3_differ : z_ck M_X3_differ 3 := ⟨z_t4 (List.mem_of_getElem? (i := 221) rfl), z_t1 (List.mem_of_getElem? (i := 11) rfl), ⟨by decide +kernel, by decide +kernel, by decide +kernel⟩, by decide, by decide +kernel⟩
theorem ml_X3_47 : Cond.methodLink RX3 47 yX3_differ ∈ lw_tbl := z_t4 (List.mem_of_getElem? (i := 219) rfl)
theorem st_X3_differ : Cond.static yX3_differ ∈ lw_tbl := z_t4 (List.mem_of_getElem? (i := 220) rfl)
theorem ck_X3_nearestTo : z_ck M_X3_nearestTo 2 := ⟨z_t4 (List.mem_of_getElem? (i := 233) rfl), z_t1 (List.mem_of_getElem? (i := 11) rfl), ⟨by decide +kernel, by decide +kernel, by decide +kernel⟩, by decide, by decide +kernel⟩
theorem ml_X10_265 : Cond.methodLink RX10 265 yX3_nearestTo ∈ lw_tbl := z_t4 (List.mem_of_getElem? (i := 230) rfl)
theorem vk_X3_nearestTo : Cond.instanceMethod yX3_nearestTo ∈ lw_tbl ∧ Cond.selects yX3_nearestTo.cls yX3_nearestTo yX3_nearestTo ∈ lw_tbl := ⟨z_t4 (List.mem_of_getElem? (i := 231) rfl), z_t4 (List.mem_of_getElem? (i := 232) rfl)⟩
theorem ck_X10_likest : z_ck M_X10_likest 1 := ⟨z_t4 (List.mem_of_getElem? (i := 229) rfl), z_t1 (List.mem_of_getElem? (i := 1) rfl), ⟨by decide +kernel, by decide +kernel, by decide +kernel⟩, by decide, by decide +kernel⟩
theorem ck_X11_differ : z_ck M_X11_differ 2 := ⟨z_t7 (List.mem_of_getElem? (i := 225) rfl), z_t1 (List.mem_of_getElem? (i := 12) rfl), ⟨by decide +kernel, by decide +kernel, by decide +kernel⟩, by decide, by decide +kernel⟩
theorem ml_X11_508 : Cond.methodLink RX11 508 yX11_differ ∈ lw_tbl := z_t7 (List.mem_of_getElem? (i := 222) rfl)
theorem vk_X11_differ : Cond.instanceMethod yX11_differ ∈ lw_tbl ∧ Cond.selects yX11_differ.cls yX11_differ yX11_differ ∈ lw_tbl := ⟨z_t7 (List.mem_of_getElem? (i := 224) rfl), List.mem_append_left _ (List.mem_of_getElem? (i := 93) (by decide +kernel))⟩
theorem ck_X11_likest : z_ck M_X11_likest 1 := ⟨z_t7 (List.mem_of_getElem? (i := 229) rfl), z_t1 (List.mem_of_getElem? (i := 12) rfl), ⟨by decide +kernel, by decide +kernel, by decide +kernel⟩, by decide, by decide +kernel⟩
theorem ck_J7_fill_53178 : z_ck M_J7_fill_53178 2 := ⟨z_t4 (List.mem_of_getElem? (i := 144) rfl), z_t1 (List.mem_of_getElem? (i := 20) rfl), ⟨by decide +kernel, by decide +kernel, by decide +kernel⟩, by decide, by decide +kernel⟩
theorem ml_X3_65 : Cond.methodLink RX3 65 arraycopyName ∈ lw_tbl := z_t4 (List.mem_of_getElem? (i := 218) rfl)
theorem ck_X3_keepIfLess : z_ck M_X3_keepIfLess 1 := ⟨z_t4 (List.mem_of_getElem? (i := 217) rfl), z_t1 (List.mem_of_getElem? (i := 11) rfl), ⟨by decide +kernel, by decide +kernel, by decide +kernel⟩, by decide, by decide +kernel⟩
theorem ml_X3_61 : Cond.methodLink RX3 61 yX3_keepIfLess ∈ lw_tbl := z_t4 (List.mem_of_getElem? (i := 214) rfl)
theorem vk_X3_keepIfLess : Cond.instanceMethod yX3_keepIfLess ∈ lw_tbl ∧ Cond.selects yX3_keepIfLess.cls yX3_keepIfLess yX3_keepIfLess ∈ lw_tbl := ⟨z_t4 (List.mem_of_getElem? (i := 216) rfl), List.mem_append_left _ (List.mem_of_getElem? (i := 32) (by decide +kernel))⟩
theorem ml_X3_57 : Cond.methodLink RX3 57 yX3_partFrom ∈ lw_tbl := z_t4 (List.mem_of_getElem? (i := 210) rfl)
theorem ck_X3_partFrom : z_ck M_X3_partFrom 4 := ⟨z_t4 (List.mem_of_getElem? (i := 213) rfl), z_t1 (List.mem_of_getElem? (i := 11) rfl), ⟨by decide +kernel, by decide +kernel, by decide +kernel⟩, by decide, by decide +kernel⟩
theorem vk_X3_partFrom : Cond.instanceMethod yX3_partFrom ∈ lw_tbl ∧ Cond.selects yX3_partFrom.cls yX3_partFrom yX3_partFrom ∈ lw_tbl := ⟨z_t4 (List.mem_of_getElem? (i := 212) rfl), List.mem_append_left _ (List.mem_of_getElem? (i := 31) (by decide +kernel))⟩
theorem ml_X3_51 : Cond.methodLink RX3 51 yJ7_fill_53178 ∈ lw_tbl := z_t4 (List.mem_of_getElem? (i := 209) rfl)
theorem st_J7_fill_53178 : Cond.static yJ7_fill_53178 ∈ lw_tbl := z_t4 (List.mem_of_getElem? (i := 143) rfl)
theorem ck_X3_couple : z_ck M_X3_couple 1 := ⟨z_t4 (List.mem_of_getElem? (i := 208) rfl), z_t1 (List.mem_of_getElem? (i := 11) rfl), ⟨by decide +kernel, by decide +kernel, by decide +kernel⟩, by decide, by decide +kernel⟩
theorem ml_X10_255 : Cond.methodLink RX10 255 yX3_couple ∈ lw_tbl := z_t4 (List.mem_of_getElem? (i := 205) rfl)
theorem vk_X3_couple : Cond.instanceMethod yX3_couple ∈ lw_tbl ∧ Cond.selects yX3_couple.cls yX3_couple yX3_couple ∈ lw_tbl := ⟨z_t4 (List.mem_of_getElem? (i := 206) rfl), z_t4 (List.mem_of_getElem? (i := 207) rfl)⟩
theorem lk_X10_262 : z_lk RX10 262 3 1 := ⟨RX3, TX3, 6, rfl, by decide, z_t2 (List.mem_of_getElem? (i := 91) rfl), in_X3⟩
theorem lk_X10_259 : z_lk RX10 259 3 2 := ⟨RX3, TX3, 6, rfl, by decide, z_t2 (List.mem_of_getElem? (i := 93) rfl), in_X3⟩
theorem ck_X10_couples : z_ck M_X10_couples 1 := ⟨z_t4 (List.mem_of_getElem? (i := 204) rfl), z_t1 (List.mem_of_getElem? (i := 1) rfl), ⟨by decide +kernel, by decide +kernel, by decide +kernel⟩, by decide, by decide +kernel⟩
theorem ck_X11_goesWith : z_ck M_X11_goesWith 1 := ⟨z_t7 (List.mem_of_getElem? (i := 221) rfl), z_t1 (List.mem_of_getElem? (i := 12) rfl), ⟨by decide +kernel, by decide +kernel, by decide +kernel⟩, by decide, by decide +kernel⟩
theorem ml_X11_505 : Cond.methodLink RX11 505 yX11_goesWith ∈ lw_tbl := z_t7 (List.mem_of_getElem? (i := 218) rfl)
theorem vk_X11_goesWith : Cond.instanceMethod yX11_goesWith ∈ lw_tbl ∧ Cond.selects yX11_goesWith.cls yX11_goesWith yX11_goesWith ∈ lw_tbl := ⟨z_t7 (List.mem_of_getElem? (i := 220) rfl), List.mem_append_left _ (List.mem_of_getElem? (i := 92) (by decide +kernel))⟩
theorem ck_X11_findCouples : z_ck M_X11_findCouples 0 := ⟨z_t7 (List.mem_of_getElem? (i := 217) rfl), z_t1 (List.mem_of_getElem? (i := 12) rfl), ⟨by decide +kernel, by decide +kernel, by decide +kernel⟩, by decide, by decide +kernel⟩
theorem ml_X11_511 : Cond.methodLink RX11 511 yX11_findCouples ∈ lw_tbl := z_t7 (List.mem_of_getElem? (i := 214) rfl)
theorem vk_X11_findCouples : Cond.instanceMethod yX11_findCouples ∈ lw_tbl ∧ Cond.selects yX11_findCouples.cls yX11_findCouples yX11_findCouples ∈ lw_tbl := ⟨z_t7 (List.mem_of_getElem? (i := 216) rfl), List.mem_append_left _ (List.mem_of_getElem? (i := 91) (by decide +kernel))⟩
theorem ck_X11_couples : z_ck M_X11_couples 1 := ⟨z_t7 (List.mem_of_getElem? (i := 213) rfl), z_t1 (List.mem_of_getElem? (i := 12) rfl), ⟨by decide +kernel, by decide +kernel, by decide +kernel⟩, by decide, by decide +kernel⟩
theorem ck_X10_isCell : z_ck M_X10_isCell 1 := ⟨z_t2 (List.mem_of_getElem? (i := 167) rfl), z_t1 (List.mem_of_getElem? (i := 1) rfl), ⟨by decide +kernel, by decide +kernel, by decide +kernel⟩, by decide, by decide +kernel⟩
theorem ml_X4_42 : Cond.methodLink RX4 42 yX1_target ∈ lw_tbl := z_t4 (List.mem_of_getElem? (i := 113) rfl)
theorem ck_X4_layOut : z_ck M_X4_layOut 2 := ⟨z_t4 (List.mem_of_getElem? (i := 112) rfl), z_t1 (List.mem_of_getElem? (i := 9) rfl), ⟨by decide +kernel, by decide +kernel, by decide +kernel⟩, by decide, by decide +kernel⟩
theorem kc_X4_56 : Cond.constant RX4 56 (1000000) ∈ lw_tbl := z_t4 (List.mem_of_getElem? (i := 141) rfl)
theorem ck_X4_reach : z_ck M_X4_reach 4 := ⟨z_t4 (List.mem_of_getElem? (i := 149) rfl), z_t1 (List.mem_of_getElem? (i := 9) rfl), ⟨by decide +kernel, by decide +kernel, by decide +kernel⟩, by decide, by decide +kernel⟩
theorem ck_X4_behind : z_ck M_X4_behind 2 := ⟨z_t4 (List.mem_of_getElem? (i := 153) rfl), z_t1 (List.mem_of_getElem? (i := 9) rfl), ⟨by decide +kernel, by decide +kernel, by decide +kernel⟩, by decide, by decide +kernel⟩
theorem ml_X4_73 : Cond.methodLink RX4 73 yX4_behind ∈ lw_tbl := z_t4 (List.mem_of_getElem? (i := 150) rfl)
theorem vk_X4_behind : Cond.instanceMethod yX4_behind ∈ lw_tbl ∧ Cond.selects yX4_behind.cls yX4_behind yX4_behind ∈ lw_tbl := ⟨z_t4 (List.mem_of_getElem? (i := 151) rfl), z_t4 (List.mem_of_getElem? (i := 152) rfl)⟩
theorem ml_X4_69 : Cond.methodLink RX4 69 yX4_reach ∈ lw_tbl := z_t4 (List.mem_of_getElem? (i := 146) rfl)
theorem vk_X4_reach : Cond.instanceMethod yX4_reach ∈ lw_tbl ∧ Cond.selects yX4_reach.cls yX4_reach yX4_reach ∈ lw_tbl := ⟨z_t4 (List.mem_of_getElem? (i := 148) rfl), List.mem_append_left _ (List.mem_of_getElem? (i := 27) (by decide +kernel))⟩
theorem ml_X4_52 : Cond.methodLink RX4 52 yX4_layOut ∈ lw_tbl := z_t4 (List.mem_of_getElem? (i := 140) rfl)
theorem vk_X4_layOut : Cond.instanceMethod yX4_layOut ∈ lw_tbl ∧ Cond.selects yX4_layOut.cls yX4_layOut yX4_layOut ∈ lw_tbl := ⟨z_t4 (List.mem_of_getElem? (i := 110) rfl), z_t4 (List.mem_of_getElem? (i := 111) rfl)⟩
theorem ml_X4_57 : Cond.methodLink RX4 57 yJ7_fill_53178 ∈ lw_tbl := z_t4 (List.mem_of_getElem? (i := 142) rfl)
theorem ml_X4_63 : Cond.methodLink RX4 63 yX9_placeOf ∈ lw_tbl := z_t4 (List.mem_of_getElem? (i := 145) rfl)
theorem ck_X4_shortest : z_ck M_X4_shortest 3 := ⟨z_t4 (List.mem_of_getElem? (i := 139) rfl), z_t1 (List.mem_of_getElem? (i := 9) rfl), ⟨by decide +kernel, by decide +kernel, by decide +kernel⟩, by decide, by decide +kernel⟩
theorem ml_X10_242 : Cond.methodLink RX10 242 yX4_shortest ∈ lw_tbl := z_t4 (List.mem_of_getElem? (i := 136) rfl)
theorem vk_X4_shortest : Cond.instanceMethod yX4_shortest ∈ lw_tbl ∧ Cond.selects yX4_shortest.cls yX4_shortest yX4_shortest ∈ lw_tbl := ⟨z_t4 (List.mem_of_getElem? (i := 137) rfl), z_t4 (List.mem_of_getElem? (i := 138) rfl)⟩
theorem ml_X10_145 : Cond.methodLink RX10 145 yX10_isCell ∈ lw_tbl := z_t2 (List.mem_of_getElem? (i := 165) rfl)
theorem st_X10_isCell : Cond.static yX10_isCell ∈ lw_tbl := z_t2 (List.mem_of_getElem? (i := 166) rfl)
theorem ck_X10_within : z_ck M_X10_within 2 := ⟨z_t4 (List.mem_of_getElem? (i := 200) rfl), z_t1 (List.mem_of_getElem? (i := 1) rfl), ⟨by decide +kernel, by decide +kernel, by decide +kernel⟩, by decide, by decide +kernel⟩
theorem ck_X11_isCell : z_ck M_X11_isCell 1 := ⟨z_t6 (List.mem_of_getElem? (i := 92) rfl), z_t1 (List.mem_of_getElem? (i := 12) rfl), ⟨by decide +kernel, by decide +kernel, by decide +kernel⟩, by decide, by decide +kernel⟩
theorem ck_X11_laySteps : z_ck M_X11_laySteps 1 := ⟨z_t7 (List.mem_of_getElem? (i := 170) rfl), z_t1 (List.mem_of_getElem? (i := 12) rfl), ⟨by decide +kernel, by decide +kernel, by decide +kernel⟩, by decide, by decide +kernel⟩
theorem ck_X11_acted : z_ck M_X11_acted 2 := ⟨z_t7 (List.mem_of_getElem? (i := 190) rfl), z_t1 (List.mem_of_getElem? (i := 12) rfl), ⟨by decide +kernel, by decide +kernel, by decide +kernel⟩, by decide, by decide +kernel⟩
theorem ml_X11_490 : Cond.methodLink RX11 490 yX11_acted ∈ lw_tbl := z_t7 (List.mem_of_getElem? (i := 187) rfl)
theorem vk_X11_acted : Cond.instanceMethod yX11_acted ∈ lw_tbl ∧ Cond.selects yX11_acted.cls yX11_acted yX11_acted ∈ lw_tbl := ⟨z_t7 (List.mem_of_getElem? (i := 189) rfl), List.mem_append_left _ (List.mem_of_getElem? (i := 89) (by decide +kernel))⟩
theorem ml_X11_473 : Cond.methodLink RX11 473 yX11_laySteps ∈ lw_tbl := z_t7 (List.mem_of_getElem? (i := 167) rfl)
theorem vk_X11_laySteps : Cond.instanceMethod yX11_laySteps ∈ lw_tbl ∧ Cond.selects yX11_laySteps.cls yX11_laySteps yX11_laySteps ∈ lw_tbl := ⟨z_t7 (List.mem_of_getElem? (i := 169) rfl), List.mem_append_left _ (List.mem_of_getElem? (i := 87) (by decide +kernel))⟩
theorem ck_X11_layLeft : z_ck M_X11_layLeft 2 := ⟨z_t7 (List.mem_of_getElem? (i := 185) rfl), z_t1 (List.mem_of_getElem? (i := 12) rfl), ⟨by decide +kernel, by decide +kernel, by decide +kernel⟩, by decide, by decide +kernel⟩
theorem ck_X11_stateOf : z_ck M_X11_stateOf 1 := ⟨z_t7 (List.mem_of_getElem? (i := 194) rfl), z_t1 (List.mem_of_getElem? (i := 12) rfl), ⟨by decide +kernel, by decide +kernel, by decide +kernel⟩, by decide, by decide +kernel⟩
theorem ml_X11_493 : Cond.methodLink RX11 493 yX11_layLeft ∈ lw_tbl := z_t7 (List.mem_of_getElem? (i := 182) rfl)
theorem vk_X11_layLeft : Cond.instanceMethod yX11_layLeft ∈ lw_tbl ∧ Cond.selects yX11_layLeft.cls yX11_layLeft yX11_layLeft ∈ lw_tbl := ⟨z_t7 (List.mem_of_getElem? (i := 184) rfl), List.mem_append_left _ (List.mem_of_getElem? (i := 88) (by decide +kernel))⟩
theorem ml_X11_496 : Cond.methodLink RX11 496 yX11_stateOf ∈ lw_tbl := z_t7 (List.mem_of_getElem? (i := 191) rfl)
theorem vk_X11_stateOf : Cond.instanceMethod yX11_stateOf ∈ lw_tbl ∧ Cond.selects yX11_stateOf.cls yX11_stateOf yX11_stateOf ∈ lw_tbl := ⟨z_t7 (List.mem_of_getElem? (i := 193) rfl), List.mem_append_left _ (List.mem_of_getElem? (i := 90) (by decide +kernel))⟩
theorem ml_X11_201 : Cond.methodLink RX11 201 yX11_isCell ∈ lw_tbl := z_t6 (List.mem_of_getElem? (i := 90) rfl)
theorem st_X11_isCell : Cond.static yX11_isCell ∈ lw_tbl := z_t6 (List.mem_of_getElem? (i := 91) rfl)
theorem kj_X11_503 : Cond.constantLong RX11 503 (100) ∈ lw_tbl := z_t7 (List.mem_of_getElem? (i := 209) rfl)
theorem ck_X11_within : z_ck M_X11_within 2 := ⟨z_t7 (List.mem_of_getElem? (i := 208) rfl), z_t1 (List.mem_of_getElem? (i := 12) rfl), ⟨by decide +kernel, by decide +kernel, by decide +kernel⟩, by decide, by decide +kernel⟩
theorem ml_X6_70 : Cond.methodLink RX6 70 yX4_behind ∈ lw_tbl := z_t4 (List.mem_of_getElem? (i := 196) rfl)
theorem ml_X6_51 : Cond.methodLink RX6 51 arraycopyName ∈ lw_tbl := z_t4 (List.mem_of_getElem? (i := 119) rfl)
theorem kj_X6_68 : Cond.constantLong RX6 68 (3) ∈ lw_tbl := z_t4 (List.mem_of_getElem? (i := 195) rfl)
theorem ck_X6_spread : z_ck M_X6_spread 0 := ⟨z_t4 (List.mem_of_getElem? (i := 194) rfl), z_t1 (List.mem_of_getElem? (i := 10) rfl), ⟨by decide +kernel, by decide +kernel, by decide +kernel⟩, by decide, by decide +kernel⟩
theorem ml_X6_65 : Cond.methodLink RX6 65 yX6_spread ∈ lw_tbl := z_t4 (List.mem_of_getElem? (i := 191) rfl)
theorem vk_X6_spread : Cond.instanceMethod yX6_spread ∈ lw_tbl ∧ Cond.selects yX6_spread.cls yX6_spread yX6_spread ∈ lw_tbl := ⟨z_t4 (List.mem_of_getElem? (i := 193) rfl), List.mem_append_left _ (List.mem_of_getElem? (i := 30) (by decide +kernel))⟩
theorem ml_X6_31 : Cond.methodLink RX6 31 yX4_layOut ∈ lw_tbl := z_t4 (List.mem_of_getElem? (i := 109) rfl)
theorem ml_X6_37 : Cond.methodLink RX6 37 yX9_placeOf ∈ lw_tbl := z_t4 (List.mem_of_getElem? (i := 114) rfl)
theorem ck_X6_byChance : z_ck M_X6_byChance 4 := ⟨z_t4 (List.mem_of_getElem? (i := 186) rfl), z_t1 (List.mem_of_getElem? (i := 10) rfl), ⟨by decide +kernel, by decide +kernel, by decide +kernel⟩, by decide, by decide +kernel⟩
theorem ml_X10_251 : Cond.methodLink RX10 251 yX6_byChance ∈ lw_tbl := z_t4 (List.mem_of_getElem? (i := 183) rfl)
theorem vk_X6_byChance : Cond.instanceMethod yX6_byChance ∈ lw_tbl ∧ Cond.selects yX6_byChance.cls yX6_byChance yX6_byChance ∈ lw_tbl := ⟨z_t4 (List.mem_of_getElem? (i := 184) rfl), z_t4 (List.mem_of_getElem? (i := 185) rfl)⟩
theorem ck_X10_chance : z_ck M_X10_chance 3 := ⟨z_t4 (List.mem_of_getElem? (i := 182) rfl), z_t1 (List.mem_of_getElem? (i := 1) rfl), ⟨by decide +kernel, by decide +kernel, by decide +kernel⟩, by decide, by decide +kernel⟩
theorem kj_X11_499 : Cond.constantLong RX11 499 (30) ∈ lw_tbl := z_t7 (List.mem_of_getElem? (i := 203) rfl)
theorem ck_X11_chance : z_ck M_X11_chance 3 := ⟨z_t7 (List.mem_of_getElem? (i := 202) rfl), z_t1 (List.mem_of_getElem? (i := 12) rfl), ⟨by decide +kernel, by decide +kernel, by decide +kernel⟩, by decide, by decide +kernel⟩
theorem ck_X4_cheapest : z_ck M_X4_cheapest 0 := ⟨z_t4 (List.mem_of_getElem? (i := 170) rfl), z_t1 (List.mem_of_getElem? (i := 9) rfl), ⟨by decide +kernel, by decide +kernel, by decide +kernel⟩, by decide, by decide +kernel⟩
theorem ml_X4_84 : Cond.methodLink RX4 84 yX9_lawInForce ∈ lw_tbl := z_t4 (List.mem_of_getElem? (i := 175) rfl)
theorem ml_X4_88 : Cond.methodLink RX4 88 yX9_wornAt ∈ lw_tbl := z_t4 (List.mem_of_getElem? (i := 176) rfl)
theorem ml_X4_91 : Cond.methodLink RX4 91 yX1_wears ∈ lw_tbl := z_t4 (List.mem_of_getElem? (i := 177) rfl)
theorem ml_X4_95 : Cond.methodLink RX4 95 Lib.Math.min.name ∈ lw_tbl := z_t4 (List.mem_of_getElem? (i := 178) rfl)
theorem ck_X4_cheapen : z_ck M_X4_cheapen 4 := ⟨z_t4 (List.mem_of_getElem? (i := 174) rfl), z_t1 (List.mem_of_getElem? (i := 9) rfl), ⟨by decide +kernel, by decide +kernel, by decide +kernel⟩, by decide, by decide +kernel⟩
theorem ml_X4_80 : Cond.methodLink RX4 80 yX4_cheapen ∈ lw_tbl := z_t4 (List.mem_of_getElem? (i := 171) rfl)
theorem vk_X4_cheapen : Cond.instanceMethod yX4_cheapen ∈ lw_tbl ∧ Cond.selects yX4_cheapen.cls yX4_cheapen yX4_cheapen ∈ lw_tbl := ⟨z_t4 (List.mem_of_getElem? (i := 173) rfl), List.mem_append_left _ (List.mem_of_getElem? (i := 29) (by decide +kernel))⟩
theorem ml_X4_76 : Cond.methodLink RX4 76 yX4_cheapest ∈ lw_tbl := z_t4 (List.mem_of_getElem? (i := 167) rfl)
theorem vk_X4_cheapest : Cond.instanceMethod yX4_cheapest ∈ lw_tbl ∧ Cond.selects yX4_cheapest.cls yX4_cheapest yX4_cheapest ∈ lw_tbl := ⟨z_t4 (List.mem_of_getElem? (i := 169) rfl), List.mem_append_left _ (List.mem_of_getElem? (i := 28) (by decide +kernel))⟩
theorem ck_X4_leastWorn : z_ck M_X4_leastWorn 3 := ⟨z_t4 (List.mem_of_getElem? (i := 166) rfl), z_t1 (List.mem_of_getElem? (i := 9) rfl), ⟨by decide +kernel, by decide +kernel, by decide +kernel⟩, by decide, by decide +kernel⟩
theorem ml_X10_248 : Cond.methodLink RX10 248 yX4_leastWorn ∈ lw_tbl := z_t4 (List.mem_of_getElem? (i := 163) rfl)
theorem vk_X4_leastWorn : Cond.instanceMethod yX4_leastWorn ∈ lw_tbl ∧ Cond.selects yX4_leastWorn.cls yX4_leastWorn yX4_leastWorn ∈ lw_tbl := ⟨z_t4 (List.mem_of_getElem? (i := 164) rfl), z_t4 (List.mem_of_getElem? (i := 165) rfl)⟩
theorem ck_X10_least : z_ck M_X10_least 2 := ⟨z_t4 (List.mem_of_getElem? (i := 162) rfl), z_t1 (List.mem_of_getElem? (i := 1) rfl), ⟨by decide +kernel, by decide +kernel, by decide +kernel⟩, by decide, by decide +kernel⟩
theorem ck_X11_least : z_ck M_X11_least 2 := ⟨z_t7 (List.mem_of_getElem? (i := 198) rfl), z_t1 (List.mem_of_getElem? (i := 12) rfl), ⟨by decide +kernel, by decide +kernel, by decide +kernel⟩, by decide, by decide +kernel⟩
theorem ck_X4_actAt : z_ck M_X4_actAt 1 := ⟨z_t4 (List.mem_of_getElem? (i := 158) rfl), z_t1 (List.mem_of_getElem? (i := 9) rfl), ⟨by decide +kernel, by decide +kernel, by decide +kernel⟩, by decide, by decide +kernel⟩
theorem ml_X10_245 : Cond.methodLink RX10 245 yX4_actAt ∈ lw_tbl := z_t4 (List.mem_of_getElem? (i := 155) rfl)
theorem vk_X4_actAt : Cond.instanceMethod yX4_actAt ∈ lw_tbl ∧ Cond.selects yX4_actAt.cls yX4_actAt yX4_actAt ∈ lw_tbl := ⟨z_t4 (List.mem_of_getElem? (i := 156) rfl), z_t4 (List.mem_of_getElem? (i := 157) rfl)⟩
theorem ck_X10_way : z_ck M_X10_way 3 := ⟨z_t4 (List.mem_of_getElem? (i := 135) rfl), z_t1 (List.mem_of_getElem? (i := 1) rfl), ⟨by decide +kernel, by decide +kernel, by decide +kernel⟩, by decide, by decide +kernel⟩
theorem ck_X11_way : z_ck M_X11_way 3 := ⟨z_t7 (List.mem_of_getElem? (i := 181) rfl), z_t1 (List.mem_of_getElem? (i := 12) rfl), ⟨by decide +kernel, by decide +kernel, by decide +kernel⟩, by decide, by decide +kernel⟩
theorem ck_X10_isWaysNumber : z_ck M_X10_isWaysNumber 1 := ⟨z_t4 (List.mem_of_getElem? (i := 103) rfl), z_t1 (List.mem_of_getElem? (i := 1) rfl), ⟨by decide +kernel, by decide +kernel, by decide +kernel⟩, by decide, by decide +kernel⟩
theorem ml_X10_328 : Cond.methodLink RX10 328 yX10_isWaysNumber ∈ lw_tbl := z_t4 (List.mem_of_getElem? (i := 101) rfl)
theorem st_X10_isWaysNumber : Cond.static yX10_isWaysNumber ∈ lw_tbl := z_t4 (List.mem_of_getElem? (i := 102) rfl)
theorem ck_X10_canCountWays : z_ck M_X10_canCountWays 4 := ⟨z_t4 (List.mem_of_getElem? (i := 100) rfl), z_t1 (List.mem_of_getElem? (i := 1) rfl), ⟨by decide +kernel, by decide +kernel, by decide +kernel⟩, by decide, by decide +kernel⟩
theorem lk_X6_47 : z_lk RX6 47 4 1 := ⟨RX4, TX4, 9, rfl, by decide, z_t2 (List.mem_of_getElem? (i := 31) rfl), in_X4⟩
theorem ck_X6_gather : z_ck M_X6_gather 4 := ⟨z_t4 (List.mem_of_getElem? (i := 118) rfl), z_t1 (List.mem_of_getElem? (i := 10) rfl), ⟨by decide +kernel, by decide +kernel, by decide +kernel⟩, by decide, by decide +kernel⟩
theorem ml_X6_43 : Cond.methodLink RX6 43 yX6_gather ∈ lw_tbl := z_t4 (List.mem_of_getElem? (i := 115) rfl)
theorem vk_X6_gather : Cond.instanceMethod yX6_gather ∈ lw_tbl ∧ Cond.selects yX6_gather.cls yX6_gather yX6_gather ∈ lw_tbl := ⟨z_t4 (List.mem_of_getElem? (i := 117) rfl), List.mem_append_left _ (List.mem_of_getElem? (i := 26) (by decide +kernel))⟩
theorem ck_X6_countWays : z_ck M_X6_countWays 5 := ⟨z_t4 (List.mem_of_getElem? (i := 108) rfl), z_t1 (List.mem_of_getElem? (i := 10) rfl), ⟨by decide +kernel, by decide +kernel, by decide +kernel⟩, by decide, by decide +kernel⟩
theorem ck_X6_endCells : z_ck M_X6_endCells 2 := ⟨z_t4 (List.mem_of_getElem? (i := 131) rfl), z_t1 (List.mem_of_getElem? (i := 10) rfl), ⟨by decide +kernel, by decide +kernel, by decide +kernel⟩, by decide, by decide +kernel⟩
theorem ml_X10_225 : Cond.methodLink RX10 225 yX10_canCountWays ∈ lw_tbl := z_t4 (List.mem_of_getElem? (i := 97) rfl)
theorem vk_X10_canCountWays : Cond.instanceMethod yX10_canCountWays ∈ lw_tbl ∧ Cond.selects yX10_canCountWays.cls yX10_canCountWays yX10_canCountWays ∈ lw_tbl := ⟨z_t4 (List.mem_of_getElem? (i := 99) rfl), List.mem_append_left _ (List.mem_of_getElem? (i := 25) (by decide +kernel))⟩
theorem ml_X10_231 : Cond.methodLink RX10 231 yX6_countWays ∈ lw_tbl := z_t4 (List.mem_of_getElem? (i := 105) rfl)
theorem vk_X6_countWays : Cond.instanceMethod yX6_countWays ∈ lw_tbl ∧ Cond.selects yX6_countWays.cls yX6_countWays yX6_countWays ∈ lw_tbl := ⟨z_t4 (List.mem_of_getElem? (i := 106) rfl), z_t4 (List.mem_of_getElem? (i := 107) rfl)⟩
theorem ml_X10_239 : Cond.methodLink RX10 239 yX6_endCells ∈ lw_tbl := z_t4 (List.mem_of_getElem? (i := 128) rfl)
theorem vk_X6_endCells : Cond.instanceMethod yX6_endCells ∈ lw_tbl ∧ Cond.selects yX6_endCells.cls yX6_endCells yX6_endCells ∈ lw_tbl := ⟨z_t4 (List.mem_of_getElem? (i := 129) rfl), z_t4 (List.mem_of_getElem? (i := 130) rfl)⟩
theorem ck_X10_ends : z_ck M_X10_ends 4 := ⟨z_t4 (List.mem_of_getElem? (i := 127) rfl), z_t1 (List.mem_of_getElem? (i := 1) rfl), ⟨by decide +kernel, by decide +kernel, by decide +kernel⟩, by decide, by decide +kernel⟩
theorem kj_X11_479 : Cond.constantLong RX11 479 (6) ∈ lw_tbl := z_t7 (List.mem_of_getElem? (i := 162) rfl)
theorem ck_X11_canAsk : z_ck M_X11_canAsk 4 := ⟨z_t7 (List.mem_of_getElem? (i := 161) rfl), z_t1 (List.mem_of_getElem? (i := 12) rfl), ⟨by decide +kernel, by decide +kernel, by decide +kernel⟩, by decide, by decide +kernel⟩
theorem ck_X11_placeOf : z_ck M_X11_placeOf 4 := ⟨z_t7 (List.mem_of_getElem? (i := 173) rfl), z_t1 (List.mem_of_getElem? (i := 12) rfl), ⟨by decide +kernel, by decide +kernel, by decide +kernel⟩, by decide, by decide +kernel⟩
theorem ml_X11_476 : Cond.methodLink RX11 476 yX11_placeOf ∈ lw_tbl := z_t7 (List.mem_of_getElem? (i := 171) rfl)
theorem st_X11_placeOf : Cond.static yX11_placeOf ∈ lw_tbl := z_t7 (List.mem_of_getElem? (i := 172) rfl)
theorem ck_X11_layWays : z_ck M_X11_layWays 4 := ⟨z_t7 (List.mem_of_getElem? (i := 166) rfl), z_t1 (List.mem_of_getElem? (i := 12) rfl), ⟨by decide +kernel, by decide +kernel, by decide +kernel⟩, by decide, by decide +kernel⟩
theorem ml_X11_481 : Cond.methodLink RX11 481 yX11_canAsk ∈ lw_tbl := z_t7 (List.mem_of_getElem? (i := 158) rfl)
theorem vk_X11_canAsk : Cond.instanceMethod yX11_canAsk ∈ lw_tbl ∧ Cond.selects yX11_canAsk.cls yX11_canAsk yX11_canAsk ∈ lw_tbl := ⟨z_t7 (List.mem_of_getElem? (i := 160) rfl), List.mem_append_left _ (List.mem_of_getElem? (i := 85) (by decide +kernel))⟩
theorem ml_X11_485 : Cond.methodLink RX11 485 yX11_layWays ∈ lw_tbl := z_t7 (List.mem_of_getElem? (i := 163) rfl)
theorem vk_X11_layWays : Cond.instanceMethod yX11_layWays ∈ lw_tbl ∧ Cond.selects yX11_layWays.cls yX11_layWays yX11_layWays ∈ lw_tbl := ⟨z_t7 (List.mem_of_getElem? (i := 165) rfl), List.mem_append_left _ (List.mem_of_getElem? (i := 86) (by decide +kernel))⟩
theorem ck_X11_ends : z_ck M_X11_ends 4 := ⟨z_t7 (List.mem_of_getElem? (i := 177) rfl), z_t1 (List.mem_of_getElem? (i := 12) rfl), ⟨by decide +kernel, by decide +kernel, by decide +kernel⟩, by decide, by decide +kernel⟩
theorem ck_X6_howMany : z_ck M_X6_howMany 2 := ⟨z_t4 (List.mem_of_getElem? (i := 123) rfl), z_t1 (List.mem_of_getElem? (i := 10) rfl), ⟨by decide +kernel, by decide +kernel, by decide +kernel⟩, by decide, by decide +kernel⟩
theorem ml_X10_235 : Cond.methodLink RX10 235 yX6_howMany ∈ lw_tbl := z_t4 (List.mem_of_getElem? (i := 120) rfl)
theorem vk_X6_howMany : Cond.instanceMethod yX6_howMany ∈ lw_tbl ∧ Cond.selects yX6_howMany.cls yX6_howMany yX6_howMany ∈ lw_tbl := ⟨z_t4 (List.mem_of_getElem? (i := 121) rfl), z_t4 (List.mem_of_getElem? (i := 122) rfl)⟩
theorem ck_X10_ways : z_ck M_X10_ways 4 := ⟨z_t4 (List.mem_of_getElem? (i := 96) rfl), z_t1 (List.mem_of_getElem? (i := 1) rfl), ⟨by decide +kernel, by decide +kernel, by decide +kernel⟩, by decide, by decide +kernel⟩
theorem ck_X11_ways : z_ck M_X11_ways 4 := ⟨z_t7 (List.mem_of_getElem? (i := 157) rfl), z_t1 (List.mem_of_getElem? (i := 12) rfl), ⟨by decide +kernel, by decide +kernel, by decide +kernel⟩, by decide, by decide +kernel⟩
theorem lk_X8_40 : z_lk RX8 40 9 4 := ⟨RX9, TX9, 13, rfl, by decide, z_t1 (List.mem_of_getElem? (i := 57) rfl), in_X9⟩
theorem ml_X8_25 : Cond.methodLink RX8 25 yX9_hasPair ∈ lw_tbl := z_t4 (List.mem_of_getElem? (i := 92) rfl)
theorem lk_X8_31 : z_lk RX8 31 9 0 := ⟨RX9, TX9, 13, rfl, by decide, z_t1 (List.mem_of_getElem? (i := 42) rfl), in_X9⟩
theorem lk_X8_34 : z_lk RX8 34 9 1 := ⟨RX9, TX9, 13, rfl, by decide, z_t1 (List.mem_of_getElem? (i := 47) rfl), in_X9⟩
theorem lk_X8_37 : z_lk RX8 37 9 3 := ⟨RX9, TX9, 13, rfl, by decide, z_t1 (List.mem_of_getElem? (i := 53) rfl), in_X9⟩
theorem ck_X8_takeBack : z_ck M_X8_takeBack 1 := ⟨z_t4 (List.mem_of_getElem? (i := 91) rfl), z_t1 (List.mem_of_getElem? (i := 3) rfl), ⟨by decide +kernel, by decide +kernel, by decide +kernel⟩, by decide, by decide +kernel⟩
theorem ml_X10_221 : Cond.methodLink RX10 221 yX8_takeBack ∈ lw_tbl := z_t4 (List.mem_of_getElem? (i := 88) rfl)
theorem vk_X8_takeBack : Cond.instanceMethod yX8_takeBack ∈ lw_tbl ∧ Cond.selects yX8_takeBack.cls yX8_takeBack yX8_takeBack ∈ lw_tbl := ⟨z_t4 (List.mem_of_getElem? (i := 89) rfl), z_t4 (List.mem_of_getElem? (i := 90) rfl)⟩
theorem ck_X10_undo : z_ck M_X10_undo 0 := ⟨z_t4 (List.mem_of_getElem? (i := 87) rfl), z_t1 (List.mem_of_getElem? (i := 1) rfl), ⟨by decide +kernel, by decide +kernel, by decide +kernel⟩, by decide, by decide +kernel⟩
theorem ck_X11_undo : z_ck M_X11_undo 0 := ⟨z_t6 (List.mem_of_getElem? (i := 58) rfl), z_t1 (List.mem_of_getElem? (i := 12) rfl), ⟨by decide +kernel, by decide +kernel, by decide +kernel⟩, by decide, by decide +kernel⟩
theorem ml_X8_19 : Cond.methodLink RX8 19 arraycopyName ∈ lw_tbl := z_t3 (List.mem_of_getElem? (i := 237) rfl)
theorem ck_X8_add : z_ck M_X8_add 1 := ⟨z_t4 (List.mem_of_getElem? (i := 44) rfl), z_t1 (List.mem_of_getElem? (i := 3) rfl), ⟨by decide +kernel, by decide +kernel, by decide +kernel⟩, by decide, by decide +kernel⟩
theorem lk_X10_321 : z_lk RX10 321 0 1 := ⟨RX0, TX0, 2, rfl, by decide, z_t1 (List.mem_of_getElem? (i := 224) rfl), in_X0⟩
theorem ml_X10_324 : Cond.methodLink RX10 324 yX8_add ∈ lw_tbl := z_t4 (List.mem_of_getElem? (i := 67) rfl)
theorem vk_X8_add : Cond.instanceMethod yX8_add ∈ lw_tbl ∧ Cond.selects yX8_add.cls yX8_add yX8_add ∈ lw_tbl := ⟨z_t4 (List.mem_of_getElem? (i := 42) rfl), z_t4 (List.mem_of_getElem? (i := 43) rfl)⟩
theorem ck_X10_attempt : z_ck M_X10_attempt 3 := ⟨z_t4 (List.mem_of_getElem? (i := 65) rfl), z_t1 (List.mem_of_getElem? (i := 1) rfl), ⟨by decide +kernel, by decide +kernel, by decide +kernel⟩, by decide, by decide +kernel⟩
theorem ml_X10_217 : Cond.methodLink RX10 217 yX10_attempt ∈ lw_tbl := z_t4 (List.mem_of_getElem? (i := 62) rfl)
theorem vk_X10_attempt : Cond.instanceMethod yX10_attempt ∈ lw_tbl ∧ Cond.selects yX10_attempt.cls yX10_attempt yX10_attempt ∈ lw_tbl := ⟨z_t4 (List.mem_of_getElem? (i := 64) rfl), List.mem_append_left _ (List.mem_of_getElem? (i := 24) (by decide +kernel))⟩
theorem ck_X10_pass : z_ck M_X10_pass 0 := ⟨z_t4 (List.mem_of_getElem? (i := 83) rfl), z_t1 (List.mem_of_getElem? (i := 1) rfl), ⟨by decide +kernel, by decide +kernel, by decide +kernel⟩, by decide, by decide +kernel⟩
theorem ck_X11_remember : z_ck M_X11_remember 1 := ⟨z_t7 (List.mem_of_getElem? (i := 102) rfl), z_t1 (List.mem_of_getElem? (i := 12) rfl), ⟨by decide +kernel, by decide +kernel, by decide +kernel⟩, by decide, by decide +kernel⟩
theorem ml_X11_446 : Cond.methodLink RX11 446 yX11_remember ∈ lw_tbl := z_t7 (List.mem_of_getElem? (i := 99) rfl)
theorem vk_X11_remember : Cond.instanceMethod yX11_remember ∈ lw_tbl ∧ Cond.selects yX11_remember.cls yX11_remember yX11_remember ∈ lw_tbl := ⟨z_t7 (List.mem_of_getElem? (i := 101) rfl), List.mem_append_left _ (List.mem_of_getElem? (i := 76) (by decide +kernel))⟩
theorem ck_X11_passNow : z_ck M_X11_passNow 0 := ⟨z_t7 (List.mem_of_getElem? (i := 153) rfl), z_t1 (List.mem_of_getElem? (i := 12) rfl), ⟨by decide +kernel, by decide +kernel, by decide +kernel⟩, by decide, by decide +kernel⟩
theorem ml_X11_470 : Cond.methodLink RX11 470 yX11_passNow ∈ lw_tbl := z_t7 (List.mem_of_getElem? (i := 150) rfl)
theorem vk_X11_passNow : Cond.instanceMethod yX11_passNow ∈ lw_tbl ∧ Cond.selects yX11_passNow.cls yX11_passNow yX11_passNow ∈ lw_tbl := ⟨z_t7 (List.mem_of_getElem? (i := 152) rfl), List.mem_append_left _ (List.mem_of_getElem? (i := 84) (by decide +kernel))⟩
theorem ck_X11_pass : z_ck M_X11_pass 0 := ⟨z_t7 (List.mem_of_getElem? (i := 149) rfl), z_t1 (List.mem_of_getElem? (i := 12) rfl), ⟨by decide +kernel, by decide +kernel, by decide +kernel⟩, by decide, by decide +kernel⟩
theorem ck_X10_mend : z_ck M_X10_mend 2 := ⟨z_t4 (List.mem_of_getElem? (i := 79) rfl), z_t1 (List.mem_of_getElem? (i := 1) rfl), ⟨by decide +kernel, by decide +kernel, by decide +kernel⟩, by decide, by decide +kernel⟩
theorem ck_X11_leavesOf : z_ck M_X11_leavesOf 2 := ⟨z_t6 (List.mem_of_getElem? (i := 171) rfl), z_t1 (List.mem_of_getElem? (i := 12) rfl), ⟨by decide +kernel, by decide +kernel, by decide +kernel⟩, by decide, by decide +kernel⟩
theorem ml_X11_229 : Cond.methodLink RX11 229 yX11_leavesOf ∈ lw_tbl := z_t6 (List.mem_of_getElem? (i := 168) rfl)
theorem vk_X11_leavesOf : Cond.instanceMethod yX11_leavesOf ∈ lw_tbl ∧ Cond.selects yX11_leavesOf.cls yX11_leavesOf yX11_leavesOf ∈ lw_tbl := ⟨z_t6 (List.mem_of_getElem? (i := 170) rfl), List.mem_append_left _ (List.mem_of_getElem? (i := 48) (by decide +kernel))⟩
theorem ck_X11_mendNow : z_ck M_X11_mendNow 2 := ⟨z_t7 (List.mem_of_getElem? (i := 145) rfl), z_t1 (List.mem_of_getElem? (i := 12) rfl), ⟨by decide +kernel, by decide +kernel, by decide +kernel⟩, by decide, by decide +kernel⟩
theorem ml_X11_467 : Cond.methodLink RX11 467 yX11_mendNow ∈ lw_tbl := z_t7 (List.mem_of_getElem? (i := 142) rfl)
theorem vk_X11_mendNow : Cond.instanceMethod yX11_mendNow ∈ lw_tbl ∧ Cond.selects yX11_mendNow.cls yX11_mendNow yX11_mendNow ∈ lw_tbl := ⟨z_t7 (List.mem_of_getElem? (i := 144) rfl), List.mem_append_left _ (List.mem_of_getElem? (i := 83) (by decide +kernel))⟩
theorem ck_X11_mend : z_ck M_X11_mend 2 := ⟨z_t7 (List.mem_of_getElem? (i := 141) rfl), z_t1 (List.mem_of_getElem? (i := 12) rfl), ⟨by decide +kernel, by decide +kernel, by decide +kernel⟩, by decide, by decide +kernel⟩
theorem ck_X10_pause : z_ck M_X10_pause 1 := ⟨z_t4 (List.mem_of_getElem? (i := 75) rfl), z_t1 (List.mem_of_getElem? (i := 1) rfl), ⟨by decide +kernel, by decide +kernel, by decide +kernel⟩, by decide, by decide +kernel⟩
theorem ck_X11_pauseNow : z_ck M_X11_pauseNow 1 := ⟨z_t7 (List.mem_of_getElem? (i := 137) rfl), z_t1 (List.mem_of_getElem? (i := 12) rfl), ⟨by decide +kernel, by decide +kernel, by decide +kernel⟩, by decide, by decide +kernel⟩
theorem ml_X11_464 : Cond.methodLink RX11 464 yX11_pauseNow ∈ lw_tbl := z_t7 (List.mem_of_getElem? (i := 134) rfl)
theorem vk_X11_pauseNow : Cond.instanceMethod yX11_pauseNow ∈ lw_tbl ∧ Cond.selects yX11_pauseNow.cls yX11_pauseNow yX11_pauseNow ∈ lw_tbl := ⟨z_t7 (List.mem_of_getElem? (i := 136) rfl), List.mem_append_left _ (List.mem_of_getElem? (i := 82) (by decide +kernel))⟩
theorem ck_X11_pause : z_ck M_X11_pause 1 := ⟨z_t7 (List.mem_of_getElem? (i := 133) rfl), z_t1 (List.mem_of_getElem? (i := 12) rfl), ⟨by decide +kernel, by decide +kernel, by decide +kernel⟩, by decide, by decide +kernel⟩
theorem ck_X10_turn : z_ck M_X10_turn 2 := ⟨z_t4 (List.mem_of_getElem? (i := 71) rfl), z_t1 (List.mem_of_getElem? (i := 1) rfl), ⟨by decide +kernel, by decide +kernel, by decide +kernel⟩, by decide, by decide +kernel⟩
theorem ck_X11_turnNow : z_ck M_X11_turnNow 2 := ⟨z_t7 (List.mem_of_getElem? (i := 122) rfl), z_t1 (List.mem_of_getElem? (i := 12) rfl), ⟨by decide +kernel, by decide +kernel, by decide +kernel⟩, by decide, by decide +kernel⟩
theorem ml_X11_461 : Cond.methodLink RX11 461 yX11_turnNow ∈ lw_tbl := z_t7 (List.mem_of_getElem? (i := 119) rfl)
theorem vk_X11_turnNow : Cond.instanceMethod yX11_turnNow ∈ lw_tbl ∧ Cond.selects yX11_turnNow.cls yX11_turnNow yX11_turnNow ∈ lw_tbl := ⟨z_t7 (List.mem_of_getElem? (i := 121) rfl), List.mem_append_left _ (List.mem_of_getElem? (i := 80) (by decide +kernel))⟩
theorem ck_X11_turn : z_ck M_X11_turn 2 := ⟨z_t7 (List.mem_of_getElem? (i := 118) rfl), z_t1 (List.mem_of_getElem? (i := 12) rfl), ⟨by decide +kernel, by decide +kernel, by decide +kernel⟩, by decide, by decide +kernel⟩
theorem ck_X10_step : z_ck M_X10_step 1 := ⟨z_t4 (List.mem_of_getElem? (i := 61) rfl), z_t1 (List.mem_of_getElem? (i := 1) rfl), ⟨by decide +kernel, by decide +kernel, by decide +kernel⟩, by decide, by decide +kernel⟩
theorem ck_X11_stepNow : z_ck M_X11_stepNow 1 := ⟨z_t7 (List.mem_of_getElem? (i := 98) rfl), z_t1 (List.mem_of_getElem? (i := 12) rfl), ⟨by decide +kernel, by decide +kernel, by decide +kernel⟩, by decide, by decide +kernel⟩
theorem ml_X11_452 : Cond.methodLink RX11 452 yX11_stepNow ∈ lw_tbl := z_t7 (List.mem_of_getElem? (i := 95) rfl)
theorem vk_X11_stepNow : Cond.instanceMethod yX11_stepNow ∈ lw_tbl ∧ Cond.selects yX11_stepNow.cls yX11_stepNow yX11_stepNow ∈ lw_tbl := ⟨z_t7 (List.mem_of_getElem? (i := 97) rfl), List.mem_append_left _ (List.mem_of_getElem? (i := 75) (by decide +kernel))⟩
theorem ck_X11_step : z_ck M_X11_step 1 := ⟨z_t7 (List.mem_of_getElem? (i := 94) rfl), z_t1 (List.mem_of_getElem? (i := 12) rfl), ⟨by decide +kernel, by decide +kernel, by decide +kernel⟩, by decide, by decide +kernel⟩
theorem ck_X10_force : z_ck M_X10_force 1 := ⟨z_t4 (List.mem_of_getElem? (i := 56) rfl), z_t1 (List.mem_of_getElem? (i := 1) rfl), ⟨by decide +kernel, by decide +kernel, by decide +kernel⟩, by decide, by decide +kernel⟩
theorem ck_X11_change : z_ck M_X11_change 2 := ⟨z_t6 (List.mem_of_getElem? (i := 181) rfl), z_t1 (List.mem_of_getElem? (i := 12) rfl), ⟨by decide +kernel, by decide +kernel, by decide +kernel⟩, by decide, by decide +kernel⟩
theorem ml_X11_236 : Cond.methodLink RX11 236 yX11_change ∈ lw_tbl := z_t6 (List.mem_of_getElem? (i := 178) rfl)
theorem vk_X11_change : Cond.instanceMethod yX11_change ∈ lw_tbl ∧ Cond.selects yX11_change.cls yX11_change yX11_change ∈ lw_tbl := ⟨z_t6 (List.mem_of_getElem? (i := 180) rfl), List.mem_append_left _ (List.mem_of_getElem? (i := 49) (by decide +kernel))⟩
theorem ck_X11_force : z_ck M_X11_force 1 := ⟨z_t7 (List.mem_of_getElem? (i := 86) rfl), z_t1 (List.mem_of_getElem? (i := 12) rfl), ⟨by decide +kernel, by decide +kernel, by decide +kernel⟩, by decide, by decide +kernel⟩
theorem lk_X10_201 : z_lk RX10 201 2 6 := ⟨RX2, TX2, 7, rfl, by decide, z_t2 (List.mem_of_getElem? (i := 7) rfl), in_X2⟩
theorem ck_X10_stopped : z_ck M_X10_stopped 0 := ⟨z_t4 (List.mem_of_getElem? (i := 52) rfl), z_t1 (List.mem_of_getElem? (i := 1) rfl), ⟨by decide +kernel, by decide +kernel, by decide +kernel⟩, by decide, by decide +kernel⟩
theorem ck_X11_stopped : z_ck M_X11_stopped 0 := ⟨z_t8 (List.mem_of_getElem? (i := 70) rfl), z_t1 (List.mem_of_getElem? (i := 12) rfl), ⟨by decide +kernel, by decide +kernel, by decide +kernel⟩, by decide, by decide +kernel⟩
theorem lk_X10_208 : z_lk RX10 208 5 3 := ⟨RX5, TX5, 10, rfl, by decide, z_t1 (List.mem_of_getElem? (i := 168) rfl), in_X5⟩
theorem ck_X10_fault : z_ck M_X10_fault 0 := ⟨z_t4 (List.mem_of_getElem? (i := 48) rfl), z_t1 (List.mem_of_getElem? (i := 1) rfl), ⟨by decide +kernel, by decide +kernel, by decide +kernel⟩, by decide, by decide +kernel⟩
theorem ck_X11_fault : z_ck M_X11_fault 0 := ⟨z_t6 (List.mem_of_getElem? (i := 205) rfl), z_t1 (List.mem_of_getElem? (i := 12) rfl), ⟨by decide +kernel, by decide +kernel, by decide +kernel⟩, by decide, by decide +kernel⟩
theorem ck_X7_clear : z_ck M_X7_clear 0 := ⟨z_t3 (List.mem_of_getElem? (i := 68) rfl), z_t1 (List.mem_of_getElem? (i := 5) rfl), ⟨by decide +kernel, by decide +kernel, by decide +kernel⟩, by decide, by decide +kernel⟩
theorem ck_X5_kindOf : z_ck M_X5_kindOf 1 := ⟨z_t3 (List.mem_of_getElem? (i := 75) rfl), z_t1 (List.mem_of_getElem? (i := 4) rfl), ⟨by decide +kernel, by decide +kernel, by decide +kernel⟩, by decide, by decide +kernel⟩
theorem ml_X5_75 : Cond.methodLink RX5 75 Lib.Math.min.name ∈ lw_tbl := z_t3 (List.mem_of_getElem? (i := 76) rfl)
theorem ml_X5_71 : Cond.methodLink RX5 71 yX5_kindOf ∈ lw_tbl := z_t3 (List.mem_of_getElem? (i := 73) rfl)
theorem st_X5_kindOf : Cond.static yX5_kindOf ∈ lw_tbl := z_t3 (List.mem_of_getElem? (i := 74) rfl)
theorem ck_X5_advance : z_ck M_X5_advance 0 := ⟨z_t3 (List.mem_of_getElem? (i := 72) rfl), z_t1 (List.mem_of_getElem? (i := 4) rfl), ⟨by decide +kernel, by decide +kernel, by decide +kernel⟩, by decide, by decide +kernel⟩
theorem ml_X5_81 : Cond.methodLink RX5 81 yJ0_length_8abf5 ∈ lw_tbl := z_t3 (List.mem_of_getElem? (i := 87) rfl)
theorem ck_J0_length_8abf5 : z_ck M_J0_length_8abf5 0 := ⟨z_t3 (List.mem_of_getElem? (i := 90) rfl), z_t1 (List.mem_of_getElem? (i := 14) rfl), ⟨by decide +kernel, by decide +kernel, by decide +kernel⟩, by decide, by decide +kernel⟩
theorem vk_J0_length_8abf5 : Cond.instanceMethod yJ0_length_8abf5 ∈ lw_tbl ∧ Cond.selects yJ0_length_8abf5.cls yJ0_length_8abf5 yJ0_length_8abf5 ∈ lw_tbl := ⟨z_t3 (List.mem_of_getElem? (i := 88) rfl), z_t3 (List.mem_of_getElem? (i := 89) rfl)⟩
theorem ml_X5_86 : Cond.methodLink RX5 86 yJ0_charAt_5068e ∈ lw_tbl := z_t3 (List.mem_of_getElem? (i := 97) rfl)
theorem ck_J0_charAt_5068e : z_ck M_J0_charAt_5068e 1 := ⟨z_t3 (List.mem_of_getElem? (i := 100) rfl), z_t1 (List.mem_of_getElem? (i := 14) rfl), ⟨by decide +kernel, by decide +kernel, by decide +kernel⟩, by decide, by decide +kernel⟩
theorem vk_J0_charAt_5068e : Cond.instanceMethod yJ0_charAt_5068e ∈ lw_tbl ∧ Cond.selects yJ0_charAt_5068e.cls yJ0_charAt_5068e yJ0_charAt_5068e ∈ lw_tbl := ⟨z_t3 (List.mem_of_getElem? (i := 98) rfl), z_t3 (List.mem_of_getElem? (i := 99) rfl)⟩
theorem ck_X5_among : z_ck M_X5_among 1 := ⟨z_t3 (List.mem_of_getElem? (i := 86) rfl), z_t1 (List.mem_of_getElem? (i := 4) rfl), ⟨by decide +kernel, by decide +kernel, by decide +kernel⟩, by decide, by decide +kernel⟩
theorem ck_X5_failHere : z_ck M_X5_failHere 0 := ⟨z_t3 (List.mem_of_getElem? (i := 138) rfl), z_t1 (List.mem_of_getElem? (i := 4) rfl), ⟨by decide +kernel, by decide +kernel, by decide +kernel⟩, by decide, by decide +kernel⟩
theorem ck_X7_set : z_ck M_X7_set 3 := ⟨z_t3 (List.mem_of_getElem? (i := 142) rfl), z_t1 (List.mem_of_getElem? (i := 5) rfl), ⟨by decide +kernel, by decide +kernel, by decide +kernel⟩, by decide, by decide +kernel⟩
theorem ck_X5_isSign : z_ck M_X5_isSign 1 := ⟨z_t3 (List.mem_of_getElem? (i := 160) rfl), z_t1 (List.mem_of_getElem? (i := 4) rfl), ⟨by decide +kernel, by decide +kernel, by decide +kernel⟩, by decide, by decide +kernel⟩
theorem ml_X5_94 : Cond.methodLink RX5 94 yX5_isSign ∈ lw_tbl := z_t3 (List.mem_of_getElem? (i := 157) rfl)
theorem vk_X5_isSign : Cond.instanceMethod yX5_isSign ∈ lw_tbl ∧ Cond.selects yX5_isSign.cls yX5_isSign yX5_isSign ∈ lw_tbl := ⟨z_t3 (List.mem_of_getElem? (i := 159) rfl), List.mem_append_left _ (List.mem_of_getElem? (i := 11) (by decide +kernel))⟩
theorem ml_X5_53 : Cond.methodLink RX5 53 yX5_advance ∈ lw_tbl := z_t3 (List.mem_of_getElem? (i := 69) rfl)
theorem vk_X5_advance : Cond.instanceMethod yX5_advance ∈ lw_tbl ∧ Cond.selects yX5_advance.cls yX5_advance yX5_advance ∈ lw_tbl := ⟨z_t3 (List.mem_of_getElem? (i := 71) rfl), List.mem_append_left _ (List.mem_of_getElem? (i := 4) (by decide +kernel))⟩
theorem ml_X5_67 : Cond.methodLink RX5 67 yX5_failHere ∈ lw_tbl := z_t3 (List.mem_of_getElem? (i := 135) rfl)
theorem vk_X5_failHere : Cond.instanceMethod yX5_failHere ∈ lw_tbl ∧ Cond.selects yX5_failHere.cls yX5_failHere yX5_failHere ∈ lw_tbl := ⟨z_t3 (List.mem_of_getElem? (i := 137) rfl), List.mem_append_left _ (List.mem_of_getElem? (i := 7) (by decide +kernel))⟩
theorem ck_X5_skipSign : z_ck M_X5_skipSign 1 := ⟨z_t3 (List.mem_of_getElem? (i := 164) rfl), z_t1 (List.mem_of_getElem? (i := 4) rfl), ⟨by decide +kernel, by decide +kernel, by decide +kernel⟩, by decide, by decide +kernel⟩
theorem ck_X7_emit : z_ck M_X7_emit 2 := ⟨z_t3 (List.mem_of_getElem? (i := 168) rfl), z_t1 (List.mem_of_getElem? (i := 5) rfl), ⟨by decide +kernel, by decide +kernel, by decide +kernel⟩, by decide, by decide +kernel⟩
theorem ml_X5_139 : Cond.methodLink RX5 139 yX7_emit ∈ lw_tbl := z_t3 (List.mem_of_getElem? (i := 165) rfl)
theorem vk_X7_emit : Cond.instanceMethod yX7_emit ∈ lw_tbl ∧ Cond.selects yX7_emit.cls yX7_emit yX7_emit ∈ lw_tbl := ⟨z_t3 (List.mem_of_getElem? (i := 166) rfl), z_t3 (List.mem_of_getElem? (i := 167) rfl)⟩
theorem ml_X5_90 : Cond.methodLink RX5 90 yX5_among ∈ lw_tbl := z_t3 (List.mem_of_getElem? (i := 83) rfl)
theorem vk_X5_among : Cond.instanceMethod yX5_among ∈ lw_tbl ∧ Cond.selects yX5_among.cls yX5_among yX5_among ∈ lw_tbl := ⟨z_t3 (List.mem_of_getElem? (i := 85) rfl), List.mem_append_left _ (List.mem_of_getElem? (i := 6) (by decide +kernel))⟩
theorem ck_X5_readNamed : z_ck M_X5_readNamed 0 := ⟨z_t3 (List.mem_of_getElem? (i := 172) rfl), z_t1 (List.mem_of_getElem? (i := 4) rfl), ⟨by decide +kernel, by decide +kernel, by decide +kernel⟩, by decide, by decide +kernel⟩
theorem ml_X5_159 : Cond.methodLink RX5 159 yX5_readNamed ∈ lw_tbl := z_t3 (List.mem_of_getElem? (i := 169) rfl)
theorem vk_X5_readNamed : Cond.instanceMethod yX5_readNamed ∈ lw_tbl ∧ Cond.selects yX5_readNamed.cls yX5_readNamed yX5_readNamed ∈ lw_tbl := ⟨z_t3 (List.mem_of_getElem? (i := 171) rfl), List.mem_append_left _ (List.mem_of_getElem? (i := 13) (by decide +kernel))⟩
theorem ml_X5_115 : Cond.methodLink RX5 115 yX5_readSum ∈ lw_tbl := z_t3 (List.mem_of_getElem? (i := 145) rfl)
theorem ck_X5_readSum : z_ck M_X5_readSum 1 := ⟨z_t3 (List.mem_of_getElem? (i := 148) rfl), z_t1 (List.mem_of_getElem? (i := 4) rfl), ⟨by decide +kernel, by decide +kernel, by decide +kernel⟩, by decide, by decide +kernel⟩
theorem vk_X5_readSum : Cond.instanceMethod yX5_readSum ∈ lw_tbl ∧ Cond.selects yX5_readSum.cls yX5_readSum yX5_readSum ∈ lw_tbl := ⟨z_t3 (List.mem_of_getElem? (i := 147) rfl), List.mem_append_left _ (List.mem_of_getElem? (i := 8) (by decide +kernel))⟩
theorem ml_X5_63 : Cond.methodLink RX5 63 yX5_skipSign ∈ lw_tbl := z_t3 (List.mem_of_getElem? (i := 161) rfl)
theorem vk_X5_skipSign : Cond.instanceMethod yX5_skipSign ∈ lw_tbl ∧ Cond.selects yX5_skipSign.cls yX5_skipSign yX5_skipSign ∈ lw_tbl := ⟨z_t3 (List.mem_of_getElem? (i := 163) rfl), List.mem_append_left _ (List.mem_of_getElem? (i := 12) (by decide +kernel))⟩
theorem ck_X5_readPart : z_ck M_X5_readPart 1 := ⟨z_t3 (List.mem_of_getElem? (i := 156) rfl), z_t1 (List.mem_of_getElem? (i := 4) rfl), ⟨by decide +kernel, by decide +kernel, by decide +kernel⟩, by decide, by decide +kernel⟩
theorem ml_X5_156 : Cond.methodLink RX5 156 yX5_readPart ∈ lw_tbl := z_t3 (List.mem_of_getElem? (i := 153) rfl)
theorem vk_X5_readPart : Cond.instanceMethod yX5_readPart ∈ lw_tbl ∧ Cond.selects yX5_readPart.cls yX5_readPart yX5_readPart ∈ lw_tbl := ⟨z_t3 (List.mem_of_getElem? (i := 155) rfl), List.mem_append_left _ (List.mem_of_getElem? (i := 10) (by decide +kernel))⟩
theorem ck_X5_readTerm : z_ck M_X5_readTerm 1 := ⟨z_t3 (List.mem_of_getElem? (i := 152) rfl), z_t1 (List.mem_of_getElem? (i := 4) rfl), ⟨by decide +kernel, by decide +kernel, by decide +kernel⟩, by decide, by decide +kernel⟩
theorem ml_X5_153 : Cond.methodLink RX5 153 yX5_readTerm ∈ lw_tbl := z_t3 (List.mem_of_getElem? (i := 149) rfl)
theorem vk_X5_readTerm : Cond.instanceMethod yX5_readTerm ∈ lw_tbl ∧ Cond.selects yX5_readTerm.cls yX5_readTerm yX5_readTerm ∈ lw_tbl := ⟨z_t3 (List.mem_of_getElem? (i := 151) rfl), List.mem_append_left _ (List.mem_of_getElem? (i := 9) (by decide +kernel))⟩
theorem ck_X5_isWord : z_ck M_X5_isWord 1 := ⟨z_t3 (List.mem_of_getElem? (i := 184) rfl), z_t1 (List.mem_of_getElem? (i := 4) rfl), ⟨by decide +kernel, by decide +kernel, by decide +kernel⟩, by decide, by decide +kernel⟩
theorem ml_X5_97 : Cond.methodLink RX5 97 yX5_isWord ∈ lw_tbl := z_t3 (List.mem_of_getElem? (i := 181) rfl)
theorem vk_X5_isWord : Cond.instanceMethod yX5_isWord ∈ lw_tbl ∧ Cond.selects yX5_isWord.cls yX5_isWord yX5_isWord ∈ lw_tbl := ⟨z_t3 (List.mem_of_getElem? (i := 183) rfl), List.mem_append_left _ (List.mem_of_getElem? (i := 15) (by decide +kernel))⟩
theorem ck_X5_skipWord : z_ck M_X5_skipWord 1 := ⟨z_t3 (List.mem_of_getElem? (i := 180) rfl), z_t1 (List.mem_of_getElem? (i := 4) rfl), ⟨by decide +kernel, by decide +kernel, by decide +kernel⟩, by decide, by decide +kernel⟩
theorem ml_X5_105 : Cond.methodLink RX5 105 yX7_set ∈ lw_tbl := z_t3 (List.mem_of_getElem? (i := 139) rfl)
theorem vk_X7_set : Cond.instanceMethod yX7_set ∈ lw_tbl ∧ Cond.selects yX7_set.cls yX7_set yX7_set ∈ lw_tbl := ⟨z_t3 (List.mem_of_getElem? (i := 140) rfl), z_t3 (List.mem_of_getElem? (i := 141) rfl)⟩
theorem ck_X5_readTimes : z_ck M_X5_readTimes 1 := ⟨z_t3 (List.mem_of_getElem? (i := 189) rfl), z_t1 (List.mem_of_getElem? (i := 4) rfl), ⟨by decide +kernel, by decide +kernel, by decide +kernel⟩, by decide, by decide +kernel⟩
theorem ml_X5_131 : Cond.methodLink RX5 131 yX5_readTest ∈ lw_tbl := z_t3 (List.mem_of_getElem? (i := 191) rfl)
theorem ck_X5_readTest : z_ck M_X5_readTest 1 := ⟨z_t3 (List.mem_of_getElem? (i := 194) rfl), z_t1 (List.mem_of_getElem? (i := 4) rfl), ⟨by decide +kernel, by decide +kernel, by decide +kernel⟩, by decide, by decide +kernel⟩
theorem vk_X5_readTest : Cond.instanceMethod yX5_readTest ∈ lw_tbl ∧ Cond.selects yX5_readTest.cls yX5_readTest yX5_readTest ∈ lw_tbl := ⟨z_t3 (List.mem_of_getElem? (i := 193) rfl), List.mem_append_left _ (List.mem_of_getElem? (i := 17) (by decide +kernel))⟩
theorem ck_X5_readPlain : z_ck M_X5_readPlain 1 := ⟨z_t3 (List.mem_of_getElem? (i := 202) rfl), z_t1 (List.mem_of_getElem? (i := 4) rfl), ⟨by decide +kernel, by decide +kernel, by decide +kernel⟩, by decide, by decide +kernel⟩
theorem ck_X7_landHere : z_ck M_X7_landHere 1 := ⟨z_t3 (List.mem_of_getElem? (i := 208) rfl), z_t1 (List.mem_of_getElem? (i := 5) rfl), ⟨by decide +kernel, by decide +kernel, by decide +kernel⟩, by decide, by decide +kernel⟩
theorem lk_X5_109 : z_lk RX5 109 7 3 := ⟨RX7, TX7, 5, rfl, by decide, z_t1 (List.mem_of_getElem? (i := 145) rfl), in_X7⟩
theorem ml_X5_146 : Cond.methodLink RX5 146 yX5_readPlain ∈ lw_tbl := z_t3 (List.mem_of_getElem? (i := 199) rfl)
theorem vk_X5_readPlain : Cond.instanceMethod yX5_readPlain ∈ lw_tbl ∧ Cond.selects yX5_readPlain.cls yX5_readPlain yX5_readPlain ∈ lw_tbl := ⟨z_t3 (List.mem_of_getElem? (i := 201) rfl), List.mem_append_left _ (List.mem_of_getElem? (i := 19) (by decide +kernel))⟩
theorem ml_X5_142 : Cond.methodLink RX5 142 yX7_landHere ∈ lw_tbl := z_t3 (List.mem_of_getElem? (i := 205) rfl)
theorem vk_X7_landHere : Cond.instanceMethod yX7_landHere ∈ lw_tbl ∧ Cond.selects yX7_landHere.cls yX7_landHere yX7_landHere ∈ lw_tbl := ⟨z_t3 (List.mem_of_getElem? (i := 206) rfl), z_t3 (List.mem_of_getElem? (i := 207) rfl)⟩
theorem ck_X5_readBoth : z_ck M_X5_readBoth 1 := ⟨z_t3 (List.mem_of_getElem? (i := 198) rfl), z_t1 (List.mem_of_getElem? (i := 4) rfl), ⟨by decide +kernel, by decide +kernel, by decide +kernel⟩, by decide, by decide +kernel⟩
theorem ml_X5_134 : Cond.methodLink RX5 134 yX5_readBoth ∈ lw_tbl := z_t3 (List.mem_of_getElem? (i := 195) rfl)
theorem vk_X5_readBoth : Cond.instanceMethod yX5_readBoth ∈ lw_tbl ∧ Cond.selects yX5_readBoth.cls yX5_readBoth yX5_readBoth ∈ lw_tbl := ⟨z_t3 (List.mem_of_getElem? (i := 197) rfl), List.mem_append_left _ (List.mem_of_getElem? (i := 18) (by decide +kernel))⟩
theorem ml_X5_126 : Cond.methodLink RX5 126 yX5_readTimes ∈ lw_tbl := z_t3 (List.mem_of_getElem? (i := 186) rfl)
theorem vk_X5_readTimes : Cond.instanceMethod yX5_readTimes ∈ lw_tbl ∧ Cond.selects yX5_readTimes.cls yX5_readTimes yX5_readTimes ∈ lw_tbl := ⟨z_t3 (List.mem_of_getElem? (i := 188) rfl), List.mem_append_left _ (List.mem_of_getElem? (i := 16) (by decide +kernel))⟩
theorem ml_X5_121 : Cond.methodLink RX5 121 yX5_skipWord ∈ lw_tbl := z_t3 (List.mem_of_getElem? (i := 177) rfl)
theorem vk_X5_skipWord : Cond.instanceMethod yX5_skipWord ∈ lw_tbl ∧ Cond.selects yX5_skipWord.cls yX5_skipWord yX5_skipWord ∈ lw_tbl := ⟨z_t3 (List.mem_of_getElem? (i := 179) rfl), List.mem_append_left _ (List.mem_of_getElem? (i := 14) (by decide +kernel))⟩
theorem ck_X5_readClause : z_ck M_X5_readClause 1 := ⟨z_t3 (List.mem_of_getElem? (i := 80) rfl), z_t1 (List.mem_of_getElem? (i := 4) rfl), ⟨by decide +kernel, by decide +kernel, by decide +kernel⟩, by decide, by decide +kernel⟩
theorem ml_X5_56 : Cond.methodLink RX5 56 yX5_readClause ∈ lw_tbl := z_t3 (List.mem_of_getElem? (i := 77) rfl)
theorem vk_X5_readClause : Cond.instanceMethod yX5_readClause ∈ lw_tbl ∧ Cond.selects yX5_readClause.cls yX5_readClause yX5_readClause ∈ lw_tbl := ⟨z_t3 (List.mem_of_getElem? (i := 79) rfl), List.mem_append_left _ (List.mem_of_getElem? (i := 5) (by decide +kernel))⟩
theorem lk_X5_60 : z_lk RX5 60 7 4 := ⟨RX7, TX7, 5, rfl, by decide, z_t1 (List.mem_of_getElem? (i := 148) rfl), in_X7⟩
theorem ml_X5_50 : Cond.methodLink RX5 50 yX7_clear ∈ lw_tbl := z_t3 (List.mem_of_getElem? (i := 65) rfl)
theorem vk_X7_clear : Cond.instanceMethod yX7_clear ∈ lw_tbl ∧ Cond.selects yX7_clear.cls yX7_clear yX7_clear ∈ lw_tbl := ⟨z_t3 (List.mem_of_getElem? (i := 66) rfl), z_t3 (List.mem_of_getElem? (i := 67) rfl)⟩
theorem ck_X5_read : z_ck M_X5_read 1 := ⟨z_t3 (List.mem_of_getElem? (i := 64) rfl), z_t1 (List.mem_of_getElem? (i := 4) rfl), ⟨by decide +kernel, by decide +kernel, by decide +kernel⟩, by decide, by decide +kernel⟩
theorem ck_X8_become : z_ck M_X8_become 1 := ⟨z_t3 (List.mem_of_getElem? (i := 236) rfl), z_t1 (List.mem_of_getElem? (i := 3) rfl), ⟨by decide +kernel, by decide +kernel, by decide +kernel⟩, by decide, by decide +kernel⟩
theorem ml_X2_114 : Cond.methodLink RX2 114 yX9_wornAt ∈ lw_tbl := z_t4 (List.mem_of_getElem? (i := 14) rfl)
theorem ml_X2_107 : Cond.methodLink RX2 107 yX9_hasPair ∈ lw_tbl := z_t4 (List.mem_of_getElem? (i := 13) rfl)
theorem lk_X2_111 : z_lk RX2 111 9 0 := ⟨RX9, TX9, 13, rfl, by decide, z_t1 (List.mem_of_getElem? (i := 43) rfl), in_X9⟩
theorem lk_X2_89 : z_lk RX2 89 1 0 := ⟨RX1, TX1, 3, rfl, by decide, z_t1 (List.mem_of_getElem? (i := 203) rfl), in_X1⟩
theorem lk_X2_92 : z_lk RX2 92 9 4 := ⟨RX9, TX9, 13, rfl, by decide, z_t1 (List.mem_of_getElem? (i := 56) rfl), in_X9⟩
theorem lk_X2_95 : z_lk RX2 95 9 8 := ⟨RX9, TX9, 13, rfl, by decide, z_t1 (List.mem_of_getElem? (i := 71) rfl), in_X9⟩
theorem lk_X2_98 : z_lk RX2 98 9 9 := ⟨RX9, TX9, 13, rfl, by decide, z_t1 (List.mem_of_getElem? (i := 74) rfl), in_X9⟩
theorem ml_X2_101 : Cond.methodLink RX2 101 yJ6_bitCount_0f7a4 ∈ lw_tbl := z_t4 (List.mem_of_getElem? (i := 7) rfl)
theorem ck_X2_setOrderWords : z_ck M_X2_setOrderWords 1 := ⟨z_t4 (List.mem_of_getElem? (i := 6) rfl), z_t1 (List.mem_of_getElem? (i := 8) rfl), ⟨by decide +kernel, by decide +kernel, by decide +kernel⟩, by decide, by decide +kernel⟩
theorem ml_X2_55 : Cond.methodLink RX2 55 yX7_field ∈ lw_tbl := z_t3 (List.mem_of_getElem? (i := 238) rfl)
theorem ml_X2_63 : Cond.methodLink RX2 63 yX2_setOrderWords ∈ lw_tbl := z_t4 (List.mem_of_getElem? (i := 3) rfl)
theorem vk_X2_setOrderWords : Cond.instanceMethod yX2_setOrderWords ∈ lw_tbl ∧ Cond.selects yX2_setOrderWords.cls yX2_setOrderWords yX2_setOrderWords ∈ lw_tbl := ⟨z_t4 (List.mem_of_getElem? (i := 5) rfl), List.mem_append_left _ (List.mem_of_getElem? (i := 21) (by decide +kernel))⟩
theorem ml_X2_66 : Cond.methodLink RX2 66 yX1_reckon ∈ lw_tbl := z_t4 (List.mem_of_getElem? (i := 15) rfl)
theorem lk_X2_72 : z_lk RX2 72 1 2 := ⟨RX1, TX1, 3, rfl, by decide, z_t1 (List.mem_of_getElem? (i := 206) rfl), in_X1⟩
theorem ml_X2_75 : Cond.methodLink RX2 75 yX0_carryOut ∈ lw_tbl := z_t4 (List.mem_of_getElem? (i := 16) rfl)
theorem lk_X2_81 : z_lk RX2 81 0 1 := ⟨RX0, TX0, 2, rfl, by decide, z_t1 (List.mem_of_getElem? (i := 223) rfl), in_X0⟩
theorem ml_X2_85 : Cond.methodLink RX2 85 yX8_add ∈ lw_tbl := z_t4 (List.mem_of_getElem? (i := 41) rfl)
theorem ck_X2_obey : z_ck M_X2_obey 4 := ⟨z_t4 (List.mem_of_getElem? (i := 2) rfl), z_t1 (List.mem_of_getElem? (i := 8) rfl), ⟨by decide +kernel, by decide +kernel, by decide +kernel⟩, by decide, by decide +kernel⟩
theorem ml_X2_59 : Cond.methodLink RX2 59 yX2_obey ∈ lw_tbl := z_t3 (List.mem_of_getElem? (i := 239) rfl)
theorem vk_X2_obey : Cond.instanceMethod yX2_obey ∈ lw_tbl ∧ Cond.selects yX2_obey.cls yX2_obey yX2_obey ∈ lw_tbl := ⟨z_t4 (List.mem_of_getElem? (i := 1) rfl), List.mem_append_left _ (List.mem_of_getElem? (i := 20) (by decide +kernel))⟩
theorem ml_X2_43 : Cond.methodLink RX2 43 yX9_become ∈ lw_tbl := z_t3 (List.mem_of_getElem? (i := 228) rfl)
theorem ml_X2_47 : Cond.methodLink RX2 47 yX8_become ∈ lw_tbl := z_t3 (List.mem_of_getElem? (i := 233) rfl)
theorem vk_X8_become : Cond.instanceMethod yX8_become ∈ lw_tbl ∧ Cond.selects yX8_become.cls yX8_become yX8_become ∈ lw_tbl := ⟨z_t3 (List.mem_of_getElem? (i := 234) rfl), z_t3 (List.mem_of_getElem? (i := 235) rfl)⟩
theorem lk_X2_50 : z_lk RX2 50 7 4 := ⟨RX7, TX7, 5, rfl, by decide, z_t1 (List.mem_of_getElem? (i := 147) rfl), in_X7⟩
theorem ck_X2_run : z_ck M_X2_run 3 := ⟨z_t3 (List.mem_of_getElem? (i := 227) rfl), z_t1 (List.mem_of_getElem? (i := 8) rfl), ⟨by decide +kernel, by decide +kernel, by decide +kernel⟩, by decide, by decide +kernel⟩
theorem ml_X10_184 : Cond.methodLink RX10 184 yX5_read ∈ lw_tbl := z_t3 (List.mem_of_getElem? (i := 61) rfl)
theorem vk_X5_read : Cond.instanceMethod yX5_read ∈ lw_tbl ∧ Cond.selects yX5_read.cls yX5_read yX5_read ∈ lw_tbl := ⟨z_t3 (List.mem_of_getElem? (i := 62) rfl), z_t3 (List.mem_of_getElem? (i := 63) rfl)⟩
theorem lk_X10_192 : z_lk RX10 192 5 1 := ⟨RX5, TX5, 10, rfl, by decide, z_t1 (List.mem_of_getElem? (i := 164) rfl), in_X5⟩
theorem ml_X10_204 : Cond.methodLink RX10 204 yX2_run ∈ lw_tbl := z_t3 (List.mem_of_getElem? (i := 224) rfl)
theorem vk_X2_run : Cond.instanceMethod yX2_run ∈ lw_tbl ∧ Cond.selects yX2_run.cls yX2_run yX2_run ∈ lw_tbl := ⟨z_t3 (List.mem_of_getElem? (i := 225) rfl), z_t3 (List.mem_of_getElem? (i := 226) rfl)⟩
theorem ck_X10_orders : z_ck M_X10_orders 0 := ⟨z_t3 (List.mem_of_getElem? (i := 223) rfl), z_t1 (List.mem_of_getElem? (i := 1) rfl), ⟨by decide +kernel, by decide +kernel, by decide +kernel⟩, by decide, by decide +kernel⟩
theorem ck_X11_isSmall : z_ck M_X11_isSmall 1 := ⟨z_t6 (List.mem_of_getElem? (i := 224) rfl), z_t1 (List.mem_of_getElem? (i := 12) rfl), ⟨by decide +kernel, by decide +kernel, by decide +kernel⟩, by decide, by decide +kernel⟩
theorem ck_X11_isDigit : z_ck M_X11_isDigit 1 := ⟨z_t6 (List.mem_of_getElem? (i := 227) rfl), z_t1 (List.mem_of_getElem? (i := 12) rfl), ⟨by decide +kernel, by decide +kernel, by decide +kernel⟩, by decide, by decide +kernel⟩
theorem lk_X11_261 : z_lk RX11 261 11 17 := ⟨RX11, TX11, 59, rfl, by decide, z_t5 (List.mem_of_getElem? (i := 134) rfl), in_X11⟩
theorem wk_11_17 : z_wk 11 17 .long false := ⟨RX11, TX11, 59, tyX11, rfl, tyX11_ok, nmX11, rfl, by decide +kernel, rfl⟩
theorem lk_X11_248 : z_lk RX11 248 11 15 := ⟨RX11, TX11, 59, rfl, by decide, z_t5 (List.mem_of_getElem? (i := 132) rfl), in_X11⟩
theorem wk_11_15 : z_wk 11 15 .int false := ⟨RX11, TX11, 59, tyX11, rfl, tyX11_ok, nmX11, rfl, by decide +kernel, rfl⟩
theorem lk_X11_271 : z_lk RX11 271 11 16 := ⟨RX11, TX11, 59, rfl, by decide, z_t5 (List.mem_of_getElem? (i := 133) rfl), in_X11⟩
theorem ml_X11_268 : Cond.methodLink RX11 268 yX11_isDigit ∈ lw_tbl := z_t6 (List.mem_of_getElem? (i := 225) rfl)
theorem st_X11_isDigit : Cond.static yX11_isDigit ∈ lw_tbl := z_t6 (List.mem_of_getElem? (i := 226) rfl)
theorem kj_X11_282 : Cond.constantLong RX11 282 (48) ∈ lw_tbl := z_t6 (List.mem_of_getElem? (i := 231) rfl)
theorem ml_X11_265 : Cond.methodLink RX11 265 yX11_isSmall ∈ lw_tbl := z_t6 (List.mem_of_getElem? (i := 222) rfl)
theorem st_X11_isSmall : Cond.static yX11_isSmall ∈ lw_tbl := z_t6 (List.mem_of_getElem? (i := 223) rfl)
theorem lk_X11_258 : z_lk RX11 258 11 14 := ⟨RX11, TX11, 59, rfl, by decide, z_t5 (List.mem_of_getElem? (i := 131) rfl), in_X11⟩
theorem kj_X11_274 : Cond.constantLong RX11 274 (32) ∈ lw_tbl := z_t6 (List.mem_of_getElem? (i := 228) rfl)
theorem kj_X11_276 : Cond.constantLong RX11 276 (96) ∈ lw_tbl := z_t6 (List.mem_of_getElem? (i := 229) rfl)
theorem wk_11_16 : z_wk 11 16 .int false := ⟨RX11, TX11, 59, tyX11, rfl, tyX11_ok, nmX11, rfl, by decide +kernel, rfl⟩
theorem wk_11_14 : z_wk 11 14 .int false := ⟨RX11, TX11, 59, tyX11, rfl, tyX11_ok, nmX11, rfl, by decide +kernel, rfl⟩
theorem ck_X11_next : z_ck M_X11_next 0 := ⟨z_t6 (List.mem_of_getElem? (i := 221) rfl), z_t1 (List.mem_of_getElem? (i := 12) rfl), ⟨by decide +kernel, by decide +kernel, by decide +kernel⟩, by decide, by decide +kernel⟩
theorem lk_X11_251 : z_lk RX11 251 11 19 := ⟨RX11, TX11, 59, rfl, by decide, z_t5 (List.mem_of_getElem? (i := 136) rfl), in_X11⟩
theorem wk_11_19 : z_wk 11 19 .boolean false := ⟨RX11, TX11, 59, tyX11, rfl, tyX11_ok, nmX11, rfl, by decide +kernel, rfl⟩
theorem ml_X11_255 : Cond.methodLink RX11 255 yX11_next ∈ lw_tbl := z_t6 (List.mem_of_getElem? (i := 218) rfl)
theorem vk_X11_next : Cond.instanceMethod yX11_next ∈ lw_tbl ∧ Cond.selects yX11_next.cls yX11_next yX11_next ∈ lw_tbl := ⟨z_t6 (List.mem_of_getElem? (i := 220) rfl), List.mem_append_left _ (List.mem_of_getElem? (i := 53) (by decide +kernel))⟩
theorem ck_X11_begin : z_ck M_X11_begin 0 := ⟨z_t6 (List.mem_of_getElem? (i := 217) rfl), z_t1 (List.mem_of_getElem? (i := 12) rfl), ⟨by decide +kernel, by decide +kernel, by decide +kernel⟩, by decide, by decide +kernel⟩
theorem wk_11_20 : z_wk 11 20 .boolean false := ⟨RX11, TX11, 59, tyX11, rfl, tyX11_ok, nmX11, rfl, by decide +kernel, rfl⟩
theorem ml_X11_375 : Cond.methodLink RX11 375 yX11_begin ∈ lw_tbl := z_t6 (List.mem_of_getElem? (i := 214) rfl)
theorem vk_X11_begin : Cond.instanceMethod yX11_begin ∈ lw_tbl ∧ Cond.selects yX11_begin.cls yX11_begin yX11_begin ∈ lw_tbl := ⟨z_t6 (List.mem_of_getElem? (i := 216) rfl), List.mem_append_left _ (List.mem_of_getElem? (i := 52) (by decide +kernel))⟩
theorem lk_X11_378 : z_lk RX11 378 11 21 := ⟨RX11, TX11, 59, rfl, by decide, z_t5 (List.mem_of_getElem? (i := 138) rfl), in_X11⟩
theorem wk_11_21 : z_wk 11 21 .int false := ⟨RX11, TX11, 59, tyX11, rfl, tyX11_ok, nmX11, rfl, by decide +kernel, rfl⟩
theorem lk_X11_288 : z_lk RX11 288 11 23 := ⟨RX11, TX11, 59, rfl, by decide, z_t5 (List.mem_of_getElem? (i := 140) rfl), in_X11⟩
theorem wk_11_23 : z_wk 11 23 .int false := ⟨RX11, TX11, 59, tyX11, rfl, tyX11_ok, nmX11, rfl, by decide +kernel, rfl⟩
theorem lk_X11_315 : z_lk RX11 315 11 26 := ⟨RX11, TX11, 59, rfl, by decide, z_t5 (List.mem_of_getElem? (i := 143) rfl), in_X11⟩
theorem wk_11_26 : z_wk 11 26 .int false := ⟨RX11, TX11, 59, tyX11, rfl, tyX11_ok, nmX11, rfl, by decide +kernel, rfl⟩
theorem ck_X11_beginText : z_ck M_X11_beginText 1 := ⟨z_t6 (List.mem_of_getElem? (i := 213) rfl), z_t1 (List.mem_of_getElem? (i := 12) rfl), ⟨by decide +kernel, by decide +kernel, by decide +kernel⟩, by decide, by decide +kernel⟩
theorem ck_X11_isWord : z_ck M_X11_isWord 1 := ⟨z_t6 (List.mem_of_getElem? (i := 239) rfl), z_t1 (List.mem_of_getElem? (i := 12) rfl), ⟨by decide +kernel, by decide +kernel, by decide +kernel⟩, by decide, by decide +kernel⟩
theorem ck_X11_must : z_ck M_X11_must 1 := ⟨z_t7 (List.mem_of_getElem? (i := 3) rfl), z_t1 (List.mem_of_getElem? (i := 12) rfl), ⟨by decide +kernel, by decide +kernel, by decide +kernel⟩, by decide, by decide +kernel⟩
theorem lk_X11_291 : z_lk RX11 291 11 29 := ⟨RX11, TX11, 59, rfl, by decide, z_t5 (List.mem_of_getElem? (i := 146) rfl), in_X11⟩
theorem wk_11_29 : z_wk 11 29 .int false := ⟨RX11, TX11, 59, tyX11, rfl, tyX11_ok, nmX11, rfl, by decide +kernel, rfl⟩
theorem ck_X11_push : z_ck M_X11_push 2 := ⟨z_t7 (List.mem_of_getElem? (i := 16) rfl), z_t1 (List.mem_of_getElem? (i := 12) rfl), ⟨by decide +kernel, by decide +kernel, by decide +kernel⟩, by decide, by decide +kernel⟩
theorem ck_X11_isSign : z_ck M_X11_isSign 1 := ⟨z_t7 (List.mem_of_getElem? (i := 20) rfl), z_t1 (List.mem_of_getElem? (i := 12) rfl), ⟨by decide +kernel, by decide +kernel, by decide +kernel⟩, by decide, by decide +kernel⟩
theorem ml_X11_284 : Cond.methodLink RX11 284 yX11_must ∈ lw_tbl := z_t7 (List.mem_of_getElem? (i := 0) rfl)
theorem vk_X11_must : Cond.instanceMethod yX11_must ∈ lw_tbl ∧ Cond.selects yX11_must.cls yX11_must yX11_must ∈ lw_tbl := ⟨z_t7 (List.mem_of_getElem? (i := 2) rfl), List.mem_append_left _ (List.mem_of_getElem? (i := 56) (by decide +kernel))⟩
theorem lk_X11_309 : z_lk RX11 309 11 30 := ⟨RX11, TX11, 59, rfl, by decide, z_t5 (List.mem_of_getElem? (i := 147) rfl), in_X11⟩
theorem wk_11_30 : z_wk 11 30 .int false := ⟨RX11, TX11, 59, tyX11, rfl, tyX11_ok, nmX11, rfl, by decide +kernel, rfl⟩
theorem ml_X11_312 : Cond.methodLink RX11 312 yX11_push ∈ lw_tbl := z_t7 (List.mem_of_getElem? (i := 13) rfl)
theorem vk_X11_push : Cond.instanceMethod yX11_push ∈ lw_tbl ∧ Cond.selects yX11_push.cls yX11_push yX11_push ∈ lw_tbl := ⟨z_t7 (List.mem_of_getElem? (i := 15) rfl), List.mem_append_left _ (List.mem_of_getElem? (i := 59) (by decide +kernel))⟩
theorem ck_X11_openBracket : z_ck M_X11_openBracket 1 := ⟨z_t7 (List.mem_of_getElem? (i := 24) rfl), z_t1 (List.mem_of_getElem? (i := 12) rfl), ⟨by decide +kernel, by decide +kernel, by decide +kernel⟩, by decide, by decide +kernel⟩
theorem ml_X11_305 : Cond.methodLink RX11 305 yX11_isWord ∈ lw_tbl := z_t6 (List.mem_of_getElem? (i := 236) rfl)
theorem vk_X11_isWord : Cond.instanceMethod yX11_isWord ∈ lw_tbl ∧ Cond.selects yX11_isWord.cls yX11_isWord yX11_isWord ∈ lw_tbl := ⟨z_t6 (List.mem_of_getElem? (i := 238) rfl), List.mem_append_left _ (List.mem_of_getElem? (i := 55) (by decide +kernel))⟩
theorem ck_X11_orderPartAt : z_ck M_X11_orderPartAt 0 := ⟨z_t7 (List.mem_of_getElem? (i := 32) rfl), z_t1 (List.mem_of_getElem? (i := 12) rfl), ⟨by decide +kernel, by decide +kernel, by decide +kernel⟩, by decide, by decide +kernel⟩
theorem ck_X11_partAt : z_ck M_X11_partAt 0 := ⟨z_t7 (List.mem_of_getElem? (i := 36) rfl), z_t1 (List.mem_of_getElem? (i := 12) rfl), ⟨by decide +kernel, by decide +kernel, by decide +kernel⟩, by decide, by decide +kernel⟩
theorem ck_X11_emit : z_ck M_X11_emit 2 := ⟨z_t7 (List.mem_of_getElem? (i := 45) rfl), z_t1 (List.mem_of_getElem? (i := 12) rfl), ⟨by decide +kernel, by decide +kernel, by decide +kernel⟩, by decide, by decide +kernel⟩
theorem ml_X11_297 : Cond.methodLink RX11 297 yX11_emit ∈ lw_tbl := z_t7 (List.mem_of_getElem? (i := 42) rfl)
theorem vk_X11_emit : Cond.instanceMethod yX11_emit ∈ lw_tbl ∧ Cond.selects yX11_emit.cls yX11_emit yX11_emit ∈ lw_tbl := ⟨z_t7 (List.mem_of_getElem? (i := 44) rfl), List.mem_append_left _ (List.mem_of_getElem? (i := 66) (by decide +kernel))⟩
theorem ck_X11_leaf : z_ck M_X11_leaf 3 := ⟨z_t7 (List.mem_of_getElem? (i := 41) rfl), z_t1 (List.mem_of_getElem? (i := 12) rfl), ⟨by decide +kernel, by decide +kernel, by decide +kernel⟩, by decide, by decide +kernel⟩
theorem ck_X11_number : z_ck M_X11_number 2 := ⟨z_t7 (List.mem_of_getElem? (i := 50) rfl), z_t1 (List.mem_of_getElem? (i := 12) rfl), ⟨by decide +kernel, by decide +kernel, by decide +kernel⟩, by decide, by decide +kernel⟩
theorem ml_X11_336 : Cond.methodLink RX11 336 yX11_leaf ∈ lw_tbl := z_t7 (List.mem_of_getElem? (i := 38) rfl)
theorem vk_X11_leaf : Cond.instanceMethod yX11_leaf ∈ lw_tbl ∧ Cond.selects yX11_leaf.cls yX11_leaf yX11_leaf ∈ lw_tbl := ⟨z_t7 (List.mem_of_getElem? (i := 40) rfl), List.mem_append_left _ (List.mem_of_getElem? (i := 65) (by decide +kernel))⟩
theorem ml_X11_342 : Cond.methodLink RX11 342 yX11_number ∈ lw_tbl := z_t7 (List.mem_of_getElem? (i := 47) rfl)
theorem vk_X11_number : Cond.instanceMethod yX11_number ∈ lw_tbl ∧ Cond.selects yX11_number.cls yX11_number yX11_number ∈ lw_tbl := ⟨z_t7 (List.mem_of_getElem? (i := 49) rfl), List.mem_append_left _ (List.mem_of_getElem? (i := 67) (by decide +kernel))⟩
theorem kj_X11_334 : Cond.constantLong RX11 334 (1000) ∈ lw_tbl := z_t7 (List.mem_of_getElem? (i := 37) rfl)
theorem ml_X11_318 : Cond.methodLink RX11 318 yX11_isSign ∈ lw_tbl := z_t7 (List.mem_of_getElem? (i := 17) rfl)
theorem vk_X11_isSign : Cond.instanceMethod yX11_isSign ∈ lw_tbl ∧ Cond.selects yX11_isSign.cls yX11_isSign yX11_isSign ∈ lw_tbl := ⟨z_t7 (List.mem_of_getElem? (i := 19) rfl), List.mem_append_left _ (List.mem_of_getElem? (i := 60) (by decide +kernel))⟩
theorem ml_X11_331 : Cond.methodLink RX11 331 yX11_partAt ∈ lw_tbl := z_t7 (List.mem_of_getElem? (i := 33) rfl)
theorem vk_X11_partAt : Cond.instanceMethod yX11_partAt ∈ lw_tbl ∧ Cond.selects yX11_partAt.cls yX11_partAt yX11_partAt ∈ lw_tbl := ⟨z_t7 (List.mem_of_getElem? (i := 35) rfl), List.mem_append_left _ (List.mem_of_getElem? (i := 64) (by decide +kernel))⟩
theorem ml_X11_327 : Cond.methodLink RX11 327 yX11_orderPartAt ∈ lw_tbl := z_t7 (List.mem_of_getElem? (i := 29) rfl)
theorem vk_X11_orderPartAt : Cond.instanceMethod yX11_orderPartAt ∈ lw_tbl ∧ Cond.selects yX11_orderPartAt.cls yX11_orderPartAt yX11_orderPartAt ∈ lw_tbl := ⟨z_t7 (List.mem_of_getElem? (i := 31) rfl), List.mem_append_left _ (List.mem_of_getElem? (i := 63) (by decide +kernel))⟩
theorem ml_X11_321 : Cond.methodLink RX11 321 yX11_openBracket ∈ lw_tbl := z_t7 (List.mem_of_getElem? (i := 21) rfl)
theorem vk_X11_openBracket : Cond.instanceMethod yX11_openBracket ∈ lw_tbl ∧ Cond.selects yX11_openBracket.cls yX11_openBracket yX11_openBracket ∈ lw_tbl := ⟨z_t7 (List.mem_of_getElem? (i := 23) rfl), List.mem_append_left _ (List.mem_of_getElem? (i := 61) (by decide +kernel))⟩
theorem ck_X11_readPart : z_ck M_X11_readPart 0 := ⟨z_t7 (List.mem_of_getElem? (i := 28) rfl), z_t1 (List.mem_of_getElem? (i := 12) rfl), ⟨by decide +kernel, by decide +kernel, by decide +kernel⟩, by decide, by decide +kernel⟩
theorem kj_X11_346 : Cond.constantLong RX11 346 (14836) ∈ lw_tbl := z_t7 (List.mem_of_getElem? (i := 12) rfl)
theorem ml_X11_348 : Cond.methodLink RX11 348 yX11_readPart ∈ lw_tbl := z_t7 (List.mem_of_getElem? (i := 25) rfl)
theorem vk_X11_readPart : Cond.instanceMethod yX11_readPart ∈ lw_tbl ∧ Cond.selects yX11_readPart.cls yX11_readPart yX11_readPart ∈ lw_tbl := ⟨z_t7 (List.mem_of_getElem? (i := 27) rfl), List.mem_append_left _ (List.mem_of_getElem? (i := 62) (by decide +kernel))⟩
theorem ck_X11_readPlain : z_ck M_X11_readPlain 0 := ⟨z_t7 (List.mem_of_getElem? (i := 11) rfl), z_t1 (List.mem_of_getElem? (i := 12) rfl), ⟨by decide +kernel, by decide +kernel, by decide +kernel⟩, by decide, by decide +kernel⟩
theorem ck_X11_binds : z_ck M_X11_binds 1 := ⟨z_t7 (List.mem_of_getElem? (i := 57) rfl), z_t1 (List.mem_of_getElem? (i := 12) rfl), ⟨by decide +kernel, by decide +kernel, by decide +kernel⟩, by decide, by decide +kernel⟩
theorem ml_X11_294 : Cond.methodLink RX11 294 yX11_binds ∈ lw_tbl := z_t7 (List.mem_of_getElem? (i := 55) rfl)
theorem st_X11_binds : Cond.static yX11_binds ∈ lw_tbl := z_t7 (List.mem_of_getElem? (i := 56) rfl)
theorem ck_X11_settle : z_ck M_X11_settle 1 := ⟨z_t7 (List.mem_of_getElem? (i := 61) rfl), z_t1 (List.mem_of_getElem? (i := 12) rfl), ⟨by decide +kernel, by decide +kernel, by decide +kernel⟩, by decide, by decide +kernel⟩
theorem ck_X11_inner : z_ck M_X11_inner 0 := ⟨z_t7 (List.mem_of_getElem? (i := 65) rfl), z_t1 (List.mem_of_getElem? (i := 12) rfl), ⟨by decide +kernel, by decide +kernel, by decide +kernel⟩, by decide, by decide +kernel⟩
theorem kj_X11_303 : Cond.constantLong RX11 303 (27) ∈ lw_tbl := z_t7 (List.mem_of_getElem? (i := 71) rfl)
theorem ck_X11_isCompared : z_ck M_X11_isCompared 0 := ⟨z_t7 (List.mem_of_getElem? (i := 69) rfl), z_t1 (List.mem_of_getElem? (i := 12) rfl), ⟨by decide +kernel, by decide +kernel, by decide +kernel⟩, by decide, by decide +kernel⟩
theorem ml_X11_351 : Cond.methodLink RX11 351 yX11_settle ∈ lw_tbl := z_t7 (List.mem_of_getElem? (i := 58) rfl)
theorem vk_X11_settle : Cond.instanceMethod yX11_settle ∈ lw_tbl ∧ Cond.selects yX11_settle.cls yX11_settle yX11_settle ∈ lw_tbl := ⟨z_t7 (List.mem_of_getElem? (i := 60) rfl), List.mem_append_left _ (List.mem_of_getElem? (i := 69) (by decide +kernel))⟩
theorem ml_X11_357 : Cond.methodLink RX11 357 yX11_isCompared ∈ lw_tbl := z_t7 (List.mem_of_getElem? (i := 66) rfl)
theorem vk_X11_isCompared : Cond.instanceMethod yX11_isCompared ∈ lw_tbl ∧ Cond.selects yX11_isCompared.cls yX11_isCompared yX11_isCompared ∈ lw_tbl := ⟨z_t7 (List.mem_of_getElem? (i := 68) rfl), List.mem_append_left _ (List.mem_of_getElem? (i := 71) (by decide +kernel))⟩
theorem ml_X11_354 : Cond.methodLink RX11 354 yX11_inner ∈ lw_tbl := z_t7 (List.mem_of_getElem? (i := 62) rfl)
theorem vk_X11_inner : Cond.instanceMethod yX11_inner ∈ lw_tbl ∧ Cond.selects yX11_inner.cls yX11_inner yX11_inner ∈ lw_tbl := ⟨z_t7 (List.mem_of_getElem? (i := 64) rfl), List.mem_append_left _ (List.mem_of_getElem? (i := 70) (by decide +kernel))⟩
theorem ck_X11_behindSum : z_ck M_X11_behindSum 1 := ⟨z_t7 (List.mem_of_getElem? (i := 54) rfl), z_t1 (List.mem_of_getElem? (i := 12) rfl), ⟨by decide +kernel, by decide +kernel, by decide +kernel⟩, by decide, by decide +kernel⟩
theorem kj_X11_361 : Cond.constantLong RX11 361 (1476) ∈ lw_tbl := z_t7 (List.mem_of_getElem? (i := 76) rfl)
theorem kj_X11_363 : Cond.constantLong RX11 363 (498) ∈ lw_tbl := z_t7 (List.mem_of_getElem? (i := 77) rfl)
theorem ck_X11_behindTest : z_ck M_X11_behindTest 0 := ⟨z_t7 (List.mem_of_getElem? (i := 75) rfl), z_t1 (List.mem_of_getElem? (i := 12) rfl), ⟨by decide +kernel, by decide +kernel, by decide +kernel⟩, by decide, by decide +kernel⟩
theorem ml_X11_372 : Cond.methodLink RX11 372 yX11_behindTest ∈ lw_tbl := z_t7 (List.mem_of_getElem? (i := 72) rfl)
theorem vk_X11_behindTest : Cond.instanceMethod yX11_behindTest ∈ lw_tbl ∧ Cond.selects yX11_behindTest.cls yX11_behindTest yX11_behindTest ∈ lw_tbl := ⟨z_t7 (List.mem_of_getElem? (i := 74) rfl), List.mem_append_left _ (List.mem_of_getElem? (i := 72) (by decide +kernel))⟩
theorem ml_X11_368 : Cond.methodLink RX11 368 yX11_behindSum ∈ lw_tbl := z_t7 (List.mem_of_getElem? (i := 51) rfl)
theorem vk_X11_behindSum : Cond.instanceMethod yX11_behindSum ∈ lw_tbl ∧ Cond.selects yX11_behindSum.cls yX11_behindSum yX11_behindSum ∈ lw_tbl := ⟨z_t7 (List.mem_of_getElem? (i := 53) rfl), List.mem_append_left _ (List.mem_of_getElem? (i := 68) (by decide +kernel))⟩
theorem ml_X11_365 : Cond.methodLink RX11 365 yX11_readPlain ∈ lw_tbl := z_t7 (List.mem_of_getElem? (i := 8) rfl)
theorem vk_X11_readPlain : Cond.instanceMethod yX11_readPlain ∈ lw_tbl ∧ Cond.selects yX11_readPlain.cls yX11_readPlain yX11_readPlain ∈ lw_tbl := ⟨z_t7 (List.mem_of_getElem? (i := 10) rfl), List.mem_append_left _ (List.mem_of_getElem? (i := 58) (by decide +kernel))⟩
theorem ck_X11_readExpression : z_ck M_X11_readExpression 1 := ⟨z_t7 (List.mem_of_getElem? (i := 7) rfl), z_t1 (List.mem_of_getElem? (i := 12) rfl), ⟨by decide +kernel, by decide +kernel, by decide +kernel⟩, by decide, by decide +kernel⟩
theorem ml_X11_381 : Cond.methodLink RX11 381 yX11_readExpression ∈ lw_tbl := z_t7 (List.mem_of_getElem? (i := 4) rfl)
theorem vk_X11_readExpression : Cond.instanceMethod yX11_readExpression ∈ lw_tbl ∧ Cond.selects yX11_readExpression.cls yX11_readExpression yX11_readExpression ∈ lw_tbl := ⟨z_t7 (List.mem_of_getElem? (i := 6) rfl), List.mem_append_left _ (List.mem_of_getElem? (i := 57) (by decide +kernel))⟩
theorem ck_X11_readSum : z_ck M_X11_readSum 1 := ⟨z_t8 (List.mem_of_getElem? (i := 43) rfl), z_t1 (List.mem_of_getElem? (i := 12) rfl), ⟨by decide +kernel, by decide +kernel, by decide +kernel⟩, by decide, by decide +kernel⟩
theorem kj_X11_384 : Cond.constantLong RX11 384 (294) ∈ lw_tbl := z_t7 (List.mem_of_getElem? (i := 78) rfl)
theorem kj_X11_530 : Cond.constantLong RX11 530 (21279923) ∈ lw_tbl := z_t8 (List.mem_of_getElem? (i := 46) rfl)
theorem ml_X11_523 : Cond.methodLink RX11 523 yX11_readSum ∈ lw_tbl := z_t8 (List.mem_of_getElem? (i := 40) rfl)
theorem vk_X11_readSum : Cond.instanceMethod yX11_readSum ∈ lw_tbl ∧ Cond.selects yX11_readSum.cls yX11_readSum yX11_readSum ∈ lw_tbl := ⟨z_t8 (List.mem_of_getElem? (i := 42) rfl), List.mem_append_left _ (List.mem_of_getElem? (i := 97) (by decide +kernel))⟩
theorem kj_X11_528 : Cond.constantLong RX11 528 (52) ∈ lw_tbl := z_t8 (List.mem_of_getElem? (i := 45) rfl)
theorem kj_X11_526 : Cond.constantLong RX11 526 (655) ∈ lw_tbl := z_t8 (List.mem_of_getElem? (i := 44) rfl)
theorem ck_X11_readOrder : z_ck M_X11_readOrder 0 := ⟨z_t8 (List.mem_of_getElem? (i := 39) rfl), z_t1 (List.mem_of_getElem? (i := 12) rfl), ⟨by decide +kernel, by decide +kernel, by decide +kernel⟩, by decide, by decide +kernel⟩
theorem wk_11_13 : z_wk 11 13 .int false := ⟨RX11, TX11, 59, tyX11, rfl, tyX11_ok, nmX11, rfl, by decide +kernel, rfl⟩
theorem ck_X11_endText : z_ck M_X11_endText 0 := ⟨z_t7 (List.mem_of_getElem? (i := 82) rfl), z_t1 (List.mem_of_getElem? (i := 12) rfl), ⟨by decide +kernel, by decide +kernel, by decide +kernel⟩, by decide, by decide +kernel⟩
theorem lk_X11_532 : z_lk RX11 532 11 55 := ⟨RX11, TX11, 59, rfl, by decide, z_t5 (List.mem_of_getElem? (i := 172) rfl), in_X11⟩
theorem wk_11_55 : z_wk 11 55 .boolean false := ⟨RX11, TX11, 59, tyX11, rfl, tyX11_ok, nmX11, rfl, by decide +kernel, rfl⟩
theorem ck_X11_sumOf : z_ck M_X11_sumOf 1 := ⟨z_t8 (List.mem_of_getElem? (i := 58) rfl), z_t1 (List.mem_of_getElem? (i := 12) rfl), ⟨by decide +kernel, by decide +kernel, by decide +kernel⟩, by decide, by decide +kernel⟩
theorem ck_X11_act : z_ck M_X11_act 3 := ⟨z_t8 (List.mem_of_getElem? (i := 62) rfl), z_t1 (List.mem_of_getElem? (i := 12) rfl), ⟨by decide +kernel, by decide +kernel, by decide +kernel⟩, by decide, by decide +kernel⟩
theorem lk_X11_538 : z_lk RX11 538 11 53 := ⟨RX11, TX11, 59, rfl, by decide, z_t5 (List.mem_of_getElem? (i := 170) rfl), in_X11⟩
theorem wk_11_53 : z_wk 11 53 .int false := ⟨RX11, TX11, 59, tyX11, rfl, tyX11_ok, nmX11, rfl, by decide +kernel, rfl⟩
theorem lk_X11_535 : z_lk RX11 535 11 52 := ⟨RX11, TX11, 59, rfl, by decide, z_t5 (List.mem_of_getElem? (i := 169) rfl), in_X11⟩
theorem wk_11_52 : z_wk 11 52 .int false := ⟨RX11, TX11, 59, tyX11, rfl, tyX11_ok, nmX11, rfl, by decide +kernel, rfl⟩
theorem ml_X11_544 : Cond.methodLink RX11 544 yX11_sumOf ∈ lw_tbl := z_t8 (List.mem_of_getElem? (i := 55) rfl)
theorem vk_X11_sumOf : Cond.instanceMethod yX11_sumOf ∈ lw_tbl ∧ Cond.selects yX11_sumOf.cls yX11_sumOf yX11_sumOf ∈ lw_tbl := ⟨z_t8 (List.mem_of_getElem? (i := 57) rfl), List.mem_append_left _ (List.mem_of_getElem? (i := 100) (by decide +kernel))⟩
theorem ml_X11_547 : Cond.methodLink RX11 547 yX11_act ∈ lw_tbl := z_t8 (List.mem_of_getElem? (i := 59) rfl)
theorem vk_X11_act : Cond.instanceMethod yX11_act ∈ lw_tbl ∧ Cond.selects yX11_act.cls yX11_act yX11_act ∈ lw_tbl := ⟨z_t8 (List.mem_of_getElem? (i := 61) rfl), List.mem_append_left _ (List.mem_of_getElem? (i := 101) (by decide +kernel))⟩
theorem ck_X11_run : z_ck M_X11_run 1 := ⟨z_t8 (List.mem_of_getElem? (i := 50) rfl), z_t1 (List.mem_of_getElem? (i := 12) rfl), ⟨by decide +kernel, by decide +kernel, by decide +kernel⟩, by decide, by decide +kernel⟩
theorem ck_X11_giveBack : z_ck M_X11_giveBack 1 := ⟨z_t8 (List.mem_of_getElem? (i := 66) rfl), z_t1 (List.mem_of_getElem? (i := 12) rfl), ⟨by decide +kernel, by decide +kernel, by decide +kernel⟩, by decide, by decide +kernel⟩
theorem ml_X11_553 : Cond.methodLink RX11 553 yX11_run ∈ lw_tbl := z_t8 (List.mem_of_getElem? (i := 47) rfl)
theorem vk_X11_run : Cond.instanceMethod yX11_run ∈ lw_tbl ∧ Cond.selects yX11_run.cls yX11_run yX11_run ∈ lw_tbl := ⟨z_t8 (List.mem_of_getElem? (i := 49) rfl), List.mem_append_left _ (List.mem_of_getElem? (i := 98) (by decide +kernel))⟩
theorem ml_X11_556 : Cond.methodLink RX11 556 yX11_giveBack ∈ lw_tbl := z_t8 (List.mem_of_getElem? (i := 63) rfl)
theorem vk_X11_giveBack : Cond.instanceMethod yX11_giveBack ∈ lw_tbl ∧ Cond.selects yX11_giveBack.cls yX11_giveBack yX11_giveBack ∈ lw_tbl := ⟨z_t8 (List.mem_of_getElem? (i := 65) rfl), List.mem_append_left _ (List.mem_of_getElem? (i := 102) (by decide +kernel))⟩
theorem ml_X11_392 : Cond.methodLink RX11 392 yX11_endText ∈ lw_tbl := z_t7 (List.mem_of_getElem? (i := 79) rfl)
theorem vk_X11_endText : Cond.instanceMethod yX11_endText ∈ lw_tbl ∧ Cond.selects yX11_endText.cls yX11_endText yX11_endText ∈ lw_tbl := ⟨z_t7 (List.mem_of_getElem? (i := 81) rfl), List.mem_append_left _ (List.mem_of_getElem? (i := 73) (by decide +kernel))⟩
theorem ml_X11_550 : Cond.methodLink RX11 550 yX11_readOrder ∈ lw_tbl := z_t8 (List.mem_of_getElem? (i := 36) rfl)
theorem vk_X11_readOrder : Cond.instanceMethod yX11_readOrder ∈ lw_tbl ∧ Cond.selects yX11_readOrder.cls yX11_readOrder yX11_readOrder ∈ lw_tbl := ⟨z_t8 (List.mem_of_getElem? (i := 38) rfl), List.mem_append_left _ (List.mem_of_getElem? (i := 96) (by decide +kernel))⟩
theorem ml_X11_386 : Cond.methodLink RX11 386 yX11_beginText ∈ lw_tbl := z_t6 (List.mem_of_getElem? (i := 210) rfl)
theorem vk_X11_beginText : Cond.instanceMethod yX11_beginText ∈ lw_tbl ∧ Cond.selects yX11_beginText.cls yX11_beginText yX11_beginText ∈ lw_tbl := ⟨z_t6 (List.mem_of_getElem? (i := 212) rfl), List.mem_append_left _ (List.mem_of_getElem? (i := 51) (by decide +kernel))⟩
theorem ck_X11_orders : z_ck M_X11_orders 0 := ⟨z_t8 (List.mem_of_getElem? (i := 35) rfl), z_t1 (List.mem_of_getElem? (i := 12) rfl), ⟨by decide +kernel, by decide +kernel, by decide +kernel⟩, by decide, by decide +kernel⟩
theorem nk_X7_8 : z_nk RX7 8 7 5 [.null, .null, .null, .int 0, .int 0] := ⟨RX7, TX7, tyX7, rfl, tyX7_ok, in_X7, z_t3 (List.mem_of_getElem? (i := 214) rfl), z_t1 (List.mem_of_getElem? (i := 133) rfl), z_t1 (List.mem_of_getElem? (i := 5) rfl), by decide +kernel, fun _ => rfl⟩
theorem ml_X7_26 : Cond.methodLink RX7 26 yX7_init ∈ lw_tbl := z_t3 (List.mem_of_getElem? (i := 215) rfl)
theorem ml_X7_29 : Cond.methodLink RX7 29 arraycopyName ∈ lw_tbl := z_t3 (List.mem_of_getElem? (i := 216) rfl)
theorem ck_X7_copy : z_ck M_X7_copy 0 := ⟨z_t3 (List.mem_of_getElem? (i := 213) rfl), z_t1 (List.mem_of_getElem? (i := 5) rfl), ⟨by decide +kernel, by decide +kernel, by decide +kernel⟩, by decide, by decide +kernel⟩
theorem lk_X10_188 : z_lk RX10 188 9 7 := ⟨RX9, TX9, 13, rfl, by decide, z_t1 (List.mem_of_getElem? (i := 67) rfl), in_X9⟩
theorem ml_X10_196 : Cond.methodLink RX10 196 yX7_copy ∈ lw_tbl := z_t3 (List.mem_of_getElem? (i := 210) rfl)
theorem vk_X7_copy : Cond.instanceMethod yX7_copy ∈ lw_tbl ∧ Cond.selects yX7_copy.cls yX7_copy yX7_copy ∈ lw_tbl := ⟨z_t3 (List.mem_of_getElem? (i := 211) rfl), z_t3 (List.mem_of_getElem? (i := 212) rfl)⟩
theorem ck_X10_law : z_ck M_X10_law 0 := ⟨z_t3 (List.mem_of_getElem? (i := 60) rfl), z_t1 (List.mem_of_getElem? (i := 1) rfl), ⟨by decide +kernel, by decide +kernel, by decide +kernel⟩, by decide, by decide +kernel⟩
theorem ck_X11_readLaw : z_ck M_X11_readLaw 0 := ⟨z_t6 (List.mem_of_getElem? (i := 235) rfl), z_t1 (List.mem_of_getElem? (i := 12) rfl), ⟨by decide +kernel, by decide +kernel, by decide +kernel⟩, by decide, by decide +kernel⟩
theorem ml_X11_389 : Cond.methodLink RX11 389 yX11_readLaw ∈ lw_tbl := z_t6 (List.mem_of_getElem? (i := 232) rfl)
theorem vk_X11_readLaw : Cond.instanceMethod yX11_readLaw ∈ lw_tbl ∧ Cond.selects yX11_readLaw.cls yX11_readLaw yX11_readLaw ∈ lw_tbl := ⟨z_t6 (List.mem_of_getElem? (i := 234) rfl), List.mem_append_left _ (List.mem_of_getElem? (i := 54) (by decide +kernel))⟩
theorem ck_X11_law : z_ck M_X11_law 0 := ⟨z_t6 (List.mem_of_getElem? (i := 209) rfl), z_t1 (List.mem_of_getElem? (i := 12) rfl), ⟨by decide +kernel, by decide +kernel, by decide +kernel⟩, by decide, by decide +kernel⟩
theorem ck_X10_brads : z_ck M_X10_brads 0 := ⟨z_t3 (List.mem_of_getElem? (i := 56) rfl), z_t1 (List.mem_of_getElem? (i := 1) rfl), ⟨by decide +kernel, by decide +kernel, by decide +kernel⟩, by decide, by decide +kernel⟩
theorem lk_X11_242 : z_lk RX11 242 11 11 := ⟨RX11, TX11, 59, rfl, by decide, z_t5 (List.mem_of_getElem? (i := 128) rfl), in_X11⟩
theorem ck_X11_brads : z_ck M_X11_brads 0 := ⟨z_t6 (List.mem_of_getElem? (i := 189) rfl), z_t1 (List.mem_of_getElem? (i := 12) rfl), ⟨by decide +kernel, by decide +kernel, by decide +kernel⟩, by decide, by decide +kernel⟩
theorem ck_X10_canBePair : z_ck M_X10_canBePair 3 := ⟨z_t2 (List.mem_of_getElem? (i := 164) rfl), z_t1 (List.mem_of_getElem? (i := 1) rfl), ⟨by decide +kernel, by decide +kernel, by decide +kernel⟩, by decide, by decide +kernel⟩
theorem ck_X9_addPair : z_ck M_X9_addPair 3 := ⟨z_t2 (List.mem_of_getElem? (i := 175) rfl), z_t1 (List.mem_of_getElem? (i := 2) rfl), ⟨by decide +kernel, by decide +kernel, by decide +kernel⟩, by decide, by decide +kernel⟩
theorem ml_X10_100 : Cond.methodLink RX10 100 yX10_canBePair ∈ lw_tbl := z_t2 (List.mem_of_getElem? (i := 162) rfl)
theorem st_X10_canBePair : Cond.static yX10_canBePair ∈ lw_tbl := z_t2 (List.mem_of_getElem? (i := 163) rfl)
theorem ml_X10_111 : Cond.methodLink RX10 111 yX9_addPair ∈ lw_tbl := z_t2 (List.mem_of_getElem? (i := 172) rfl)
theorem vk_X9_addPair : Cond.instanceMethod yX9_addPair ∈ lw_tbl ∧ Cond.selects yX9_addPair.cls yX9_addPair yX9_addPair ∈ lw_tbl := ⟨z_t2 (List.mem_of_getElem? (i := 173) rfl), z_t2 (List.mem_of_getElem? (i := 174) rfl)⟩
theorem lk_X10_178 : z_lk RX10 178 5 0 := ⟨RX5, TX5, 10, rfl, by decide, z_t1 (List.mem_of_getElem? (i := 162) rfl), in_X5⟩
theorem ck_X10_row : z_ck M_X10_row 0 := ⟨z_t3 (List.mem_of_getElem? (i := 52) rfl), z_t1 (List.mem_of_getElem? (i := 1) rfl), ⟨by decide +kernel, by decide +kernel, by decide +kernel⟩, by decide, by decide +kernel⟩
theorem kj_X11_205 : Cond.constantLong RX11 205 (9) ∈ lw_tbl := z_t6 (List.mem_of_getElem? (i := 94) rfl)
theorem ck_X11_come : z_ck M_X11_come 3 := ⟨z_t6 (List.mem_of_getElem? (i := 89) rfl), z_t1 (List.mem_of_getElem? (i := 12) rfl), ⟨by decide +kernel, by decide +kernel, by decide +kernel⟩, by decide, by decide +kernel⟩
theorem wk_11_11 : z_wk 11 11 .int false := ⟨RX11, TX11, 59, tyX11, rfl, tyX11_ok, nmX11, rfl, by decide +kernel, rfl⟩
theorem ml_X11_207 : Cond.methodLink RX11 207 yX11_come ∈ lw_tbl := z_t6 (List.mem_of_getElem? (i := 86) rfl)
theorem vk_X11_come : Cond.instanceMethod yX11_come ∈ lw_tbl ∧ Cond.selects yX11_come.cls yX11_come yX11_come ∈ lw_tbl := ⟨z_t6 (List.mem_of_getElem? (i := 88) rfl), List.mem_append_left _ (List.mem_of_getElem? (i := 37) (by decide +kernel))⟩
theorem ck_X11_row : z_ck M_X11_row 0 := ⟨z_t6 (List.mem_of_getElem? (i := 185) rfl), z_t1 (List.mem_of_getElem? (i := 12) rfl), ⟨by decide +kernel, by decide +kernel, by decide +kernel⟩, by decide, by decide +kernel⟩
theorem ck_X10_end : z_ck M_X10_end 1 := ⟨z_t3 (List.mem_of_getElem? (i := 48) rfl), z_t1 (List.mem_of_getElem? (i := 1) rfl), ⟨by decide +kernel, by decide +kernel, by decide +kernel⟩, by decide, by decide +kernel⟩
theorem ck_X11_end : z_ck M_X11_end 1 := ⟨z_t6 (List.mem_of_getElem? (i := 201) rfl), z_t1 (List.mem_of_getElem? (i := 12) rfl), ⟨by decide +kernel, by decide +kernel, by decide +kernel⟩, by decide, by decide +kernel⟩
theorem ck_X5_put : z_ck M_X5_put 1 := ⟨z_t3 (List.mem_of_getElem? (i := 44) rfl), z_t1 (List.mem_of_getElem? (i := 4) rfl), ⟨by decide +kernel, by decide +kernel, by decide +kernel⟩, by decide, by decide +kernel⟩
theorem ml_X10_174 : Cond.methodLink RX10 174 yX5_put ∈ lw_tbl := z_t3 (List.mem_of_getElem? (i := 41) rfl)
theorem vk_X5_put : Cond.instanceMethod yX5_put ∈ lw_tbl ∧ Cond.selects yX5_put.cls yX5_put yX5_put ∈ lw_tbl := ⟨z_t3 (List.mem_of_getElem? (i := 42) rfl), z_t3 (List.mem_of_getElem? (i := 43) rfl)⟩
theorem ck_X10_feed : z_ck M_X10_feed 5 := ⟨z_t3 (List.mem_of_getElem? (i := 40) rfl), z_t1 (List.mem_of_getElem? (i := 1) rfl), ⟨by decide +kernel, by decide +kernel, by decide +kernel⟩, by decide, by decide +kernel⟩
theorem ck_X11_four : z_ck M_X11_four 1 := ⟨z_t6 (List.mem_of_getElem? (i := 197) rfl), z_t1 (List.mem_of_getElem? (i := 12) rfl), ⟨by decide +kernel, by decide +kernel, by decide +kernel⟩, by decide, by decide +kernel⟩
theorem ml_X11_245 : Cond.methodLink RX11 245 yX11_four ∈ lw_tbl := z_t6 (List.mem_of_getElem? (i := 194) rfl)
theorem vk_X11_four : Cond.instanceMethod yX11_four ∈ lw_tbl ∧ Cond.selects yX11_four.cls yX11_four yX11_four ∈ lw_tbl := ⟨z_t6 (List.mem_of_getElem? (i := 196) rfl), List.mem_append_left _ (List.mem_of_getElem? (i := 50) (by decide +kernel))⟩
theorem ck_X11_feed : z_ck M_X11_feed 5 := ⟨z_t6 (List.mem_of_getElem? (i := 193) rfl), z_t1 (List.mem_of_getElem? (i := 12) rfl), ⟨by decide +kernel, by decide +kernel, by decide +kernel⟩, by decide, by decide +kernel⟩
theorem ck_X10_terms : z_ck M_X10_terms 2 := ⟨z_t3 (List.mem_of_getElem? (i := 35) rfl), z_t1 (List.mem_of_getElem? (i := 1) rfl), ⟨by decide +kernel, by decide +kernel, by decide +kernel⟩, by decide, by decide +kernel⟩
theorem kj_X11_232 : Cond.constantLong RX11 232 (999) ∈ lw_tbl := z_t6 (List.mem_of_getElem? (i := 176) rfl)
theorem ck_X11_terms : z_ck M_X11_terms 2 := ⟨z_t6 (List.mem_of_getElem? (i := 175) rfl), z_t1 (List.mem_of_getElem? (i := 12) rfl), ⟨by decide +kernel, by decide +kernel, by decide +kernel⟩, by decide, by decide +kernel⟩
theorem ml_X10_162 : Cond.methodLink RX10 162 yX1_leaves ∈ lw_tbl := z_t3 (List.mem_of_getElem? (i := 26) rfl)
theorem ck_X10_asks : z_ck M_X10_asks 3 := ⟨z_t3 (List.mem_of_getElem? (i := 14) rfl), z_t1 (List.mem_of_getElem? (i := 1) rfl), ⟨by decide +kernel, by decide +kernel, by decide +kernel⟩, by decide, by decide +kernel⟩
theorem ck_X11_asks : z_ck M_X11_asks 3 := ⟨z_t6 (List.mem_of_getElem? (i := 153) rfl), z_t1 (List.mem_of_getElem? (i := 12) rfl), ⟨by decide +kernel, by decide +kernel, by decide +kernel⟩, by decide, by decide +kernel⟩
theorem ck_X10_walls : z_ck M_X10_walls 0 := ⟨z_t3 (List.mem_of_getElem? (i := 10) rfl), z_t1 (List.mem_of_getElem? (i := 1) rfl), ⟨by decide +kernel, by decide +kernel, by decide +kernel⟩, by decide, by decide +kernel⟩
theorem ck_X11_walls : z_ck M_X11_walls 0 := ⟨z_t6 (List.mem_of_getElem? (i := 149) rfl), z_t1 (List.mem_of_getElem? (i := 12) rfl), ⟨by decide +kernel, by decide +kernel, by decide +kernel⟩, by decide, by decide +kernel⟩
theorem ck_X10_wall : z_ck M_X10_wall 2 := ⟨z_t3 (List.mem_of_getElem? (i := 6) rfl), z_t1 (List.mem_of_getElem? (i := 1) rfl), ⟨by decide +kernel, by decide +kernel, by decide +kernel⟩, by decide, by decide +kernel⟩
theorem ck_X11_wall : z_ck M_X11_wall 2 := ⟨z_t6 (List.mem_of_getElem? (i := 145) rfl), z_t1 (List.mem_of_getElem? (i := 12) rfl), ⟨by decide +kernel, by decide +kernel, by decide +kernel⟩, by decide, by decide +kernel⟩
theorem lk_X10_135 : z_lk RX10 135 9 2 := ⟨RX9, TX9, 13, rfl, by decide, z_t1 (List.mem_of_getElem? (i := 49) rfl), in_X9⟩
theorem ml_X10_141 : Cond.methodLink RX10 141 yX1_target ∈ lw_tbl := z_t2 (List.mem_of_getElem? (i := 196) rfl)
theorem ck_X10_of : z_ck M_X10_of 2 := ⟨z_t2 (List.mem_of_getElem? (i := 183) rfl), z_t1 (List.mem_of_getElem? (i := 1) rfl), ⟨by decide +kernel, by decide +kernel, by decide +kernel⟩, by decide, by decide +kernel⟩
theorem kj_X11_214 : Cond.constantLong RX11 214 (7) ∈ lw_tbl := z_t6 (List.mem_of_getElem? (i := 103) rfl)
theorem ck_X11_of : z_ck M_X11_of 2 := ⟨z_t6 (List.mem_of_getElem? (i := 98) rfl), z_t1 (List.mem_of_getElem? (i := 12) rfl), ⟨by decide +kernel, by decide +kernel, by decide +kernel⟩, by decide, by decide +kernel⟩
theorem ck_X10_pair : z_ck M_X10_pair 3 := ⟨z_t2 (List.mem_of_getElem? (i := 161) rfl), z_t1 (List.mem_of_getElem? (i := 1) rfl), ⟨by decide +kernel, by decide +kernel, by decide +kernel⟩, by decide, by decide +kernel⟩
theorem ck_X11_pair : z_ck M_X11_pair 3 := ⟨z_t6 (List.mem_of_getElem? (i := 85) rfl), z_t1 (List.mem_of_getElem? (i := 12) rfl), ⟨by decide +kernel, by decide +kernel, by decide +kernel⟩, by decide, by decide +kernel⟩
theorem ml_L_13 : Cond.methodLink RL 13 yX10_pair ∈ lw_tbl := z_t2 (List.mem_of_getElem? (i := 158) rfl)
theorem vk_X10_pair : Cond.instanceMethod yX10_pair ∈ lw_tbl ∧ Cond.selects yX10_pair.cls yX10_pair yX10_pair ∈ lw_tbl := ⟨z_t2 (List.mem_of_getElem? (i := 159) rfl), z_t2 (List.mem_of_getElem? (i := 160) rfl)⟩
theorem ml_L_17 : Cond.methodLink RL 17 yX11_pair ∈ lw_tbl := z_t6 (List.mem_of_getElem? (i := 82) rfl)
theorem vk_X11_pair : Cond.instanceMethod yX11_pair ∈ lw_tbl ∧ Cond.selects yX11_pair.cls yX11_pair yX11_pair ∈ lw_tbl := ⟨z_t6 (List.mem_of_getElem? (i := 83) rfl), z_t6 (List.mem_of_getElem? (i := 84) rfl)⟩
theorem ml_L_18 : Cond.methodLink RL 18 yX10_of ∈ lw_tbl := z_t2 (List.mem_of_getElem? (i := 180) rfl)
theorem vk_X10_of : Cond.instanceMethod yX10_of ∈ lw_tbl ∧ Cond.selects yX10_of.cls yX10_of yX10_of ∈ lw_tbl := ⟨z_t2 (List.mem_of_getElem? (i := 181) rfl), z_t2 (List.mem_of_getElem? (i := 182) rfl)⟩
theorem ml_L_22 : Cond.methodLink RL 22 yX11_of ∈ lw_tbl := z_t6 (List.mem_of_getElem? (i := 95) rfl)
theorem vk_X11_of : Cond.instanceMethod yX11_of ∈ lw_tbl ∧ Cond.selects yX11_of.cls yX11_of yX11_of ∈ lw_tbl := ⟨z_t6 (List.mem_of_getElem? (i := 96) rfl), z_t6 (List.mem_of_getElem? (i := 97) rfl)⟩
theorem ml_L_23 : Cond.methodLink RL 23 yX10_wall ∈ lw_tbl := z_t3 (List.mem_of_getElem? (i := 3) rfl)
theorem vk_X10_wall : Cond.instanceMethod yX10_wall ∈ lw_tbl ∧ Cond.selects yX10_wall.cls yX10_wall yX10_wall ∈ lw_tbl := ⟨z_t3 (List.mem_of_getElem? (i := 4) rfl), z_t3 (List.mem_of_getElem? (i := 5) rfl)⟩
theorem ml_L_26 : Cond.methodLink RL 26 yX11_wall ∈ lw_tbl := z_t6 (List.mem_of_getElem? (i := 142) rfl)
theorem vk_X11_wall : Cond.instanceMethod yX11_wall ∈ lw_tbl ∧ Cond.selects yX11_wall.cls yX11_wall yX11_wall ∈ lw_tbl := ⟨z_t6 (List.mem_of_getElem? (i := 143) rfl), z_t6 (List.mem_of_getElem? (i := 144) rfl)⟩
theorem ml_L_27 : Cond.methodLink RL 27 yX10_walls ∈ lw_tbl := z_t3 (List.mem_of_getElem? (i := 7) rfl)
theorem vk_X10_walls : Cond.instanceMethod yX10_walls ∈ lw_tbl ∧ Cond.selects yX10_walls.cls yX10_walls yX10_walls ∈ lw_tbl := ⟨z_t3 (List.mem_of_getElem? (i := 8) rfl), z_t3 (List.mem_of_getElem? (i := 9) rfl)⟩
theorem ml_L_31 : Cond.methodLink RL 31 yX11_walls ∈ lw_tbl := z_t6 (List.mem_of_getElem? (i := 146) rfl)
theorem vk_X11_walls : Cond.instanceMethod yX11_walls ∈ lw_tbl ∧ Cond.selects yX11_walls.cls yX11_walls yX11_walls ∈ lw_tbl := ⟨z_t6 (List.mem_of_getElem? (i := 147) rfl), z_t6 (List.mem_of_getElem? (i := 148) rfl)⟩
theorem ml_L_32 : Cond.methodLink RL 32 yX10_asks ∈ lw_tbl := z_t3 (List.mem_of_getElem? (i := 11) rfl)
theorem vk_X10_asks : Cond.instanceMethod yX10_asks ∈ lw_tbl ∧ Cond.selects yX10_asks.cls yX10_asks yX10_asks ∈ lw_tbl := ⟨z_t3 (List.mem_of_getElem? (i := 12) rfl), z_t3 (List.mem_of_getElem? (i := 13) rfl)⟩
theorem ml_L_35 : Cond.methodLink RL 35 yX11_asks ∈ lw_tbl := z_t6 (List.mem_of_getElem? (i := 150) rfl)
theorem vk_X11_asks : Cond.instanceMethod yX11_asks ∈ lw_tbl ∧ Cond.selects yX11_asks.cls yX11_asks yX11_asks ∈ lw_tbl := ⟨z_t6 (List.mem_of_getElem? (i := 151) rfl), z_t6 (List.mem_of_getElem? (i := 152) rfl)⟩
theorem ml_L_36 : Cond.methodLink RL 36 yX10_terms ∈ lw_tbl := z_t3 (List.mem_of_getElem? (i := 32) rfl)
theorem vk_X10_terms : Cond.instanceMethod yX10_terms ∈ lw_tbl ∧ Cond.selects yX10_terms.cls yX10_terms yX10_terms ∈ lw_tbl := ⟨z_t3 (List.mem_of_getElem? (i := 33) rfl), z_t3 (List.mem_of_getElem? (i := 34) rfl)⟩
theorem ml_L_39 : Cond.methodLink RL 39 yX11_terms ∈ lw_tbl := z_t6 (List.mem_of_getElem? (i := 172) rfl)
theorem vk_X11_terms : Cond.instanceMethod yX11_terms ∈ lw_tbl ∧ Cond.selects yX11_terms.cls yX11_terms yX11_terms ∈ lw_tbl := ⟨z_t6 (List.mem_of_getElem? (i := 173) rfl), z_t6 (List.mem_of_getElem? (i := 174) rfl)⟩
theorem ml_L_40 : Cond.methodLink RL 40 yX10_feed ∈ lw_tbl := z_t3 (List.mem_of_getElem? (i := 37) rfl)
theorem vk_X10_feed : Cond.instanceMethod yX10_feed ∈ lw_tbl ∧ Cond.selects yX10_feed.cls yX10_feed yX10_feed ∈ lw_tbl := ⟨z_t3 (List.mem_of_getElem? (i := 38) rfl), z_t3 (List.mem_of_getElem? (i := 39) rfl)⟩
theorem ml_L_44 : Cond.methodLink RL 44 yX11_feed ∈ lw_tbl := z_t6 (List.mem_of_getElem? (i := 190) rfl)
theorem vk_X11_feed : Cond.instanceMethod yX11_feed ∈ lw_tbl ∧ Cond.selects yX11_feed.cls yX11_feed yX11_feed ∈ lw_tbl := ⟨z_t6 (List.mem_of_getElem? (i := 191) rfl), z_t6 (List.mem_of_getElem? (i := 192) rfl)⟩
theorem ml_L_45 : Cond.methodLink RL 45 yX10_end ∈ lw_tbl := z_t3 (List.mem_of_getElem? (i := 45) rfl)
theorem vk_X10_end : Cond.instanceMethod yX10_end ∈ lw_tbl ∧ Cond.selects yX10_end.cls yX10_end yX10_end ∈ lw_tbl := ⟨z_t3 (List.mem_of_getElem? (i := 46) rfl), z_t3 (List.mem_of_getElem? (i := 47) rfl)⟩
theorem ml_L_49 : Cond.methodLink RL 49 yX11_end ∈ lw_tbl := z_t6 (List.mem_of_getElem? (i := 198) rfl)
theorem vk_X11_end : Cond.instanceMethod yX11_end ∈ lw_tbl ∧ Cond.selects yX11_end.cls yX11_end yX11_end ∈ lw_tbl := ⟨z_t6 (List.mem_of_getElem? (i := 199) rfl), z_t6 (List.mem_of_getElem? (i := 200) rfl)⟩
theorem ml_L_50 : Cond.methodLink RL 50 yX10_row ∈ lw_tbl := z_t3 (List.mem_of_getElem? (i := 49) rfl)
theorem vk_X10_row : Cond.instanceMethod yX10_row ∈ lw_tbl ∧ Cond.selects yX10_row.cls yX10_row yX10_row ∈ lw_tbl := ⟨z_t3 (List.mem_of_getElem? (i := 50) rfl), z_t3 (List.mem_of_getElem? (i := 51) rfl)⟩
theorem ml_L_53 : Cond.methodLink RL 53 yX11_row ∈ lw_tbl := z_t6 (List.mem_of_getElem? (i := 182) rfl)
theorem vk_X11_row : Cond.instanceMethod yX11_row ∈ lw_tbl ∧ Cond.selects yX11_row.cls yX11_row yX11_row ∈ lw_tbl := ⟨z_t6 (List.mem_of_getElem? (i := 183) rfl), z_t6 (List.mem_of_getElem? (i := 184) rfl)⟩
theorem ml_L_54 : Cond.methodLink RL 54 yX10_brads ∈ lw_tbl := z_t3 (List.mem_of_getElem? (i := 53) rfl)
theorem vk_X10_brads : Cond.instanceMethod yX10_brads ∈ lw_tbl ∧ Cond.selects yX10_brads.cls yX10_brads yX10_brads ∈ lw_tbl := ⟨z_t3 (List.mem_of_getElem? (i := 54) rfl), z_t3 (List.mem_of_getElem? (i := 55) rfl)⟩
theorem ml_L_57 : Cond.methodLink RL 57 yX11_brads ∈ lw_tbl := z_t6 (List.mem_of_getElem? (i := 186) rfl)
theorem vk_X11_brads : Cond.instanceMethod yX11_brads ∈ lw_tbl ∧ Cond.selects yX11_brads.cls yX11_brads yX11_brads ∈ lw_tbl := ⟨z_t6 (List.mem_of_getElem? (i := 187) rfl), z_t6 (List.mem_of_getElem? (i := 188) rfl)⟩
theorem ml_L_58 : Cond.methodLink RL 58 yX10_law ∈ lw_tbl := z_t3 (List.mem_of_getElem? (i := 57) rfl)
theorem vk_X10_law : Cond.instanceMethod yX10_law ∈ lw_tbl ∧ Cond.selects yX10_law.cls yX10_law yX10_law ∈ lw_tbl := ⟨z_t3 (List.mem_of_getElem? (i := 58) rfl), z_t3 (List.mem_of_getElem? (i := 59) rfl)⟩
theorem ml_L_61 : Cond.methodLink RL 61 yX11_law ∈ lw_tbl := z_t6 (List.mem_of_getElem? (i := 206) rfl)
theorem vk_X11_law : Cond.instanceMethod yX11_law ∈ lw_tbl ∧ Cond.selects yX11_law.cls yX11_law yX11_law ∈ lw_tbl := ⟨z_t6 (List.mem_of_getElem? (i := 207) rfl), z_t6 (List.mem_of_getElem? (i := 208) rfl)⟩
theorem ml_L_62 : Cond.methodLink RL 62 yX10_orders ∈ lw_tbl := z_t3 (List.mem_of_getElem? (i := 220) rfl)
theorem vk_X10_orders : Cond.instanceMethod yX10_orders ∈ lw_tbl ∧ Cond.selects yX10_orders.cls yX10_orders yX10_orders ∈ lw_tbl := ⟨z_t3 (List.mem_of_getElem? (i := 221) rfl), z_t3 (List.mem_of_getElem? (i := 222) rfl)⟩
theorem ml_L_65 : Cond.methodLink RL 65 yX11_orders ∈ lw_tbl := z_t8 (List.mem_of_getElem? (i := 32) rfl)
theorem vk_X11_orders : Cond.instanceMethod yX11_orders ∈ lw_tbl ∧ Cond.selects yX11_orders.cls yX11_orders yX11_orders ∈ lw_tbl := ⟨z_t8 (List.mem_of_getElem? (i := 33) rfl), z_t8 (List.mem_of_getElem? (i := 34) rfl)⟩
theorem ml_L_66 : Cond.methodLink RL 66 yX10_fault ∈ lw_tbl := z_t4 (List.mem_of_getElem? (i := 45) rfl)
theorem vk_X10_fault : Cond.instanceMethod yX10_fault ∈ lw_tbl ∧ Cond.selects yX10_fault.cls yX10_fault yX10_fault ∈ lw_tbl := ⟨z_t4 (List.mem_of_getElem? (i := 46) rfl), z_t4 (List.mem_of_getElem? (i := 47) rfl)⟩
theorem ml_L_69 : Cond.methodLink RL 69 yX11_fault ∈ lw_tbl := z_t6 (List.mem_of_getElem? (i := 202) rfl)
theorem vk_X11_fault : Cond.instanceMethod yX11_fault ∈ lw_tbl ∧ Cond.selects yX11_fault.cls yX11_fault yX11_fault ∈ lw_tbl := ⟨z_t6 (List.mem_of_getElem? (i := 203) rfl), z_t6 (List.mem_of_getElem? (i := 204) rfl)⟩
theorem ml_L_70 : Cond.methodLink RL 70 yX10_stopped ∈ lw_tbl := z_t4 (List.mem_of_getElem? (i := 49) rfl)
theorem vk_X10_stopped : Cond.instanceMethod yX10_stopped ∈ lw_tbl ∧ Cond.selects yX10_stopped.cls yX10_stopped yX10_stopped ∈ lw_tbl := ⟨z_t4 (List.mem_of_getElem? (i := 50) rfl), z_t4 (List.mem_of_getElem? (i := 51) rfl)⟩
theorem ml_L_73 : Cond.methodLink RL 73 yX11_stopped ∈ lw_tbl := z_t8 (List.mem_of_getElem? (i := 67) rfl)
theorem vk_X11_stopped : Cond.instanceMethod yX11_stopped ∈ lw_tbl ∧ Cond.selects yX11_stopped.cls yX11_stopped yX11_stopped ∈ lw_tbl := ⟨z_t8 (List.mem_of_getElem? (i := 68) rfl), z_t8 (List.mem_of_getElem? (i := 69) rfl)⟩
theorem ml_L_74 : Cond.methodLink RL 74 yX10_force ∈ lw_tbl := z_t4 (List.mem_of_getElem? (i := 53) rfl)
theorem vk_X10_force : Cond.instanceMethod yX10_force ∈ lw_tbl ∧ Cond.selects yX10_force.cls yX10_force yX10_force ∈ lw_tbl := ⟨z_t4 (List.mem_of_getElem? (i := 54) rfl), z_t4 (List.mem_of_getElem? (i := 55) rfl)⟩
theorem ml_L_77 : Cond.methodLink RL 77 yX11_force ∈ lw_tbl := z_t7 (List.mem_of_getElem? (i := 83) rfl)
theorem vk_X11_force : Cond.instanceMethod yX11_force ∈ lw_tbl ∧ Cond.selects yX11_force.cls yX11_force yX11_force ∈ lw_tbl := ⟨z_t7 (List.mem_of_getElem? (i := 84) rfl), z_t7 (List.mem_of_getElem? (i := 85) rfl)⟩
theorem ml_L_78 : Cond.methodLink RL 78 yX10_step ∈ lw_tbl := z_t4 (List.mem_of_getElem? (i := 58) rfl)
theorem vk_X10_step : Cond.instanceMethod yX10_step ∈ lw_tbl ∧ Cond.selects yX10_step.cls yX10_step yX10_step ∈ lw_tbl := ⟨z_t4 (List.mem_of_getElem? (i := 59) rfl), z_t4 (List.mem_of_getElem? (i := 60) rfl)⟩
theorem ml_L_81 : Cond.methodLink RL 81 yX11_step ∈ lw_tbl := z_t7 (List.mem_of_getElem? (i := 91) rfl)
theorem vk_X11_step : Cond.instanceMethod yX11_step ∈ lw_tbl ∧ Cond.selects yX11_step.cls yX11_step yX11_step ∈ lw_tbl := ⟨z_t7 (List.mem_of_getElem? (i := 92) rfl), z_t7 (List.mem_of_getElem? (i := 93) rfl)⟩
theorem ml_L_82 : Cond.methodLink RL 82 yX10_turn ∈ lw_tbl := z_t4 (List.mem_of_getElem? (i := 68) rfl)
theorem vk_X10_turn : Cond.instanceMethod yX10_turn ∈ lw_tbl ∧ Cond.selects yX10_turn.cls yX10_turn yX10_turn ∈ lw_tbl := ⟨z_t4 (List.mem_of_getElem? (i := 69) rfl), z_t4 (List.mem_of_getElem? (i := 70) rfl)⟩
theorem ml_L_85 : Cond.methodLink RL 85 yX11_turn ∈ lw_tbl := z_t7 (List.mem_of_getElem? (i := 115) rfl)
theorem vk_X11_turn : Cond.instanceMethod yX11_turn ∈ lw_tbl ∧ Cond.selects yX11_turn.cls yX11_turn yX11_turn ∈ lw_tbl := ⟨z_t7 (List.mem_of_getElem? (i := 116) rfl), z_t7 (List.mem_of_getElem? (i := 117) rfl)⟩
theorem ml_L_86 : Cond.methodLink RL 86 yX10_pause ∈ lw_tbl := z_t4 (List.mem_of_getElem? (i := 72) rfl)
theorem vk_X10_pause : Cond.instanceMethod yX10_pause ∈ lw_tbl ∧ Cond.selects yX10_pause.cls yX10_pause yX10_pause ∈ lw_tbl := ⟨z_t4 (List.mem_of_getElem? (i := 73) rfl), z_t4 (List.mem_of_getElem? (i := 74) rfl)⟩
theorem ml_L_89 : Cond.methodLink RL 89 yX11_pause ∈ lw_tbl := z_t7 (List.mem_of_getElem? (i := 130) rfl)
theorem vk_X11_pause : Cond.instanceMethod yX11_pause ∈ lw_tbl ∧ Cond.selects yX11_pause.cls yX11_pause yX11_pause ∈ lw_tbl := ⟨z_t7 (List.mem_of_getElem? (i := 131) rfl), z_t7 (List.mem_of_getElem? (i := 132) rfl)⟩
theorem ml_L_90 : Cond.methodLink RL 90 yX10_mend ∈ lw_tbl := z_t4 (List.mem_of_getElem? (i := 76) rfl)
theorem vk_X10_mend : Cond.instanceMethod yX10_mend ∈ lw_tbl ∧ Cond.selects yX10_mend.cls yX10_mend yX10_mend ∈ lw_tbl := ⟨z_t4 (List.mem_of_getElem? (i := 77) rfl), z_t4 (List.mem_of_getElem? (i := 78) rfl)⟩
theorem ml_L_93 : Cond.methodLink RL 93 yX11_mend ∈ lw_tbl := z_t7 (List.mem_of_getElem? (i := 138) rfl)
theorem vk_X11_mend : Cond.instanceMethod yX11_mend ∈ lw_tbl ∧ Cond.selects yX11_mend.cls yX11_mend yX11_mend ∈ lw_tbl := ⟨z_t7 (List.mem_of_getElem? (i := 139) rfl), z_t7 (List.mem_of_getElem? (i := 140) rfl)⟩
theorem ml_L_94 : Cond.methodLink RL 94 yX10_pass ∈ lw_tbl := z_t4 (List.mem_of_getElem? (i := 80) rfl)
theorem vk_X10_pass : Cond.instanceMethod yX10_pass ∈ lw_tbl ∧ Cond.selects yX10_pass.cls yX10_pass yX10_pass ∈ lw_tbl := ⟨z_t4 (List.mem_of_getElem? (i := 81) rfl), z_t4 (List.mem_of_getElem? (i := 82) rfl)⟩
theorem ml_L_97 : Cond.methodLink RL 97 yX11_pass ∈ lw_tbl := z_t7 (List.mem_of_getElem? (i := 146) rfl)
theorem vk_X11_pass : Cond.instanceMethod yX11_pass ∈ lw_tbl ∧ Cond.selects yX11_pass.cls yX11_pass yX11_pass ∈ lw_tbl := ⟨z_t7 (List.mem_of_getElem? (i := 147) rfl), z_t7 (List.mem_of_getElem? (i := 148) rfl)⟩
theorem ml_L_98 : Cond.methodLink RL 98 yX10_undo ∈ lw_tbl := z_t4 (List.mem_of_getElem? (i := 84) rfl)
theorem vk_X10_undo : Cond.instanceMethod yX10_undo ∈ lw_tbl ∧ Cond.selects yX10_undo.cls yX10_undo yX10_undo ∈ lw_tbl := ⟨z_t4 (List.mem_of_getElem? (i := 85) rfl), z_t4 (List.mem_of_getElem? (i := 86) rfl)⟩
theorem ml_L_101 : Cond.methodLink RL 101 yX11_undo ∈ lw_tbl := z_t6 (List.mem_of_getElem? (i := 55) rfl)
theorem vk_X11_undo : Cond.instanceMethod yX11_undo ∈ lw_tbl ∧ Cond.selects yX11_undo.cls yX11_undo yX11_undo ∈ lw_tbl := ⟨z_t6 (List.mem_of_getElem? (i := 56) rfl), z_t6 (List.mem_of_getElem? (i := 57) rfl)⟩
theorem ml_L_102 : Cond.methodLink RL 102 yX10_ways ∈ lw_tbl := z_t4 (List.mem_of_getElem? (i := 93) rfl)
theorem vk_X10_ways : Cond.instanceMethod yX10_ways ∈ lw_tbl ∧ Cond.selects yX10_ways.cls yX10_ways yX10_ways ∈ lw_tbl := ⟨z_t4 (List.mem_of_getElem? (i := 94) rfl), z_t4 (List.mem_of_getElem? (i := 95) rfl)⟩
theorem ml_L_106 : Cond.methodLink RL 106 yX11_ways ∈ lw_tbl := z_t7 (List.mem_of_getElem? (i := 154) rfl)
theorem vk_X11_ways : Cond.instanceMethod yX11_ways ∈ lw_tbl ∧ Cond.selects yX11_ways.cls yX11_ways yX11_ways ∈ lw_tbl := ⟨z_t7 (List.mem_of_getElem? (i := 155) rfl), z_t7 (List.mem_of_getElem? (i := 156) rfl)⟩
theorem ml_L_107 : Cond.methodLink RL 107 yX10_ends ∈ lw_tbl := z_t4 (List.mem_of_getElem? (i := 124) rfl)
theorem vk_X10_ends : Cond.instanceMethod yX10_ends ∈ lw_tbl ∧ Cond.selects yX10_ends.cls yX10_ends yX10_ends ∈ lw_tbl := ⟨z_t4 (List.mem_of_getElem? (i := 125) rfl), z_t4 (List.mem_of_getElem? (i := 126) rfl)⟩
theorem ml_L_111 : Cond.methodLink RL 111 yX11_ends ∈ lw_tbl := z_t7 (List.mem_of_getElem? (i := 174) rfl)
theorem vk_X11_ends : Cond.instanceMethod yX11_ends ∈ lw_tbl ∧ Cond.selects yX11_ends.cls yX11_ends yX11_ends ∈ lw_tbl := ⟨z_t7 (List.mem_of_getElem? (i := 175) rfl), z_t7 (List.mem_of_getElem? (i := 176) rfl)⟩
theorem ml_L_112 : Cond.methodLink RL 112 yX10_way ∈ lw_tbl := z_t4 (List.mem_of_getElem? (i := 132) rfl)
theorem vk_X10_way : Cond.instanceMethod yX10_way ∈ lw_tbl ∧ Cond.selects yX10_way.cls yX10_way yX10_way ∈ lw_tbl := ⟨z_t4 (List.mem_of_getElem? (i := 133) rfl), z_t4 (List.mem_of_getElem? (i := 134) rfl)⟩
theorem ml_L_115 : Cond.methodLink RL 115 yX11_way ∈ lw_tbl := z_t7 (List.mem_of_getElem? (i := 178) rfl)
theorem vk_X11_way : Cond.instanceMethod yX11_way ∈ lw_tbl ∧ Cond.selects yX11_way.cls yX11_way yX11_way ∈ lw_tbl := ⟨z_t7 (List.mem_of_getElem? (i := 179) rfl), z_t7 (List.mem_of_getElem? (i := 180) rfl)⟩
theorem ml_L_116 : Cond.methodLink RL 116 yX10_least ∈ lw_tbl := z_t4 (List.mem_of_getElem? (i := 159) rfl)
theorem vk_X10_least : Cond.instanceMethod yX10_least ∈ lw_tbl ∧ Cond.selects yX10_least.cls yX10_least yX10_least ∈ lw_tbl := ⟨z_t4 (List.mem_of_getElem? (i := 160) rfl), z_t4 (List.mem_of_getElem? (i := 161) rfl)⟩
theorem ml_L_119 : Cond.methodLink RL 119 yX11_least ∈ lw_tbl := z_t7 (List.mem_of_getElem? (i := 195) rfl)
theorem vk_X11_least : Cond.instanceMethod yX11_least ∈ lw_tbl ∧ Cond.selects yX11_least.cls yX11_least yX11_least ∈ lw_tbl := ⟨z_t7 (List.mem_of_getElem? (i := 196) rfl), z_t7 (List.mem_of_getElem? (i := 197) rfl)⟩
theorem ml_L_120 : Cond.methodLink RL 120 yX10_chance ∈ lw_tbl := z_t4 (List.mem_of_getElem? (i := 179) rfl)
theorem vk_X10_chance : Cond.instanceMethod yX10_chance ∈ lw_tbl ∧ Cond.selects yX10_chance.cls yX10_chance yX10_chance ∈ lw_tbl := ⟨z_t4 (List.mem_of_getElem? (i := 180) rfl), z_t4 (List.mem_of_getElem? (i := 181) rfl)⟩
theorem ml_L_124 : Cond.methodLink RL 124 yX11_chance ∈ lw_tbl := z_t7 (List.mem_of_getElem? (i := 199) rfl)
theorem vk_X11_chance : Cond.instanceMethod yX11_chance ∈ lw_tbl ∧ Cond.selects yX11_chance.cls yX11_chance yX11_chance ∈ lw_tbl := ⟨z_t7 (List.mem_of_getElem? (i := 200) rfl), z_t7 (List.mem_of_getElem? (i := 201) rfl)⟩
theorem ml_L_125 : Cond.methodLink RL 125 yX10_within ∈ lw_tbl := z_t4 (List.mem_of_getElem? (i := 197) rfl)
theorem vk_X10_within : Cond.instanceMethod yX10_within ∈ lw_tbl ∧ Cond.selects yX10_within.cls yX10_within yX10_within ∈ lw_tbl := ⟨z_t4 (List.mem_of_getElem? (i := 198) rfl), z_t4 (List.mem_of_getElem? (i := 199) rfl)⟩
theorem ml_L_128 : Cond.methodLink RL 128 yX11_within ∈ lw_tbl := z_t7 (List.mem_of_getElem? (i := 205) rfl)
theorem vk_X11_within : Cond.instanceMethod yX11_within ∈ lw_tbl ∧ Cond.selects yX11_within.cls yX11_within yX11_within ∈ lw_tbl := ⟨z_t7 (List.mem_of_getElem? (i := 206) rfl), z_t7 (List.mem_of_getElem? (i := 207) rfl)⟩
theorem ml_L_129 : Cond.methodLink RL 129 yX10_couples ∈ lw_tbl := z_t4 (List.mem_of_getElem? (i := 201) rfl)
theorem vk_X10_couples : Cond.instanceMethod yX10_couples ∈ lw_tbl ∧ Cond.selects yX10_couples.cls yX10_couples yX10_couples ∈ lw_tbl := ⟨z_t4 (List.mem_of_getElem? (i := 202) rfl), z_t4 (List.mem_of_getElem? (i := 203) rfl)⟩
theorem ml_L_132 : Cond.methodLink RL 132 yX11_couples ∈ lw_tbl := z_t7 (List.mem_of_getElem? (i := 210) rfl)
theorem vk_X11_couples : Cond.instanceMethod yX11_couples ∈ lw_tbl ∧ Cond.selects yX11_couples.cls yX11_couples yX11_couples ∈ lw_tbl := ⟨z_t7 (List.mem_of_getElem? (i := 211) rfl), z_t7 (List.mem_of_getElem? (i := 212) rfl)⟩
theorem ml_L_133 : Cond.methodLink RL 133 yX10_likest ∈ lw_tbl := z_t4 (List.mem_of_getElem? (i := 226) rfl)
theorem vk_X10_likest : Cond.instanceMethod yX10_likest ∈ lw_tbl ∧ Cond.selects yX10_likest.cls yX10_likest yX10_likest ∈ lw_tbl := ⟨z_t4 (List.mem_of_getElem? (i := 227) rfl), z_t4 (List.mem_of_getElem? (i := 228) rfl)⟩
theorem ml_L_136 : Cond.methodLink RL 136 yX11_likest ∈ lw_tbl := z_t7 (List.mem_of_getElem? (i := 226) rfl)
theorem vk_X11_likest : Cond.instanceMethod yX11_likest ∈ lw_tbl ∧ Cond.selects yX11_likest.cls yX11_likest yX11_likest ∈ lw_tbl := ⟨z_t7 (List.mem_of_getElem? (i := 227) rfl), z_t7 (List.mem_of_getElem? (i := 228) rfl)⟩
theorem ml_L_137 : Cond.methodLink RL 137 yX10_lasts ∈ lw_tbl := z_t4 (List.mem_of_getElem? (i := 234) rfl)
theorem vk_X10_lasts : Cond.instanceMethod yX10_lasts ∈ lw_tbl ∧ Cond.selects yX10_lasts.cls yX10_lasts yX10_lasts ∈ lw_tbl := ⟨z_t4 (List.mem_of_getElem? (i := 235) rfl), z_t4 (List.mem_of_getElem? (i := 236) rfl)⟩
theorem ml_L_140 : Cond.methodLink RL 140 yX11_lasts ∈ lw_tbl := z_t7 (List.mem_of_getElem? (i := 230) rfl)
theorem vk_X11_lasts : Cond.instanceMethod yX11_lasts ∈ lw_tbl ∧ Cond.selects yX11_lasts.cls yX11_lasts yX11_lasts ∈ lw_tbl := ⟨z_t7 (List.mem_of_getElem? (i := 231) rfl), z_t7 (List.mem_of_getElem? (i := 232) rfl)⟩
theorem ml_L_141 : Cond.methodLink RL 141 yX10_seen ∈ lw_tbl := z_t4 (List.mem_of_getElem? (i := 238) rfl)
theorem vk_X10_seen : Cond.instanceMethod yX10_seen ∈ lw_tbl ∧ Cond.selects yX10_seen.cls yX10_seen yX10_seen ∈ lw_tbl := ⟨z_t4 (List.mem_of_getElem? (i := 239) rfl), z_t5 (List.mem_of_getElem? (i := 0) rfl)⟩
theorem ml_L_144 : Cond.methodLink RL 144 yX11_seen ∈ lw_tbl := z_t7 (List.mem_of_getElem? (i := 234) rfl)
theorem vk_X11_seen : Cond.instanceMethod yX11_seen ∈ lw_tbl ∧ Cond.selects yX11_seen.cls yX11_seen yX11_seen ∈ lw_tbl := ⟨z_t7 (List.mem_of_getElem? (i := 235) rfl), z_t7 (List.mem_of_getElem? (i := 236) rfl)⟩
theorem ml_L_145 : Cond.methodLink RL 145 yX10_forget ∈ lw_tbl := z_t5 (List.mem_of_getElem? (i := 2) rfl)
theorem vk_X10_forget : Cond.instanceMethod yX10_forget ∈ lw_tbl ∧ Cond.selects yX10_forget.cls yX10_forget yX10_forget ∈ lw_tbl := ⟨z_t5 (List.mem_of_getElem? (i := 3) rfl), z_t5 (List.mem_of_getElem? (i := 4) rfl)⟩
theorem ml_L_148 : Cond.methodLink RL 148 yX11_forget ∈ lw_tbl := z_t7 (List.mem_of_getElem? (i := 239) rfl)
theorem vk_X11_forget : Cond.instanceMethod yX11_forget ∈ lw_tbl ∧ Cond.selects yX11_forget.cls yX11_forget yX11_forget ∈ lw_tbl := ⟨z_t8 (List.mem_of_getElem? (i := 0) rfl), z_t8 (List.mem_of_getElem? (i := 1) rfl)⟩
theorem ml_L_149 : Cond.methodLink RL 149 yX10_canBe ∈ lw_tbl := z_t5 (List.mem_of_getElem? (i := 6) rfl)
theorem vk_X10_canBe : Cond.instanceMethod yX10_canBe ∈ lw_tbl ∧ Cond.selects yX10_canBe.cls yX10_canBe yX10_canBe ∈ lw_tbl := ⟨z_t5 (List.mem_of_getElem? (i := 7) rfl), z_t5 (List.mem_of_getElem? (i := 8) rfl)⟩
theorem ml_L_152 : Cond.methodLink RL 152 yX11_canBe ∈ lw_tbl := z_t8 (List.mem_of_getElem? (i := 3) rfl)
theorem vk_X11_canBe : Cond.instanceMethod yX11_canBe ∈ lw_tbl ∧ Cond.selects yX11_canBe.cls yX11_canBe yX11_canBe ∈ lw_tbl := ⟨z_t8 (List.mem_of_getElem? (i := 4) rfl), z_t8 (List.mem_of_getElem? (i := 5) rfl)⟩
theorem ml_L_153 : Cond.methodLink RL 153 yX10_look ∈ lw_tbl := z_t5 (List.mem_of_getElem? (i := 14) rfl)
theorem vk_X10_look : Cond.instanceMethod yX10_look ∈ lw_tbl ∧ Cond.selects yX10_look.cls yX10_look yX10_look ∈ lw_tbl := ⟨z_t5 (List.mem_of_getElem? (i := 15) rfl), z_t5 (List.mem_of_getElem? (i := 16) rfl)⟩
theorem ml_L_156 : Cond.methodLink RL 156 yX11_look ∈ lw_tbl := z_t8 (List.mem_of_getElem? (i := 11) rfl)
theorem vk_X11_look : Cond.instanceMethod yX11_look ∈ lw_tbl ∧ Cond.selects yX11_look.cls yX11_look yX11_look ∈ lw_tbl := ⟨z_t8 (List.mem_of_getElem? (i := 12) rfl), z_t8 (List.mem_of_getElem? (i := 13) rfl)⟩
theorem ml_L_157 : Cond.methodLink RL 157 yX10_cutOff ∈ lw_tbl := z_t5 (List.mem_of_getElem? (i := 27) rfl)
theorem vk_X10_cutOff : Cond.instanceMethod yX10_cutOff ∈ lw_tbl ∧ Cond.selects yX10_cutOff.cls yX10_cutOff yX10_cutOff ∈ lw_tbl := ⟨z_t5 (List.mem_of_getElem? (i := 28) rfl), z_t5 (List.mem_of_getElem? (i := 29) rfl)⟩
theorem ml_L_160 : Cond.methodLink RL 160 yX11_cutOff ∈ lw_tbl := z_t8 (List.mem_of_getElem? (i := 19) rfl)
theorem vk_X11_cutOff : Cond.instanceMethod yX11_cutOff ∈ lw_tbl ∧ Cond.selects yX11_cutOff.cls yX11_cutOff yX11_cutOff ∈ lw_tbl := ⟨z_t8 (List.mem_of_getElem? (i := 20) rfl), z_t8 (List.mem_of_getElem? (i := 21) rfl)⟩
theorem ml_L_161 : Cond.methodLink RL 161 yX10_few ∈ lw_tbl := z_t5 (List.mem_of_getElem? (i := 34) rfl)
theorem vk_X10_few : Cond.instanceMethod yX10_few ∈ lw_tbl ∧ Cond.selects yX10_few.cls yX10_few yX10_few ∈ lw_tbl := ⟨z_t5 (List.mem_of_getElem? (i := 35) rfl), z_t5 (List.mem_of_getElem? (i := 36) rfl)⟩
theorem ml_L_165 : Cond.methodLink RL 165 yX11_few ∈ lw_tbl := z_t8 (List.mem_of_getElem? (i := 24) rfl)
theorem vk_X11_few : Cond.instanceMethod yX11_few ∈ lw_tbl ∧ Cond.selects yX11_few.cls yX11_few yX11_few ∈ lw_tbl := ⟨z_t8 (List.mem_of_getElem? (i := 25) rfl), z_t8 (List.mem_of_getElem? (i := 26) rfl)⟩
theorem ml_L_166 : Cond.methodLink RL 166 yX10_compare ∈ lw_tbl := z_t5 (List.mem_of_getElem? (i := 43) rfl)
theorem vk_X10_compare : Cond.instanceMethod yX10_compare ∈ lw_tbl ∧ Cond.selects yX10_compare.cls yX10_compare yX10_compare ∈ lw_tbl := ⟨z_t5 (List.mem_of_getElem? (i := 44) rfl), z_t5 (List.mem_of_getElem? (i := 45) rfl)⟩
theorem ml_L_169 : Cond.methodLink RL 169 yX11_compare ∈ lw_tbl := z_t8 (List.mem_of_getElem? (i := 28) rfl)
theorem vk_X11_compare : Cond.instanceMethod yX11_compare ∈ lw_tbl ∧ Cond.selects yX11_compare.cls yX11_compare yX11_compare ∈ lw_tbl := ⟨z_t8 (List.mem_of_getElem? (i := 29) rfl), z_t8 (List.mem_of_getElem? (i := 30) rfl)⟩
theorem ml_L_170 : Cond.methodLink RL 170 yX10_years ∈ lw_tbl := z_t5 (List.mem_of_getElem? (i := 48) rfl)
theorem vk_X10_years : Cond.instanceMethod yX10_years ∈ lw_tbl ∧ Cond.selects yX10_years.cls yX10_years yX10_years ∈ lw_tbl := ⟨z_t5 (List.mem_of_getElem? (i := 49) rfl), z_t5 (List.mem_of_getElem? (i := 50) rfl)⟩
theorem ml_L_173 : Cond.methodLink RL 173 yX11_years ∈ lw_tbl := z_t8 (List.mem_of_getElem? (i := 71) rfl)
theorem vk_X11_years : Cond.instanceMethod yX11_years ∈ lw_tbl ∧ Cond.selects yX11_years.cls yX11_years yX11_years ∈ lw_tbl := ⟨z_t8 (List.mem_of_getElem? (i := 72) rfl), z_t8 (List.mem_of_getElem? (i := 73) rfl)⟩
theorem ml_L_174 : Cond.methodLink RL 174 yX10_drawn ∈ lw_tbl := z_t5 (List.mem_of_getElem? (i := 64) rfl)
theorem vk_X10_drawn : Cond.instanceMethod yX10_drawn ∈ lw_tbl ∧ Cond.selects yX10_drawn.cls yX10_drawn yX10_drawn ∈ lw_tbl := ⟨z_t5 (List.mem_of_getElem? (i := 65) rfl), z_t5 (List.mem_of_getElem? (i := 66) rfl)⟩
theorem ml_L_177 : Cond.methodLink RL 177 yX11_drawn ∈ lw_tbl := z_t8 (List.mem_of_getElem? (i := 83) rfl)
theorem vk_X11_drawn : Cond.instanceMethod yX11_drawn ∈ lw_tbl ∧ Cond.selects yX11_drawn.cls yX11_drawn yX11_drawn ∈ lw_tbl := ⟨z_t8 (List.mem_of_getElem? (i := 84) rfl), z_t8 (List.mem_of_getElem? (i := 85) rfl)⟩
theorem ml_L_178 : Cond.methodLink RL 178 yX10_image ∈ lw_tbl := z_t5 (List.mem_of_getElem? (i := 68) rfl)
theorem vk_X10_image : Cond.instanceMethod yX10_image ∈ lw_tbl ∧ Cond.selects yX10_image.cls yX10_image yX10_image ∈ lw_tbl := ⟨z_t5 (List.mem_of_getElem? (i := 69) rfl), z_t5 (List.mem_of_getElem? (i := 70) rfl)⟩
theorem ml_L_181 : Cond.methodLink RL 181 yX11_image ∈ lw_tbl := z_t6 (List.mem_of_getElem? (i := 67) rfl)
theorem vk_X11_image : Cond.instanceMethod yX11_image ∈ lw_tbl ∧ Cond.selects yX11_image.cls yX11_image yX11_image ∈ lw_tbl := ⟨z_t6 (List.mem_of_getElem? (i := 68) rfl), z_t6 (List.mem_of_getElem? (i := 69) rfl)⟩
theorem ml_L_182 : Cond.methodLink RL 182 yX10_back ∈ lw_tbl := z_t5 (List.mem_of_getElem? (i := 72) rfl)
theorem vk_X10_back : Cond.instanceMethod yX10_back ∈ lw_tbl ∧ Cond.selects yX10_back.cls yX10_back yX10_back ∈ lw_tbl := ⟨z_t5 (List.mem_of_getElem? (i := 73) rfl), z_t5 (List.mem_of_getElem? (i := 74) rfl)⟩
theorem ml_L_185 : Cond.methodLink RL 185 yX11_back ∈ lw_tbl := z_t6 (List.mem_of_getElem? (i := 74) rfl)
theorem vk_X11_back : Cond.instanceMethod yX11_back ∈ lw_tbl ∧ Cond.selects yX11_back.cls yX11_back yX11_back ∈ lw_tbl := ⟨z_t6 (List.mem_of_getElem? (i := 75) rfl), z_t6 (List.mem_of_getElem? (i := 76) rfl)⟩
theorem ml_L_186 : Cond.methodLink RL 186 yX10_count ∈ lw_tbl := z_t5 (List.mem_of_getElem? (i := 76) rfl)
theorem vk_X10_count : Cond.instanceMethod yX10_count ∈ lw_tbl ∧ Cond.selects yX10_count.cls yX10_count yX10_count ∈ lw_tbl := ⟨z_t5 (List.mem_of_getElem? (i := 77) rfl), z_t5 (List.mem_of_getElem? (i := 78) rfl)⟩
theorem ml_L_189 : Cond.methodLink RL 189 yX11_count ∈ lw_tbl := z_t8 (List.mem_of_getElem? (i := 87) rfl)
theorem vk_X11_count : Cond.instanceMethod yX11_count ∈ lw_tbl ∧ Cond.selects yX11_count.cls yX11_count yX11_count ∈ lw_tbl := ⟨z_t8 (List.mem_of_getElem? (i := 88) rfl), z_t8 (List.mem_of_getElem? (i := 89) rfl)⟩
theorem ml_L_190 : Cond.methodLink RL 190 yX10_status ∈ lw_tbl := z_t5 (List.mem_of_getElem? (i := 83) rfl)
theorem vk_X10_status : Cond.instanceMethod yX10_status ∈ lw_tbl ∧ Cond.selects yX10_status.cls yX10_status yX10_status ∈ lw_tbl := ⟨z_t5 (List.mem_of_getElem? (i := 84) rfl), z_t5 (List.mem_of_getElem? (i := 85) rfl)⟩
theorem ml_L_193 : Cond.methodLink RL 193 yX11_status ∈ lw_tbl := z_t8 (List.mem_of_getElem? (i := 93) rfl)
theorem vk_X11_status : Cond.instanceMethod yX11_status ∈ lw_tbl ∧ Cond.selects yX11_status.cls yX11_status yX11_status ∈ lw_tbl := ⟨z_t8 (List.mem_of_getElem? (i := 94) rfl), z_t8 (List.mem_of_getElem? (i := 95) rfl)⟩
theorem nk_L_7 : z_nk RL 7 10 15 [.null, .null, .null, .null, .null, .null, .null, .null, .null, .null, .null, .null, .null, .int 0, .int 0] := ⟨RX10, TX10, tyX10, rfl, tyX10_ok, in_X10, z_t1 (List.mem_of_getElem? (i := 21) rfl), z_t1 (List.mem_of_getElem? (i := 22) rfl), z_t1 (List.mem_of_getElem? (i := 1) rfl), by decide +kernel, fun _ => rfl⟩
theorem ml_L_9 : Cond.methodLink RL 9 yX10_init ∈ lw_tbl := z_t1 (List.mem_of_getElem? (i := 23) rfl)
theorem im_X10_init : Cond.instanceMethod yX10_init ∈ lw_tbl := z_t1 (List.mem_of_getElem? (i := 24) rfl)
theorem nk_L_10 : z_nk RL 10 11 59 [.int 0, .int 0, .null, .null, .null, .null, .null, .null, .int 0, .null, .null, .int 0, .null, .int 0, .int 0, .int 0, .int 0, .long 0, .int 0, .int 0, .int 0, .int 0, .null, .int 0, .null, .null, .int 0, .null, .null, .int 0, .int 0, .null, .null, .null, .int 0, .null, .null, .null, .int 0, .long 0, .long 0, .null, .null, .null, .null, .null, .null, .null, .null, .null, .null, .null, .int 0, .int 0, .int 0, .int 0, .long 0, .null, .int 0] := ⟨RX11, TX11, tyX11, rfl, tyX11_ok, in_X11, z_t5 (List.mem_of_getElem? (i := 87) rfl), z_t5 (List.mem_of_getElem? (i := 88) rfl), z_t1 (List.mem_of_getElem? (i := 12) rfl), by decide +kernel, fun _ => rfl⟩
theorem ml_L_12 : Cond.methodLink RL 12 yX11_init ∈ lw_tbl := z_t5 (List.mem_of_getElem? (i := 89) rfl)
theorem im_X11_init : Cond.instanceMethod yX11_init ∈ lw_tbl := z_t5 (List.mem_of_getElem? (i := 90) rfl)
theorem ck_J0_coder_7d493 : z_ck M_J0_coder_7d493 0 := ⟨z_t3 (List.mem_of_getElem? (i := 94) rfl), z_t1 (List.mem_of_getElem? (i := 14) rfl), ⟨by decide +kernel, by decide +kernel, by decide +kernel⟩, by decide, by decide +kernel⟩
theorem ck_J0_isLatin1_aae02 : z_ck M_J0_isLatin1_aae02 0 := ⟨z_t3 (List.mem_of_getElem? (i := 104) rfl), z_t1 (List.mem_of_getElem? (i := 14) rfl), ⟨by decide +kernel, by decide +kernel, by decide +kernel⟩, by decide, by decide +kernel⟩
theorem ck_J0_checkIndex_df160 : z_ck M_J0_checkIndex_df160 2 := ⟨z_t3 (List.mem_of_getElem? (i := 110) rfl), z_t1 (List.mem_of_getElem? (i := 14) rfl), ⟨by decide +kernel, by decide +kernel, by decide +kernel⟩, by decide, by decide +kernel⟩
theorem ck_J1_charAt_3b067 : z_ck M_J1_charAt_3b067 2 := ⟨z_t3 (List.mem_of_getElem? (i := 107) rfl), z_t1 (List.mem_of_getElem? (i := 15) rfl), ⟨by decide +kernel, by decide +kernel, by decide +kernel⟩, by decide, by decide +kernel⟩
theorem ck_J3_checkIndex_8e157 : z_ck M_J3_checkIndex_8e157 3 := ⟨z_t3 (List.mem_of_getElem? (i := 115) rfl), z_t1 (List.mem_of_getElem? (i := 16) rfl), ⟨by decide +kernel, by decide +kernel, by decide +kernel⟩, by decide, by decide +kernel⟩
theorem vk_J0_coder_7d493 : Cond.instanceMethod yJ0_coder_7d493 ∈ lw_tbl ∧ Cond.selects yJ0_coder_7d493.cls yJ0_coder_7d493 yJ0_coder_7d493 ∈ lw_tbl := ⟨z_t3 (List.mem_of_getElem? (i := 92) rfl), z_t3 (List.mem_of_getElem? (i := 93) rfl)⟩
theorem ml_J0_335 : Cond.methodLink RJ0 335 yJ0_coder_7d493 ∈ lw_tbl := z_t3 (List.mem_of_getElem? (i := 91) rfl)
theorem ml_J0_492 : Cond.methodLink RJ0 492 yJ0_isLatin1_aae02 ∈ lw_tbl := z_t3 (List.mem_of_getElem? (i := 101) rfl)
theorem vk_J0_isLatin1_aae02 : Cond.instanceMethod yJ0_isLatin1_aae02 ∈ lw_tbl ∧ Cond.selects yJ0_isLatin1_aae02.cls yJ0_isLatin1_aae02 yJ0_isLatin1_aae02 ∈ lw_tbl := ⟨z_t3 (List.mem_of_getElem? (i := 102) rfl), z_t3 (List.mem_of_getElem? (i := 103) rfl)⟩
theorem st_J0_checkIndex_df160 : Cond.static yJ0_checkIndex_df160 ∈ lw_tbl := z_t3 (List.mem_of_getElem? (i := 109) rfl)
theorem st_J1_charAt_3b067 : Cond.static yJ1_charAt_3b067 ∈ lw_tbl := z_t3 (List.mem_of_getElem? (i := 106) rfl)
theorem st_J3_checkIndex_8e157 : Cond.static yJ3_checkIndex_8e157 ∈ lw_tbl := z_t3 (List.mem_of_getElem? (i := 114) rfl)
theorem ml_J0_495 : Cond.methodLink RJ0 495 yJ1_charAt_3b067 ∈ lw_tbl := z_t3 (List.mem_of_getElem? (i := 105) rfl)
theorem ml_J0_1059 : Cond.methodLink RJ0 1059 yJ3_checkIndex_8e157 ∈ lw_tbl := z_t3 (List.mem_of_getElem? (i := 113) rfl)
theorem ml_J1_9 : Cond.methodLink RJ1 9 yJ0_checkIndex_df160 ∈ lw_tbl := z_t3 (List.mem_of_getElem? (i := 108) rfl)
theorem z_mw_min : z_mw Lib.Math.min.name Lib.Math.min.code 2 := ⟨z_t3 (List.mem_of_getElem? (i := 24) rfl), z_t1 (List.mem_of_getElem? (i := 13) rfl), z_t3 (List.mem_of_getElem? (i := 25) rfl)⟩
theorem z_mw_max : z_mw Lib.Math.max.name Lib.Math.max.code 2 := ⟨z_t2 (List.mem_of_getElem? (i := 236) rfl), z_t1 (List.mem_of_getElem? (i := 13) rfl), z_t2 (List.mem_of_getElem? (i := 237) rfl)⟩
theorem z_mw_abs : z_mw Lib.Math.abs.name Lib.Math.abs.code 1 := ⟨z_t4 (List.mem_of_getElem? (i := 224) rfl), z_t1 (List.mem_of_getElem? (i := 13) rfl), z_t4 (List.mem_of_getElem? (i := 225) rfl)⟩
theorem z_ob1 : Cond.instanceMethod Lib.objectInit ∈ lw_tbl := z_t1 (List.mem_of_getElem? (i := 27) rfl)
theorem z_ob2 : Cond.code Lib.objectInit ⟨#[0xb1]⟩ 1 none ∈ lw_tbl := z_t1 (List.mem_of_getElem? (i := 28) rfl)
theorem z_sf_9 : Cond.fieldLink RJ0 9 "java/lang/String" "value" "[B" ∈ lw_tbl := z_t8 (List.mem_of_getElem? (i := 97) rfl)
theorem z_sf_15 : Cond.fieldLink RJ0 15 "java/lang/String" "coder" "B" ∈ lw_tbl := z_t8 (List.mem_of_getElem? (i := 98) rfl)
theorem z_sf_38 : Cond.fieldLink RJ0 38 "java/lang/String" "COMPACT_STRINGS" "Z" ∈ lw_tbl := z_t3 (List.mem_of_getElem? (i := 95) rfl)
theorem z_sf_1053 : Cond.fieldLink RJ0 1053 "jdk/internal/util/Preconditions" "SIOOBE_FORMATTER" "Ljava/util/function/BiFunction;" ∈ lw_tbl := z_t3 (List.mem_of_getElem? (i := 111) rfl)
theorem z_acok : z_acw := ⟨z_t3 (List.mem_of_getElem? (i := 218) rfl), z_t3 (List.mem_of_getElem? (i := 217) rfl), z_t1 (List.mem_of_getElem? (i := 18) rfl)⟩
theorem z_obj {G : z_G} {l : Launch} {d : Nat} {M : z_M} {pc : Nat} {L : List (Nat × Value)} {S : List Value} {h hF : z_H} {r : Option Value} {index : Nat} {q : Option Nat} (hq : ¬ q = none) (hw : Cond.methodLink M.1.cls index Lib.objectInit ∈ lw_tbl) (hS0 : (S.map Value.category).sum ≤ 8) (hd1 : 1 ≤ d) (hd : decode M.2.1 pc = .ok (.invokespecial index, 3)) (kk : z_Run G l d M (pc + 3) L S h hF r) : z_Run G l d M pc L (z_r q :: S) h hF r := by
  cases q with
  | none => exact absurd rfl hq
  | some a => exact z_objI hw hS0 hd1 hd z_ob1 z_ob2 kk
theorem z_nul {G : z_G} {l : Launch} {d : Nat} {M : z_M} {pc : Nat} {L : List (Nat × Value)} {S : List Value} {h hF : z_H} {r : Option Value} (kk : z_Run G l d M pc L (z_r none :: S) h hF r) : z_Run G l d M pc L (.null :: S) h hF r := kk
theorem z_ci (x : Int32) : (Value.int x).category = 1 := rfl
theorem z_cj (x : Int64) : (Value.long x).category = 2 := rfl
theorem z_cx (x : Nat) : (Value.retAddr x).category = 1 := rfl
def z_xs (k : Nat) : Nat × (Nat → Int32) := match k with
  | 1 => (3, fun j => [999, 10, 9].getD j 0)
  | 2 => (5, fun j => [1, 2, 3, 5, 6].getD j 0)
  | 3 => (8, fun j => [1, 2, 1, 2, 0, 1, 1, 0].getD j 0)
  | _ => (0, fun _ => 0)
