abbrev mX0_init : MMeth := (yX0_init, cX0_init, 3, none)
abbrev mX0_isHex : MMeth := (yX0_isHex, cX0_isHex, 1, some .boolean)
abbrev mX0_isDirection : MMeth := (yX0_isDirection, cX0_isDirection, 1, some .boolean)
abbrev mX0_opposite : MMeth := (yX0_opposite, cX0_opposite, 1, some .int)
abbrev mX0_stepFrom : MMeth := (yX0_stepFrom, cX0_stepFrom, 7, some .int)
abbrev mX0_stepsBetween : MMeth := (yX0_stepsBetween, cX0_stepsBetween, 4, some .int)
abbrev mX0_slantOf : MMeth := (yX0_slantOf, cX0_slantOf, 1, some .int)
abbrev mX0_neighbourCount : MMeth := (yX0_neighbourCount, cX0_neighbourCount, 4, some .int)
abbrev mX0_directionTo : MMeth := (yX0_directionTo, cX0_directionTo, 4, some .int)
abbrev mX1_init : MMeth := (yX1_init, cX1_init, 3, none)
abbrev mX1_weigh : MMeth := (yX1_weigh, cX1_weigh, 5, none)
abbrev mX1_powerOfAttack : MMeth := (yX1_powerOfAttack, cX1_powerOfAttack, 7, some .int)
abbrev mX1_powerOfDefence : MMeth := (yX1_powerOfDefence, cX1_powerOfDefence, 5, some .int)
abbrev mX2_init : MMeth := (yX2_init, cX2_init, 3, none)
abbrev mX2_record : MMeth := (yX2_record, cX2_record, 2, none)
abbrev mX2_takeBack : MMeth := (yX2_takeBack, cX2_takeBack, 2, some .boolean)
abbrev mX3_init : MMeth := (yX3_init, cX3_init, 1, none)
abbrev mX3_append : MMeth := (yX3_append, cX3_append, 2, some .boolean)
abbrev mX3_read : MMeth := (yX3_read, cX3_read, 3, some .int)
abbrev mX3_stageAfter : MMeth := (yX3_stageAfter, cX3_stageAfter, 3, some .int)
abbrev mX3_isIn : MMeth := (yX3_isIn, cX3_isIn, 3, some .boolean)
abbrev mX3_readFirst : MMeth := (yX3_readFirst, cX3_readFirst, 3, some .int)
abbrev mX3_readUnit : MMeth := (yX3_readUnit, cX3_readUnit, 2, some .int)
abbrev mX3_readSign : MMeth := (yX3_readSign, cX3_readSign, 2, some .int)
abbrev mX3_readColumn : MMeth := (yX3_readColumn, cX3_readColumn, 2, some .int)
abbrev mX3_readRow : MMeth := (yX3_readRow, cX3_readRow, 3, some .int)
abbrev mX3_addOrder : MMeth := (yX3_addOrder, cX3_addOrder, 2, some .int)
abbrev mX4_init : MMeth := (yX4_init, cX4_init, 2, none)
abbrev mX4_copyFrom : MMeth := (yX4_copyFrom, cX4_copyFrom, 2, none)
abbrev mX4_sideInTurn : MMeth := (yX4_sideInTurn, cX4_sideInTurn, 1, some .int)
abbrev mX4_isUnit : MMeth := (yX4_isUnit, cX4_isUnit, 2, some .boolean)
abbrev mX4_isUnitOf : MMeth := (yX4_isUnitOf, cX4_isUnitOf, 3, some .boolean)
abbrev mX4_sideOn : MMeth := (yX4_sideOn, cX4_sideOn, 3, some .int)
abbrev mX4_hasFort : MMeth := (yX4_hasFort, cX4_hasFort, 2, some .boolean)
abbrev mX4_hasRiver : MMeth := (yX4_hasRiver, cX4_hasRiver, 3, some .boolean)
abbrev mX4_addUnit : MMeth := (yX4_addUnit, cX4_addUnit, 5, some .int)
abbrev mX4_shift : MMeth := (yX4_shift, cX4_shift, 3, none)
abbrev mX4_stand : MMeth := (yX4_stand, cX4_stand, 3, none)
abbrev mX4_giveFortToUnit : MMeth := (yX4_giveFortToUnit, cX4_giveFortToUnit, 2, none)
abbrev mX4_setStrength : MMeth := (yX4_setStrength, cX4_setStrength, 3, none)
abbrev mX4_refresh : MMeth := (yX4_refresh, cX4_refresh, 3, none)
abbrev mX4_inZone : MMeth := (yX4_inZone, cX4_inZone, 5, some .boolean)
abbrev mX4_isSeen : MMeth := (yX4_isSeen, cX4_isSeen, 3, some .boolean)
abbrev mX4_isSeenByUnit : MMeth := (yX4_isSeenByUnit, cX4_isSeenByUnit, 5, some .boolean)
abbrev mX4_isSeenByFort : MMeth := (yX4_isSeenByFort, cX4_isSeenByFort, 5, some .boolean)
abbrev mX4_seenCount : MMeth := (yX4_seenCount, cX4_seenCount, 4, some .int)
abbrev mX4_unitCount : MMeth := (yX4_unitCount, cX4_unitCount, 4, some .int)
abbrev mX4_strengthOf : MMeth := (yX4_strengthOf, cX4_strengthOf, 4, some .int)
abbrev mX4_fortCount : MMeth := (yX4_fortCount, cX4_fortCount, 4, some .int)
abbrev mX4_riverCount : MMeth := (yX4_riverCount, cX4_riverCount, 3, some .int)
abbrev mX5_init : MMeth := (yX5_init, cX5_init, 2, none)
abbrev mX5_measure : MMeth := (yX5_measure, cX5_measure, 5, none)
abbrev mX5_spread : MMeth := (yX5_spread, cX5_spread, 4, none)
abbrev mX5_isFree : MMeth := (yX5_isFree, cX5_isFree, 4, some .boolean)
abbrev mX5_reaches : MMeth := (yX5_reaches, cX5_reaches, 2, some .boolean)
abbrev mX6_init : MMeth := (yX6_init, cX6_init, 2, none)
abbrev mX6_measure : MMeth := (yX6_measure, cX6_measure, 7, none)
abbrev mX6_goOn : MMeth := (yX6_goOn, cX6_goOn, 7, none)
abbrev mX6_costOfStep : MMeth := (yX6_costOfStep, cX6_costOfStep, 5, some .int)
abbrev mX6_canEndOn : MMeth := (yX6_canEndOn, cX6_canEndOn, 3, some .boolean)
abbrev mX6_endCount : MMeth := (yX6_endCount, cX6_endCount, 4, some .int)
abbrev mX7_init : MMeth := (yX7_init, cX7_init, 1, none)
abbrev mX7_ground : MMeth := (yX7_ground, cX7_ground, 4, some .int)
abbrev mX7_river : MMeth := (yX7_river, cX7_river, 5, some .int)
abbrev mX7_fort : MMeth := (yX7_fort, cX7_fort, 4, some .int)
abbrev mX7_base : MMeth := (yX7_base, cX7_base, 4, some .int)
abbrev mX7_place : MMeth := (yX7_place, cX7_place, 4, some .int)
abbrev mX7_move : MMeth := (yX7_move, cX7_move, 3, some .int)
abbrev mX7_attack : MMeth := (yX7_attack, cX7_attack, 3, some .int)
abbrev mX7_endTurn : MMeth := (yX7_endTurn, cX7_endTurn, 1, some .int)
abbrev mX7_perform : MMeth := (yX7_perform, cX7_perform, 4, some .int)
abbrev mX7_recordedIfDone : MMeth := (yX7_recordedIfDone, cX7_recordedIfDone, 2, some .int)
abbrev mX7_moveUnit : MMeth := (yX7_moveUnit, cX7_moveUnit, 3, some .int)
abbrev mX7_strike : MMeth := (yX7_strike, cX7_strike, 4, some .int)
abbrev mX7_canFight : MMeth := (yX7_canFight, cX7_canFight, 3, some .boolean)
abbrev mX7_finishTurn : MMeth := (yX7_finishTurn, cX7_finishTurn, 2, some .int)
abbrev mX7_starve : MMeth := (yX7_starve, cX7_starve, 4, some .int)
abbrev mX7_type : MMeth := (yX7_type, cX7_type, 2, some .int)
abbrev mX7_clearText : MMeth := (yX7_clearText, cX7_clearText, 2, some .int)
abbrev mX7_undo : MMeth := (yX7_undo, cX7_undo, 1, some .int)
abbrev mX7_keep : MMeth := (yX7_keep, cX7_keep, 1, some .int)
abbrev mX7_restore : MMeth := (yX7_restore, cX7_restore, 1, some .int)
abbrev mX7_hex : MMeth := (yX7_hex, cX7_hex, 3, some .int)
abbrev mX7_beside : MMeth := (yX7_beside, cX7_beside, 4, some .int)
abbrev mX7_distance : MMeth := (yX7_distance, cX7_distance, 3, some .int)
abbrev mX7_unit : MMeth := (yX7_unit, cX7_unit, 5, some .int)
abbrev mX7_cost : MMeth := (yX7_cost, cX7_cost, 3, some .int)
abbrev mX7_would : MMeth := (yX7_would, cX7_would, 4, some .int)
abbrev mX7_besieged : MMeth := (yX7_besieged, cX7_besieged, 5, some .int)
abbrev mX7_count : MMeth := (yX7_count, cX7_count, 2, some .int)
abbrev mX7_isSide : MMeth := (yX7_isSide, cX7_isSide, 1, some .boolean)
abbrev mX7_oneIf : MMeth := (yX7_oneIf, cX7_oneIf, 1, some .int)
abbrev mX8_init : MMeth := (yX8_init, cX8_init, 1, none)
abbrev mX8_in : MMeth := (yX8_in, cX8_in, 3, some .boolean)
abbrev mX8_isHex : MMeth := (yX8_isHex, cX8_isHex, 1, some .boolean)
abbrev mX8_of : MMeth := (yX8_of, cX8_of, 3, some .int)
abbrev mX8_lay : MMeth := (yX8_lay, cX8_lay, 4, none)
abbrev mX8_isUnit : MMeth := (yX8_isUnit, cX8_isUnit, 2, some .boolean)
abbrev mX8_records : MMeth := (yX8_records, cX8_records, 2, none)
abbrev mX8_putAside : MMeth := (yX8_putAside, cX8_putAside, 2, none)
abbrev mX8_takeBack : MMeth := (yX8_takeBack, cX8_takeBack, 2, none)
abbrev mX8_next : MMeth := (yX8_next, cX8_next, 5, some .int)
abbrev mX8_directionTo : MMeth := (yX8_directionTo, cX8_directionTo, 3, some .int)
abbrev mX8_hasRiver : MMeth := (yX8_hasRiver, cX8_hasRiver, 3, some .boolean)
abbrev mX8_unitOn : MMeth := (yX8_unitOn, cX8_unitOn, 3, some .int)
abbrev mX8_isOn : MMeth := (yX8_isOn, cX8_isOn, 4, some .boolean)
abbrev mX8_isInZone : MMeth := (yX8_isInZone, cX8_isInZone, 6, some .boolean)
abbrev mX8_laysZone : MMeth := (yX8_laysZone, cX8_laysZone, 3, none)
abbrev mX8_laysDistances : MMeth := (yX8_laysDistances, cX8_laysDistances, 6, none)
abbrev mX8_stands : MMeth := (yX8_stands, cX8_stands, 3, none)
abbrev mX8_entering : MMeth := (yX8_entering, cX8_entering, 4, some .int)
abbrev mX8_laysWays : MMeth := (yX8_laysWays, cX8_laysWays, 8, none)
abbrev mX8_cheapest : MMeth := (yX8_cheapest, cX8_cheapest, 3, some .int)
abbrev mX8_canReach : MMeth := (yX8_canReach, cX8_canReach, 3, some .boolean)
abbrev mX8_isSource : MMeth := (yX8_isSource, cX8_isSource, 3, some .boolean)
abbrev mX8_isFree : MMeth := (yX8_isFree, cX8_isFree, 3, some .boolean)
abbrev mX8_toSource : MMeth := (yX8_toSource, cX8_toSource, 7, some .int)
abbrev mX8_isSupplied : MMeth := (yX8_isSupplied, cX8_isSupplied, 2, some .boolean)
abbrev mX8_sees : MMeth := (yX8_sees, cX8_sees, 6, some .boolean)
abbrev mX8_power : MMeth := (yX8_power, cX8_power, 4, some .int)
abbrev mX8_defence : MMeth := (yX8_defence, cX8_defence, 4, some .int)
abbrev mX8_weakened : MMeth := (yX8_weakened, cX8_weakened, 4, some .int)
abbrev mX8_canFight : MMeth := (yX8_canFight, cX8_canFight, 3, some .boolean)
abbrev mX8_fights : MMeth := (yX8_fights, cX8_fights, 6, some .int)
abbrev mX8_ground : MMeth := (yX8_ground, cX8_ground, 4, some .int)
abbrev mX8_rivers : MMeth := (yX8_rivers, cX8_rivers, 4, some .int)
abbrev mX8_river : MMeth := (yX8_river, cX8_river, 5, some .int)
abbrev mX8_forts : MMeth := (yX8_forts, cX8_forts, 4, some .int)
abbrev mX8_fort : MMeth := (yX8_fort, cX8_fort, 4, some .int)
abbrev mX8_base : MMeth := (yX8_base, cX8_base, 4, some .int)
abbrev mX8_place : MMeth := (yX8_place, cX8_place, 5, some .int)
abbrev mX8_isAtTurn : MMeth := (yX8_isAtTurn, cX8_isAtTurn, 2, some .boolean)
abbrev mX8_refusesMove : MMeth := (yX8_refusesMove, cX8_refusesMove, 3, some .int)
abbrev mX8_moves : MMeth := (yX8_moves, cX8_moves, 3, some .int)
abbrev mX8_move : MMeth := (yX8_move, cX8_move, 4, some .int)
abbrev mX8_refusesAttack : MMeth := (yX8_refusesAttack, cX8_refusesAttack, 3, some .int)
abbrev mX8_attack : MMeth := (yX8_attack, cX8_attack, 4, some .int)
abbrev mX8_ends : MMeth := (yX8_ends, cX8_ends, 4, some .int)
abbrev mX8_endTurn : MMeth := (yX8_endTurn, cX8_endTurn, 1, some .int)
abbrev mX8_type : MMeth := (yX8_type, cX8_type, 2, some .int)
abbrev mX8_clearText : MMeth := (yX8_clearText, cX8_clearText, 2, some .int)
abbrev mX8_sign : MMeth := (yX8_sign, cX8_sign, 1, some .int)
abbrev mX8_takes : MMeth := (yX8_takes, cX8_takes, 4, some .int)
abbrev mX8_readsOrder : MMeth := (yX8_readsOrder, cX8_readsOrder, 5, none)
abbrev mX8_reads : MMeth := (yX8_reads, cX8_reads, 1, some .int)
abbrev mX8_does : MMeth := (yX8_does, cX8_does, 5, some .int)
abbrev mX8_perform : MMeth := (yX8_perform, cX8_perform, 4, some .int)
abbrev mX8_undo : MMeth := (yX8_undo, cX8_undo, 2, some .int)
abbrev mX8_keep : MMeth := (yX8_keep, cX8_keep, 2, some .int)
abbrev mX8_restore : MMeth := (yX8_restore, cX8_restore, 2, some .int)
abbrev mX8_besides : MMeth := (yX8_besides, cX8_besides, 4, some .int)
abbrev mX8_hex : MMeth := (yX8_hex, cX8_hex, 3, some .int)
abbrev mX8_beside : MMeth := (yX8_beside, cX8_beside, 3, some .int)
abbrev mX8_distance : MMeth := (yX8_distance, cX8_distance, 3, some .int)
abbrev mX8_reaches : MMeth := (yX8_reaches, cX8_reaches, 4, some .int)
abbrev mX8_unit : MMeth := (yX8_unit, cX8_unit, 3, some .int)
abbrev mX8_cost : MMeth := (yX8_cost, cX8_cost, 3, some .int)
abbrev mX8_would : MMeth := (yX8_would, cX8_would, 7, some .int)
abbrev mX8_besieged : MMeth := (yX8_besieged, cX8_besieged, 6, some .int)
abbrev mX8_unitsOf : MMeth := (yX8_unitsOf, cX8_unitsOf, 6, some .int)
abbrev mX8_seen : MMeth := (yX8_seen, cX8_seen, 4, some .int)
abbrev mX8_count : MMeth := (yX8_count, cX8_count, 2, some .int)
abbrev mJ6_bitCount_0f7a4 : MMeth := (yJ6_bitCount_0f7a4, cJ6_bitCount_0f7a4, 1, some .int)
abbrev mJ9_abs_0f7a4 : MMeth := (yJ9_abs_0f7a4, cJ9_abs_0f7a4, 1, some .int)
abbrev mJ9_max_7cf53 : MMeth := (yJ9_max_7cf53, cJ9_max_7cf53, 2, some .int)
abbrev mJ9_min_7cf53 : MMeth := (yJ9_min_7cf53, cJ9_min_7cf53, 2, some .int)
abbrev mJ7_fill_53178 : MMeth := (yJ7_fill_53178, cJ7_fill_53178, 4, none)
theorem fl_X0_9 : mmFL RX0 9 0 0 := ⟨RX0, TX0, 1, rfl, by decide, inX0, mmW_1 37 rfl rfl⟩
theorem fl_X5_39 : mmFL RX5 39 0 0 := ⟨RX0, TX0, 1, rfl, by decide, inX0, mmW_1 38 rfl rfl⟩
theorem fl_X6_44 : mmFL RX6 44 0 0 := ⟨RX0, TX0, 1, rfl, by decide, inX0, mmW_1 39 rfl rfl⟩
theorem fl_X7_83 : mmFL RX7 83 0 0 := ⟨RX0, TX0, 1, rfl, by decide, inX0, mmW_1 40 rfl rfl⟩
theorem fl_X4_97 : mmFL RX4 97 0 0 := ⟨RX0, TX0, 1, rfl, by decide, inX0, mmW_1 41 rfl rfl⟩
theorem fl_X4_45 : mmFL RX4 45 4 0 := ⟨RX4, TX4, 14, rfl, by decide, inX4, mmW_1 55 rfl rfl⟩
theorem fl_X4_9 : mmFL RX4 9 4 1 := ⟨RX4, TX4, 14, rfl, by decide, inX4, mmW_1 56 rfl rfl⟩
theorem fl_X7_72 : mmFL RX7 72 4 1 := ⟨RX4, TX4, 14, rfl, by decide, inX4, mmW_1 57 rfl rfl⟩
theorem fl_X6_59 : mmFL RX6 59 4 1 := ⟨RX4, TX4, 14, rfl, by decide, inX4, mmW_1 58 rfl rfl⟩
theorem fl_X1_82 : mmFL RX1 82 4 1 := ⟨RX4, TX4, 14, rfl, by decide, inX4, mmW_1 59 rfl rfl⟩
theorem fl_X4_15 : mmFL RX4 15 4 2 := ⟨RX4, TX4, 14, rfl, by decide, inX4, mmW_1 60 rfl rfl⟩
theorem fl_X7_90 : mmFL RX7 90 4 2 := ⟨RX4, TX4, 14, rfl, by decide, inX4, mmW_1 61 rfl rfl⟩
theorem fl_X4_18 : mmFL RX4 18 4 3 := ⟨RX4, TX4, 14, rfl, by decide, inX4, mmW_1 62 rfl rfl⟩
theorem fl_X5_32 : mmFL RX5 32 4 3 := ⟨RX4, TX4, 14, rfl, by decide, inX4, mmW_1 63 rfl rfl⟩
theorem fl_X7_107 : mmFL RX7 107 4 3 := ⟨RX4, TX4, 14, rfl, by decide, inX4, mmW_1 64 rfl rfl⟩
theorem fl_X4_21 : mmFL RX4 21 4 4 := ⟨RX4, TX4, 14, rfl, by decide, inX4, mmW_1 65 rfl rfl⟩
theorem fl_X7_196 : mmFL RX7 196 4 4 := ⟨RX4, TX4, 14, rfl, by decide, inX4, mmW_1 66 rfl rfl⟩
theorem fl_X4_24 : mmFL RX4 24 4 5 := ⟨RX4, TX4, 14, rfl, by decide, inX4, mmW_1 67 rfl rfl⟩
theorem fl_X5_27 : mmFL RX5 27 4 5 := ⟨RX4, TX4, 14, rfl, by decide, inX4, mmW_1 68 rfl rfl⟩
theorem fl_X7_117 : mmFL RX7 117 4 5 := ⟨RX4, TX4, 14, rfl, by decide, inX4, mmW_1 69 rfl rfl⟩
theorem fl_X4_61 : mmFL RX4 61 4 6 := ⟨RX4, TX4, 14, rfl, by decide, inX4, mmW_1 70 rfl rfl⟩
theorem fp_X4_61 : mmFP RX4 61 4 6 .int := ⟨RX4, TX4, 14, rfl, by decide, inX4, mmW_1 70 rfl rfl, rfl, tyX4_ok 6 (by decide), ⟨tyX4, tyX4_ok⟩, nmX4⟩
theorem fl_X7_120 : mmFL RX7 120 4 6 := ⟨RX4, TX4, 14, rfl, by decide, inX4, mmW_1 71 rfl rfl⟩
theorem fp_X7_120 : mmFP RX7 120 4 6 .int := ⟨RX4, TX4, 14, rfl, by decide, inX4, mmW_1 71 rfl rfl, rfl, tyX4_ok 6 (by decide), ⟨tyX4, tyX4_ok⟩, nmX4⟩
theorem fl_X4_27 : mmFL RX4 27 4 7 := ⟨RX4, TX4, 14, rfl, by decide, inX4, mmW_1 72 rfl rfl⟩
theorem fl_X1_17 : mmFL RX1 17 4 7 := ⟨RX4, TX4, 14, rfl, by decide, inX4, mmW_1 73 rfl rfl⟩
theorem fl_X6_24 : mmFL RX6 24 4 7 := ⟨RX4, TX4, 14, rfl, by decide, inX4, mmW_1 74 rfl rfl⟩
theorem fl_X7_165 : mmFL RX7 165 4 7 := ⟨RX4, TX4, 14, rfl, by decide, inX4, mmW_1 75 rfl rfl⟩
theorem fl_X4_30 : mmFL RX4 30 4 8 := ⟨RX4, TX4, 14, rfl, by decide, inX4, mmW_1 76 rfl rfl⟩
theorem fl_X1_47 : mmFL RX1 47 4 8 := ⟨RX4, TX4, 14, rfl, by decide, inX4, mmW_1 77 rfl rfl⟩
theorem fl_X7_234 : mmFL RX7 234 4 8 := ⟨RX4, TX4, 14, rfl, by decide, inX4, mmW_1 78 rfl rfl⟩
theorem fl_X4_33 : mmFL RX4 33 4 9 := ⟨RX4, TX4, 14, rfl, by decide, inX4, mmW_1 79 rfl rfl⟩
theorem fl_X6_19 : mmFL RX6 19 4 9 := ⟨RX4, TX4, 14, rfl, by decide, inX4, mmW_1 80 rfl rfl⟩
theorem fl_X1_29 : mmFL RX1 29 4 9 := ⟨RX4, TX4, 14, rfl, by decide, inX4, mmW_1 81 rfl rfl⟩
theorem fl_X7_171 : mmFL RX7 171 4 9 := ⟨RX4, TX4, 14, rfl, by decide, inX4, mmW_1 82 rfl rfl⟩
theorem fl_X4_36 : mmFL RX4 36 4 10 := ⟨RX4, TX4, 14, rfl, by decide, inX4, mmW_1 83 rfl rfl⟩
theorem fl_X6_33 : mmFL RX6 33 4 10 := ⟨RX4, TX4, 14, rfl, by decide, inX4, mmW_1 84 rfl rfl⟩
theorem fl_X7_180 : mmFL RX7 180 4 10 := ⟨RX4, TX4, 14, rfl, by decide, inX4, mmW_1 85 rfl rfl⟩
theorem fl_X4_39 : mmFL RX4 39 4 11 := ⟨RX4, TX4, 14, rfl, by decide, inX4, mmW_1 86 rfl rfl⟩
theorem fl_X7_190 : mmFL RX7 190 4 11 := ⟨RX4, TX4, 14, rfl, by decide, inX4, mmW_1 87 rfl rfl⟩
theorem fl_X4_42 : mmFL RX4 42 4 12 := ⟨RX4, TX4, 14, rfl, by decide, inX4, mmW_1 88 rfl rfl⟩
theorem fl_X7_231 : mmFL RX7 231 4 12 := ⟨RX4, TX4, 14, rfl, by decide, inX4, mmW_1 89 rfl rfl⟩
theorem fl_X4_65 : mmFL RX4 65 4 13 := ⟨RX4, TX4, 14, rfl, by decide, inX4, mmW_1 90 rfl rfl⟩
theorem fp_X4_65 : mmFP RX4 65 4 13 .int := ⟨RX4, TX4, 14, rfl, by decide, inX4, mmW_1 90 rfl rfl, rfl, tyX4_ok 13 (by decide), ⟨tyX4, tyX4_ok⟩, nmX4⟩
theorem fl_X7_215 : mmFL RX7 215 4 13 := ⟨RX4, TX4, 14, rfl, by decide, inX4, mmW_1 91 rfl rfl⟩
theorem fp_X7_215 : mmFP RX7 215 4 13 .int := ⟨RX4, TX4, 14, rfl, by decide, inX4, mmW_1 91 rfl rfl, rfl, tyX4_ok 13 (by decide), ⟨tyX4, tyX4_ok⟩, nmX4⟩
theorem fl_X2_11 : mmFL RX2 11 2 0 := ⟨RX2, TX2, 3, rfl, by decide, inX2, mmW_1 130 rfl rfl⟩
theorem fl_X2_18 : mmFL RX2 18 2 1 := ⟨RX2, TX2, 3, rfl, by decide, inX2, mmW_1 131 rfl rfl⟩
theorem fp_X2_18 : mmFP RX2 18 2 1 .int := ⟨RX2, TX2, 3, rfl, by decide, inX2, mmW_1 131 rfl rfl, rfl, tyX2_ok 1 (by decide), ⟨tyX2, tyX2_ok⟩, nmX2⟩
theorem fl_X2_26 : mmFL RX2 26 2 2 := ⟨RX2, TX2, 3, rfl, by decide, inX2, mmW_1 132 rfl rfl⟩
theorem fp_X2_26 : mmFP RX2 26 2 2 .int := ⟨RX2, TX2, 3, rfl, by decide, inX2, mmW_1 132 rfl rfl, rfl, tyX2_ok 2 (by decide), ⟨tyX2, tyX2_ok⟩, nmX2⟩
theorem fl_X7_248 : mmFL RX7 248 2 2 := ⟨RX2, TX2, 3, rfl, by decide, inX2, mmW_1 133 rfl rfl⟩
theorem fp_X7_248 : mmFP RX7 248 2 2 .int := ⟨RX2, TX2, 3, rfl, by decide, inX2, mmW_1 133 rfl rfl, rfl, tyX2_ok 2 (by decide), ⟨tyX2, tyX2_ok⟩, nmX2⟩
theorem fl_X3_9 : mmFL RX3 9 3 0 := ⟨RX3, TX3, 9, rfl, by decide, inX3, mmW_1 147 rfl rfl⟩
theorem fl_X3_23 : mmFL RX3 23 3 1 := ⟨RX3, TX3, 9, rfl, by decide, inX3, mmW_1 148 rfl rfl⟩
theorem fp_X3_23 : mmFP RX3 23 3 1 .int := ⟨RX3, TX3, 9, rfl, by decide, inX3, mmW_1 148 rfl rfl, rfl, tyX3_ok 1 (by decide), ⟨tyX3, tyX3_ok⟩, nmX3⟩
theorem fl_X7_241 : mmFL RX7 241 3 1 := ⟨RX3, TX3, 9, rfl, by decide, inX3, mmW_1 149 rfl rfl⟩
theorem fp_X7_241 : mmFP RX7 241 3 1 .int := ⟨RX3, TX3, 9, rfl, by decide, inX3, mmW_1 149 rfl rfl, rfl, tyX3_ok 1 (by decide), ⟨tyX3, tyX3_ok⟩, nmX3⟩
theorem fl_X3_27 : mmFL RX3 27 3 2 := ⟨RX3, TX3, 9, rfl, by decide, inX3, mmW_1 150 rfl rfl⟩
theorem fp_X3_27 : mmFP RX3 27 3 2 .int := ⟨RX3, TX3, 9, rfl, by decide, inX3, mmW_1 150 rfl rfl, rfl, tyX3_ok 2 (by decide), ⟨tyX3, tyX3_ok⟩, nmX3⟩
theorem fl_X7_150 : mmFL RX7 150 3 2 := ⟨RX3, TX3, 9, rfl, by decide, inX3, mmW_1 151 rfl rfl⟩
theorem fp_X7_150 : mmFP RX7 150 3 2 .int := ⟨RX3, TX3, 9, rfl, by decide, inX3, mmW_1 151 rfl rfl, rfl, tyX3_ok 2 (by decide), ⟨tyX3, tyX3_ok⟩, nmX3⟩
theorem fl_X3_13 : mmFL RX3 13 3 3 := ⟨RX3, TX3, 9, rfl, by decide, inX3, mmW_1 152 rfl rfl⟩
theorem fl_X7_153 : mmFL RX7 153 3 3 := ⟨RX3, TX3, 9, rfl, by decide, inX3, mmW_1 153 rfl rfl⟩
theorem fl_X3_16 : mmFL RX3 16 3 4 := ⟨RX3, TX3, 9, rfl, by decide, inX3, mmW_1 154 rfl rfl⟩
theorem fl_X7_157 : mmFL RX7 157 3 4 := ⟨RX3, TX3, 9, rfl, by decide, inX3, mmW_1 155 rfl rfl⟩
theorem fl_X3_20 : mmFL RX3 20 3 5 := ⟨RX3, TX3, 9, rfl, by decide, inX3, mmW_1 156 rfl rfl⟩
theorem fl_X7_159 : mmFL RX7 159 3 5 := ⟨RX3, TX3, 9, rfl, by decide, inX3, mmW_1 157 rfl rfl⟩
theorem fl_X3_62 : mmFL RX3 62 3 6 := ⟨RX3, TX3, 9, rfl, by decide, inX3, mmW_1 158 rfl rfl⟩
theorem fp_X3_62 : mmFP RX3 62 3 6 .int := ⟨RX3, TX3, 9, rfl, by decide, inX3, mmW_1 158 rfl rfl, rfl, tyX3_ok 6 (by decide), ⟨tyX3, tyX3_ok⟩, nmX3⟩
theorem fl_X3_55 : mmFL RX3 55 3 7 := ⟨RX3, TX3, 9, rfl, by decide, inX3, mmW_1 159 rfl rfl⟩
theorem fp_X3_55 : mmFP RX3 55 3 7 .char := ⟨RX3, TX3, 9, rfl, by decide, inX3, mmW_1 159 rfl rfl, rfl, tyX3_ok 7 (by decide), ⟨tyX3, tyX3_ok⟩, nmX3⟩
theorem fl_X3_65 : mmFL RX3 65 3 8 := ⟨RX3, TX3, 9, rfl, by decide, inX3, mmW_1 160 rfl rfl⟩
theorem fp_X3_65 : mmFP RX3 65 3 8 .int := ⟨RX3, TX3, 9, rfl, by decide, inX3, mmW_1 160 rfl rfl, rfl, tyX3_ok 8 (by decide), ⟨tyX3, tyX3_ok⟩, nmX3⟩
theorem fl_X6_15 : mmFL RX6 15 6 0 := ⟨RX6, TX6, 2, rfl, by decide, inX6, mmW_1 187 rfl rfl⟩
theorem fl_X6_9 : mmFL RX6 9 6 1 := ⟨RX6, TX6, 2, rfl, by decide, inX6, mmW_1 188 rfl rfl⟩
theorem fl_X7_183 : mmFL RX7 183 6 1 := ⟨RX6, TX6, 2, rfl, by decide, inX6, mmW_1 189 rfl rfl⟩
theorem fl_X5_19 : mmFL RX5 19 5 0 := ⟨RX5, TX5, 3, rfl, by decide, inX5, mmW_1 201 rfl rfl⟩
theorem fl_X5_9 : mmFL RX5 9 5 1 := ⟨RX5, TX5, 3, rfl, by decide, inX5, mmW_1 202 rfl rfl⟩
theorem fl_X7_271 : mmFL RX7 271 5 1 := ⟨RX5, TX5, 3, rfl, by decide, inX5, mmW_1 203 rfl rfl⟩
theorem fl_X5_15 : mmFL RX5 15 5 2 := ⟨RX5, TX5, 3, rfl, by decide, inX5, mmW_1 204 rfl rfl⟩
theorem fl_X1_7 : mmFL RX1 7 1 0 := ⟨RX1, TX1, 6, rfl, by decide, inX1, mmW_1 219 rfl rfl⟩
theorem fl_X1_13 : mmFL RX1 13 1 1 := ⟨RX1, TX1, 6, rfl, by decide, inX1, mmW_1 220 rfl rfl⟩
theorem fl_X1_36 : mmFL RX1 36 1 2 := ⟨RX1, TX1, 6, rfl, by decide, inX1, mmW_1 221 rfl rfl⟩
theorem fp_X1_36 : mmFP RX1 36 1 2 .int := ⟨RX1, TX1, 6, rfl, by decide, inX1, mmW_1 221 rfl rfl, rfl, tyX1_ok 2 (by decide), ⟨tyX1, tyX1_ok⟩, nmX1⟩
theorem fl_X7_278 : mmFL RX7 278 1 2 := ⟨RX1, TX1, 6, rfl, by decide, inX1, mmW_1 222 rfl rfl⟩
theorem fp_X7_278 : mmFP RX7 278 1 2 .int := ⟨RX1, TX1, 6, rfl, by decide, inX1, mmW_1 222 rfl rfl, rfl, tyX1_ok 2 (by decide), ⟨tyX1, tyX1_ok⟩, nmX1⟩
theorem fl_X1_44 : mmFL RX1 44 1 3 := ⟨RX1, TX1, 6, rfl, by decide, inX1, mmW_1 223 rfl rfl⟩
theorem fp_X1_44 : mmFP RX1 44 1 3 .int := ⟨RX1, TX1, 6, rfl, by decide, inX1, mmW_1 223 rfl rfl, rfl, tyX1_ok 3 (by decide), ⟨tyX1, tyX1_ok⟩, nmX1⟩
theorem fl_X7_281 : mmFL RX7 281 1 3 := ⟨RX1, TX1, 6, rfl, by decide, inX1, mmW_1 224 rfl rfl⟩
theorem fp_X7_281 : mmFP RX7 281 1 3 .int := ⟨RX1, TX1, 6, rfl, by decide, inX1, mmW_1 224 rfl rfl, rfl, tyX1_ok 3 (by decide), ⟨tyX1, tyX1_ok⟩, nmX1⟩
theorem fl_X1_50 : mmFL RX1 50 1 4 := ⟨RX1, TX1, 6, rfl, by decide, inX1, mmW_1 225 rfl rfl⟩
theorem fp_X1_50 : mmFP RX1 50 1 4 .int := ⟨RX1, TX1, 6, rfl, by decide, inX1, mmW_1 225 rfl rfl, rfl, tyX1_ok 4 (by decide), ⟨tyX1, tyX1_ok⟩, nmX1⟩
theorem fl_X7_203 : mmFL RX7 203 1 4 := ⟨RX1, TX1, 6, rfl, by decide, inX1, mmW_1 226 rfl rfl⟩
theorem fp_X7_203 : mmFP RX7 203 1 4 .int := ⟨RX1, TX1, 6, rfl, by decide, inX1, mmW_1 226 rfl rfl, rfl, tyX1_ok 4 (by decide), ⟨tyX1, tyX1_ok⟩, nmX1⟩
theorem fl_X1_53 : mmFL RX1 53 1 5 := ⟨RX1, TX1, 6, rfl, by decide, inX1, mmW_1 227 rfl rfl⟩
theorem fp_X1_53 : mmFP RX1 53 1 5 .int := ⟨RX1, TX1, 6, rfl, by decide, inX1, mmW_1 227 rfl rfl, rfl, tyX1_ok 5 (by decide), ⟨tyX1, tyX1_ok⟩, nmX1⟩
theorem fl_X7_209 : mmFL RX7 209 1 5 := ⟨RX1, TX1, 6, rfl, by decide, inX1, mmW_1 228 rfl rfl⟩
theorem fp_X7_209 : mmFP RX7 209 1 5 .int := ⟨RX1, TX1, 6, rfl, by decide, inX1, mmW_1 228 rfl rfl, rfl, tyX1_ok 5 (by decide), ⟨tyX1, tyX1_ok⟩, nmX1⟩
theorem fl_X7_10 : mmFL RX7 10 7 0 := ⟨RX7, TX7, 10, rfl, by decide, inX7, mmW_2 2 rfl rfl⟩
theorem fl_X7_21 : mmFL RX7 21 7 1 := ⟨RX7, TX7, 10, rfl, by decide, inX7, mmW_2 3 rfl rfl⟩
theorem fl_X7_25 : mmFL RX7 25 7 2 := ⟨RX7, TX7, 10, rfl, by decide, inX7, mmW_2 4 rfl rfl⟩
theorem fl_X7_28 : mmFL RX7 28 7 3 := ⟨RX7, TX7, 10, rfl, by decide, inX7, mmW_2 5 rfl rfl⟩
theorem fl_X7_251 : mmFL RX7 251 7 4 := ⟨RX7, TX7, 10, rfl, by decide, inX7, mmW_2 6 rfl rfl⟩
theorem fp_X7_251 : mmFP RX7 251 7 4 .boolean := ⟨RX7, TX7, 10, rfl, by decide, inX7, mmW_2 6 rfl rfl, rfl, tyX7_ok 4 (by decide), ⟨tyX7, tyX7_ok⟩, nmX7⟩
theorem fl_X7_34 : mmFL RX7 34 7 5 := ⟨RX7, TX7, 10, rfl, by decide, inX7, mmW_2 7 rfl rfl⟩
theorem fl_X7_41 : mmFL RX7 41 7 6 := ⟨RX7, TX7, 10, rfl, by decide, inX7, mmW_2 8 rfl rfl⟩
theorem fl_X7_48 : mmFL RX7 48 7 7 := ⟨RX7, TX7, 10, rfl, by decide, inX7, mmW_2 9 rfl rfl⟩
theorem fl_X7_55 : mmFL RX7 55 7 8 := ⟨RX7, TX7, 10, rfl, by decide, inX7, mmW_2 10 rfl rfl⟩
theorem fl_X7_64 : mmFL RX7 64 7 9 := ⟨RX7, TX7, 10, rfl, by decide, inX7, mmW_2 11 rfl rfl⟩
theorem fl_X8_44 : mmFL RX8 44 8 0 := ⟨RX8, TX8, 18, rfl, by decide, inX8, mmW_3 166 rfl rfl⟩
theorem fp_X8_44 : mmFP RX8 44 8 0 .int := ⟨RX8, TX8, 18, rfl, by decide, inX8, mmW_3 166 rfl rfl, rfl, tyX8_ok 0 (by decide), ⟨tyX8, tyX8_ok⟩, nmX8⟩
theorem fl_X8_7 : mmFL RX8 7 8 1 := ⟨RX8, TX8, 18, rfl, by decide, inX8, mmW_3 167 rfl rfl⟩
theorem fl_X8_13 : mmFL RX8 13 8 2 := ⟨RX8, TX8, 18, rfl, by decide, inX8, mmW_3 168 rfl rfl⟩
theorem fl_X8_16 : mmFL RX8 16 8 3 := ⟨RX8, TX8, 18, rfl, by decide, inX8, mmW_3 169 rfl rfl⟩
theorem fl_X8_56 : mmFL RX8 56 8 4 := ⟨RX8, TX8, 18, rfl, by decide, inX8, mmW_3 170 rfl rfl⟩
theorem fp_X8_56 : mmFP RX8 56 8 4 .int := ⟨RX8, TX8, 18, rfl, by decide, inX8, mmW_3 170 rfl rfl, rfl, tyX8_ok 4 (by decide), ⟨tyX8, tyX8_ok⟩, nmX8⟩
theorem fl_X8_19 : mmFL RX8 19 8 5 := ⟨RX8, TX8, 18, rfl, by decide, inX8, mmW_3 171 rfl rfl⟩
theorem fl_X8_200 : mmFL RX8 200 8 6 := ⟨RX8, TX8, 18, rfl, by decide, inX8, mmW_3 172 rfl rfl⟩
theorem fp_X8_200 : mmFP RX8 200 8 6 .boolean := ⟨RX8, TX8, 18, rfl, by decide, inX8, mmW_3 172 rfl rfl, rfl, tyX8_ok 6 (by decide), ⟨tyX8, tyX8_ok⟩, nmX8⟩
theorem fl_X8_22 : mmFL RX8 22 8 7 := ⟨RX8, TX8, 18, rfl, by decide, inX8, mmW_3 173 rfl rfl⟩
theorem fl_X8_166 : mmFL RX8 166 8 8 := ⟨RX8, TX8, 18, rfl, by decide, inX8, mmW_3 174 rfl rfl⟩
theorem fp_X8_166 : mmFP RX8 166 8 8 .int := ⟨RX8, TX8, 18, rfl, by decide, inX8, mmW_3 174 rfl rfl, rfl, tyX8_ok 8 (by decide), ⟨tyX8, tyX8_ok⟩, nmX8⟩
theorem fl_X8_25 : mmFL RX8 25 8 9 := ⟨RX8, TX8, 18, rfl, by decide, inX8, mmW_3 175 rfl rfl⟩
theorem fl_X8_28 : mmFL RX8 28 8 10 := ⟨RX8, TX8, 18, rfl, by decide, inX8, mmW_3 176 rfl rfl⟩
theorem fl_X8_32 : mmFL RX8 32 8 11 := ⟨RX8, TX8, 18, rfl, by decide, inX8, mmW_3 177 rfl rfl⟩
theorem fl_X8_35 : mmFL RX8 35 8 12 := ⟨RX8, TX8, 18, rfl, by decide, inX8, mmW_3 178 rfl rfl⟩
theorem fl_X8_38 : mmFL RX8 38 8 13 := ⟨RX8, TX8, 18, rfl, by decide, inX8, mmW_3 179 rfl rfl⟩
theorem fl_X8_169 : mmFL RX8 169 8 14 := ⟨RX8, TX8, 18, rfl, by decide, inX8, mmW_3 180 rfl rfl⟩
theorem fp_X8_169 : mmFP RX8 169 8 14 .int := ⟨RX8, TX8, 18, rfl, by decide, inX8, mmW_3 180 rfl rfl, rfl, tyX8_ok 14 (by decide), ⟨tyX8, tyX8_ok⟩, nmX8⟩
theorem fl_X8_172 : mmFL RX8 172 8 15 := ⟨RX8, TX8, 18, rfl, by decide, inX8, mmW_3 181 rfl rfl⟩
theorem fp_X8_172 : mmFP RX8 172 8 15 .boolean := ⟨RX8, TX8, 18, rfl, by decide, inX8, mmW_3 181 rfl rfl, rfl, tyX8_ok 15 (by decide), ⟨tyX8, tyX8_ok⟩, nmX8⟩
theorem fl_X8_41 : mmFL RX8 41 8 16 := ⟨RX8, TX8, 18, rfl, by decide, inX8, mmW_3 182 rfl rfl⟩
theorem fl_X8_182 : mmFL RX8 182 8 17 := ⟨RX8, TX8, 18, rfl, by decide, inX8, mmW_3 183 rfl rfl⟩
theorem fp_X8_182 : mmFP RX8 182 8 17 .int := ⟨RX8, TX8, 18, rfl, by decide, inX8, mmW_3 183 rfl rfl, rfl, tyX8_ok 17 (by decide), ⟨tyX8, tyX8_ok⟩, nmX8⟩
theorem cs_X0_13 : mmCS RX0 13 mX0_stepFrom 2 := ⟨mmW_1 28 rfl rfl, mmW_1 2 rfl rfl, mmW_1 30 rfl rfl, by decide, by decide +kernel, by decide, mmW_1 29 rfl rfl⟩
theorem cs_X4_49 : mmCS RX4 49 mJ7_fill_53178 2 := ⟨mmW_1 52 rfl rfl, mmW_1 4 rfl rfl, mmW_1 54 rfl rfl, by decide, by decide +kernel, by decide, mmW_1 53 rfl rfl⟩
theorem cv_L_13 : mmCV RL 13 mX7_ground 2 7 := ⟨mmW_2 33 rfl rfl, mmW_1 1 rfl rfl, mmW_2 36 rfl rfl, by decide, by decide +kernel, by decide, mmW_2 34 rfl rfl, mmW_2 35 rfl rfl, ⟨_, _, rfl⟩⟩
theorem cs_X7_68 : mmCS RX7 68 mX0_isHex 1 := ⟨mmW_2 37 rfl rfl, mmW_1 2 rfl rfl, mmW_2 39 rfl rfl, by decide, by decide +kernel, by decide, mmW_2 38 rfl rfl⟩
theorem cv_X7_76 : mmCV RX7 76 mX2_record 1 2 := ⟨mmW_2 40 rfl rfl, mmW_1 5 rfl rfl, mmW_2 43 rfl rfl, by decide, by decide +kernel, by decide, mmW_2 41 rfl rfl, mmW_2 42 rfl rfl, ⟨_, _, rfl⟩⟩
theorem cv_X2_22 : mmCV RX2 22 mX4_copyFrom 1 4 := ⟨mmW_2 44 rfl rfl, mmW_1 3 rfl rfl, mmW_2 47 rfl rfl, by decide, by decide +kernel, by decide, mmW_2 45 rfl rfl, mmW_2 46 rfl rfl, ⟨_, _, rfl⟩⟩
theorem cs_X2_29 : mmCS RX2 29 mJ9_min_7cf53 2 := ⟨mmW_2 51 rfl rfl, mmW_1 12 rfl rfl, mmW_2 53 rfl rfl, by decide, by decide +kernel, by decide, mmW_2 52 rfl rfl⟩
theorem cv_L_18 : mmCV RL 18 mX7_river 3 7 := ⟨mmW_2 54 rfl rfl, mmW_1 1 rfl rfl, mmW_2 57 rfl rfl, by decide, by decide +kernel, by decide, mmW_2 55 rfl rfl, mmW_2 56 rfl rfl, ⟨_, _, rfl⟩⟩
theorem cs_X7_80 : mmCS RX7 80 mX0_isDirection 1 := ⟨mmW_2 58 rfl rfl, mmW_1 2 rfl rfl, mmW_2 60 rfl rfl, by decide, by decide +kernel, by decide, mmW_2 59 rfl rfl⟩
theorem cv_X7_86 : mmCV RX7 86 mX4_hasRiver 2 4 := ⟨mmW_2 61 rfl rfl, mmW_1 3 rfl rfl, mmW_2 64 rfl rfl, by decide, by decide +kernel, by decide, mmW_2 62 rfl rfl, mmW_2 63 rfl rfl, ⟨_, _, rfl⟩⟩
theorem cs_X7_93 : mmCS RX7 93 mX0_opposite 1 := ⟨mmW_2 65 rfl rfl, mmW_1 2 rfl rfl, mmW_2 67 rfl rfl, by decide, by decide +kernel, by decide, mmW_2 66 rfl rfl⟩
theorem cv_X7_97 : mmCV RX7 97 mX4_riverCount 0 4 := ⟨mmW_2 68 rfl rfl, mmW_1 3 rfl rfl, mmW_2 71 rfl rfl, by decide, by decide +kernel, by decide, mmW_2 69 rfl rfl, mmW_2 70 rfl rfl, ⟨_, _, rfl⟩⟩
theorem cs_X4_115 : mmCS RX4 115 mJ6_bitCount_0f7a4 1 := ⟨mmW_2 72 rfl rfl, mmW_1 13 rfl rfl, mmW_2 74 rfl rfl, by decide, by decide +kernel, by decide, mmW_2 73 rfl rfl⟩
theorem cv_L_23 : mmCV RL 23 mX7_fort 2 7 := ⟨mmW_2 78 rfl rfl, mmW_1 1 rfl rfl, mmW_2 81 rfl rfl, by decide, by decide +kernel, by decide, mmW_2 79 rfl rfl, mmW_2 80 rfl rfl, ⟨_, _, rfl⟩⟩
theorem cs_X7_101 : mmCS RX7 101 mX7_isSide 1 := ⟨mmW_2 82 rfl rfl, mmW_1 1 rfl rfl, mmW_2 84 rfl rfl, by decide, by decide +kernel, by decide, mmW_2 83 rfl rfl⟩
theorem cv_X7_104 : mmCV RX7 104 mX4_hasFort 1 4 := ⟨mmW_2 85 rfl rfl, mmW_1 3 rfl rfl, mmW_2 88 rfl rfl, by decide, by decide +kernel, by decide, mmW_2 86 rfl rfl, mmW_2 87 rfl rfl, ⟨_, _, rfl⟩⟩
theorem cv_X7_110 : mmCV RX7 110 mX4_giveFortToUnit 1 4 := ⟨mmW_2 89 rfl rfl, mmW_1 3 rfl rfl, mmW_2 92 rfl rfl, by decide, by decide +kernel, by decide, mmW_2 90 rfl rfl, mmW_2 91 rfl rfl, ⟨_, _, rfl⟩⟩
theorem cv_X4_80 : mmCV RX4 80 mX4_hasFort 1 4 := ⟨mmW_2 93 rfl rfl, mmW_1 3 rfl rfl, mmW_2 88 rfl rfl, by decide, by decide +kernel, by decide, mmW_2 86 rfl rfl, mmW_2 87 rfl rfl, ⟨_, _, rfl⟩⟩
theorem cv_X4_83 : mmCV RX4 83 mX4_sideOn 1 4 := ⟨mmW_2 94 rfl rfl, mmW_1 3 rfl rfl, mmW_2 97 rfl rfl, by decide, by decide +kernel, by decide, mmW_2 95 rfl rfl, mmW_2 96 rfl rfl, ⟨_, _, rfl⟩⟩
theorem cv_X7_114 : mmCV RX7 114 mX4_fortCount 1 4 := ⟨mmW_2 98 rfl rfl, mmW_1 3 rfl rfl, mmW_2 101 rfl rfl, by decide, by decide +kernel, by decide, mmW_2 99 rfl rfl, mmW_2 100 rfl rfl, ⟨_, _, rfl⟩⟩
theorem cv_L_27 : mmCV RL 27 mX7_base 2 7 := ⟨mmW_2 102 rfl rfl, mmW_1 1 rfl rfl, mmW_2 105 rfl rfl, by decide, by decide +kernel, by decide, mmW_2 103 rfl rfl, mmW_2 104 rfl rfl, ⟨_, _, rfl⟩⟩
theorem cv_L_31 : mmCV RL 31 mX7_place 3 7 := ⟨mmW_2 106 rfl rfl, mmW_1 1 rfl rfl, mmW_2 109 rfl rfl, by decide, by decide +kernel, by decide, mmW_2 107 rfl rfl, mmW_2 108 rfl rfl, ⟨_, _, rfl⟩⟩
theorem cv_X7_124 : mmCV RX7 124 mX4_sideOn 1 4 := ⟨mmW_2 110 rfl rfl, mmW_1 3 rfl rfl, mmW_2 97 rfl rfl, by decide, by decide +kernel, by decide, mmW_2 95 rfl rfl, mmW_2 96 rfl rfl, ⟨_, _, rfl⟩⟩
theorem cv_X7_127 : mmCV RX7 127 mX4_addUnit 3 4 := ⟨mmW_2 111 rfl rfl, mmW_1 3 rfl rfl, mmW_2 114 rfl rfl, by decide, by decide +kernel, by decide, mmW_2 112 rfl rfl, mmW_2 113 rfl rfl, ⟨_, _, rfl⟩⟩
theorem cv_X4_72 : mmCV RX4 72 mX4_stand 2 4 := ⟨mmW_2 115 rfl rfl, mmW_1 3 rfl rfl, mmW_2 118 rfl rfl, by decide, by decide +kernel, by decide, mmW_2 117 rfl rfl, mmW_p1 0 (q := (yX4_stand, _)) rfl rfl, ⟨_, _, rfl⟩⟩
theorem cv_X4_76 : mmCV RX4 76 mX4_giveFortToUnit 1 4 := ⟨mmW_2 119 rfl rfl, mmW_1 3 rfl rfl, mmW_2 92 rfl rfl, by decide, by decide +kernel, by decide, mmW_2 90 rfl rfl, mmW_2 91 rfl rfl, ⟨_, _, rfl⟩⟩
theorem cv_L_36 : mmCV RL 36 mX7_move 2 7 := ⟨mmW_2 120 rfl rfl, mmW_1 1 rfl rfl, mmW_2 123 rfl rfl, by decide, by decide +kernel, by decide, mmW_2 121 rfl rfl, mmW_2 122 rfl rfl, ⟨_, _, rfl⟩⟩
theorem cv_X7_131 : mmCV RX7 131 mX4_copyFrom 1 4 := ⟨mmW_2 124 rfl rfl, mmW_1 3 rfl rfl, mmW_2 47 rfl rfl, by decide, by decide +kernel, by decide, mmW_2 45 rfl rfl, mmW_2 46 rfl rfl, ⟨_, _, rfl⟩⟩
theorem cv_X7_134 : mmCV RX7 134 mX7_moveUnit 2 7 := ⟨mmW_2 125 rfl rfl, mmW_1 1 rfl rfl, mmW_2 128 rfl rfl, by decide, by decide +kernel, by decide, mmW_2 127 rfl rfl, mmW_p1 1 (q := (yX7_moveUnit, _)) rfl rfl, ⟨_, _, rfl⟩⟩
theorem cv_X7_162 : mmCV RX7 162 mX4_isUnit 1 4 := ⟨mmW_2 129 rfl rfl, mmW_1 3 rfl rfl, mmW_2 132 rfl rfl, by decide, by decide +kernel, by decide, mmW_2 130 rfl rfl, mmW_2 131 rfl rfl, ⟨_, _, rfl⟩⟩
theorem cv_X7_168 : mmCV RX7 168 mX4_sideInTurn 0 4 := ⟨mmW_2 133 rfl rfl, mmW_1 3 rfl rfl, mmW_2 136 rfl rfl, by decide, by decide +kernel, by decide, mmW_2 134 rfl rfl, mmW_2 135 rfl rfl, ⟨_, _, rfl⟩⟩
theorem cv_X7_172 : mmCV RX7 172 mX6_measure 2 6 := ⟨mmW_2 137 rfl rfl, mmW_1 7 rfl rfl, mmW_2 140 rfl rfl, by decide, by decide +kernel, by decide, mmW_2 138 rfl rfl, mmW_2 139 rfl rfl, ⟨_, _, rfl⟩⟩
theorem cs_X6_27 : mmCS RX6 27 mJ7_fill_53178 2 := ⟨mmW_2 141 rfl rfl, mmW_1 4 rfl rfl, mmW_1 54 rfl rfl, by decide, by decide +kernel, by decide, mmW_1 53 rfl rfl⟩
theorem cv_X6_36 : mmCV RX6 36 mX4_inZone 2 4 := ⟨mmW_2 142 rfl rfl, mmW_1 3 rfl rfl, mmW_2 145 rfl rfl, by decide, by decide +kernel, by decide, mmW_2 143 rfl rfl, mmW_2 144 rfl rfl, ⟨_, _, rfl⟩⟩
theorem cs_X4_100 : mmCS RX4 100 mX0_isHex 1 := ⟨mmW_2 146 rfl rfl, mmW_1 2 rfl rfl, mmW_2 39 rfl rfl, by decide, by decide +kernel, by decide, mmW_2 38 rfl rfl⟩
theorem cv_X6_40 : mmCV RX6 40 mX6_goOn 3 6 := ⟨mmW_2 147 rfl rfl, mmW_1 7 rfl rfl, mmW_2 150 rfl rfl, by decide, by decide +kernel, by decide, mmW_2 149 rfl rfl, mmW_p1 2 (q := (yX6_goOn, _)) rfl rfl, ⟨_, _, rfl⟩⟩
theorem cs_X6_47 : mmCS RX6 47 mX0_isHex 1 := ⟨mmW_2 151 rfl rfl, mmW_1 2 rfl rfl, mmW_2 39 rfl rfl, by decide, by decide +kernel, by decide, mmW_2 38 rfl rfl⟩
theorem cv_X6_51 : mmCV RX6 51 mX4_sideOn 1 4 := ⟨mmW_2 152 rfl rfl, mmW_1 3 rfl rfl, mmW_2 97 rfl rfl, by decide, by decide +kernel, by decide, mmW_2 95 rfl rfl, mmW_2 96 rfl rfl, ⟨_, _, rfl⟩⟩
theorem cs_X6_55 : mmCS RX6 55 mX6_costOfStep 4 := ⟨mmW_2 153 rfl rfl, mmW_1 7 rfl rfl, mmW_2 155 rfl rfl, by decide, by decide +kernel, by decide, mmW_2 154 rfl rfl⟩
theorem cv_X6_62 : mmCV RX6 62 mX4_hasRiver 2 4 := ⟨mmW_2 156 rfl rfl, mmW_1 3 rfl rfl, mmW_2 64 rfl rfl, by decide, by decide +kernel, by decide, mmW_2 62 rfl rfl, mmW_2 63 rfl rfl, ⟨_, _, rfl⟩⟩
theorem cv_X7_176 : mmCV RX7 176 mX6_canEndOn 2 6 := ⟨mmW_2 157 rfl rfl, mmW_1 7 rfl rfl, mmW_2 160 rfl rfl, by decide, by decide +kernel, by decide, mmW_2 158 rfl rfl, mmW_2 159 rfl rfl, ⟨_, _, rfl⟩⟩
theorem cv_X7_186 : mmCV RX7 186 mX4_shift 2 4 := ⟨mmW_2 161 rfl rfl, mmW_1 3 rfl rfl, mmW_2 164 rfl rfl, by decide, by decide +kernel, by decide, mmW_2 162 rfl rfl, mmW_2 163 rfl rfl, ⟨_, _, rfl⟩⟩
theorem cv_X7_138 : mmCV RX7 138 mX7_recordedIfDone 1 7 := ⟨mmW_2 165 rfl rfl, mmW_1 1 rfl rfl, mmW_2 168 rfl rfl, by decide, by decide +kernel, by decide, mmW_2 167 rfl rfl, mmW_p1 3 (q := (yX7_recordedIfDone, _)) rfl rfl, ⟨_, _, rfl⟩⟩
theorem cv_L_40 : mmCV RL 40 mX7_attack 2 7 := ⟨mmW_2 169 rfl rfl, mmW_1 1 rfl rfl, mmW_2 172 rfl rfl, by decide, by decide +kernel, by decide, mmW_2 170 rfl rfl, mmW_2 171 rfl rfl, ⟨_, _, rfl⟩⟩
theorem cv_X7_141 : mmCV RX7 141 mX7_strike 2 7 := ⟨mmW_2 173 rfl rfl, mmW_1 1 rfl rfl, mmW_2 176 rfl rfl, by decide, by decide +kernel, by decide, mmW_2 175 rfl rfl, mmW_p1 4 (q := (yX7_strike, _)) rfl rfl, ⟨_, _, rfl⟩⟩
theorem cv_X7_193 : mmCV RX7 193 mX7_canFight 2 7 := ⟨mmW_2 177 rfl rfl, mmW_1 1 rfl rfl, mmW_2 180 rfl rfl, by decide, by decide +kernel, by decide, mmW_2 179 rfl rfl, mmW_p1 5 (q := (yX7_canFight, _)) rfl rfl, ⟨_, _, rfl⟩⟩
theorem cv_X7_212 : mmCV RX7 212 mX0_directionTo 2 0 := ⟨mmW_2 181 rfl rfl, mmW_1 2 rfl rfl, mmW_2 184 rfl rfl, by decide, by decide +kernel, by decide, mmW_2 182 rfl rfl, mmW_2 183 rfl rfl, ⟨_, _, rfl⟩⟩
theorem cv_X7_199 : mmCV RX7 199 mX1_weigh 3 1 := ⟨mmW_2 185 rfl rfl, mmW_1 9 rfl rfl, mmW_2 188 rfl rfl, by decide, by decide +kernel, by decide, mmW_2 186 rfl rfl, mmW_2 187 rfl rfl, ⟨_, _, rfl⟩⟩
theorem cv_X1_23 : mmCV RX1 23 mX5_measure 2 5 := ⟨mmW_2 189 rfl rfl, mmW_1 8 rfl rfl, mmW_2 192 rfl rfl, by decide, by decide +kernel, by decide, mmW_2 190 rfl rfl, mmW_2 191 rfl rfl, ⟨_, _, rfl⟩⟩
theorem cs_X5_23 : mmCS RX5 23 mX5_isFree 3 := ⟨mmW_2 193 rfl rfl, mmW_1 8 rfl rfl, mmW_2 195 rfl rfl, by decide, by decide +kernel, by decide, mmW_2 194 rfl rfl⟩
theorem cv_X5_46 : mmCV RX5 46 mX4_sideOn 1 4 := ⟨mmW_2 196 rfl rfl, mmW_1 3 rfl rfl, mmW_2 97 rfl rfl, by decide, by decide +kernel, by decide, mmW_2 95 rfl rfl, mmW_2 96 rfl rfl, ⟨_, _, rfl⟩⟩
theorem cv_X5_50 : mmCV RX5 50 mX4_inZone 2 4 := ⟨mmW_2 197 rfl rfl, mmW_1 3 rfl rfl, mmW_2 145 rfl rfl, by decide, by decide +kernel, by decide, mmW_2 143 rfl rfl, mmW_2 144 rfl rfl, ⟨_, _, rfl⟩⟩
theorem cv_X5_35 : mmCV RX5 35 mX5_spread 1 5 := ⟨mmW_2 198 rfl rfl, mmW_1 8 rfl rfl, mmW_2 201 rfl rfl, by decide, by decide +kernel, by decide, mmW_2 200 rfl rfl, mmW_p1 6 (q := (yX5_spread, _)) rfl rfl, ⟨_, _, rfl⟩⟩
theorem cs_X5_42 : mmCS RX5 42 mX0_isHex 1 := ⟨mmW_2 202 rfl rfl, mmW_1 2 rfl rfl, mmW_2 39 rfl rfl, by decide, by decide +kernel, by decide, mmW_2 38 rfl rfl⟩
theorem cv_X1_32 : mmCV RX1 32 mX1_powerOfAttack 3 1 := ⟨mmW_2 203 rfl rfl, mmW_1 9 rfl rfl, mmW_2 206 rfl rfl, by decide, by decide +kernel, by decide, mmW_2 205 rfl rfl, mmW_p1 7 (q := (yX1_powerOfAttack, _)) rfl rfl, ⟨_, _, rfl⟩⟩
theorem cv_X1_66 : mmCV RX1 66 mX5_reaches 1 5 := ⟨mmW_2 207 rfl rfl, mmW_1 8 rfl rfl, mmW_2 210 rfl rfl, by decide, by decide +kernel, by decide, mmW_2 208 rfl rfl, mmW_2 209 rfl rfl, ⟨_, _, rfl⟩⟩
theorem cv_X1_70 : mmCV RX1 70 mX0_directionTo 2 0 := ⟨mmW_2 211 rfl rfl, mmW_1 2 rfl rfl, mmW_2 184 rfl rfl, by decide, by decide +kernel, by decide, mmW_2 182 rfl rfl, mmW_2 183 rfl rfl, ⟨_, _, rfl⟩⟩
theorem cv_X1_75 : mmCV RX1 75 mX4_hasRiver 2 4 := ⟨mmW_2 212 rfl rfl, mmW_1 3 rfl rfl, mmW_2 64 rfl rfl, by decide, by decide +kernel, by decide, mmW_2 62 rfl rfl, mmW_2 63 rfl rfl, ⟨_, _, rfl⟩⟩
theorem cv_X1_40 : mmCV RX1 40 mX1_powerOfDefence 2 1 := ⟨mmW_2 213 rfl rfl, mmW_1 9 rfl rfl, mmW_2 216 rfl rfl, by decide, by decide +kernel, by decide, mmW_2 215 rfl rfl, mmW_p1 8 (q := (yX1_powerOfDefence, _)) rfl rfl, ⟨_, _, rfl⟩⟩
theorem cv_X1_79 : mmCV RX1 79 mX4_hasFort 1 4 := ⟨mmW_2 217 rfl rfl, mmW_1 3 rfl rfl, mmW_2 88 rfl rfl, by decide, by decide +kernel, by decide, mmW_2 86 rfl rfl, mmW_2 87 rfl rfl, ⟨_, _, rfl⟩⟩
theorem cs_X1_56 : mmCS RX1 56 mJ9_abs_0f7a4 1 := ⟨mmW_2 218 rfl rfl, mmW_1 12 rfl rfl, mmW_2 220 rfl rfl, by decide, by decide +kernel, by decide, mmW_2 219 rfl rfl⟩
theorem cs_X1_62 : mmCS RX1 62 mJ9_max_7cf53 2 := ⟨mmW_2 221 rfl rfl, mmW_1 12 rfl rfl, mmW_2 223 rfl rfl, by decide, by decide +kernel, by decide, mmW_2 222 rfl rfl⟩
theorem cv_X7_206 : mmCV RX7 206 mX4_setStrength 2 4 := ⟨mmW_2 224 rfl rfl, mmW_1 3 rfl rfl, mmW_2 227 rfl rfl, by decide, by decide +kernel, by decide, mmW_2 225 rfl rfl, mmW_2 226 rfl rfl, ⟨_, _, rfl⟩⟩
theorem cs_X4_87 : mmCS RX4 87 mJ9_max_7cf53 2 := ⟨mmW_2 228 rfl rfl, mmW_1 12 rfl rfl, mmW_2 223 rfl rfl, by decide, by decide +kernel, by decide, mmW_2 222 rfl rfl⟩
theorem cv_L_44 : mmCV RL 44 mX7_endTurn 0 7 := ⟨mmW_2 229 rfl rfl, mmW_1 1 rfl rfl, mmW_2 232 rfl rfl, by decide, by decide +kernel, by decide, mmW_2 230 rfl rfl, mmW_2 231 rfl rfl, ⟨_, _, rfl⟩⟩
theorem cv_X7_144 : mmCV RX7 144 mX7_finishTurn 0 7 := ⟨mmW_2 233 rfl rfl, mmW_1 1 rfl rfl, mmW_2 236 rfl rfl, by decide, by decide +kernel, by decide, mmW_2 235 rfl rfl, mmW_p1 9 (q := (yX7_finishTurn, _)) rfl rfl, ⟨_, _, rfl⟩⟩
theorem cv_X7_218 : mmCV RX7 218 mX7_starve 1 7 := ⟨mmW_2 237 rfl rfl, mmW_1 1 rfl rfl, mmW_3 0 rfl rfl, by decide, by decide +kernel, by decide, mmW_2 239 rfl rfl, mmW_p1 10 (q := (yX7_starve, _)) rfl rfl, ⟨_, _, rfl⟩⟩
theorem cv_X7_224 : mmCV RX7 224 mX5_measure 2 5 := ⟨mmW_3 1 rfl rfl, mmW_1 8 rfl rfl, mmW_2 192 rfl rfl, by decide, by decide +kernel, by decide, mmW_2 190 rfl rfl, mmW_2 191 rfl rfl, ⟨_, _, rfl⟩⟩
theorem cv_X7_225 : mmCV RX7 225 mX4_isUnitOf 2 4 := ⟨mmW_3 2 rfl rfl, mmW_1 3 rfl rfl, mmW_3 5 rfl rfl, by decide, by decide +kernel, by decide, mmW_3 3 rfl rfl, mmW_3 4 rfl rfl, ⟨_, _, rfl⟩⟩
theorem cv_X4_68 : mmCV RX4 68 mX4_isUnit 1 4 := ⟨mmW_3 6 rfl rfl, mmW_1 3 rfl rfl, mmW_2 132 rfl rfl, by decide, by decide +kernel, by decide, mmW_2 130 rfl rfl, mmW_2 131 rfl rfl, ⟨_, _, rfl⟩⟩
theorem cv_X7_228 : mmCV RX7 228 mX5_reaches 1 5 := ⟨mmW_3 7 rfl rfl, mmW_1 8 rfl rfl, mmW_2 210 rfl rfl, by decide, by decide +kernel, by decide, mmW_2 208 rfl rfl, mmW_2 209 rfl rfl, ⟨_, _, rfl⟩⟩
theorem cv_X7_221 : mmCV RX7 221 mX4_refresh 1 4 := ⟨mmW_3 8 rfl rfl, mmW_1 3 rfl rfl, mmW_3 11 rfl rfl, by decide, by decide +kernel, by decide, mmW_3 9 rfl rfl, mmW_3 10 rfl rfl, ⟨_, _, rfl⟩⟩
theorem cv_X4_93 : mmCV RX4 93 mX4_isUnitOf 2 4 := ⟨mmW_3 12 rfl rfl, mmW_1 3 rfl rfl, mmW_3 5 rfl rfl, by decide, by decide +kernel, by decide, mmW_3 3 rfl rfl, mmW_3 4 rfl rfl, ⟨_, _, rfl⟩⟩
theorem cv_L_49 : mmCV RL 49 mX7_perform 0 7 := ⟨mmW_3 13 rfl rfl, mmW_1 1 rfl rfl, mmW_3 16 rfl rfl, by decide, by decide +kernel, by decide, mmW_3 14 rfl rfl, mmW_3 15 rfl rfl, ⟨_, _, rfl⟩⟩
theorem cv_X7_147 : mmCV RX7 147 mX3_read 0 3 := ⟨mmW_3 17 rfl rfl, mmW_1 6 rfl rfl, mmW_3 20 rfl rfl, by decide, by decide +kernel, by decide, mmW_3 18 rfl rfl, mmW_3 19 rfl rfl, ⟨_, _, rfl⟩⟩
theorem cv_X3_30 : mmCV RX3 30 mX3_stageAfter 2 3 := ⟨mmW_3 21 rfl rfl, mmW_1 6 rfl rfl, mmW_3 24 rfl rfl, by decide, by decide +kernel, by decide, mmW_3 23 rfl rfl, mmW_p1 11 (q := (yX3_stageAfter, _)) rfl rfl, ⟨_, _, rfl⟩⟩
theorem cv_X3_34 : mmCV RX3 34 mX3_readFirst 1 3 := ⟨mmW_3 25 rfl rfl, mmW_1 6 rfl rfl, mmW_3 28 rfl rfl, by decide, by decide +kernel, by decide, mmW_3 27 rfl rfl, mmW_p1 12 (q := (yX3_readFirst, _)) rfl rfl, ⟨_, _, rfl⟩⟩
theorem cv_X3_59 : mmCV RX3 59 mX3_addOrder 1 3 := ⟨mmW_3 29 rfl rfl, mmW_1 6 rfl rfl, mmW_3 32 rfl rfl, by decide, by decide +kernel, by decide, mmW_3 31 rfl rfl, mmW_p1 13 (q := (yX3_addOrder, _)) rfl rfl, ⟨_, _, rfl⟩⟩
theorem cs_X3_38 : mmCS RX3 38 mX3_isIn 3 := ⟨mmW_3 33 rfl rfl, mmW_1 6 rfl rfl, mmW_3 35 rfl rfl, by decide, by decide +kernel, by decide, mmW_3 34 rfl rfl⟩
theorem cv_X3_42 : mmCV RX3 42 mX3_readUnit 1 3 := ⟨mmW_3 36 rfl rfl, mmW_1 6 rfl rfl, mmW_3 39 rfl rfl, by decide, by decide +kernel, by decide, mmW_3 38 rfl rfl, mmW_p1 14 (q := (yX3_readUnit, _)) rfl rfl, ⟨_, _, rfl⟩⟩
theorem cv_X3_46 : mmCV RX3 46 mX3_readSign 1 3 := ⟨mmW_3 40 rfl rfl, mmW_1 6 rfl rfl, mmW_3 43 rfl rfl, by decide, by decide +kernel, by decide, mmW_3 42 rfl rfl, mmW_p1 15 (q := (yX3_readSign, _)) rfl rfl, ⟨_, _, rfl⟩⟩
theorem cv_X3_49 : mmCV RX3 49 mX3_readColumn 1 3 := ⟨mmW_3 44 rfl rfl, mmW_1 6 rfl rfl, mmW_3 47 rfl rfl, by decide, by decide +kernel, by decide, mmW_3 46 rfl rfl, mmW_p2 0 (q := (yX3_readColumn, _)) rfl rfl, ⟨_, _, rfl⟩⟩
theorem cv_X3_52 : mmCV RX3 52 mX3_readRow 1 3 := ⟨mmW_3 48 rfl rfl, mmW_1 6 rfl rfl, mmW_3 51 rfl rfl, by decide, by decide +kernel, by decide, mmW_3 50 rfl rfl, mmW_p2 1 (q := (yX3_readRow, _)) rfl rfl, ⟨_, _, rfl⟩⟩
theorem cv_L_53 : mmCV RL 53 mX7_type 1 7 := ⟨mmW_3 52 rfl rfl, mmW_1 1 rfl rfl, mmW_3 55 rfl rfl, by decide, by decide +kernel, by decide, mmW_3 53 rfl rfl, mmW_3 54 rfl rfl, ⟨_, _, rfl⟩⟩
theorem cv_X7_237 : mmCV RX7 237 mX3_append 1 3 := ⟨mmW_3 56 rfl rfl, mmW_1 6 rfl rfl, mmW_3 59 rfl rfl, by decide, by decide +kernel, by decide, mmW_3 57 rfl rfl, mmW_3 58 rfl rfl, ⟨_, _, rfl⟩⟩
theorem cv_L_58 : mmCV RL 58 mX7_clearText 0 7 := ⟨mmW_3 60 rfl rfl, mmW_1 1 rfl rfl, mmW_3 63 rfl rfl, by decide, by decide +kernel, by decide, mmW_3 61 rfl rfl, mmW_3 62 rfl rfl, ⟨_, _, rfl⟩⟩
theorem cv_L_62 : mmCV RL 62 mX7_undo 0 7 := ⟨mmW_3 64 rfl rfl, mmW_1 1 rfl rfl, mmW_3 67 rfl rfl, by decide, by decide +kernel, by decide, mmW_3 65 rfl rfl, mmW_3 66 rfl rfl, ⟨_, _, rfl⟩⟩
theorem cv_X7_244 : mmCV RX7 244 mX2_takeBack 1 2 := ⟨mmW_3 68 rfl rfl, mmW_1 5 rfl rfl, mmW_3 71 rfl rfl, by decide, by decide +kernel, by decide, mmW_3 69 rfl rfl, mmW_3 70 rfl rfl, ⟨_, _, rfl⟩⟩
theorem cv_L_66 : mmCV RL 66 mX7_keep 0 7 := ⟨mmW_3 72 rfl rfl, mmW_1 1 rfl rfl, mmW_3 75 rfl rfl, by decide, by decide +kernel, by decide, mmW_3 73 rfl rfl, mmW_3 74 rfl rfl, ⟨_, _, rfl⟩⟩
theorem cv_L_70 : mmCV RL 70 mX7_restore 0 7 := ⟨mmW_3 76 rfl rfl, mmW_1 1 rfl rfl, mmW_3 79 rfl rfl, by decide, by decide +kernel, by decide, mmW_3 77 rfl rfl, mmW_3 78 rfl rfl, ⟨_, _, rfl⟩⟩
theorem cv_L_74 : mmCV RL 74 mX7_hex 2 7 := ⟨mmW_3 80 rfl rfl, mmW_1 1 rfl rfl, mmW_3 83 rfl rfl, by decide, by decide +kernel, by decide, mmW_3 81 rfl rfl, mmW_3 82 rfl rfl, ⟨_, _, rfl⟩⟩
theorem cv_X7_255 : mmCV RX7 255 mX4_inZone 2 4 := ⟨mmW_3 84 rfl rfl, mmW_1 3 rfl rfl, mmW_2 145 rfl rfl, by decide, by decide +kernel, by decide, mmW_2 143 rfl rfl, mmW_2 144 rfl rfl, ⟨_, _, rfl⟩⟩
theorem cs_X7_258 : mmCS RX7 258 mX7_oneIf 1 := ⟨mmW_3 85 rfl rfl, mmW_1 1 rfl rfl, mmW_3 87 rfl rfl, by decide, by decide +kernel, by decide, mmW_3 86 rfl rfl⟩
theorem cv_X7_262 : mmCV RX7 262 mX4_isSeen 2 4 := ⟨mmW_3 88 rfl rfl, mmW_1 3 rfl rfl, mmW_3 91 rfl rfl, by decide, by decide +kernel, by decide, mmW_3 89 rfl rfl, mmW_3 90 rfl rfl, ⟨_, _, rfl⟩⟩
theorem cv_X4_103 : mmCV RX4 103 mX4_isSeenByUnit 2 4 := ⟨mmW_3 92 rfl rfl, mmW_1 3 rfl rfl, mmW_3 95 rfl rfl, by decide, by decide +kernel, by decide, mmW_3 94 rfl rfl, mmW_p2 2 (q := (yX4_isSeenByUnit, _)) rfl rfl, ⟨_, _, rfl⟩⟩
theorem cs_X4_109 : mmCS RX4 109 mX0_stepsBetween 2 := ⟨mmW_3 96 rfl rfl, mmW_1 2 rfl rfl, mmW_3 98 rfl rfl, by decide, by decide +kernel, by decide, mmW_3 97 rfl rfl⟩
theorem cs_X0_26 : mmCS RX0 26 mX0_slantOf 1 := ⟨mmW_3 99 rfl rfl, mmW_1 2 rfl rfl, mmW_3 101 rfl rfl, by decide, by decide +kernel, by decide, mmW_3 100 rfl rfl⟩
theorem cs_X0_30 : mmCS RX0 30 mJ9_abs_0f7a4 1 := ⟨mmW_3 102 rfl rfl, mmW_1 12 rfl rfl, mmW_2 220 rfl rfl, by decide, by decide +kernel, by decide, mmW_2 219 rfl rfl⟩
theorem cs_X0_35 : mmCS RX0 35 mJ9_max_7cf53 2 := ⟨mmW_3 103 rfl rfl, mmW_1 12 rfl rfl, mmW_2 223 rfl rfl, by decide, by decide +kernel, by decide, mmW_2 222 rfl rfl⟩
theorem cv_X4_106 : mmCV RX4 106 mX4_isSeenByFort 2 4 := ⟨mmW_3 104 rfl rfl, mmW_1 3 rfl rfl, mmW_3 107 rfl rfl, by decide, by decide +kernel, by decide, mmW_3 106 rfl rfl, mmW_p2 3 (q := (yX4_isSeenByFort, _)) rfl rfl, ⟨_, _, rfl⟩⟩
theorem cv_X7_265 : mmCV RX7 265 mX0_neighbourCount 1 0 := ⟨mmW_3 108 rfl rfl, mmW_1 2 rfl rfl, mmW_3 111 rfl rfl, by decide, by decide +kernel, by decide, mmW_3 109 rfl rfl, mmW_3 110 rfl rfl, ⟨_, _, rfl⟩⟩
theorem cs_X0_38 : mmCS RX0 38 mX0_isHex 1 := ⟨mmW_3 112 rfl rfl, mmW_1 2 rfl rfl, mmW_2 39 rfl rfl, by decide, by decide +kernel, by decide, mmW_2 38 rfl rfl⟩
theorem cv_L_78 : mmCV RL 78 mX7_beside 2 7 := ⟨mmW_3 113 rfl rfl, mmW_1 1 rfl rfl, mmW_3 116 rfl rfl, by decide, by decide +kernel, by decide, mmW_3 114 rfl rfl, mmW_3 115 rfl rfl, ⟨_, _, rfl⟩⟩
theorem cv_L_82 : mmCV RL 82 mX7_distance 2 7 := ⟨mmW_3 117 rfl rfl, mmW_1 1 rfl rfl, mmW_3 120 rfl rfl, by decide, by decide +kernel, by decide, mmW_3 118 rfl rfl, mmW_3 119 rfl rfl, ⟨_, _, rfl⟩⟩
theorem cs_X7_268 : mmCS RX7 268 mX0_stepsBetween 2 := ⟨mmW_3 121 rfl rfl, mmW_1 2 rfl rfl, mmW_3 98 rfl rfl, by decide, by decide +kernel, by decide, mmW_3 97 rfl rfl⟩
theorem cv_L_86 : mmCV RL 86 mX7_unit 2 7 := ⟨mmW_3 122 rfl rfl, mmW_1 1 rfl rfl, mmW_3 125 rfl rfl, by decide, by decide +kernel, by decide, mmW_3 123 rfl rfl, mmW_3 124 rfl rfl, ⟨_, _, rfl⟩⟩
theorem cv_X7_274 : mmCV RX7 274 mX6_endCount 1 6 := ⟨mmW_3 126 rfl rfl, mmW_1 7 rfl rfl, mmW_3 129 rfl rfl, by decide, by decide +kernel, by decide, mmW_3 127 rfl rfl, mmW_3 128 rfl rfl, ⟨_, _, rfl⟩⟩
theorem cv_X6_65 : mmCV RX6 65 mX6_canEndOn 2 6 := ⟨mmW_3 130 rfl rfl, mmW_1 7 rfl rfl, mmW_2 160 rfl rfl, by decide, by decide +kernel, by decide, mmW_2 158 rfl rfl, mmW_2 159 rfl rfl, ⟨_, _, rfl⟩⟩
theorem cv_L_90 : mmCV RL 90 mX7_cost 2 7 := ⟨mmW_3 131 rfl rfl, mmW_1 1 rfl rfl, mmW_3 134 rfl rfl, by decide, by decide +kernel, by decide, mmW_3 132 rfl rfl, mmW_3 133 rfl rfl, ⟨_, _, rfl⟩⟩
theorem cv_L_94 : mmCV RL 94 mX7_would 3 7 := ⟨mmW_3 135 rfl rfl, mmW_1 1 rfl rfl, mmW_3 138 rfl rfl, by decide, by decide +kernel, by decide, mmW_3 136 rfl rfl, mmW_3 137 rfl rfl, ⟨_, _, rfl⟩⟩
theorem cv_L_98 : mmCV RL 98 mX7_besieged 1 7 := ⟨mmW_3 139 rfl rfl, mmW_1 1 rfl rfl, mmW_3 142 rfl rfl, by decide, by decide +kernel, by decide, mmW_3 140 rfl rfl, mmW_3 141 rfl rfl, ⟨_, _, rfl⟩⟩
theorem cv_L_103 : mmCV RL 103 mX7_count 1 7 := ⟨mmW_3 143 rfl rfl, mmW_1 1 rfl rfl, mmW_3 146 rfl rfl, by decide, by decide +kernel, by decide, mmW_3 144 rfl rfl, mmW_3 145 rfl rfl, ⟨_, _, rfl⟩⟩
theorem cv_X7_284 : mmCV RX7 284 mX4_unitCount 1 4 := ⟨mmW_3 147 rfl rfl, mmW_1 3 rfl rfl, mmW_3 150 rfl rfl, by decide, by decide +kernel, by decide, mmW_3 148 rfl rfl, mmW_3 149 rfl rfl, ⟨_, _, rfl⟩⟩
theorem cv_X7_287 : mmCV RX7 287 mX4_strengthOf 1 4 := ⟨mmW_3 151 rfl rfl, mmW_1 3 rfl rfl, mmW_3 154 rfl rfl, by decide, by decide +kernel, by decide, mmW_3 152 rfl rfl, mmW_3 153 rfl rfl, ⟨_, _, rfl⟩⟩
theorem cv_X7_290 : mmCV RX7 290 mX4_seenCount 1 4 := ⟨mmW_3 155 rfl rfl, mmW_1 3 rfl rfl, mmW_3 158 rfl rfl, by decide, by decide +kernel, by decide, mmW_3 156 rfl rfl, mmW_3 157 rfl rfl, ⟨_, _, rfl⟩⟩
theorem cv_X4_112 : mmCV RX4 112 mX4_isSeen 2 4 := ⟨mmW_3 159 rfl rfl, mmW_1 3 rfl rfl, mmW_3 91 rfl rfl, by decide, by decide +kernel, by decide, mmW_3 89 rfl rfl, mmW_3 90 rfl rfl, ⟨_, _, rfl⟩⟩
theorem cv_L_17 : mmCV RL 17 mX8_ground 2 8 := ⟨mmW_3 221 rfl rfl, mmW_1 10 rfl rfl, mmW_3 224 rfl rfl, by decide, by decide +kernel, by decide, mmW_3 222 rfl rfl, mmW_3 223 rfl rfl, ⟨_, _, rfl⟩⟩
theorem cs_X8_124 : mmCS RX8 124 mX8_isHex 1 := ⟨mmW_3 225 rfl rfl, mmW_1 10 rfl rfl, mmW_3 227 rfl rfl, by decide, by decide +kernel, by decide, mmW_3 226 rfl rfl⟩
theorem cs_X8_48 : mmCS RX8 48 mX8_in 3 := ⟨mmW_3 228 rfl rfl, mmW_1 10 rfl rfl, mmW_3 230 rfl rfl, by decide, by decide +kernel, by decide, mmW_3 229 rfl rfl⟩
theorem cv_X8_127 : mmCV RX8 127 mX8_records 0 8 := ⟨mmW_3 231 rfl rfl, mmW_1 10 rfl rfl, mmW_3 234 rfl rfl, by decide, by decide +kernel, by decide, mmW_3 233 rfl rfl, mmW_p2 4 (q := (yX8_records, _)) rfl rfl, ⟨_, _, rfl⟩⟩
theorem cv_L_22 : mmCV RL 22 mX8_river 3 8 := ⟨mmW_3 235 rfl rfl, mmW_1 10 rfl rfl, mmW_3 238 rfl rfl, by decide, by decide +kernel, by decide, mmW_3 236 rfl rfl, mmW_3 237 rfl rfl, ⟨_, _, rfl⟩⟩
theorem cs_X8_59 : mmCS RX8 59 mX8_next 2 := ⟨mmW_3 239 rfl rfl, mmW_1 10 rfl rfl, mmW_4 1 rfl rfl, by decide, by decide +kernel, by decide, mmW_4 0 rfl rfl⟩
theorem cv_X8_77 : mmCV RX8 77 mX8_hasRiver 2 8 := ⟨mmW_4 2 rfl rfl, mmW_1 10 rfl rfl, mmW_4 5 rfl rfl, by decide, by decide +kernel, by decide, mmW_4 4 rfl rfl, mmW_p2 5 (q := (yX8_hasRiver, _)) rfl rfl, ⟨_, _, rfl⟩⟩
theorem cv_X8_130 : mmCV RX8 130 mX8_rivers 0 8 := ⟨mmW_4 6 rfl rfl, mmW_1 10 rfl rfl, mmW_4 9 rfl rfl, by decide, by decide +kernel, by decide, mmW_4 8 rfl rfl, mmW_p2 6 (q := (yX8_rivers, _)) rfl rfl, ⟨_, _, rfl⟩⟩
theorem cv_L_26 : mmCV RL 26 mX8_fort 2 8 := ⟨mmW_4 10 rfl rfl, mmW_1 10 rfl rfl, mmW_4 13 rfl rfl, by decide, by decide +kernel, by decide, mmW_4 11 rfl rfl, mmW_4 12 rfl rfl, ⟨_, _, rfl⟩⟩
theorem cv_X8_62 : mmCV RX8 62 mX8_unitOn 1 8 := ⟨mmW_4 14 rfl rfl, mmW_1 10 rfl rfl, mmW_4 17 rfl rfl, by decide, by decide +kernel, by decide, mmW_4 16 rfl rfl, mmW_p2 7 (q := (yX8_unitOn, _)) rfl rfl, ⟨_, _, rfl⟩⟩
theorem cv_X8_52 : mmCV RX8 52 mX8_of 2 8 := ⟨mmW_4 18 rfl rfl, mmW_1 10 rfl rfl, mmW_4 21 rfl rfl, by decide, by decide +kernel, by decide, mmW_4 20 rfl rfl, mmW_p2 8 (q := (yX8_of, _)) rfl rfl, ⟨_, _, rfl⟩⟩
theorem cv_X8_133 : mmCV RX8 133 mX8_forts 1 8 := ⟨mmW_4 22 rfl rfl, mmW_1 10 rfl rfl, mmW_4 25 rfl rfl, by decide, by decide +kernel, by decide, mmW_4 24 rfl rfl, mmW_p2 9 (q := (yX8_forts, _)) rfl rfl, ⟨_, _, rfl⟩⟩
theorem cv_L_30 : mmCV RL 30 mX8_base 2 8 := ⟨mmW_4 26 rfl rfl, mmW_1 10 rfl rfl, mmW_4 29 rfl rfl, by decide, by decide +kernel, by decide, mmW_4 27 rfl rfl, mmW_4 28 rfl rfl, ⟨_, _, rfl⟩⟩
theorem cv_L_35 : mmCV RL 35 mX8_place 3 8 := ⟨mmW_4 30 rfl rfl, mmW_1 10 rfl rfl, mmW_4 33 rfl rfl, by decide, by decide +kernel, by decide, mmW_4 31 rfl rfl, mmW_4 32 rfl rfl, ⟨_, _, rfl⟩⟩
theorem cv_X8_73 : mmCV RX8 73 mX8_lay 3 8 := ⟨mmW_4 34 rfl rfl, mmW_1 10 rfl rfl, mmW_4 37 rfl rfl, by decide, by decide +kernel, by decide, mmW_4 36 rfl rfl, mmW_p2 10 (q := (yX8_lay, _)) rfl rfl, ⟨_, _, rfl⟩⟩
theorem cv_X8_120 : mmCV RX8 120 mX8_stands 2 8 := ⟨mmW_4 38 rfl rfl, mmW_1 10 rfl rfl, mmW_4 41 rfl rfl, by decide, by decide +kernel, by decide, mmW_4 40 rfl rfl, mmW_p2 11 (q := (yX8_stands, _)) rfl rfl, ⟨_, _, rfl⟩⟩
theorem cv_L_39 : mmCV RL 39 mX8_move 2 8 := ⟨mmW_4 42 rfl rfl, mmW_1 10 rfl rfl, mmW_4 45 rfl rfl, by decide, by decide +kernel, by decide, mmW_4 43 rfl rfl, mmW_4 44 rfl rfl, ⟨_, _, rfl⟩⟩
theorem cv_X8_148 : mmCV RX8 148 mX8_refusesMove 2 8 := ⟨mmW_4 46 rfl rfl, mmW_1 10 rfl rfl, mmW_4 49 rfl rfl, by decide, by decide +kernel, by decide, mmW_4 48 rfl rfl, mmW_p2 12 (q := (yX8_refusesMove, _)) rfl rfl, ⟨_, _, rfl⟩⟩
theorem cv_X8_136 : mmCV RX8 136 mX8_isUnit 1 8 := ⟨mmW_4 50 rfl rfl, mmW_1 10 rfl rfl, mmW_4 53 rfl rfl, by decide, by decide +kernel, by decide, mmW_4 52 rfl rfl, mmW_p2 13 (q := (yX8_isUnit, _)) rfl rfl, ⟨_, _, rfl⟩⟩
theorem cv_X8_139 : mmCV RX8 139 mX8_isAtTurn 1 8 := ⟨mmW_4 54 rfl rfl, mmW_1 10 rfl rfl, mmW_4 57 rfl rfl, by decide, by decide +kernel, by decide, mmW_4 56 rfl rfl, mmW_p2 14 (q := (yX8_isAtTurn, _)) rfl rfl, ⟨_, _, rfl⟩⟩
theorem cv_X8_142 : mmCV RX8 142 mX8_laysWays 1 8 := ⟨mmW_4 58 rfl rfl, mmW_1 10 rfl rfl, mmW_4 61 rfl rfl, by decide, by decide +kernel, by decide, mmW_4 60 rfl rfl, mmW_p2 15 (q := (yX8_laysWays, _)) rfl rfl, ⟨_, _, rfl⟩⟩
theorem cv_X8_80 : mmCV RX8 80 mX8_laysZone 1 8 := ⟨mmW_4 62 rfl rfl, mmW_1 10 rfl rfl, mmW_4 65 rfl rfl, by decide, by decide +kernel, by decide, mmW_4 64 rfl rfl, mmW_p3 0 (q := (yX8_laysZone, _)) rfl rfl, ⟨_, _, rfl⟩⟩
theorem cv_X8_70 : mmCV RX8 70 mX8_isInZone 2 8 := ⟨mmW_4 66 rfl rfl, mmW_1 10 rfl rfl, mmW_4 69 rfl rfl, by decide, by decide +kernel, by decide, mmW_4 68 rfl rfl, mmW_p3 1 (q := (yX8_isInZone, _)) rfl rfl, ⟨_, _, rfl⟩⟩
theorem cv_X8_66 : mmCV RX8 66 mX8_isOn 2 8 := ⟨mmW_4 70 rfl rfl, mmW_1 10 rfl rfl, mmW_4 73 rfl rfl, by decide, by decide +kernel, by decide, mmW_4 72 rfl rfl, mmW_p3 2 (q := (yX8_isOn, _)) rfl rfl, ⟨_, _, rfl⟩⟩
theorem cv_X8_84 : mmCV RX8 84 mX8_entering 3 8 := ⟨mmW_4 74 rfl rfl, mmW_1 10 rfl rfl, mmW_4 77 rfl rfl, by decide, by decide +kernel, by decide, mmW_4 76 rfl rfl, mmW_p3 3 (q := (yX8_entering, _)) rfl rfl, ⟨_, _, rfl⟩⟩
theorem cv_X8_88 : mmCV RX8 88 mX8_cheapest 0 8 := ⟨mmW_4 78 rfl rfl, mmW_1 10 rfl rfl, mmW_4 81 rfl rfl, by decide, by decide +kernel, by decide, mmW_4 80 rfl rfl, mmW_p3 4 (q := (yX8_cheapest, _)) rfl rfl, ⟨_, _, rfl⟩⟩
theorem cv_X8_145 : mmCV RX8 145 mX8_canReach 2 8 := ⟨mmW_4 82 rfl rfl, mmW_1 10 rfl rfl, mmW_4 85 rfl rfl, by decide, by decide +kernel, by decide, mmW_4 84 rfl rfl, mmW_p3 5 (q := (yX8_canReach, _)) rfl rfl, ⟨_, _, rfl⟩⟩
theorem cv_X8_151 : mmCV RX8 151 mX8_moves 2 8 := ⟨mmW_4 86 rfl rfl, mmW_1 10 rfl rfl, mmW_4 89 rfl rfl, by decide, by decide +kernel, by decide, mmW_4 88 rfl rfl, mmW_p3 6 (q := (yX8_moves, _)) rfl rfl, ⟨_, _, rfl⟩⟩
theorem cv_L_43 : mmCV RL 43 mX8_attack 2 8 := ⟨mmW_4 90 rfl rfl, mmW_1 10 rfl rfl, mmW_4 93 rfl rfl, by decide, by decide +kernel, by decide, mmW_4 91 rfl rfl, mmW_4 92 rfl rfl, ⟨_, _, rfl⟩⟩
theorem cv_X8_157 : mmCV RX8 157 mX8_refusesAttack 2 8 := ⟨mmW_4 94 rfl rfl, mmW_1 10 rfl rfl, mmW_4 97 rfl rfl, by decide, by decide +kernel, by decide, mmW_4 96 rfl rfl, mmW_p3 7 (q := (yX8_refusesAttack, _)) rfl rfl, ⟨_, _, rfl⟩⟩
theorem cv_X8_154 : mmCV RX8 154 mX8_canFight 2 8 := ⟨mmW_4 98 rfl rfl, mmW_1 10 rfl rfl, mmW_4 101 rfl rfl, by decide, by decide +kernel, by decide, mmW_4 100 rfl rfl, mmW_p3 8 (q := (yX8_canFight, _)) rfl rfl, ⟨_, _, rfl⟩⟩
theorem cs_X8_108 : mmCS RX8 108 mX8_directionTo 2 := ⟨mmW_4 102 rfl rfl, mmW_1 10 rfl rfl, mmW_4 104 rfl rfl, by decide, by decide +kernel, by decide, mmW_4 103 rfl rfl⟩
theorem cv_X8_160 : mmCV RX8 160 mX8_fights 2 8 := ⟨mmW_4 105 rfl rfl, mmW_1 10 rfl rfl, mmW_4 108 rfl rfl, by decide, by decide +kernel, by decide, mmW_4 107 rfl rfl, mmW_p3 9 (q := (yX8_fights, _)) rfl rfl, ⟨_, _, rfl⟩⟩
theorem cv_X8_111 : mmCV RX8 111 mX8_power 2 8 := ⟨mmW_4 109 rfl rfl, mmW_1 10 rfl rfl, mmW_4 112 rfl rfl, by decide, by decide +kernel, by decide, mmW_4 111 rfl rfl, mmW_p3 10 (q := (yX8_power, _)) rfl rfl, ⟨_, _, rfl⟩⟩
theorem cv_X8_104 : mmCV RX8 104 mX8_isSupplied 1 8 := ⟨mmW_4 113 rfl rfl, mmW_1 10 rfl rfl, mmW_4 116 rfl rfl, by decide, by decide +kernel, by decide, mmW_4 115 rfl rfl, mmW_p3 11 (q := (yX8_isSupplied, _)) rfl rfl, ⟨_, _, rfl⟩⟩
theorem cv_X8_98 : mmCV RX8 98 mX8_toSource 1 8 := ⟨mmW_4 117 rfl rfl, mmW_1 10 rfl rfl, mmW_4 120 rfl rfl, by decide, by decide +kernel, by decide, mmW_4 119 rfl rfl, mmW_p3 12 (q := (yX8_toSource, _)) rfl rfl, ⟨_, _, rfl⟩⟩
theorem cv_X8_92 : mmCV RX8 92 mX8_isSource 2 8 := ⟨mmW_4 121 rfl rfl, mmW_1 10 rfl rfl, mmW_4 124 rfl rfl, by decide, by decide +kernel, by decide, mmW_4 123 rfl rfl, mmW_p3 13 (q := (yX8_isSource, _)) rfl rfl, ⟨_, _, rfl⟩⟩
theorem cv_X8_95 : mmCV RX8 95 mX8_isFree 2 8 := ⟨mmW_4 125 rfl rfl, mmW_1 10 rfl rfl, mmW_4 128 rfl rfl, by decide, by decide +kernel, by decide, mmW_4 127 rfl rfl, mmW_p3 14 (q := (yX8_isFree, _)) rfl rfl, ⟨_, _, rfl⟩⟩
theorem cv_X8_114 : mmCV RX8 114 mX8_defence 1 8 := ⟨mmW_4 129 rfl rfl, mmW_1 10 rfl rfl, mmW_4 132 rfl rfl, by decide, by decide +kernel, by decide, mmW_4 131 rfl rfl, mmW_p3 15 (q := (yX8_defence, _)) rfl rfl, ⟨_, _, rfl⟩⟩
theorem cv_X8_117 : mmCV RX8 117 mX8_weakened 2 8 := ⟨mmW_4 133 rfl rfl, mmW_1 10 rfl rfl, mmW_4 136 rfl rfl, by decide, by decide +kernel, by decide, mmW_4 135 rfl rfl, mmW_p4 0 (q := (yX8_weakened, _)) rfl rfl, ⟨_, _, rfl⟩⟩
theorem cv_L_48 : mmCV RL 48 mX8_endTurn 0 8 := ⟨mmW_4 137 rfl rfl, mmW_1 10 rfl rfl, mmW_4 140 rfl rfl, by decide, by decide +kernel, by decide, mmW_4 138 rfl rfl, mmW_4 139 rfl rfl, ⟨_, _, rfl⟩⟩
theorem cv_X8_163 : mmCV RX8 163 mX8_ends 0 8 := ⟨mmW_4 141 rfl rfl, mmW_1 10 rfl rfl, mmW_4 144 rfl rfl, by decide, by decide +kernel, by decide, mmW_4 143 rfl rfl, mmW_p4 1 (q := (yX8_ends, _)) rfl rfl, ⟨_, _, rfl⟩⟩
theorem cv_L_57 : mmCV RL 57 mX8_type 1 8 := ⟨mmW_4 145 rfl rfl, mmW_1 10 rfl rfl, mmW_4 148 rfl rfl, by decide, by decide +kernel, by decide, mmW_4 146 rfl rfl, mmW_4 147 rfl rfl, ⟨_, _, rfl⟩⟩
theorem cv_L_61 : mmCV RL 61 mX8_clearText 0 8 := ⟨mmW_4 149 rfl rfl, mmW_1 10 rfl rfl, mmW_4 152 rfl rfl, by decide, by decide +kernel, by decide, mmW_4 150 rfl rfl, mmW_4 151 rfl rfl, ⟨_, _, rfl⟩⟩
theorem cv_L_52 : mmCV RL 52 mX8_perform 0 8 := ⟨mmW_4 153 rfl rfl, mmW_1 10 rfl rfl, mmW_4 156 rfl rfl, by decide, by decide +kernel, by decide, mmW_4 154 rfl rfl, mmW_4 155 rfl rfl, ⟨_, _, rfl⟩⟩
theorem cv_X8_188 : mmCV RX8 188 mX8_reads 0 8 := ⟨mmW_4 157 rfl rfl, mmW_1 10 rfl rfl, mmW_4 160 rfl rfl, by decide, by decide +kernel, by decide, mmW_4 159 rfl rfl, mmW_p4 2 (q := (yX8_reads, _)) rfl rfl, ⟨_, _, rfl⟩⟩
theorem cv_X8_185 : mmCV RX8 185 mX8_readsOrder 0 8 := ⟨mmW_4 161 rfl rfl, mmW_1 10 rfl rfl, mmW_4 164 rfl rfl, by decide, by decide +kernel, by decide, mmW_4 163 rfl rfl, mmW_p4 3 (q := (yX8_readsOrder, _)) rfl rfl, ⟨_, _, rfl⟩⟩
theorem cv_X8_176 : mmCV RX8 176 mX8_sign 0 8 := ⟨mmW_4 165 rfl rfl, mmW_1 10 rfl rfl, mmW_4 168 rfl rfl, by decide, by decide +kernel, by decide, mmW_4 167 rfl rfl, mmW_p4 4 (q := (yX8_sign, _)) rfl rfl, ⟨_, _, rfl⟩⟩
theorem cv_X8_179 : mmCV RX8 179 mX8_takes 2 8 := ⟨mmW_4 169 rfl rfl, mmW_1 10 rfl rfl, mmW_4 172 rfl rfl, by decide, by decide +kernel, by decide, mmW_4 171 rfl rfl, mmW_p4 5 (q := (yX8_takes, _)) rfl rfl, ⟨_, _, rfl⟩⟩
theorem cv_X8_191 : mmCV RX8 191 mX8_putAside 0 8 := ⟨mmW_4 173 rfl rfl, mmW_1 10 rfl rfl, mmW_4 176 rfl rfl, by decide, by decide +kernel, by decide, mmW_4 175 rfl rfl, mmW_p4 6 (q := (yX8_putAside, _)) rfl rfl, ⟨_, _, rfl⟩⟩
theorem cv_X8_194 : mmCV RX8 194 mX8_does 1 8 := ⟨mmW_4 177 rfl rfl, mmW_1 10 rfl rfl, mmW_4 180 rfl rfl, by decide, by decide +kernel, by decide, mmW_4 179 rfl rfl, mmW_p4 7 (q := (yX8_does, _)) rfl rfl, ⟨_, _, rfl⟩⟩
theorem cv_X8_197 : mmCV RX8 197 mX8_takeBack 0 8 := ⟨mmW_4 181 rfl rfl, mmW_1 10 rfl rfl, mmW_4 184 rfl rfl, by decide, by decide +kernel, by decide, mmW_4 183 rfl rfl, mmW_p4 8 (q := (yX8_takeBack, _)) rfl rfl, ⟨_, _, rfl⟩⟩
theorem cv_L_65 : mmCV RL 65 mX8_undo 0 8 := ⟨mmW_4 185 rfl rfl, mmW_1 10 rfl rfl, mmW_4 188 rfl rfl, by decide, by decide +kernel, by decide, mmW_4 186 rfl rfl, mmW_4 187 rfl rfl, ⟨_, _, rfl⟩⟩
theorem cv_L_69 : mmCV RL 69 mX8_keep 0 8 := ⟨mmW_4 189 rfl rfl, mmW_1 10 rfl rfl, mmW_4 192 rfl rfl, by decide, by decide +kernel, by decide, mmW_4 190 rfl rfl, mmW_4 191 rfl rfl, ⟨_, _, rfl⟩⟩
theorem cv_L_73 : mmCV RL 73 mX8_restore 0 8 := ⟨mmW_4 193 rfl rfl, mmW_1 10 rfl rfl, mmW_4 196 rfl rfl, by decide, by decide +kernel, by decide, mmW_4 194 rfl rfl, mmW_4 195 rfl rfl, ⟨_, _, rfl⟩⟩
theorem cv_L_77 : mmCV RL 77 mX8_hex 2 8 := ⟨mmW_4 197 rfl rfl, mmW_1 10 rfl rfl, mmW_4 200 rfl rfl, by decide, by decide +kernel, by decide, mmW_4 198 rfl rfl, mmW_4 199 rfl rfl, ⟨_, _, rfl⟩⟩
theorem cv_X8_203 : mmCV RX8 203 mX8_sees 2 8 := ⟨mmW_4 201 rfl rfl, mmW_1 10 rfl rfl, mmW_4 204 rfl rfl, by decide, by decide +kernel, by decide, mmW_4 203 rfl rfl, mmW_p4 9 (q := (yX8_sees, _)) rfl rfl, ⟨_, _, rfl⟩⟩
theorem cv_X8_101 : mmCV RX8 101 mX8_laysDistances 1 8 := ⟨mmW_4 205 rfl rfl, mmW_1 10 rfl rfl, mmW_4 208 rfl rfl, by decide, by decide +kernel, by decide, mmW_4 207 rfl rfl, mmW_p4 10 (q := (yX8_laysDistances, _)) rfl rfl, ⟨_, _, rfl⟩⟩
theorem cv_X8_206 : mmCV RX8 206 mX8_besides 1 8 := ⟨mmW_4 209 rfl rfl, mmW_1 10 rfl rfl, mmW_4 212 rfl rfl, by decide, by decide +kernel, by decide, mmW_4 211 rfl rfl, mmW_p4 11 (q := (yX8_besides, _)) rfl rfl, ⟨_, _, rfl⟩⟩
theorem cv_L_81 : mmCV RL 81 mX8_beside 2 8 := ⟨mmW_4 213 rfl rfl, mmW_1 10 rfl rfl, mmW_4 216 rfl rfl, by decide, by decide +kernel, by decide, mmW_4 214 rfl rfl, mmW_4 215 rfl rfl, ⟨_, _, rfl⟩⟩
theorem cv_L_85 : mmCV RL 85 mX8_distance 2 8 := ⟨mmW_4 217 rfl rfl, mmW_1 10 rfl rfl, mmW_4 220 rfl rfl, by decide, by decide +kernel, by decide, mmW_4 218 rfl rfl, mmW_4 219 rfl rfl, ⟨_, _, rfl⟩⟩
theorem cv_L_89 : mmCV RL 89 mX8_unit 2 8 := ⟨mmW_4 221 rfl rfl, mmW_1 10 rfl rfl, mmW_4 224 rfl rfl, by decide, by decide +kernel, by decide, mmW_4 222 rfl rfl, mmW_4 223 rfl rfl, ⟨_, _, rfl⟩⟩
theorem cv_X8_209 : mmCV RX8 209 mX8_reaches 1 8 := ⟨mmW_4 225 rfl rfl, mmW_1 10 rfl rfl, mmW_4 228 rfl rfl, by decide, by decide +kernel, by decide, mmW_4 227 rfl rfl, mmW_p4 12 (q := (yX8_reaches, _)) rfl rfl, ⟨_, _, rfl⟩⟩
theorem cv_L_93 : mmCV RL 93 mX8_cost 2 8 := ⟨mmW_4 229 rfl rfl, mmW_1 10 rfl rfl, mmW_4 232 rfl rfl, by decide, by decide +kernel, by decide, mmW_4 230 rfl rfl, mmW_4 231 rfl rfl, ⟨_, _, rfl⟩⟩
theorem cv_L_97 : mmCV RL 97 mX8_would 3 8 := ⟨mmW_4 233 rfl rfl, mmW_1 10 rfl rfl, mmW_4 236 rfl rfl, by decide, by decide +kernel, by decide, mmW_4 234 rfl rfl, mmW_4 235 rfl rfl, ⟨_, _, rfl⟩⟩
theorem cv_L_102 : mmCV RL 102 mX8_besieged 1 8 := ⟨mmW_4 237 rfl rfl, mmW_1 10 rfl rfl, mmW_5 0 rfl rfl, by decide, by decide +kernel, by decide, mmW_4 238 rfl rfl, mmW_4 239 rfl rfl, ⟨_, _, rfl⟩⟩
theorem cv_L_106 : mmCV RL 106 mX8_count 1 8 := ⟨mmW_5 1 rfl rfl, mmW_1 10 rfl rfl, mmW_5 4 rfl rfl, by decide, by decide +kernel, by decide, mmW_5 2 rfl rfl, mmW_5 3 rfl rfl, ⟨_, _, rfl⟩⟩
theorem cv_X8_212 : mmCV RX8 212 mX8_unitsOf 2 8 := ⟨mmW_5 5 rfl rfl, mmW_1 10 rfl rfl, mmW_5 8 rfl rfl, by decide, by decide +kernel, by decide, mmW_5 7 rfl rfl, mmW_p4 13 (q := (yX8_unitsOf, _)) rfl rfl, ⟨_, _, rfl⟩⟩
theorem cv_X8_215 : mmCV RX8 215 mX8_seen 1 8 := ⟨mmW_5 9 rfl rfl, mmW_1 10 rfl rfl, mmW_5 12 rfl rfl, by decide, by decide +kernel, by decide, mmW_5 11 rfl rfl, mmW_p4 14 (q := (yX8_seen, _)) rfl rfl, ⟨_, _, rfl⟩⟩
