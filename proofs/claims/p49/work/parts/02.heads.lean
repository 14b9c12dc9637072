section
noncomputable abbrev am_H : Type := MethodName × ByteArray × Nat × Option FieldType × Nat × Nat
noncomputable def am_h0 : List am_H := [(yX0_init, cX0_init, 3, none, 1, 26),
  (yX0_pairsIn, cX0_pairsIn, 4, (some .long), 1, 0),
  (yX0_pairsEndingAt, cX0_pairsEndingAt, 4, (some .long), 4, 76),
  (yX0_pairsMeeting, cX0_pairsMeeting, 4, (some .long), 4, 76),
  (yX0_duesOf, cX0_duesOf, 6, (some .long), 6, 115),
  (yX0_duesNow, cX0_duesNow, 5, (some .long), 5, 91),
  (yX0_begin, cX0_begin, 1, none, 2, 24),
  (yX0_pairsAt, cX0_pairsAt, 2, (some .long), 1, 0),
  (yX0_goOn, cX0_goOn, 6, none, 3, 51),
  (yX0_bring, cX0_bring, 4, none, 1, 0),
  (yX0_pairsThatMove, cX0_pairsThatMove, 7, (some .int), 2, 25),
  (yX1_init, cX1_init, 1, none, 1, 26),
  (yX1_isTaxDay, cX1_isTaxDay, 1, (some .boolean), 1, 0),
  (yX1_begin, cX1_begin, 4, none, 1, 0),
  (yX1_carry, cX1_carry, 2, none, 1, 26),
  (yX1_rateOf, cX1_rateOf, 2, (some .int), 1, 0),
  (yX1_setRate, cX1_setRate, 3, none, 1, 0),
  (yX1_pass, cX1_pass, 4, none, 5, 92),
  (yX1_collect, cX1_collect, 5, none, 4, 68),
  (yX1_slotOf, cX1_slotOf, 3, (some .int), 1, 0),
  (yX1_goBackTo, cX1_goBackTo, 2, none, 2, 21),
  (yX1_borderAhead, cX1_borderAhead, 2, (some .int), 1, 0),
  (yX1_paidBy, cX1_paidBy, 6, (some .int), 2, 22),
  (yX1_changesOf, cX1_changesOf, 5, (some .int), 2, 21),
  (yX1_dueOfBoth, cX1_dueOfBoth, 4, (some .int), 4, 68),
  (yX1_dueToCrown, cX1_dueToCrown, 6, (some .int), 4, 68),
  (yX1_retrace, cX1_retrace, 5, none, 3, 53),
  (yX2_init, cX2_init, 1, none, 1, 26),
  (yX2_clear, cX2_clear, 1, none, 1, 0),
  (yX2_hasRoom, cX2_hasRoom, 1, (some .boolean), 1, 0),
  (yX2_add, cX2_add, 3, none, 2, 20),
  (yX2_takeFrom, cX2_takeFrom, 2, none, 1, 26),
  (yX2_setKind, cX2_setKind, 3, none, 2, 21),
  (yX2_has, cX2_has, 2, (some .boolean), 1, 0),
  (yX2_isPlace, cX2_isPlace, 2, (some .boolean), 1, 0),
  (yX2_kindOf, cX2_kindOf, 2, (some .int), 2, 21),
  (yX2_dueOf, cX2_dueOf, 2, (some .int), 2, 21),
  (yX2_isOf, cX2_isOf, 4, (some .boolean), 3, 42),
  (yX2_howManyAre, cX2_howManyAre, 4, (some .int), 4, 65),
  (yX2_crownOf, cX2_crownOf, 2, (some .int), 1, 0)]
noncomputable def am_h1 : List am_H := [(yX2_touches, cX2_touches, 2, (some .boolean), 1, 0),
  (yX2_rudeness, cX2_rudeness, 6, (some .int), 1, 0),
  (yX2_borderAfter, cX2_borderAfter, 8, (some .int), 2, 26),
  (yX2_dueTo, cX2_dueTo, 7, (some .int), 3, 42),
  (yX3_init, cX3_init, 3, none, 2, 46),
  (yX3_areBooks, cX3_areBooks, 5, (some .boolean), 3, 43),
  (yX3_startsThatFit, cX3_startsThatFit, 5, (some .int), 4, 77),
  (yX3_fits, cX3_fits, 5, (some .boolean), 3, 43),
  (yX3_trailAt, cX3_trailAt, 2, (some .int), 1, 0),
  (yX3_kindsThatFit, cX3_kindsThatFit, 4, (some .int), 4, 77),
  (yX4_init, cX4_init, 3, none, 1, 26),
  (yX4_firstThatCannotBe, cX4_firstThatCannotBe, 7, (some .int), 3, 43),
  (yX4_borderBehind, cX4_borderBehind, 6, (some .int), 3, 43),
  (yX4_rudenessOf, cX4_rudenessOf, 7, (some .int), 3, 43),
  (yX4_tollsOf, cX4_tollsOf, 6, (some .int), 3, 43),
  (yX4_tollNothing, cX4_tollNothing, 1, none, 2, 23),
  (yX4_tollOfStrip, cX4_tollOfStrip, 3, none, 5, 91),
  (yX4_tollLostBy, cX4_tollLostBy, 3, none, 5, 93),
  (yX4_tollAt, cX4_tollAt, 3, (some .int), 2, 20),
  (yX4_solve, cX4_solve, 6, none, 5, 92),
  (yX4_leastCost, cX4_leastCost, 5, (some .int), 4, 68),
  (yX4_costBy, cX4_costBy, 7, (some .int), 3, 42),
  (yX4_costFrom, cX4_costFrom, 3, (some .int), 1, 0),
  (yX4_setCost, cX4_setCost, 4, none, 1, 0),
  (yX4_firstMove, cX4_firstMove, 5, (some .int), 4, 68),
  (yX4_fewestDaysTo, cX4_fewestDaysTo, 4, (some .int), 4, 73),
  (yX4_reachIn, cX4_reachIn, 4, (some .int), 4, 73),
  (yX4_spread, cX4_spread, 5, (some .int), 3, 49),
  (yX4_placesBehind, cX4_placesBehind, 5, (some .int), 2, 25),
  (yX4_waysTo, cX4_waysTo, 5, (some .long), 4, 73),
  (yX4_passOn, cX4_passOn, 5, none, 3, 49),
  (yX4_isSlot, cX4_isSlot, 1, (some .boolean), 1, 0),
  (yX5_init, cX5_init, 2, none, 2, 46),
  (yX5_read, cX5_read, 3, (some .int), 6, 109),
  (yX5_skipBlanks, cX5_skipBlanks, 2, none, 4, 63),
  (yX5_sign, cX5_sign, 1, (some .int), 3, 43),
  (yX5_readStrip, cX5_readStrip, 3, (some .boolean), 5, 87),
  (yX5_readEnd, cX5_readEnd, 1, (some .boolean), 5, 87),
  (yX5_readFigure, cX5_readFigure, 5, (some .int), 4, 63),
  (yX5_kindOfSign, cX5_kindOfSign, 1, (some .int), 1, 0)]
noncomputable def am_h2 : List am_H := [(yX6_init, cX6_init, 4, none, 2, 26),
  (yX6_isNumber, cX6_isNumber, 2, (some .boolean), 1, 0),
  (yX6_isThere, cX6_isThere, 2, (some .boolean), 2, 21),
  (yX6_sizeOf, cX6_sizeOf, 2, (some .int), 1, 0),
  (yX6_hasPlace, cX6_hasPlace, 3, (some .boolean), 2, 21),
  (yX6_holds, cX6_holds, 4, (some .boolean), 2, 21),
  (yX6_make, cX6_make, 4, none, 2, 21),
  (yX6_remove, cX6_remove, 2, none, 2, 21),
  (yX6_get, cX6_get, 3, (some .int), 2, 21),
  (yX6_set, cX6_set, 4, none, 3, 43),
  (yX6_bring, cX6_bring, 6, none, 3, 44),
  (yX6_sum, cX6_sum, 5, (some .long), 3, 43),
  (yX6_isAllWithin, cX6_isAllWithin, 6, (some .boolean), 3, 43),
  (yX6_howMany, cX6_howMany, 3, (some .int), 3, 42),
  (yX6_digestOnto, cX6_digestOnto, 5, (some .long), 3, 43),
  (yX7_init, cX7_init, 3, none, 1, 26),
  (yX7_solve, cX7_solve, 5, none, 6, 131),
  (yX7_choose, cX7_choose, 7, none, 5, 105),
  (yX7_bestReply, cX7_bestReply, 8, (some .int), 4, 78),
  (yX7_worthOfBoth, cX7_worthOfBoth, 6, (some .int), 3, 53),
  (yX7_note, cX7_note, 5, none, 2, 21),
  (yX7_worthOf, cX7_worthOf, 3, (some .int), 2, 21),
  (yX7_bestSaying, cX7_bestSaying, 3, (some .int), 2, 21),
  (yX7_isSlot, cX7_isSlot, 2, (some .boolean), 1, 0),
  (yX7_isCalm, cX7_isCalm, 3, (some .boolean), 5, 105),
  (yX8_init, cX8_init, 2, none, 3, 68),
  (yX8_row, cX8_row, 3, (some .int), 3, 44),
  (yX8_lay, cX8_lay, 6, (some .int), 4, 66),
  (yX8_at, cX8_at, 4, (some .int), 4, 65),
  (yX8_tear, cX8_tear, 2, (some .int), 3, 42),
  (yX8_copy, cX8_copy, 6, (some .int), 4, 69),
  (yX8_mean, cX8_mean, 3, (some .int), 4, 67),
  (yX8_text, cX8_text, 3, (some .int), 3, 44),
  (yX8_put, cX8_put, 6, (some .int), 4, 66),
  (yX8_fault, cX8_fault, 2, (some .int), 7, 131),
  (yX8_land, cX8_land, 2, (some .int), 7, 131),
  (yX8_strip, cX8_strip, 3, (some .int), 4, 69),
  (yX8_mark, cX8_mark, 3, (some .int), 5, 91),
  (yX8_rate, cX8_rate, 4, (some .int), 2, 22),
  (yX8_day, cX8_day, 3, (some .int), 6, 115)]
noncomputable def am_h3 : List am_H := [(yX8_undo, cX8_undo, 3, (some .int), 3, 42),
  (yX8_border, cX8_border, 1, (some .int), 2, 21),
  (yX8_lain, cX8_lain, 2, (some .int), 2, 21),
  (yX8_got, cX8_got, 4, (some .int), 3, 47),
  (yX8_keep, cX8_keep, 2, (some .int), 2, 47),
  (yX8_on, cX8_on, 2, (some .int), 2, 47),
  (yX8_moves, cX8_moves, 3, (some .int), 2, 25),
  (yX8_judge, cX8_judge, 3, (some .int), 4, 69),
  (yX8_rude, cX8_rude, 2, (some .int), 5, 90),
  (yX8_pays, cX8_pays, 3, (some .int), 6, 113),
  (yX8_soonest, cX8_soonest, 4, (some .int), 6, 117),
  (yX8_polite, cX8_polite, 5, (some .int), 6, 117),
  (yX8_ways, cX8_ways, 3, (some .int), 5, 97),
  (yX8_reach, cX8_reach, 2, (some .int), 5, 96),
  (yX8_least, cX8_least, 4, (some .int), 6, 117),
  (yX8_most, cX8_most, 3, (some .int), 6, 117),
  (yX8_now, cX8_now, 1, (some .int), 5, 93),
  (yX8_odds, cX8_odds, 3, (some .int), 5, 99),
  (yX8_met, cX8_met, 3, (some .int), 5, 99),
  (yX8_hedge, cX8_hedge, 3, (some .int), 7, 140),
  (yX8_game, cX8_game, 3, (some .int), 7, 155),
  (yX8_said, cX8_said, 3, (some .int), 7, 155),
  (yX8_calm, cX8_calm, 3, (some .int), 7, 155),
  (yX8_law, cX8_law, 4, (some .int), 4, 65),
  (yX8_books, cX8_books, 2, (some .int), 5, 101),
  (yX8_kinds, cX8_kinds, 2, (some .int), 5, 100),
  (yX8_lots, cX8_lots, 6, (some .int), 6, 115),
  (yX8_asked, cX8_asked, 1, (some .int), 1, 0),
  (yX8_upper, cX8_upper, 1, (some .long), 1, 0),
  (yX8_lower, cX8_lower, 1, (some .long), 1, 0),
  (yX8_count, cX8_count, 2, (some .int), 5, 88),
  (yX8_finding, cX8_finding, 1, (some .int), 1, 0),
  (yX8_findings, cX8_findings, 2, (some .int), 1, 0),
  (yX8_digest, cX8_digest, 5, (some .long), 6, 109),
  (yX8_find, cX8_find, 2, (some .int), 1, 0),
  (yX8_tell, cX8_tell, 2, (some .int), 1, 0),
  (yX8_tellChance, cX8_tellChance, 5, (some .int), 1, 0),
  (yX8_lackingPlace, cX8_lackingPlace, 3, (some .int), 3, 43),
  (yX8_hasNoLand, cX8_hasNoLand, 1, (some .boolean), 1, 0),
  (yX8_isCrown, cX8_isCrown, 1, (some .boolean), 1, 0)]
noncomputable def am_h4 : List am_H := [(yX8_isPlanLength, cX8_isPlanLength, 1, (some .boolean), 1, 0),
  (yX8_isChanceLength, cX8_isChanceLength, 1, (some .boolean), 1, 0),
  (yX8_isGame, cX8_isGame, 2, (some .boolean), 1, 0),
  (yX8_canGo, cX8_canGo, 2, (some .boolean), 4, 69),
  (yX8_layPlan, cX8_layPlan, 6, none, 5, 92),
  (yX8_stripFact, cX8_stripFact, 3, (some .int), 3, 47),
  (yX8_keptLands, cX8_keptLands, 3, (some .int), 1, 0),
  (yX9_init, cX9_init, 2, none, 1, 26),
  (yX9_in, cX9_in, 6, (some .boolean), 1, 0),
  (yX9_has, cX9_has, 2, (some .boolean), 1, 0),
  (yX9_find, cX9_find, 2, (some .int), 1, 0),
  (yX9_tell, cX9_tell, 2, (some .int), 1, 0),
  (yX9_isRow, cX9_isRow, 1, (some .boolean), 2, 25),
  (yX9_isText, cX9_isText, 1, (some .boolean), 2, 25),
  (yX9_row, cX9_row, 3, (some .int), 3, 45),
  (yX9_makeRow, cX9_makeRow, 4, none, 1, 0),
  (yX9_refused, cX9_refused, 3, (some .int), 3, 45),
  (yX9_lay, cX9_lay, 6, (some .int), 4, 67),
  (yX9_at, cX9_at, 4, (some .int), 4, 67),
  (yX9_tear, cX9_tear, 2, (some .int), 3, 45),
  (yX9_isSpan, cX9_isSpan, 4, (some .boolean), 1, 0),
  (yX9_copy, cX9_copy, 9, (some .int), 3, 45),
  (yX9_mean, cX9_mean, 5, (some .int), 3, 45),
  (yX9_text, cX9_text, 4, (some .int), 3, 45),
  (yX9_put, cX9_put, 5, (some .int), 3, 45),
  (yX9_here, cX9_here, 1, (some .int), 1, 0),
  (yX9_skip, cX9_skip, 1, none, 2, 20),
  (yX9_figure, cX9_figure, 3, (some .int), 2, 25),
  (yX9_kindHere, cX9_kindHere, 2, (some .int), 2, 20),
  (yX9_readsStrip, cX9_readsStrip, 3, (some .boolean), 3, 47),
  (yX9_readsEnd, cX9_readsEnd, 2, (some .boolean), 3, 47),
  (yX9_faultOf, cX9_faultOf, 3, (some .int), 4, 69),
  (yX9_fault, cX9_fault, 2, (some .int), 5, 91),
  (yX9_land, cX9_land, 3, (some .int), 5, 91),
  (yX9_isStrip, cX9_isStrip, 2, (some .boolean), 2, 25),
  (yX9_isWall, cX9_isWall, 1, (some .boolean), 1, 0),
  (yX9_behind, cX9_behind, 7, (some .int), 3, 46),
  (yX9_isAt, cX9_isAt, 2, (some .boolean), 1, 0),
  (yX9_paysTo, cX9_paysTo, 7, (some .int), 2, 21),
  (yX9_isTaxed, cX9_isTaxed, 1, (some .boolean), 1, 0)]
noncomputable def am_h5 : List am_H := [(yX9_goOn, cX9_goOn, 8, none, 4, 72),
  (yX9_strip, cX9_strip, 3, (some .int), 3, 46),
  (yX9_toldOf, cX9_toldOf, 3, (some .int), 1, 0),
  (yX9_isOf, cX9_isOf, 3, (some .boolean), 1, 0),
  (yX9_paysNow, cX9_paysNow, 2, (some .int), 3, 47),
  (yX9_mark, cX9_mark, 3, (some .int), 4, 68),
  (yX9_rate, cX9_rate, 4, (some .int), 2, 25),
  (yX9_isSaid, cX9_isSaid, 1, (some .boolean), 2, 25),
  (yX9_day, cX9_day, 3, (some .int), 5, 99),
  (yX9_copyLand, cX9_copyLand, 4, none, 1, 0),
  (yX9_layAhead, cX9_layAhead, 3, none, 5, 99),
  (yX9_undo, cX9_undo, 3, (some .int), 6, 121),
  (yX9_border, cX9_border, 1, (some .int), 1, 0),
  (yX9_lain, cX9_lain, 2, (some .int), 6, 121),
  (yX9_got, cX9_got, 4, (some .int), 2, 25),
  (yX9_keep, cX9_keep, 2, (some .int), 2, 25),
  (yX9_on, cX9_on, 2, (some .int), 2, 25),
  (yX9_isPlace, cX9_isPlace, 2, (some .boolean), 2, 25),
  (yX9_rudeness, cX9_rudeness, 5, (some .int), 4, 72),
  (yX9_canBe, cX9_canBe, 4, (some .boolean), 5, 96),
  (yX9_moves, cX9_moves, 3, (some .int), 6, 119),
  (yX9_areMoves, cX9_areMoves, 4, (some .boolean), 2, 25),
  (yX9_goAlong, cX9_goAlong, 5, (some .int), 5, 96),
  (yX9_judge, cX9_judge, 3, (some .int), 6, 120),
  (yX9_rude, cX9_rude, 2, (some .int), 6, 120),
  (yX9_paysOn, cX9_paysOn, 4, (some .int), 3, 47),
  (yX9_pays, cX9_pays, 6, (some .int), 6, 120),
  (yX9_costOf, cX9_costOf, 6, (some .int), 5, 96),
  (yX9_valueBy, cX9_valueBy, 6, (some .int), 6, 121),
  (yX9_layValues, cX9_layValues, 8, none, 7, 146),
  (yX9_toRow, cX9_toRow, 6, none, 7, 146),
  (yX9_soonest, cX9_soonest, 4, (some .int), 7, 146),
  (yX9_reachIn, cX9_reachIn, 7, (some .int), 6, 119),
  (yX9_layWays, cX9_layWays, 8, none, 6, 119),
  (yX9_firstRow, cX9_firstRow, 6, none, 6, 119),
  (yX9_polite, cX9_polite, 5, (some .int), 8, 173),
  (yX9_tellParts, cX9_tellParts, 11, (some .int), 1, 0),
  (yX9_ways, cX9_ways, 3, (some .int), 7, 146),
  (yX9_reach, cX9_reach, 2, (some .int), 7, 145),
  (yX9_least, cX9_least, 4, (some .int), 8, 173)]
noncomputable def am_h6 : List am_H := [(yX9_most, cX9_most, 3, (some .int), 8, 173),
  (yX9_now, cX9_now, 3, (some .int), 3, 47),
  (yX9_layChances, cX9_layChances, 9, none, 4, 72),
  (yX9_sixteen, cX9_sixteen, 1, (some .long), 1, 0),
  (yX9_odds, cX9_odds, 3, (some .int), 5, 100),
  (yX9_met, cX9_met, 3, (some .int), 5, 100),
  (yX9_hedge, cX9_hedge, 3, (some .int), 5, 100),
  (yX9_gameBy, cX9_gameBy, 6, (some .int), 4, 72),
  (yX9_answerTo, cX9_answerTo, 6, (some .int), 5, 97),
  (yX9_valueOf, cX9_valueOf, 4, (some .int), 6, 122),
  (yX9_firstTo, cX9_firstTo, 5, (some .int), 7, 145),
  (yX9_layGames, cX9_layGames, 5, none, 8, 169),
  (yX9_isGame, cX9_isGame, 3, (some .boolean), 2, 25),
  (yX9_game, cX9_game, 3, (some .int), 9, 193),
  (yX9_said, cX9_said, 3, (some .int), 9, 193),
  (yX9_calm, cX9_calm, 5, (some .int), 9, 193),
  (yX9_law, cX9_law, 4, (some .int), 7, 142),
  (yX9_broughtTo, cX9_broughtTo, 5, (some .int), 4, 72),
  (yX9_areBooks, cX9_areBooks, 4, (some .boolean), 3, 46),
  (yX9_books, cX9_books, 7, (some .int), 5, 96),
  (yX9_kinds, cX9_kinds, 5, (some .int), 5, 96),
  (yX9_lots, cX9_lots, 6, (some .int), 5, 99),
  (yX9_asked, cX9_asked, 1, (some .int), 1, 0),
  (yX9_upper, cX9_upper, 1, (some .long), 1, 0),
  (yX9_lower, cX9_lower, 1, (some .long), 1, 0),
  (yX9_kindMany, cX9_kindMany, 4, (some .int), 2, 22),
  (yX9_thereOf, cX9_thereOf, 4, (some .int), 1, 0),
  (yX9_countOf, cX9_countOf, 2, (some .int), 3, 45),
  (yX9_count, cX9_count, 2, (some .int), 4, 66),
  (yX9_finding, cX9_finding, 1, (some .int), 1, 0),
  (yX9_findings, cX9_findings, 2, (some .int), 2, 25),
  (yX9_digest, cX9_digest, 5, (some .long), 4, 66),
  (yJ6_compare_7cf53, cJ6_compare_7cf53, 2, (some .int), 1, 0),
  (yJ9_abs_0f7a4, cJ9_abs_0f7a4, 1, (some .int), 1, 0),
  (yJ9_max_7cf53, cJ9_max_7cf53, 2, (some .int), 1, 0),
  (yJ9_min_7cf53, cJ9_min_7cf53, 2, (some .int), 1, 0),
  (yJ7_fill_d0a16, cJ7_fill_d0a16, 5, none, 1, 0),
  (yJ7_fill_53178, cJ7_fill_53178, 4, none, 1, 0),
  (yL_law, cL_law, 4, (some .boolean), 10, 217)]
noncomputable def am_hc : List (List am_H) := [am_h0, am_h1, am_h2, am_h3, am_h4, am_h5, am_h6]
noncomputable def am_h (k : Nat) : am_H := (am_hc.getD (k / 40) []).getD (k % 40) (yL_law, cL_law, 4, none, 0, 0)
noncomputable def am_y (k : Nat) : MethodName := (am_h k).1
noncomputable def am_cc (k : Nat) : ByteArray := (am_h k).2.1
noncomputable def am_ml (k : Nat) : Nat := (am_h k).2.2.1
noncomputable def am_rt (k : Nat) : Option FieldType := (am_h k).2.2.2.1
noncomputable def am_fr (k : Nat) : Nat := (am_h k).2.2.2.2.1
noncomputable def am_lc (k : Nat) : Nat := (am_h k).2.2.2.2.2
noncomputable def am_kw (k : Nat) : Cond := .code (am_y k) (am_cc k) (am_ml k) (am_rt k)
theorem am_kw0 : am_kw 0 ∈ lw_tbl := am_in1 (List.mem_of_getElem? (i := 185) rfl)
theorem am_kw1 : am_kw 1 ∈ lw_tbl := am_in4 (List.mem_of_getElem? (i := 80) rfl)
theorem am_kw2 : am_kw 2 ∈ lw_tbl := am_in4 (List.mem_of_getElem? (i := 54) rfl)
theorem am_kw3 : am_kw 3 ∈ lw_tbl := am_in4 (List.mem_of_getElem? (i := 89) rfl)
theorem am_kw4 : am_kw 4 ∈ lw_tbl := am_in4 (List.mem_of_getElem? (i := 97) rfl)
theorem am_kw5 : am_kw 5 ∈ lw_tbl := am_in4 (List.mem_of_getElem? (i := 102) rfl)
theorem am_kw6 : am_kw 6 ∈ lw_tbl := am_in4 (List.mem_of_getElem? (i := 58) rfl)
theorem am_kw7 : am_kw 7 ∈ lw_tbl := am_in4 (List.mem_of_getElem? (i := 72) rfl)
theorem am_kw8 : am_kw 8 ∈ lw_tbl := am_in4 (List.mem_of_getElem? (i := 63) rfl)
theorem am_kw9 : am_kw 9 ∈ lw_tbl := am_in4 (List.mem_of_getElem? (i := 76) rfl)
theorem am_kw10 : am_kw 10 ∈ lw_tbl := am_in4 (List.mem_of_getElem? (i := 67) rfl)
theorem am_kw11 : am_kw 11 ∈ lw_tbl := am_in1 (List.mem_of_getElem? (i := 113) rfl)
theorem am_kw12 : am_kw 12 ∈ lw_tbl := am_in3 (List.mem_of_getElem? (i := 72) rfl)
theorem am_kw13 : am_kw 13 ∈ lw_tbl := am_in2 (List.mem_of_getElem? (i := 205) rfl)
theorem am_kw14 : am_kw 14 ∈ lw_tbl := am_in3 (List.mem_of_getElem? (i := 105) rfl)
theorem am_kw15 : am_kw 15 ∈ lw_tbl := am_in3 (List.mem_of_getElem? (i := 43) rfl)
theorem am_kw16 : am_kw 16 ∈ lw_tbl := am_in3 (List.mem_of_getElem? (i := 47) rfl)
theorem am_kw17 : am_kw 17 ∈ lw_tbl := am_in3 (List.mem_of_getElem? (i := 55) rfl)
theorem am_kw18 : am_kw 18 ∈ lw_tbl := am_in3 (List.mem_of_getElem? (i := 76) rfl)
theorem am_kw19 : am_kw 19 ∈ lw_tbl := am_in2 (List.mem_of_getElem? (i := 236) rfl)
theorem am_kw20 : am_kw 20 ∈ lw_tbl := am_in3 (List.mem_of_getElem? (i := 85) rfl)
theorem am_kw21 : am_kw 21 ∈ lw_tbl := am_in3 (List.mem_of_getElem? (i := 4) rfl)
theorem am_kw22 : am_kw 22 ∈ lw_tbl := am_in2 (List.mem_of_getElem? (i := 233) rfl)
theorem am_kw23 : am_kw 23 ∈ lw_tbl := am_in3 (List.mem_of_getElem? (i := 0) rfl)
theorem am_kw24 : am_kw 24 ∈ lw_tbl := am_in3 (List.mem_of_getElem? (i := 21) rfl)
theorem am_kw25 : am_kw 25 ∈ lw_tbl := am_in4 (List.mem_of_getElem? (i := 38) rfl)
theorem am_kw26 : am_kw 26 ∈ lw_tbl := am_in4 (List.mem_of_getElem? (i := 180) rfl)
theorem am_kw27 : am_kw 27 ∈ lw_tbl := am_in1 (List.mem_of_getElem? (i := 62) rfl)
theorem am_kw28 : am_kw 28 ∈ lw_tbl := am_in2 (List.mem_of_getElem? (i := 158) rfl)
theorem am_kw29 : am_kw 29 ∈ lw_tbl := am_in2 (List.mem_of_getElem? (i := 187) rfl)
theorem am_kw30 : am_kw 30 ∈ lw_tbl := am_in2 (List.mem_of_getElem? (i := 191) rfl)
theorem am_kw31 : am_kw 31 ∈ lw_tbl := am_in2 (List.mem_of_getElem? (i := 200) rfl)
theorem am_kw32 : am_kw 32 ∈ lw_tbl := am_in4 (List.mem_of_getElem? (i := 202) rfl)
theorem am_kw33 : am_kw 33 ∈ lw_tbl := am_in2 (List.mem_of_getElem? (i := 213) rfl)
theorem am_kw34 : am_kw 34 ∈ lw_tbl := am_in3 (List.mem_of_getElem? (i := 172) rfl)
theorem am_kw35 : am_kw 35 ∈ lw_tbl := am_in2 (List.mem_of_getElem? (i := 221) rfl)
theorem am_kw36 : am_kw 36 ∈ lw_tbl := am_in2 (List.mem_of_getElem? (i := 226) rfl)
theorem am_kw37 : am_kw 37 ∈ lw_tbl := am_in3 (List.mem_of_getElem? (i := 13) rfl)
theorem am_kw38 : am_kw 38 ∈ lw_tbl := am_in4 (List.mem_of_getElem? (i := 231) rfl)
theorem am_kw39 : am_kw 39 ∈ lw_tbl := am_in2 (List.mem_of_getElem? (i := 229) rfl)
theorem am_kw40 : am_kw 40 ∈ lw_tbl := am_in3 (List.mem_of_getElem? (i := 17) rfl)
theorem am_kw41 : am_kw 41 ∈ lw_tbl := am_in3 (List.mem_of_getElem? (i := 66) rfl)
theorem am_kw42 : am_kw 42 ∈ lw_tbl := am_in3 (List.mem_of_getElem? (i := 59) rfl)
theorem am_kw43 : am_kw 43 ∈ lw_tbl := am_in3 (List.mem_of_getElem? (i := 25) rfl)
theorem am_kw44 : am_kw 44 ∈ lw_tbl := am_in1 (List.mem_of_getElem? (i := 226) rfl)
theorem am_kw45 : am_kw 45 ∈ lw_tbl := am_in4 (List.mem_of_getElem? (i := 168) rfl)
theorem am_kw46 : am_kw 46 ∈ lw_tbl := am_in4 (List.mem_of_getElem? (i := 176) rfl)
theorem am_kw47 : am_kw 47 ∈ lw_tbl := am_in4 (List.mem_of_getElem? (i := 184) rfl)
theorem am_kw48 : am_kw 48 ∈ lw_tbl := am_in4 (List.mem_of_getElem? (i := 188) rfl)
theorem am_kw49 : am_kw 49 ∈ lw_tbl := am_in4 (List.mem_of_getElem? (i := 197) rfl)
theorem am_kw50 : am_kw 50 ∈ lw_tbl := am_in1 (List.mem_of_getElem? (i := 156) rfl)
theorem am_kw51 : am_kw 51 ∈ lw_tbl := am_in3 (List.mem_of_getElem? (i := 127) rfl)
theorem am_kw52 : am_kw 52 ∈ lw_tbl := am_in3 (List.mem_of_getElem? (i := 134) rfl)
theorem am_kw53 : am_kw 53 ∈ lw_tbl := am_in3 (List.mem_of_getElem? (i := 146) rfl)
theorem am_kw54 : am_kw 54 ∈ lw_tbl := am_in3 (List.mem_of_getElem? (i := 159) rfl)
theorem am_kw55 : am_kw 55 ∈ lw_tbl := am_in3 (List.mem_of_getElem? (i := 188) rfl)
theorem am_kw56 : am_kw 56 ∈ lw_tbl := am_in3 (List.mem_of_getElem? (i := 154) rfl)
theorem am_kw57 : am_kw 57 ∈ lw_tbl := am_in4 (List.mem_of_getElem? (i := 34) rfl)
theorem am_kw58 : am_kw 58 ∈ lw_tbl := am_in3 (List.mem_of_getElem? (i := 163) rfl)
theorem am_kw59 : am_kw 59 ∈ lw_tbl := am_in3 (List.mem_of_getElem? (i := 193) rfl)
theorem am_kw60 : am_kw 60 ∈ lw_tbl := am_in3 (List.mem_of_getElem? (i := 202) rfl)
theorem am_kw61 : am_kw 61 ∈ lw_tbl := am_in3 (List.mem_of_getElem? (i := 206) rfl)
theorem am_kw62 : am_kw 62 ∈ lw_tbl := am_in3 (List.mem_of_getElem? (i := 210) rfl)
theorem am_kw63 : am_kw 63 ∈ lw_tbl := am_in3 (List.mem_of_getElem? (i := 198) rfl)
theorem am_kw64 : am_kw 64 ∈ lw_tbl := am_in3 (List.mem_of_getElem? (i := 221) rfl)
theorem am_kw65 : am_kw 65 ∈ lw_tbl := am_in3 (List.mem_of_getElem? (i := 176) rfl)
theorem am_kw66 : am_kw 66 ∈ lw_tbl := am_in4 (List.mem_of_getElem? (i := 22) rfl)
theorem am_kw67 : am_kw 67 ∈ lw_tbl := am_in3 (List.mem_of_getElem? (i := 180) rfl)
theorem am_kw68 : am_kw 68 ∈ lw_tbl := am_in3 (List.mem_of_getElem? (i := 184) rfl)
theorem am_kw69 : am_kw 69 ∈ lw_tbl := am_in3 (List.mem_of_getElem? (i := 238) rfl)
theorem am_kw70 : am_kw 70 ∈ lw_tbl := am_in4 (List.mem_of_getElem? (i := 8) rfl)
theorem am_kw71 : am_kw 71 ∈ lw_tbl := am_in4 (List.mem_of_getElem? (i := 4) rfl)
theorem am_kw72 : am_kw 72 ∈ lw_tbl := am_in1 (List.mem_of_getElem? (i := 56) rfl)
theorem am_kw73 : am_kw 73 ∈ lw_tbl := am_in2 (List.mem_of_getElem? (i := 154) rfl)
theorem am_kw74 : am_kw 74 ∈ lw_tbl := am_in2 (List.mem_of_getElem? (i := 162) rfl)
theorem am_kw75 : am_kw 75 ∈ lw_tbl := am_in2 (List.mem_of_getElem? (i := 166) rfl)
theorem am_kw76 : am_kw 76 ∈ lw_tbl := am_in2 (List.mem_of_getElem? (i := 180) rfl)
theorem am_kw77 : am_kw 77 ∈ lw_tbl := am_in2 (List.mem_of_getElem? (i := 171) rfl)
theorem am_kw78 : am_kw 78 ∈ lw_tbl := am_in2 (List.mem_of_getElem? (i := 175) rfl)
theorem am_kw79 : am_kw 79 ∈ lw_tbl := am_in2 (List.mem_of_getElem? (i := 183) rfl)
theorem am_kw80 : am_kw 80 ∈ lw_tbl := am_in1 (List.mem_of_getElem? (i := 27) rfl)
theorem am_kw81 : am_kw 81 ∈ lw_tbl := am_in2 (List.mem_of_getElem? (i := 59) rfl)
theorem am_kw82 : am_kw 82 ∈ lw_tbl := am_in2 (List.mem_of_getElem? (i := 79) rfl)
theorem am_kw83 : am_kw 83 ∈ lw_tbl := am_in2 (List.mem_of_getElem? (i := 83) rfl)
theorem am_kw84 : am_kw 84 ∈ lw_tbl := am_in2 (List.mem_of_getElem? (i := 87) rfl)
theorem am_kw85 : am_kw 85 ∈ lw_tbl := am_in2 (List.mem_of_getElem? (i := 120) rfl)
theorem am_kw86 : am_kw 86 ∈ lw_tbl := am_in2 (List.mem_of_getElem? (i := 67) rfl)
theorem am_kw87 : am_kw 87 ∈ lw_tbl := am_in2 (List.mem_of_getElem? (i := 112) rfl)
theorem am_kw88 : am_kw 88 ∈ lw_tbl := am_in2 (List.mem_of_getElem? (i := 91) rfl)
theorem am_kw89 : am_kw 89 ∈ lw_tbl := am_in2 (List.mem_of_getElem? (i := 95) rfl)
theorem am_kw90 : am_kw 90 ∈ lw_tbl := am_in2 (List.mem_of_getElem? (i := 124) rfl)
theorem am_kw91 : am_kw 91 ∈ lw_tbl := am_in2 (List.mem_of_getElem? (i := 137) rfl)
theorem am_kw92 : am_kw 92 ∈ lw_tbl := am_in3 (List.mem_of_getElem? (i := 123) rfl)
theorem am_kw93 : am_kw 93 ∈ lw_tbl := am_in4 (List.mem_of_getElem? (i := 236) rfl)
theorem am_kw94 : am_kw 94 ∈ lw_tbl := am_in5 (List.mem_of_getElem? (i := 20) rfl)
theorem am_kw95 : am_kw 95 ∈ lw_tbl := am_in1 (List.mem_of_getElem? (i := 204) rfl)
theorem am_kw96 : am_kw 96 ∈ lw_tbl := am_in4 (List.mem_of_getElem? (i := 114) rfl)
theorem am_kw97 : am_kw 97 ∈ lw_tbl := am_in4 (List.mem_of_getElem? (i := 125) rfl)
theorem am_kw98 : am_kw 98 ∈ lw_tbl := am_in4 (List.mem_of_getElem? (i := 129) rfl)
theorem am_kw99 : am_kw 99 ∈ lw_tbl := am_in4 (List.mem_of_getElem? (i := 133) rfl)
theorem am_kw100 : am_kw 100 ∈ lw_tbl := am_in4 (List.mem_of_getElem? (i := 118) rfl)
theorem am_kw101 : am_kw 101 ∈ lw_tbl := am_in4 (List.mem_of_getElem? (i := 138) rfl)
theorem am_kw102 : am_kw 102 ∈ lw_tbl := am_in4 (List.mem_of_getElem? (i := 147) rfl)
theorem am_kw103 : am_kw 103 ∈ lw_tbl := am_in4 (List.mem_of_getElem? (i := 121) rfl)
theorem am_kw104 : am_kw 104 ∈ lw_tbl := am_in4 (List.mem_of_getElem? (i := 155) rfl)
theorem am_kw105 : am_kw 105 ∈ lw_tbl := am_in1 (List.mem_of_getElem? (i := 19) rfl)
theorem am_kw106 : am_kw 106 ∈ lw_tbl := am_in2 (List.mem_of_getElem? (i := 55) rfl)
theorem am_kw107 : am_kw 107 ∈ lw_tbl := am_in2 (List.mem_of_getElem? (i := 72) rfl)
theorem am_kw108 : am_kw 108 ∈ lw_tbl := am_in2 (List.mem_of_getElem? (i := 104) rfl)
theorem am_kw109 : am_kw 109 ∈ lw_tbl := am_in2 (List.mem_of_getElem? (i := 108) rfl)
theorem am_kw110 : am_kw 110 ∈ lw_tbl := am_in2 (List.mem_of_getElem? (i := 116) rfl)
theorem am_kw111 : am_kw 111 ∈ lw_tbl := am_in2 (List.mem_of_getElem? (i := 132) rfl)
theorem am_kw112 : am_kw 112 ∈ lw_tbl := am_in2 (List.mem_of_getElem? (i := 142) rfl)
theorem am_kw113 : am_kw 113 ∈ lw_tbl := am_in2 (List.mem_of_getElem? (i := 146) rfl)
theorem am_kw114 : am_kw 114 ∈ lw_tbl := am_in2 (List.mem_of_getElem? (i := 150) rfl)
theorem am_kw115 : am_kw 115 ∈ lw_tbl := am_in2 (List.mem_of_getElem? (i := 196) rfl)
theorem am_kw116 : am_kw 116 ∈ lw_tbl := am_in2 (List.mem_of_getElem? (i := 209) rfl)
theorem am_kw117 : am_kw 117 ∈ lw_tbl := am_in3 (List.mem_of_getElem? (i := 9) rfl)
theorem am_kw118 : am_kw 118 ∈ lw_tbl := am_in3 (List.mem_of_getElem? (i := 32) rfl)
theorem am_kw119 : am_kw 119 ∈ lw_tbl := am_in3 (List.mem_of_getElem? (i := 51) rfl)
theorem am_kw120 : am_kw 120 ∈ lw_tbl := am_in3 (List.mem_of_getElem? (i := 81) rfl)
theorem am_kw121 : am_kw 121 ∈ lw_tbl := am_in3 (List.mem_of_getElem? (i := 89) rfl)
theorem am_kw122 : am_kw 122 ∈ lw_tbl := am_in3 (List.mem_of_getElem? (i := 93) rfl)
theorem am_kw123 : am_kw 123 ∈ lw_tbl := am_in3 (List.mem_of_getElem? (i := 98) rfl)
theorem am_kw124 : am_kw 124 ∈ lw_tbl := am_in3 (List.mem_of_getElem? (i := 102) rfl)
theorem am_kw125 : am_kw 125 ∈ lw_tbl := am_in3 (List.mem_of_getElem? (i := 110) rfl)
theorem am_kw126 : am_kw 126 ∈ lw_tbl := am_in3 (List.mem_of_getElem? (i := 114) rfl)
theorem am_kw127 : am_kw 127 ∈ lw_tbl := am_in3 (List.mem_of_getElem? (i := 119) rfl)
theorem am_kw128 : am_kw 128 ∈ lw_tbl := am_in3 (List.mem_of_getElem? (i := 138) rfl)
theorem am_kw129 : am_kw 129 ∈ lw_tbl := am_in3 (List.mem_of_getElem? (i := 150) rfl)
theorem am_kw130 : am_kw 130 ∈ lw_tbl := am_in3 (List.mem_of_getElem? (i := 168) rfl)
theorem am_kw131 : am_kw 131 ∈ lw_tbl := am_in3 (List.mem_of_getElem? (i := 225) rfl)
theorem am_kw132 : am_kw 132 ∈ lw_tbl := am_in3 (List.mem_of_getElem? (i := 234) rfl)
theorem am_kw133 : am_kw 133 ∈ lw_tbl := am_in4 (List.mem_of_getElem? (i := 18) rfl)
theorem am_kw134 : am_kw 134 ∈ lw_tbl := am_in4 (List.mem_of_getElem? (i := 26) rfl)
theorem am_kw135 : am_kw 135 ∈ lw_tbl := am_in4 (List.mem_of_getElem? (i := 30) rfl)
theorem am_kw136 : am_kw 136 ∈ lw_tbl := am_in4 (List.mem_of_getElem? (i := 42) rfl)
theorem am_kw137 : am_kw 137 ∈ lw_tbl := am_in4 (List.mem_of_getElem? (i := 47) rfl)
theorem am_kw138 : am_kw 138 ∈ lw_tbl := am_in4 (List.mem_of_getElem? (i := 85) rfl)
theorem am_kw139 : am_kw 139 ∈ lw_tbl := am_in4 (List.mem_of_getElem? (i := 93) rfl)
theorem am_kw140 : am_kw 140 ∈ lw_tbl := am_in4 (List.mem_of_getElem? (i := 107) rfl)
theorem am_kw141 : am_kw 141 ∈ lw_tbl := am_in4 (List.mem_of_getElem? (i := 143) rfl)
theorem am_kw142 : am_kw 142 ∈ lw_tbl := am_in4 (List.mem_of_getElem? (i := 151) rfl)
theorem am_kw143 : am_kw 143 ∈ lw_tbl := am_in4 (List.mem_of_getElem? (i := 160) rfl)
theorem am_kw144 : am_kw 144 ∈ lw_tbl := am_in4 (List.mem_of_getElem? (i := 164) rfl)
theorem am_kw145 : am_kw 145 ∈ lw_tbl := am_in4 (List.mem_of_getElem? (i := 193) rfl)
theorem am_kw146 : am_kw 146 ∈ lw_tbl := am_in4 (List.mem_of_getElem? (i := 207) rfl)
theorem am_kw147 : am_kw 147 ∈ lw_tbl := am_in4 (List.mem_of_getElem? (i := 215) rfl)
theorem am_kw148 : am_kw 148 ∈ lw_tbl := am_in4 (List.mem_of_getElem? (i := 219) rfl)
theorem am_kw149 : am_kw 149 ∈ lw_tbl := am_in4 (List.mem_of_getElem? (i := 223) rfl)
theorem am_kw150 : am_kw 150 ∈ lw_tbl := am_in4 (List.mem_of_getElem? (i := 227) rfl)
theorem am_kw151 : am_kw 151 ∈ lw_tbl := am_in5 (List.mem_of_getElem? (i := 5) rfl)
theorem am_kw152 : am_kw 152 ∈ lw_tbl := am_in5 (List.mem_of_getElem? (i := 9) rfl)
theorem am_kw153 : am_kw 153 ∈ lw_tbl := am_in5 (List.mem_of_getElem? (i := 13) rfl)
theorem am_kw154 : am_kw 154 ∈ lw_tbl := am_in2 (List.mem_of_getElem? (i := 63) rfl)
theorem am_kw155 : am_kw 155 ∈ lw_tbl := am_in2 (List.mem_of_getElem? (i := 100) rfl)
theorem am_kw156 : am_kw 156 ∈ lw_tbl := am_in4 (List.mem_of_getElem? (i := 13) rfl)
theorem am_kw157 : am_kw 157 ∈ lw_tbl := am_in2 (List.mem_of_getElem? (i := 75) rfl)
theorem am_kw158 : am_kw 158 ∈ lw_tbl := am_in3 (List.mem_of_getElem? (i := 39) rfl)
theorem am_kw159 : am_kw 159 ∈ lw_tbl := am_in3 (List.mem_of_getElem? (i := 35) rfl)
theorem am_kw160 : am_kw 160 ∈ lw_tbl := am_in3 (List.mem_of_getElem? (i := 228) rfl)
theorem am_kw161 : am_kw 161 ∈ lw_tbl := am_in4 (List.mem_of_getElem? (i := 50) rfl)
theorem am_kw162 : am_kw 162 ∈ lw_tbl := am_in4 (List.mem_of_getElem? (i := 110) rfl)
theorem am_kw163 : am_kw 163 ∈ lw_tbl := am_in3 (List.mem_of_getElem? (i := 142) rfl)
theorem am_kw164 : am_kw 164 ∈ lw_tbl := am_in3 (List.mem_of_getElem? (i := 217) rfl)
theorem am_kw165 : am_kw 165 ∈ lw_tbl := am_in2 (List.mem_of_getElem? (i := 217) rfl)
theorem am_kw166 : am_kw 166 ∈ lw_tbl := am_in5 (List.mem_of_getElem? (i := 1) rfl)
theorem am_kw167 : am_kw 167 ∈ lw_tbl := am_in5 (List.mem_of_getElem? (i := 26) rfl)
theorem am_kw168 : am_kw 168 ∈ lw_tbl := am_in5 (List.mem_of_getElem? (i := 132) rfl)
theorem am_kw169 : am_kw 169 ∈ lw_tbl := am_in6 (List.mem_of_getElem? (i := 122) rfl)
theorem am_kw170 : am_kw 170 ∈ lw_tbl := am_in5 (List.mem_of_getElem? (i := 136) rfl)
theorem am_kw171 : am_kw 171 ∈ lw_tbl := am_in5 (List.mem_of_getElem? (i := 152) rfl)
theorem am_kw172 : am_kw 172 ∈ lw_tbl := am_in5 (List.mem_of_getElem? (i := 128) rfl)
theorem am_kw173 : am_kw 173 ∈ lw_tbl := am_in5 (List.mem_of_getElem? (i := 179) rfl)
theorem am_kw174 : am_kw 174 ∈ lw_tbl := am_in5 (List.mem_of_getElem? (i := 125) rfl)
theorem am_kw175 : am_kw 175 ∈ lw_tbl := am_in5 (List.mem_of_getElem? (i := 140) rfl)
theorem am_kw176 : am_kw 176 ∈ lw_tbl := am_in5 (List.mem_of_getElem? (i := 148) rfl)
theorem am_kw177 : am_kw 177 ∈ lw_tbl := am_in5 (List.mem_of_getElem? (i := 144) rfl)
theorem am_kw178 : am_kw 178 ∈ lw_tbl := am_in5 (List.mem_of_getElem? (i := 156) rfl)
theorem am_kw179 : am_kw 179 ∈ lw_tbl := am_in5 (List.mem_of_getElem? (i := 160) rfl)
theorem am_kw180 : am_kw 180 ∈ lw_tbl := am_in5 (List.mem_of_getElem? (i := 168) rfl)
theorem am_kw181 : am_kw 181 ∈ lw_tbl := am_in5 (List.mem_of_getElem? (i := 164) rfl)
theorem am_kw182 : am_kw 182 ∈ lw_tbl := am_in5 (List.mem_of_getElem? (i := 172) rfl)
theorem am_kw183 : am_kw 183 ∈ lw_tbl := am_in5 (List.mem_of_getElem? (i := 176) rfl)
theorem am_kw184 : am_kw 184 ∈ lw_tbl := am_in5 (List.mem_of_getElem? (i := 184) rfl)
theorem am_kw185 : am_kw 185 ∈ lw_tbl := am_in5 (List.mem_of_getElem? (i := 200) rfl)
theorem am_kw186 : am_kw 186 ∈ lw_tbl := am_in5 (List.mem_of_getElem? (i := 196) rfl)
theorem am_kw187 : am_kw 187 ∈ lw_tbl := am_in5 (List.mem_of_getElem? (i := 212) rfl)
theorem am_kw188 : am_kw 188 ∈ lw_tbl := am_in5 (List.mem_of_getElem? (i := 208) rfl)
theorem am_kw189 : am_kw 189 ∈ lw_tbl := am_in5 (List.mem_of_getElem? (i := 204) rfl)
theorem am_kw190 : am_kw 190 ∈ lw_tbl := am_in5 (List.mem_of_getElem? (i := 216) rfl)
theorem am_kw191 : am_kw 191 ∈ lw_tbl := am_in5 (List.mem_of_getElem? (i := 192) rfl)
theorem am_kw192 : am_kw 192 ∈ lw_tbl := am_in5 (List.mem_of_getElem? (i := 188) rfl)
theorem am_kw193 : am_kw 193 ∈ lw_tbl := am_in5 (List.mem_of_getElem? (i := 220) rfl)
theorem am_kw194 : am_kw 194 ∈ lw_tbl := am_in5 (List.mem_of_getElem? (i := 228) rfl)
theorem am_kw195 : am_kw 195 ∈ lw_tbl := am_in6 (List.mem_of_getElem? (i := 34) rfl)
theorem am_kw196 : am_kw 196 ∈ lw_tbl := am_in6 (List.mem_of_getElem? (i := 31) rfl)
theorem am_kw197 : am_kw 197 ∈ lw_tbl := am_in6 (List.mem_of_getElem? (i := 3) rfl)
theorem am_kw198 : am_kw 198 ∈ lw_tbl := am_in6 (List.mem_of_getElem? (i := 11) rfl)
theorem am_kw199 : am_kw 199 ∈ lw_tbl := am_in6 (List.mem_of_getElem? (i := 37) rfl)
theorem am_kw200 : am_kw 200 ∈ lw_tbl := am_in6 (List.mem_of_getElem? (i := 27) rfl)
theorem am_kw201 : am_kw 201 ∈ lw_tbl := am_in5 (List.mem_of_getElem? (i := 224) rfl)
theorem am_kw202 : am_kw 202 ∈ lw_tbl := am_in5 (List.mem_of_getElem? (i := 232) rfl)
theorem am_kw203 : am_kw 203 ∈ lw_tbl := am_in6 (List.mem_of_getElem? (i := 0) rfl)
theorem am_kw204 : am_kw 204 ∈ lw_tbl := am_in6 (List.mem_of_getElem? (i := 7) rfl)
theorem am_kw205 : am_kw 205 ∈ lw_tbl := am_in5 (List.mem_of_getElem? (i := 236) rfl)
theorem am_kw206 : am_kw 206 ∈ lw_tbl := am_in6 (List.mem_of_getElem? (i := 15) rfl)
theorem am_kw207 : am_kw 207 ∈ lw_tbl := am_in6 (List.mem_of_getElem? (i := 23) rfl)
theorem am_kw208 : am_kw 208 ∈ lw_tbl := am_in6 (List.mem_of_getElem? (i := 20) rfl)
theorem am_kw209 : am_kw 209 ∈ lw_tbl := am_in6 (List.mem_of_getElem? (i := 49) rfl)
theorem am_kw210 : am_kw 210 ∈ lw_tbl := am_in6 (List.mem_of_getElem? (i := 45) rfl)
theorem am_kw211 : am_kw 211 ∈ lw_tbl := am_in6 (List.mem_of_getElem? (i := 41) rfl)
theorem am_kw212 : am_kw 212 ∈ lw_tbl := am_in6 (List.mem_of_getElem? (i := 53) rfl)
theorem am_kw213 : am_kw 213 ∈ lw_tbl := am_in6 (List.mem_of_getElem? (i := 57) rfl)
theorem am_kw214 : am_kw 214 ∈ lw_tbl := am_in6 (List.mem_of_getElem? (i := 61) rfl)
theorem am_kw215 : am_kw 215 ∈ lw_tbl := am_in6 (List.mem_of_getElem? (i := 65) rfl)
theorem am_kw216 : am_kw 216 ∈ lw_tbl := am_in6 (List.mem_of_getElem? (i := 70) rfl)
theorem am_kw217 : am_kw 217 ∈ lw_tbl := am_in6 (List.mem_of_getElem? (i := 115) rfl)
theorem am_kw218 : am_kw 218 ∈ lw_tbl := am_in6 (List.mem_of_getElem? (i := 82) rfl)
theorem am_kw219 : am_kw 219 ∈ lw_tbl := am_in6 (List.mem_of_getElem? (i := 78) rfl)
theorem am_kw220 : am_kw 220 ∈ lw_tbl := am_in6 (List.mem_of_getElem? (i := 74) rfl)
theorem am_kw221 : am_kw 221 ∈ lw_tbl := am_in6 (List.mem_of_getElem? (i := 90) rfl)
theorem am_kw222 : am_kw 222 ∈ lw_tbl := am_in6 (List.mem_of_getElem? (i := 95) rfl)
theorem am_kw223 : am_kw 223 ∈ lw_tbl := am_in6 (List.mem_of_getElem? (i := 86) rfl)
theorem am_kw224 : am_kw 224 ∈ lw_tbl := am_in6 (List.mem_of_getElem? (i := 99) rfl)
theorem am_kw225 : am_kw 225 ∈ lw_tbl := am_in6 (List.mem_of_getElem? (i := 107) rfl)
theorem am_kw226 : am_kw 226 ∈ lw_tbl := am_in6 (List.mem_of_getElem? (i := 103) rfl)
theorem am_kw227 : am_kw 227 ∈ lw_tbl := am_in6 (List.mem_of_getElem? (i := 148) rfl)
theorem am_kw228 : am_kw 228 ∈ lw_tbl := am_in6 (List.mem_of_getElem? (i := 144) rfl)
theorem am_kw229 : am_kw 229 ∈ lw_tbl := am_in6 (List.mem_of_getElem? (i := 139) rfl)
theorem am_kw230 : am_kw 230 ∈ lw_tbl := am_in6 (List.mem_of_getElem? (i := 152) rfl)
theorem am_kw231 : am_kw 231 ∈ lw_tbl := am_in6 (List.mem_of_getElem? (i := 111) rfl)
theorem am_kw232 : am_kw 232 ∈ lw_tbl := am_in6 (List.mem_of_getElem? (i := 119) rfl)
theorem am_kw233 : am_kw 233 ∈ lw_tbl := am_in6 (List.mem_of_getElem? (i := 126) rfl)
theorem am_kw234 : am_kw 234 ∈ lw_tbl := am_in6 (List.mem_of_getElem? (i := 130) rfl)
theorem am_kw235 : am_kw 235 ∈ lw_tbl := am_in6 (List.mem_of_getElem? (i := 134) rfl)
theorem am_kw236 : am_kw 236 ∈ lw_tbl := am_in6 (List.mem_of_getElem? (i := 189) rfl)
theorem am_kw237 : am_kw 237 ∈ lw_tbl := am_in6 (List.mem_of_getElem? (i := 156) rfl)
theorem am_kw238 : am_kw 238 ∈ lw_tbl := am_in6 (List.mem_of_getElem? (i := 160) rfl)
theorem am_kw239 : am_kw 239 ∈ lw_tbl := am_in6 (List.mem_of_getElem? (i := 164) rfl)
theorem am_kw240 : am_kw 240 ∈ lw_tbl := am_in6 (List.mem_of_getElem? (i := 168) rfl)
theorem am_kw241 : am_kw 241 ∈ lw_tbl := am_in6 (List.mem_of_getElem? (i := 172) rfl)
theorem am_kw242 : am_kw 242 ∈ lw_tbl := am_in6 (List.mem_of_getElem? (i := 181) rfl)
theorem am_kw243 : am_kw 243 ∈ lw_tbl := am_in6 (List.mem_of_getElem? (i := 185) rfl)
theorem am_kw244 : am_kw 244 ∈ lw_tbl := am_in6 (List.mem_of_getElem? (i := 176) rfl)
theorem am_kw245 : am_kw 245 ∈ lw_tbl := am_in6 (List.mem_of_getElem? (i := 193) rfl)
theorem am_kw246 : am_kw 246 ∈ lw_tbl := am_in6 (List.mem_of_getElem? (i := 197) rfl)
theorem am_kw247 : am_kw 247 ∈ lw_tbl := am_in6 (List.mem_of_getElem? (i := 225) rfl)
theorem am_kw248 : am_kw 248 ∈ lw_tbl := am_in6 (List.mem_of_getElem? (i := 221) rfl)
theorem am_kw249 : am_kw 249 ∈ lw_tbl := am_in6 (List.mem_of_getElem? (i := 217) rfl)
theorem am_kw250 : am_kw 250 ∈ lw_tbl := am_in6 (List.mem_of_getElem? (i := 213) rfl)
theorem am_kw251 : am_kw 251 ∈ lw_tbl := am_in6 (List.mem_of_getElem? (i := 209) rfl)
theorem am_kw252 : am_kw 252 ∈ lw_tbl := am_in6 (List.mem_of_getElem? (i := 204) rfl)
theorem am_kw253 : am_kw 253 ∈ lw_tbl := am_in6 (List.mem_of_getElem? (i := 201) rfl)
theorem am_kw254 : am_kw 254 ∈ lw_tbl := am_in6 (List.mem_of_getElem? (i := 229) rfl)
theorem am_kw255 : am_kw 255 ∈ lw_tbl := am_in6 (List.mem_of_getElem? (i := 233) rfl)
theorem am_kw256 : am_kw 256 ∈ lw_tbl := am_in6 (List.mem_of_getElem? (i := 237) rfl)
theorem am_kw257 : am_kw 257 ∈ lw_tbl := am_in7 (List.mem_of_getElem? (i := 10) rfl)
theorem am_kw258 : am_kw 258 ∈ lw_tbl := am_in7 (List.mem_of_getElem? (i := 6) rfl)
theorem am_kw259 : am_kw 259 ∈ lw_tbl := am_in7 (List.mem_of_getElem? (i := 2) rfl)
theorem am_kw260 : am_kw 260 ∈ lw_tbl := am_in7 (List.mem_of_getElem? (i := 14) rfl)
theorem am_kw261 : am_kw 261 ∈ lw_tbl := am_in7 (List.mem_of_getElem? (i := 18) rfl)
theorem am_kw262 : am_kw 262 ∈ lw_tbl := am_in7 (List.mem_of_getElem? (i := 25) rfl)
theorem am_kw263 : am_kw 263 ∈ lw_tbl := am_in7 (List.mem_of_getElem? (i := 29) rfl)
theorem am_kw264 : am_kw 264 ∈ lw_tbl := am_in7 (List.mem_of_getElem? (i := 33) rfl)
theorem am_kw265 : am_kw 265 ∈ lw_tbl := am_in7 (List.mem_of_getElem? (i := 46) rfl)
theorem am_kw266 : am_kw 266 ∈ lw_tbl := am_in7 (List.mem_of_getElem? (i := 50) rfl)
theorem am_kw267 : am_kw 267 ∈ lw_tbl := am_in7 (List.mem_of_getElem? (i := 42) rfl)
theorem am_kw268 : am_kw 268 ∈ lw_tbl := am_in7 (List.mem_of_getElem? (i := 37) rfl)
theorem am_kw269 : am_kw 269 ∈ lw_tbl := am_in7 (List.mem_of_getElem? (i := 54) rfl)
theorem am_kw270 : am_kw 270 ∈ lw_tbl := am_in7 (List.mem_of_getElem? (i := 58) rfl)
theorem am_kw271 : am_kw 271 ∈ lw_tbl := am_in7 (List.mem_of_getElem? (i := 62) rfl)
theorem am_kw272 : am_kw 272 ∈ lw_tbl := am_in3 (List.mem_of_getElem? (i := 62) rfl)
theorem am_kw273 : am_kw 273 ∈ lw_tbl := am_in3 (List.mem_of_getElem? (i := 69) rfl)
theorem am_kw274 : am_kw 274 ∈ lw_tbl := am_in1 (List.mem_of_getElem? (i := 31) rfl)
theorem am_kw275 : am_kw 275 ∈ lw_tbl := am_in3 (List.mem_of_getElem? (i := 213) rfl)
theorem am_kw276 : am_kw 276 ∈ lw_tbl := am_in4 (List.mem_of_getElem? (i := 1) rfl)
theorem am_kw277 : am_kw 277 ∈ lw_tbl := am_in1 (List.mem_of_getElem? (i := 34) rfl)
end
section
/-! Whole numbers for the machine's: an int x of the machine is told by any whole number z with x = Int32.ofInt z; wI z is its value. -/
noncomputable def wI (x : Int) : Int := (x + 2147483648) % 4294967296 - 2147483648
noncomputable def wL (x : Int) : Int := (x + 9223372036854775808) % 18446744073709551616 - 9223372036854775808
noncomputable def wB (x : Int) : Int := (x + 128) % 256 - 128
theorem wI_toInt (x : Int) : (Int32.ofInt x).toInt = wI x := by
  rw [Int32.toInt_ofInt]; unfold wI Int.bmod; simp only [Int32.size]; omega
theorem wL_toInt (x : Int) : (Int64.ofInt x).toInt = wL x := by
  rw [Int64.toInt_ofInt]; unfold wL Int.bmod; simp only [Int64.size]; omega
theorem wI_of {x : Int} (h1 : -2147483648 ≤ x) (h2 : x < 2147483648) : wI x = x := by unfold wI; omega
theorem wL_of {x : Int} (h1 : -9223372036854775808 ≤ x) (h2 : x < 9223372036854775808) : wL x = x := by unfold wL; omega
theorem wI_lo (x : Int) : -2147483648 ≤ wI x := by unfold wI; omega
theorem wI_hi (x : Int) : wI x < 2147483648 := by unfold wI; omega
theorem wL_lo (x : Int) : -9223372036854775808 ≤ wL x := by unfold wL; omega
theorem wL_hi (x : Int) : wL x < 9223372036854775808 := by unfold wL; omega
theorem wI_wI (x : Int) : wI (wI x) = wI x := wI_of (wI_lo x) (wI_hi x)
theorem i_w (x : Int) : Int32.ofInt (wI x) = Int32.ofInt x := by
  apply Int32.toInt_inj.mp; rw [wI_toInt, wI_toInt, wI_wI]
theorem l_w (x : Int) : Int64.ofInt (wL x) = Int64.ofInt x := by
  apply Int64.toInt_inj.mp; rw [wL_toInt, wL_toInt, wL_of (wL_lo x) (wL_hi x)]
theorem i_eq {x y : Int} : Int32.ofInt x = Int32.ofInt y ↔ wI x = wI y := by rw [← Int32.toInt_inj, wI_toInt, wI_toInt]
theorem l_eq {x y : Int} : Int64.ofInt x = Int64.ofInt y ↔ wL x = wL y := by rw [← Int64.toInt_inj, wL_toInt, wL_toInt]
theorem i_lt {x y : Int} : Int32.ofInt x < Int32.ofInt y ↔ wI x < wI y := by rw [Int32.lt_iff_toInt_lt, wI_toInt, wI_toInt]
theorem i_le {x y : Int} : Int32.ofInt x ≤ Int32.ofInt y ↔ wI x ≤ wI y := by rw [Int32.le_iff_toInt_le, wI_toInt, wI_toInt]
theorem i_0 : Int32.ofInt 0 = 0 := rfl
theorem wI_0 : wI 0 = 0 := rfl
theorem i_cl (x : Int) : (Int32.ofInt x).toNatClampNeg = (wI x).toNat := by
  show (Int32.ofInt x).toInt.toNat = _; rw [wI_toInt]
theorem i_in (x : Int) (n : Nat) : vp_in (Int32.ofInt x) n ↔ 0 ≤ wI x ∧ wI x < n := by rw [vp_in_iff, wI_toInt]
theorem i_add (x y : Int) : Int32.ofInt x + Int32.ofInt y = Int32.ofInt (x + y) := (Int32.ofInt_add x y).symm
theorem i_sub (x y : Int) : Int32.ofInt x - Int32.ofInt y = Int32.ofInt (x - y) := (Int32.ofInt_sub x y).symm
theorem i_mul (x y : Int) : Int32.ofInt x * Int32.ofInt y = Int32.ofInt (x * y) := (Int32.ofInt_mul x y).symm
theorem i_neg (x : Int) : -Int32.ofInt x = Int32.ofInt (-x) := (Int32.ofInt_neg x).symm
theorem l_add (x y : Int) : Int64.ofInt x + Int64.ofInt y = Int64.ofInt (x + y) := (Int64.ofInt_add x y).symm
theorem l_mul (x y : Int) : Int64.ofInt x * Int64.ofInt y = Int64.ofInt (x * y) := (Int64.ofInt_mul x y).symm
theorem i_div (x y : Int) : Int32.ofInt x / Int32.ofInt y = Int32.ofInt ((wI x).tdiv (wI y)) := by
  apply Int32.toInt_inj.mp
  rw [Int32.toInt_div, wI_toInt, wI_toInt, Int32.toInt_ofInt]
theorem l_div (x y : Int) : Int64.ofInt x / Int64.ofInt y = Int64.ofInt ((wL x).tdiv (wL y)) := by
  apply Int64.toInt_inj.mp
  rw [Int64.toInt_div, wL_toInt, wL_toInt, Int64.toInt_ofInt]
theorem i_rem (x y : Int) : Int32.ofInt x - Int32.ofInt x / Int32.ofInt y * Int32.ofInt y = Int32.ofInt ((wI x).tmod (wI y)) := by
  rw [i_div, ← i_w x, ← i_w y, i_mul, i_sub]
  congr 1
  have := Int.tmod_add_mul_tdiv (wI x) (wI y)
  rw [Int.mul_comm (wI y)] at this
  omega
theorem l_rem (x y : Int) : Int64.ofInt x - Int64.ofInt x / Int64.ofInt y * Int64.ofInt y = Int64.ofInt ((wL x).tmod (wL y)) := by
  rw [l_div, ← l_w x, ← l_w y, l_mul, ← Int64.ofInt_sub]
  congr 1
  have := Int.tmod_add_mul_tdiv (wL x) (wL y)
  rw [Int.mul_comm (wL y)] at this
  omega
theorem i_2l (x : Int) : (Int32.ofInt x).toInt64 = Int64.ofInt (wI x) := by
  apply Int64.toInt_inj.mp
  rw [Int32.toInt_toInt64, wI_toInt, wL_toInt, wL_of (by have := wI_lo x; omega) (by have := wI_hi x; omega)]
theorem l_2i (x : Int) : (Int64.ofInt x).toInt32 = Int32.ofInt x := by
  apply Int32.toInt_inj.mp
  rw [Int64.toInt_toInt32, wL_toInt, wI_toInt]; unfold wL wI Int.bmod; simp only [Nat.reducePow]; omega
theorem i_2b (x : Int) : (Int32.ofInt x).toInt8.toInt32 = Int32.ofInt (wB x) := by
  apply Int32.toInt_inj.mp
  rw [Int8.toInt_toInt32, Int32.toInt_toInt8, wI_toInt, wI_toInt]; unfold wB wI Int.bmod; simp only [Nat.reducePow]; omega
theorem i_b {n : Int} (h1 : -128 ≤ n) (h2 : n < 128) : (Int8.ofInt n).toInt32 = Int32.ofInt n := by
  apply Int32.toInt_inj.mp
  rw [Int8.toInt_toInt32, Int8.toInt_ofInt, wI_toInt]; unfold wI Int.bmod; simp only [Int8.size]; omega
theorem i_s {n : Int} (h1 : -32768 ≤ n) (h2 : n < 32768) : (Int16.ofInt n).toInt32 = Int32.ofInt n := by
  apply Int32.toInt_inj.mp
  rw [Int16.toInt_toInt32, Int16.toInt_ofInt, wI_toInt]; unfold wI Int.bmod; simp only [Int16.size]; omega
/-- bits, by the machine's own -/
noncomputable def b_and_ (x y : Int) : Int := (Int32.ofInt x &&& Int32.ofInt y).toInt
noncomputable def b_or_ (x y : Int) : Int := (Int32.ofInt x ||| Int32.ofInt y).toInt
noncomputable def b_shl_ (x y : Int) : Int := (Int32.ofInt x <<< (Int32.ofInt y &&& 31)).toInt
noncomputable def b_shr_ (x y : Int) : Int := (Int32.ofInt x >>> (Int32.ofInt y &&& 31)).toInt
noncomputable def b_lshl_ (x y : Int) : Int := (Int64.ofInt x <<< ((Int32.ofInt y).toInt64 &&& 63)).toInt
noncomputable def c_lcmp (x y : Int) : Int := if wL x > wL y then 1 else if wL x = wL y then 0 else -1
theorem l_cmp (x y : Int) : lg_cmp (Int64.ofInt x) (Int64.ofInt y) = Int32.ofInt (c_lcmp x y) := by
  unfold lg_cmp c_lcmp
  simp only [gt_iff_lt, Int64.lt_iff_toInt_lt, ← Int64.toInt_inj, wL_toInt]
  split
  · rfl
  · split <;> rfl
theorem i_of (x : Int32) : Int32.ofInt x.toInt = x := Int32.ofInt_toInt x
theorem l_of (x : Int64) : Int64.ofInt x.toInt = x := Int64.ofInt_toInt x
end
section
/-! The worlds by number: cell number a lies at address base + a; its whole numbers are M a j; which class, how long, what it refers to: sh. -/
noncomputable abbrev am_V : Type := Int ⊕ (Int ⊕ Option Nat)
noncomputable abbrev am_M : Type := Nat → Nat → Int
noncomputable abbrev am_S : Type := Nat × Nat × List (Option Nat)
noncomputable abbrev am_Sh : Type := List am_S
noncomputable abbrev am_Lv : Type := List (Option am_V)
noncomputable def am_cv (base b : Nat) : am_V → Value
  | .inl x => .int (Int32.ofInt x)
  | .inr (.inl x) => .long (Int64.ofInt x)
  | .inr (.inr (some k)) => .ref (base + k)
  | .inr (.inr none) => .ref b
noncomputable def am_fkD (d : String) : Nat := if d = "I" then 0 else if d = "J" then 1 else if d = "Z" then 3 else 2
noncomputable def am_fk (ci k : Nat) : Nat := match vwCl[ci]? with
  | some q => am_fkD (q.2.1 k).2.2.1
  | none => 0
noncomputable def am_fv (base fk : Nat) (rs : List (Option Nat)) (x : Int) (k : Nat) : Value := if fk = 1 then .long (Int64.ofInt x) else if fk = 2 then va_rf ((rs.getD k none).map (base + ·)) else .int (Int32.ofInt x)
noncomputable def am_fs (base : Nat) (M : am_M) (a : Nat) (q : am_S) : List Value := (List.range q.2.1).map fun k => am_fv base (am_fk q.1 k) q.2.2 (M a k) k
noncomputable abbrev am_Ca : Type := ClassId × ClassId × ClassId
noncomputable def am_cell (base : Nat) (ca : am_Ca) (M : am_M) (a : Nat) (q : am_S) : va_E :=
  if q.1 < 10 then .inr (q.1, am_fs base M a q)
  else if q.1 = 10 then .inl (ca.1, q.2.1, .inl fun j => Int32.ofInt (M a j))
  else if q.1 = 11 then .inl (ca.2.1, q.2.1, .inr (.inl fun j => Int64.ofInt (M a j)))
  else .inl (ca.2.2, q.2.1, .inr (.inr (.inr (.inr fun j => (q.2.2.getD j none).map (base + ·)))))
noncomputable def am_ws (base : Nat) (ca : am_Ca) (sh : am_Sh) (M : am_M) : va_W := sh.mapIdx fun a q => (base + a, am_cell base ca M a q)
noncomputable def am_ty (ca : am_Ca) : List (ClassId × FieldType) := [(ca.1, .int), (ca.2.1, .long), (ca.2.2, .object "PaceBorder$Days")]
noncomputable def am_sl (sh : am_Sh) : Nat := (sh.map fun q => q.2.1).sum
/-- one number of one cell anew -/
noncomputable def am_up (M : am_M) (a j : Nat) (x : Int) : am_M := fun a' => if a' = a then (fun j' => if j' = j then x else M a' j') else M a'
/-- a cell's numbers anew -/
noncomputable def am_row (M : am_M) (a : Nat) (f : Nat → Int) : am_M := fun a' => if a' = a then f else M a'
theorem am_ws_get {base : Nat} {ca : am_Ca} {sh : am_Sh} {M : am_M} {a : Nat} {q : am_S} (h : sh[a]? = some q) : (am_ws base ca sh M)[a]? = some (base + a, am_cell base ca M a q) := by
  simp [am_ws, h]
theorem am_ws_of {base : Nat} {ca : am_Ca} {sh : am_Sh} {M : am_M} {a : Nat} {x : Nat × va_E} (h : (am_ws base ca sh M)[a]? = some x) : ∃ q, sh[a]? = some q ∧ x = (base + a, am_cell base ca M a q) := by
  simp [am_ws] at h
  obtain ⟨x1, x2, x3, h1, h2⟩ := h
  exact ⟨_, h1, h2.symm⟩
theorem am_D (base : Nat) (ca : am_Ca) (sh : am_Sh) (M : am_M) : va_D (fun q => base ≤ q) (am_ws base ca sh M) := by
  refine ⟨fun i j p q hp hq hpq => ?_, fun k q hk => ?_⟩
  · obtain ⟨_, _, rfl⟩ := am_ws_of hp
    obtain ⟨_, _, rfl⟩ := am_ws_of hq
    simp at hpq; exact hpq
  · obtain ⟨_, _, rfl⟩ := am_ws_of hk
    simp
theorem am_ws_set {base : Nat} {ca : am_Ca} {sh sh' : am_Sh} {M M' : am_M} {a : Nat} {q q' : am_S} {e : va_E} (h : sh[a]? = some q) (hs : sh' = sh.set a q') (he : e = am_cell base ca M' a q') (hM : ∀ a', a' ≠ a → M' a' = M a') : (am_ws base ca sh M).set a (base + a, e) = am_ws base ca sh' M' := by
  subst hs; subst he
  have hl : a < sh.length := (List.getElem?_eq_some_iff.mp h).1
  apply List.ext_getElem?
  intro i
  by_cases hi : i = a
  · subst hi
    rw [am_ws_get (q := q') (by simp [hl])]
    rw [List.getElem?_set_self (by simpa [am_ws] using hl)]
  · rw [List.getElem?_set_ne (fun h => hi h.symm)]
    simp only [am_ws, List.getElem?_mapIdx]
    rw [List.getElem?_set_ne (fun h => hi h.symm)]
    cases sh[i]? with
    | none => rfl
    | some q1 =>
      simp only [Option.map_some]
      congr 2
      simp only [am_cell, am_fs, hM i hi]
theorem am_ws_setM {base : Nat} {ca : am_Ca} {sh : am_Sh} {M M' : am_M} {a : Nat} {q : am_S} {e : va_E} (h : sh[a]? = some q) (he : e = am_cell base ca M' a q) (hM : ∀ a', a' ≠ a → M' a' = M a') : (am_ws base ca sh M).set a (base + a, e) = am_ws base ca sh M' :=
  am_ws_set h (by
    apply List.ext_getElem?
    intro i
    by_cases hi : i = a
    · subst hi
      rw [List.getElem?_set_self (List.getElem?_eq_some_iff.mp h).1, h]
    · rw [List.getElem?_set_ne (fun h => hi h.symm)]) he hM
theorem am_ws_push {base : Nat} {ca : am_Ca} {sh : am_Sh} {M M' : am_M} {q : am_S} {e : va_E} (he : e = am_cell base ca M' sh.length q) (hM : ∀ a', a' < sh.length → M' a' = M a') : am_ws base ca sh M ++ [(base + sh.length, e)] = am_ws base ca (sh ++ [q]) M' := by
  subst he
  apply List.ext_getElem?
  intro i
  simp only [am_ws, List.getElem?_mapIdx, List.getElem?_append, List.length_mapIdx]
  by_cases hi : i < sh.length
  · simp only [hi, if_true]
    cases h : sh[i]? with
    | none => rfl
    | some q1 =>
      simp only [Option.map_some]
      congr 2
      simp only [am_cell, am_fs, hM i hi]
  · simp only [hi, if_false]
    by_cases he : i = sh.length
    · subst he; simp
    · have : 1 ≤ i - sh.length := by omega
      rw [List.getElem?_eq_none (by simpa using this), List.getElem?_eq_none (by simpa using this)]; rfl
theorem am_up_ne {M : am_M} {a j : Nat} {x : Int} {a' : Nat} (h : a' ≠ a) : am_up M a j x a' = M a' := by simp [am_up, h]
theorem am_row_ne {M : am_M} {a : Nat} {f : Nat → Int} {a' : Nat} (h : a' ≠ a) : am_row M a f a' = M a' := by simp [am_row, h]
/-- the words that a method carries: those that hold on over its run -/
noncomputable def lw_g : List Cond := lw_tbl.filter goodWord
theorem lw_g_good : ∀ w ∈ lw_g, goodWord w = true := fun w h => (List.mem_filter.mp h).2
theorem lw_g_of {ws : List Cond} (h : ∀ w ∈ ws, w ∈ lw_tbl) (hg : ws.all goodWord = true) : ∀ w ∈ ws, w ∈ lw_g := fun w hw => List.mem_filter.mpr ⟨h w hw, List.all_eq_true.mp hg w hw⟩
/-- classes: of each its fields' words, types, names -/
noncomputable def am_cok (ci : Nat) : Prop := ∀ q, vwCl[ci]? = some q → (∀ w ∈ u_ws q.1 q.2.1 q.2.2, w ∈ lw_g) ∧ (∃ ty : Nat → FieldType, ∀ k, k < q.2.2 → parseFieldDescriptor (q.2.1 k).2.2.1 = some (ty k)) ∧ (∀ a, a < q.2.2 → ∀ b, b < q.2.2 → a ≠ b → (q.2.1 a).2.1 ≠ (q.2.1 b).2.1)
theorem am_cls : ∀ ci, am_cok ci
  | 0 => fun q h => by cases h; exact ⟨lw_g_of inX0 (by decide +kernel), ⟨tyX0, tyX0_ok⟩, nmX0⟩
  | 1 => fun q h => by cases h; exact ⟨lw_g_of inX1 (by decide +kernel), ⟨tyX1, tyX1_ok⟩, nmX1⟩
  | 2 => fun q h => by cases h; exact ⟨lw_g_of inX2 (by decide +kernel), ⟨tyX2, tyX2_ok⟩, nmX2⟩
  | 3 => fun q h => by cases h; exact ⟨lw_g_of inX3 (by decide +kernel), ⟨tyX3, tyX3_ok⟩, nmX3⟩
  | 4 => fun q h => by cases h; exact ⟨lw_g_of inX4 (by decide +kernel), ⟨tyX4, tyX4_ok⟩, nmX4⟩
  | 5 => fun q h => by cases h; exact ⟨lw_g_of inX5 (by decide +kernel), ⟨tyX5, tyX5_ok⟩, nmX5⟩
  | 6 => fun q h => by cases h; exact ⟨lw_g_of inX6 (by decide +kernel), ⟨tyX6, tyX6_ok⟩, nmX6⟩
  | 7 => fun q h => by cases h; exact ⟨lw_g_of inX7 (by decide +kernel), ⟨tyX7, tyX7_ok⟩, nmX7⟩
  | 8 => fun q h => by cases h; exact ⟨lw_g_of inX8 (by decide +kernel), ⟨tyX8, tyX8_ok⟩, nmX8⟩
  | 9 => fun q h => by cases h; exact ⟨lw_g_of inX9 (by decide +kernel), ⟨tyX9, tyX9_ok⟩, nmX9⟩
  | _ + 10 => fun q h => by simp [vwCl] at h
/-- a field's type by its kind -/
noncomputable def am_tyk (fk : Nat) (ty : FieldType) : Bool := match ty with
  | .int => fk == 0
  | .long => fk == 1
  | .boolean => fk == 3
  | .object _ => fk == 2
  | .array _ => fk == 2
  | _ => false
theorem am_tyok : vwCl.all (fun q => (List.range q.2.2).all fun k => match parseFieldDescriptor (q.2.1 k).2.2.1 with
  | some ty => am_tyk (am_fkD (q.2.1 k).2.2.1) ty
  | none => false) = true := by decide +kernel
theorem am_tyk_of {ci k : Nat} {q : vw_C} (h : vwCl[ci]? = some q) (hk : k < q.2.2) : ∃ ty, parseFieldDescriptor (q.2.1 k).2.2.1 = some ty ∧ am_tyk (am_fk ci k) ty = true := by
  have h1 := List.all_eq_true.mp am_tyok q (List.mem_of_getElem? h)
  have h2 := List.all_eq_true.mp h1 k (List.mem_range.mpr hk)
  simp only [am_fk, h]
  cases hp : parseFieldDescriptor (q.2.1 k).2.2.1 with
  | none => rw [hp] at h2; cases h2
  | some ty => rw [hp] at h2; exact ⟨ty, rfl, h2⟩
/-- locals -/
noncomputable def am_lvl (base b : Nat) (lv : am_Lv) : List (Nat × Value) := (List.range lv.length).filterMap fun i => (lv[i]?.join).map fun v => (i, am_cv base b v)
theorem am_lvl_mem {base b : Nat} {lv : am_Lv} {q : Nat × Value} : q ∈ am_lvl base b lv ↔ ∃ v, lv[q.1]? = some (some v) ∧ q.2 = am_cv base b v := by
  obtain ⟨i, w⟩ := q
  simp only [am_lvl, List.mem_filterMap, List.mem_range, Option.map_eq_some_iff, Prod.mk.injEq]
  constructor
  · rintro ⟨j, hj, v, hv, rfl, rfl⟩
    refine ⟨v, ?_, rfl⟩
    cases h : lv[j]? with
    | none => rw [h] at hv; cases hv
    | some o => rw [h] at hv; simp at hv; rw [hv]
  · rintro ⟨v, hv, rfl⟩
    exact ⟨i, (List.getElem?_eq_some_iff.mp hv).1, v, by rw [hv]; rfl, rfl, rfl⟩
noncomputable def am_kill (lv : am_Lv) (i : Nat) : am_Lv := match i with
  | 0 => lv
  | j + 1 => match lv[j]? with
    | some (some (.inr (.inl _))) => lv.set j none
    | _ => lv
noncomputable def am_set (lv : am_Lv) (i : Nat) (v : am_V) : am_Lv := (am_kill lv i).set i (some v)
noncomputable def am_setL (lv : am_Lv) (i : Nat) (v : am_V) : am_Lv := ((am_kill lv i).set (i + 1) none).set i (some v)
theorem am_kill_len (lv : am_Lv) (i : Nat) : (am_kill lv i).length = lv.length := by
  unfold am_kill; split
  · rfl
  · split <;> simp
theorem am_set_len (lv : am_Lv) (i : Nat) (v : am_V) : (am_set lv i v).length = lv.length := by simp [am_set, am_kill_len]
theorem am_setL_len (lv : am_Lv) (i : Nat) (v : am_V) : (am_setL lv i v).length = lv.length := by simp [am_setL, am_kill_len]
theorem am_kill_get {lv : am_Lv} {i j : Nat} {v : am_V} (h : (am_kill lv i)[j]? = some (some v)) : lv[j]? = some (some v) ∧ (j + 1 = i → ∀ x, v ≠ .inr (.inl x)) := by
  unfold am_kill at h
  split at h
  · exact ⟨h, fun h => by omega⟩
  · rename_i k
    split at h
    · rename_i x hx
      by_cases hj : j = k
      · subst hj
        rw [List.getElem?_set_self (List.getElem?_eq_some_iff.mp hx).1] at h
        cases h
      · rw [List.getElem?_set_ne (fun h => hj h.symm)] at h
        exact ⟨h, fun e => by omega⟩
    · rename_i hx
      refine ⟨h, fun e x hv => ?_⟩
      have : j = k := by omega
      subst this; subst hv
      exact hx x h
theorem am_cat2 {base b : Nat} {v : am_V} (h : (am_cv base b v).category = 2) : ∃ x, v = .inr (.inl x) := by
  rcases v with x | x | (_ | k)
  · cases h
  · exact ⟨x, rfl⟩
  · cases h
  · cases h
theorem lv_has_sub {ls : Array Slot} {n : Nat} {l l' : List (Nat × Value)} (h : lv_has ls n l) (hs : ∀ q ∈ l', q ∈ l) : lv_has ls n l' := ⟨h.1, h.2.1, fun q hq => h.2.2 q (hs q hq)⟩
theorem am_set_sub {base b : Nat} {lv : am_Lv} {i : Nat} {v : am_V} : ∀ q ∈ am_lvl base b (am_set lv i v), q ∈ (i, am_cv base b v) :: (am_lvl base b lv).filter (fun q => !(q.1 == i) && !(q.1 + 1 == i && q.2.category == 2)) := by
  intro q hq
  obtain ⟨w, hw, e⟩ := am_lvl_mem.mp hq
  obtain ⟨j, z⟩ := q
  dsimp only at hw e
  subst e
  by_cases hj : j = i
  · subst hj
    unfold am_set at hw
    rw [List.getElem?_set_self (by have := (List.getElem?_eq_some_iff.mp hw).1; simpa using this)] at hw
    cases hw
    exact List.mem_cons_self
  · unfold am_set at hw
    rw [List.getElem?_set_ne (fun h => hj h.symm)] at hw
    obtain ⟨h1, h2⟩ := am_kill_get hw
    refine List.mem_cons_of_mem _ (List.mem_filter.mpr ⟨am_lvl_mem.mpr ⟨w, h1, rfl⟩, ?_⟩)
    simp only [beq_iff_eq, Bool.and_eq_true, Bool.not_eq_true', beq_eq_false_iff_ne, ne_eq, Bool.and_eq_false_iff]
    refine ⟨hj, ?_⟩
    by_cases hji : j + 1 = i
    · right
      intro hc
      obtain ⟨x, rfl⟩ := am_cat2 hc
      exact h2 hji x rfl
    · exact Or.inl hji
theorem am_setL_sub {base b : Nat} {lv : am_Lv} {i : Nat} {v : am_V} : ∀ q ∈ am_lvl base b (am_setL lv i v), q ∈ (i, am_cv base b v) :: (am_lvl base b lv).filter (fun q => !(q.1 == i) && (!(q.1 == i + 1) && !(q.1 + 1 == i && q.2.category == 2))) := by
  intro q hq
  obtain ⟨w, hw, e⟩ := am_lvl_mem.mp hq
  obtain ⟨j, z⟩ := q
  dsimp only at hw e
  subst e
  by_cases hj : j = i
  · subst hj
    unfold am_setL at hw
    rw [List.getElem?_set_self (by have := (List.getElem?_eq_some_iff.mp hw).1; simpa using this)] at hw
    cases hw
    exact List.mem_cons_self
  · unfold am_setL at hw
    rw [List.getElem?_set_ne (fun h => hj h.symm)] at hw
    by_cases hj1 : j = i + 1
    · subst hj1
      have hlt : i + 1 < (am_kill lv i).length := by have := (List.getElem?_eq_some_iff.mp hw).1; simpa using this
      rw [List.getElem?_set_self hlt] at hw
      cases hw
    · rw [List.getElem?_set_ne (fun h => hj1 h.symm)] at hw
      obtain ⟨h1, h2⟩ := am_kill_get hw
      refine List.mem_cons_of_mem _ (List.mem_filter.mpr ⟨am_lvl_mem.mpr ⟨w, h1, rfl⟩, ?_⟩)
      simp only [beq_iff_eq, Bool.and_eq_true, Bool.not_eq_true', beq_eq_false_iff_ne, ne_eq, Bool.and_eq_false_iff]
      refine ⟨hj, hj1, ?_⟩
      by_cases hji : j + 1 = i
      · right
        intro hc
        obtain ⟨x, rfl⟩ := am_cat2 hc
        exact h2 hji x rfl
      · exact Or.inl hji
end
section
noncomputable def am_nst : List (String × Nat × MethodName × String) := [("PaceBorder$Past", 49, yX8_isCrown, "PaceBorder")]
end
section
/-! A small machine over worlds by number: what an instruction asks, as a proposition that the rest of the run must meet. -/
noncomputable abbrev am_N : Type := am_Lv → List am_V → am_Sh → am_M → Prop
noncomputable def pI (st : List am_V) (K : Int → List am_V → Prop) : Prop := match st with
  | .inl x :: s => K x s
  | _ => False
noncomputable def pL (st : List am_V) (K : Int → List am_V → Prop) : Prop := match st with
  | .inr (.inl x) :: s => K x s
  | _ => False
noncomputable def pR (st : List am_V) (K : Nat → List am_V → Prop) : Prop := match st with
  | .inr (.inr (some a)) :: s => K a s
  | _ => False
noncomputable def pX (st : List am_V) (K : Option Nat → List am_V → Prop) : Prop := match st with
  | .inr (.inr a) :: s => K a s
  | _ => False
noncomputable def pV (st : List am_V) (K : am_V → List am_V → Prop) : Prop := match st with
  | v :: s => K v s
  | _ => False
noncomputable def pC (sh : am_Sh) (a : Nat) (K : am_S → Prop) : Prop := match sh[a]? with
  | some q => K q
  | none => False
noncomputable def pF (r : Option Nat) (K : Nat → Prop) : Prop := match r with
  | some a => K a
  | none => False
noncomputable def gI (lv : am_Lv) (n : Nat) (K : Int → Prop) : Prop := match lv[n]? with
  | some (some (.inl x)) => K x
  | _ => False
noncomputable def gL (lv : am_Lv) (n : Nat) (K : Int → Prop) : Prop := match lv[n]? with
  | some (some (.inr (.inl x))) => K x
  | _ => False
noncomputable def gX (lv : am_Lv) (n : Nat) (K : Option Nat → Prop) : Prop := match lv[n]? with
  | some (some (.inr (.inr x))) => K x
  | _ => False
theorem pI_e {st : List am_V} {K : Int → List am_V → Prop} (h : pI st K) : ∃ x s, st = .inl x :: s ∧ K x s := by
  unfold pI at h; split at h
  · exact ⟨_, _, rfl, h⟩
  · exact h.elim
theorem pL_e {st : List am_V} {K : Int → List am_V → Prop} (h : pL st K) : ∃ x s, st = .inr (.inl x) :: s ∧ K x s := by
  unfold pL at h; split at h
  · exact ⟨_, _, rfl, h⟩
  · exact h.elim
theorem pR_e {st : List am_V} {K : Nat → List am_V → Prop} (h : pR st K) : ∃ x s, st = .inr (.inr (some x)) :: s ∧ K x s := by
  unfold pR at h; split at h
  · exact ⟨_, _, rfl, h⟩
  · exact h.elim
theorem pX_e {st : List am_V} {K : Option Nat → List am_V → Prop} (h : pX st K) : ∃ x s, st = .inr (.inr x) :: s ∧ K x s := by
  unfold pX at h; split at h
  · exact ⟨_, _, rfl, h⟩
  · exact h.elim
theorem pV_e {st : List am_V} {K : am_V → List am_V → Prop} (h : pV st K) : ∃ x s, st = x :: s ∧ K x s := by
  unfold pV at h; split at h
  · exact ⟨_, _, rfl, h⟩
  · exact h.elim
theorem pC_e {sh : am_Sh} {a : Nat} {K : am_S → Prop} (h : pC sh a K) : ∃ q, sh[a]? = some q ∧ K q := by
  unfold pC at h; split at h
  · exact ⟨_, by assumption, h⟩
  · exact h.elim
theorem pF_e {r : Option Nat} {K : Nat → Prop} (h : pF r K) : ∃ q, r = some q ∧ K q := by
  unfold pF at h; split at h
  · exact ⟨_, rfl, h⟩
  · exact h.elim
theorem gI_e {lv : am_Lv} {n : Nat} {K : Int → Prop} (h : gI lv n K) : ∃ x, lv[n]? = some (some (.inl x)) ∧ K x := by
  unfold gI at h; split at h
  · exact ⟨_, by assumption, h⟩
  · exact h.elim
theorem gL_e {lv : am_Lv} {n : Nat} {K : Int → Prop} (h : gL lv n K) : ∃ x, lv[n]? = some (some (.inr (.inl x))) ∧ K x := by
  unfold gL at h; split at h
  · exact ⟨_, by assumption, h⟩
  · exact h.elim
theorem gX_e {lv : am_Lv} {n : Nat} {K : Option Nat → Prop} (h : gX lv n K) : ∃ x, lv[n]? = some (some (.inr (.inr x))) ∧ K x := by
  unfold gX at h; split at h
  · exact ⟨_, by assumption, h⟩
  · exact h.elim
noncomputable def am_cat : am_V → Nat
  | .inr (.inl _) => 2
  | _ => 1
noncomputable def am_cats : List am_V → Nat
  | [] => 0
  | v :: s => am_cat v + am_cats s
theorem am_cats_eq (base b : Nat) (s : List am_V) : ((s.map (am_cv base b)).map fun v => v.category).sum = am_cats s := by
  induction s with
  | nil => rfl
  | cons v s ih =>
    simp only [List.map_cons, List.sum_cons, ih, am_cats]
    congr 1
    rcases v with x | x | (_ | k) <;> rfl
noncomputable def am_pop : Nat → List am_V → List am_V → Option (List am_V × List am_V)
  | 0, st, acc => some (acc, st)
  | n + 1, v :: st, acc => am_pop n st (v :: acc)
  | _ + 1, [], _ => none
theorem am_pop_e : ∀ (n : Nat) (st acc : List am_V) (as r : List am_V), am_pop n st acc = some (as, r) → ∃ bs, as = bs ++ acc ∧ bs.length = n ∧ st = bs.reverse ++ r
  | 0, st, acc, as, r, h => by cases h; exact ⟨[], rfl, rfl, rfl⟩
  | n + 1, v :: st, acc, as, r, h => by
    obtain ⟨bs, h1, h2, h3⟩ := am_pop_e n st (v :: acc) as r h
    exact ⟨bs ++ [v], by rw [h1]; simp, by simp [h2], by rw [h3]; simp⟩
  | _ + 1, [], _, _, _, h => by cases h
noncomputable def pA (n : Nat) (st : List am_V) (K : List am_V → List am_V → Prop) : Prop := match am_pop n st [] with
  | some q => K q.1 q.2
  | none => False
theorem pA_e {n : Nat} {st : List am_V} {K : List am_V → List am_V → Prop} (h : pA n st K) : ∃ as r, as.length = n ∧ st = as.reverse ++ r ∧ K as r := by
  unfold pA at h; split at h
  · rename_i q hq
    obtain ⟨as, r⟩ := q
    obtain ⟨bs, h1, h2, h3⟩ := am_pop_e _ _ _ _ _ hq
    rw [List.append_nil] at h1
    subst h1
    exact ⟨_, _, h2, h3, h⟩
  · exact h.elim
/-- links to a nest mate's methods: carried beside the words -/
noncomputable def am_Kn (D : va_G) (ca : am_Ca) (U : State) : Prop := va_K D vwCl (am_ty ca) U ∧ (∀ q ∈ am_nst, va_Nw (.methodLinkNest q.1 q.2.1 q.2.2.1 q.2.2.2) U) ∧ va_AO "PaceBorder$Days" U
theorem am_Kn.warm {D : va_G} {ca : am_Ca} {s U : State} (hW : s.WarmedH U.vm) (h : am_Kn D ca s) : am_Kn D ca U := ⟨va_K.moved hW.alike h.1, fun q hq => va_Nw.warmM hW (h.2.1 q hq), va_AO.moved hW.alike h.2.2⟩
theorem am_Kn.same {D : va_G} {ca : am_Ca} {s U : State} (hv : s.vm = U.vm) (h : am_Kn D ca s) : am_Kn D ca U := ⟨va_K.moved (by rw [hv]; exact Vm.Alike.refl _) h.1, fun q hq => va_Nw.same rfl hv (h.2.1 q hq), va_AO.moved (by rw [hv]; exact Vm.Alike.refl _) h.2.2⟩
noncomputable def am_tb (k : Nat) : List Cond := am_kw k :: lw_g
noncomputable def am_rm (k : Nat) (sh sh' : am_Sh) : Room := { frames := am_fr k, cells := sh'.length - sh.length, slots := am_sl sh' - am_sl sh, locals := am_lc k }
/-- method k, called with these answers this, in every launch, at every place -/
noncomputable def am_Calls (k : Nat) (as : List am_V) (sh : am_Sh) (M : am_M) (v : Option am_V) (sh' : am_Sh) (M' : am_M) : Prop :=
  ∀ (l : Launch) (D : va_G) (ca : am_Ca) (base b : Nat), Met l (am_y k) (am_tb k) (am_rm k sh sh')
    (va_Pc (as.map (am_cv base b)) (fun U => U.heap.size = base + sh.length ∧ va_P D vwCl (am_ws base ca sh M) U.heap ∧ am_Kn D ca U))
    (fun _ st o t => o = .returned (v.map (am_cv base b)) ∧ (t.heap.size = base + sh'.length ∧ va_P D vwCl (am_ws base ca sh' M') t.heap) ∧ va_F (fun q => base ≤ q) st t)
    (sh'.length - sh.length) (am_sl sh' - am_sl sh) (fun q => base ≤ q)
noncomputable def am_cnd (c : Jvm.ClassFile.Cond) (x y : Int) : Prop := match c with
  | .eq => x = y
  | .ne => x ≠ y
  | .lt => x < y
  | .ge => y ≤ x
  | .gt => y < x
  | .le => x ≤ y
noncomputable def am_sw (x : Int) : Int → List Nat → (Nat → Prop) → Prop
  | _, [], _ => True
  | lo, t :: ts, K => (x = lo → K t) ∧ am_sw x (lo + 1) ts K
theorem am_sw_e {x : Int} {K : Nat → Prop} : ∀ (ts : List Nat) (lo : Int), am_sw x lo ts K → ∀ (j t : Nat), ts[j]? = some t → x = lo + j → K t
  | [], _, _, j, t, h, _ => by simp at h
  | a :: ts, lo, h, 0, t, ht, hx => by
    simp at ht; subst ht
    exact h.1 (by simpa using hx)
  | a :: ts, lo, h, j + 1, t, ht, hx => am_sw_e ts (lo + 1) h.2 j t (by simpa using ht) (by rw [hx]; push_cast; omega)
noncomputable def am_cpy (M : am_M) (s0 d sp dp n : Nat) : am_M := am_row M d (va_cpy (M s0) (M d) sp dp n)
noncomputable def am_stp (sc : Option (Nat × (Nat → Int))) (fin : Nat × Nat) (i : Instr) (f : List Nat) (lv : am_Lv) (st : List am_V) (sh : am_Sh) (M : am_M) (N : am_N) (J : Nat → am_N) (Rt : Option am_V → am_Sh → am_M → Prop) : Prop :=
  match i with
  | .iconst n => N lv (.inl n :: st) sh M
  | .bipush n => N lv (.inl n :: st) sh M
  | .sipush n => N lv (.inl n :: st) sh M
  | .lconst n => N lv (.inr (.inl ((n : Nat) : Int)) :: st) sh M
  | .ldc _ => N lv (.inl ((f.getD 0 0 : Nat) : Int) :: st) sh M
  | .ldc_w _ => N lv (.inl ((f.getD 0 0 : Nat) : Int) :: st) sh M
  | .ldc2_w _ => (match f with
    | [n] => N lv (.inr (.inl (n : Int)) :: st) sh M
    | [n, _] => N lv (.inr (.inl (-(n : Int))) :: st) sh M
    | _ => False)
  | .iload n => gI lv n fun x => N lv (.inl x :: st) sh M
  | .iload_n n => gI lv n fun x => N lv (.inl x :: st) sh M
  | .lload n => gL lv n fun x => N lv (.inr (.inl x) :: st) sh M
  | .lload_n n => gL lv n fun x => N lv (.inr (.inl x) :: st) sh M
  | .aload n => gX lv n fun x => N lv (.inr (.inr x) :: st) sh M
  | .aload_n n => gX lv n fun x => N lv (.inr (.inr x) :: st) sh M
  | .istore n => pI st fun x s => N (am_set lv n (.inl x)) s sh M
  | .istore_n n => pI st fun x s => N (am_set lv n (.inl x)) s sh M
  | .astore n => pX st fun x s => N (am_set lv n (.inr (.inr x))) s sh M
  | .astore_n n => pX st fun x s => N (am_set lv n (.inr (.inr x))) s sh M
  | .lstore n => pL st fun x s => N (am_setL lv n (.inr (.inl x))) s sh M
  | .lstore_n n => pL st fun x s => N (am_setL lv n (.inr (.inl x))) s sh M
  | .iinc n z => gI lv n fun x => N (am_set lv n (.inl (x + z))) st sh M
  | .iadd => pI st fun y s => pI s fun x s => N lv (.inl (x + y) :: s) sh M
  | .isub => pI st fun y s => pI s fun x s => N lv (.inl (x - y) :: s) sh M
  | .imul => pI st fun y s => pI s fun x s => N lv (.inl (x * y) :: s) sh M
  | .idiv => pI st fun y s => pI s fun x s => wI y ≠ 0 ∧ N lv (.inl ((wI x).tdiv (wI y)) :: s) sh M
  | .irem => pI st fun y s => pI s fun x s => wI y ≠ 0 ∧ N lv (.inl ((wI x).tmod (wI y)) :: s) sh M
  | .ineg => pI st fun x s => N lv (.inl (-x) :: s) sh M
  | .iand => pI st fun y s => pI s fun x s => N lv (.inl (b_and_ x y) :: s) sh M
  | .ior => pI st fun y s => pI s fun x s => N lv (.inl (b_or_ x y) :: s) sh M
  | .ishl => pI st fun y s => pI s fun x s => N lv (.inl (b_shl_ x y) :: s) sh M
  | .ishr => pI st fun y s => pI s fun x s => N lv (.inl (b_shr_ x y) :: s) sh M
  | .ladd => pL st fun y s => pL s fun x s => N lv (.inr (.inl (x + y)) :: s) sh M
  | .lmul => pL st fun y s => pL s fun x s => N lv (.inr (.inl (x * y)) :: s) sh M
  | .ldiv => pL st fun y s => pL s fun x s => wL y ≠ 0 ∧ N lv (.inr (.inl ((wL x).tdiv (wL y))) :: s) sh M
  | .lrem => pL st fun y s => pL s fun x s => wL y ≠ 0 ∧ N lv (.inr (.inl ((wL x).tmod (wL y))) :: s) sh M
  | .lshl => pI st fun y s => pL s fun x s => N lv (.inr (.inl (b_lshl_ x y)) :: s) sh M
  | .lcmp => pL st fun y s => pL s fun x s => N lv (.inl (c_lcmp x y) :: s) sh M
  | .i2l => pI st fun x s => N lv (.inr (.inl (wI x)) :: s) sh M
  | .l2i => pL st fun x s => N lv (.inl x :: s) sh M
  | .i2b => pI st fun x s => N lv (.inl (wB x) :: s) sh M
  | .dup => pV st fun x s => am_cat x = 1 ∧ N lv (x :: x :: s) sh M
  | .pop => pV st fun x s => am_cat x = 1 ∧ N lv s sh M
  | .pop2 => pV st fun x s => am_cat x = 2 ∧ N lv s sh M
  | .dup2 => pV st fun y s => pV s fun x s => am_cat y = 1 ∧ am_cat x = 1 ∧ N lv (y :: x :: y :: x :: s) sh M
  | .getfield _ => (match f with
    | [ci, k, fk] => pR st fun a s => pC sh a fun q => q.1 = ci ∧ k < q.2.1 ∧ (if fk = 2 then pF (q.2.2.getD k none) fun r => N lv (.inr (.inr (some r)) :: s) sh M else if fk = 1 then N lv (.inr (.inl (M a k)) :: s) sh M else N lv (.inl (M a k) :: s) sh M)
    | _ => False)
  | .putfield _ => (match f with
    | [ci, k, fk, _] => if fk = 2 then (pR st fun v s => pR s fun a s => pC sh a fun q => q.1 = ci ∧ k < q.2.1 ∧ k < q.2.2.length ∧ N lv s (sh.set a (q.1, q.2.1, q.2.2.set k (some v))) M)
      else if fk = 1 then (pL st fun x s => pR s fun a s => pC sh a fun q => q.1 = ci ∧ k < q.2.1 ∧ N lv s sh (am_up M a k x))
      else if fk = 3 then (pI st fun x s => pR s fun a s => pC sh a fun q => q.1 = ci ∧ k < q.2.1 ∧ (x = 0 ∨ x = 1) ∧ N lv s sh (am_up M a k x))
      else (pI st fun x s => pR s fun a s => pC sh a fun q => q.1 = ci ∧ k < q.2.1 ∧ N lv s sh (am_up M a k x))
    | _ => False)
  | .iaload => pI st fun i s => pX s fun a s => (match a with
    | some a => pC sh a fun q => q.1 = 10 ∧ (0 ≤ wI i ∧ wI i < q.2.1) ∧ N lv (.inl (M a (wI i).toNat) :: s) sh M
    | none => (match sc with
      | some c => (0 ≤ wI i ∧ wI i < c.1) ∧ N lv (.inl (c.2 (wI i).toNat) :: s) sh M
      | none => False))
  | .laload => pI st fun i s => pR s fun a s => pC sh a fun q => q.1 = 11 ∧ (0 ≤ wI i ∧ wI i < q.2.1) ∧ N lv (.inr (.inl (M a (wI i).toNat)) :: s) sh M
  | .aaload => pI st fun i s => pR s fun a s => pC sh a fun q => q.1 = 12 ∧ (0 ≤ wI i ∧ wI i < q.2.1) ∧ pF (q.2.2.getD (wI i).toNat none) fun r => N lv (.inr (.inr (some r)) :: s) sh M
  | .iastore => pI st fun x s => pI s fun i s => pR s fun a s => pC sh a fun q => q.1 = 10 ∧ (0 ≤ wI i ∧ wI i < q.2.1) ∧ N lv s sh (am_up M a (wI i).toNat x)
  | .lastore => pL st fun x s => pI s fun i s => pR s fun a s => pC sh a fun q => q.1 = 11 ∧ (0 ≤ wI i ∧ wI i < q.2.1) ∧ N lv s sh (am_up M a (wI i).toNat x)
  | .aastore => pR st fun v s => pI s fun i s => pR s fun a s => pC sh a fun q => q.1 = 12 ∧ (0 ≤ wI i ∧ wI i < q.2.1) ∧ (wI i).toNat < q.2.2.length ∧ (pC sh v fun qv => qv.1 = 1) ∧ N lv s (sh.set a (12, q.2.1, q.2.2.set (wI i).toNat (some v))) M
  | .arraylength => pX st fun a s => (match a with
    | some a => pC sh a fun q => q.1 = 10 ∧ N lv (.inl (q.2.1 : Int) :: s) sh M ∨ q.1 = 11 ∧ N lv (.inl (q.2.1 : Int) :: s) sh M
    | none => (match sc with
      | some c => N lv (.inl (c.1 : Int) :: s) sh M
      | none => False))
  | .new _ => (match f with
    | [ci, n] => ci < 10 ∧ sh.length + 1 ≤ fin.1 ∧ am_sl sh + n ≤ fin.2 ∧ N lv (.inr (.inr (some sh.length)) :: st) (sh ++ [(ci, n, List.replicate n none)]) (am_row M sh.length (fun _ => 0))
    | _ => False)
  | .newarray _ => (match f with
    | [kd] => pI st fun n s => 0 ≤ wI n ∧ (wI n).toNat * 8 ≤ 536870912 ∧ sh.length + 1 ≤ fin.1 ∧ am_sl sh + (wI n).toNat ≤ fin.2 ∧ N lv (.inr (.inr (some sh.length)) :: s) (sh ++ [(kd, (wI n).toNat, [])]) (am_row M sh.length (fun _ => 0))
    | _ => False)
  | .anewarray _ => pI st fun n s => 0 ≤ wI n ∧ (wI n).toNat * 8 ≤ 536870912 ∧ sh.length + 1 ≤ fin.1 ∧ am_sl sh + (wI n).toNat ≤ fin.2 ∧ N lv (.inr (.inr (some sh.length)) :: s) (sh ++ [(12, (wI n).toNat, List.replicate (wI n).toNat none)]) (am_row M sh.length (fun _ => 0))
  | .invokevirtual _ => (match f with
    | [k, n, ci, _] => pA n st fun as r => pR r fun a r => pC sh a fun q => q.1 = ci ∧ am_cats r ≤ 8 ∧ ∃ v M', am_Calls k (.inr (.inr (some a)) :: as) sh M v sh M' ∧ N lv (v.toList ++ r) sh M'
    | _ => False)
  | .invokestatic _ => (match f with
    | [k, n, _, _] => pA n st fun as r => am_cats r ≤ 8 ∧ ∃ v M', am_Calls k as sh M v sh M' ∧ N lv (v.toList ++ r) sh M'
    | [_] => pI st fun n s => pI s fun dp s => pR s fun d s => pI s fun sp s => pR s fun s0 s => pC sh s0 fun q0 => pC sh d fun q1 => (q0.1 = 10 ∧ q1.1 = 10 ∨ q0.1 = 11 ∧ q1.1 = 11) ∧ (0 ≤ wI sp ∧ 0 ≤ wI dp ∧ 0 ≤ wI n ∧ wI sp + wI n ≤ q0.2.1 ∧ wI dp + wI n ≤ q1.2.1) ∧ am_cats s ≤ 8 ∧ N lv s sh (am_cpy M s0 d (wI sp).toNat (wI dp).toNat (wI n).toNat)
    | [z, _] => if z = 2 then (pI st fun x s => am_cats s ≤ 8 ∧ N lv (.inl (if 0 ≤ wI x then x else 0 - x) :: s) sh M)
      else if z = 1 then (pI st fun y s => pI s fun x s => am_cats s ≤ 8 ∧ N lv (.inl (if wI y < wI x then y else x) :: s) sh M)
      else (pI st fun y s => pI s fun x s => am_cats s ≤ 8 ∧ N lv (.inl (if wI x < wI y then y else x) :: s) sh M)
    | _ => False)
  | .invokespecial _ => (match f with
    | [k, n] => pA n st fun as r => pR r fun a r => am_cats r ≤ 8 ∧ ∃ sh' M', am_Calls k (.inr (.inr (some a)) :: as) sh M none sh' M' ∧ (sh.length ≤ sh'.length ∧ sh'.length ≤ fin.1 ∧ am_sl sh ≤ am_sl sh' ∧ am_sl sh' ≤ fin.2) ∧ N lv r sh' M'
    | [_] => pR st fun _ s => am_cats s ≤ 8 ∧ N lv s sh M
    | _ => False)
  | .goto _ => (match f with
    | [t] => J t lv st sh M
    | _ => False)
  | .ifCond c _ => (match f with
    | [t, e] => pI st fun x s => (am_cnd c (wI x) 0 → J t lv s sh M) ∧ (¬ am_cnd c (wI x) 0 → J e lv s sh M)
    | _ => False)
  | .if_icmp c _ => (match f with
    | [t, e] => pI st fun y s => pI s fun x s => (am_cnd c (wI x) (wI y) → J t lv s sh M) ∧ (¬ am_cnd c (wI x) (wI y) → J e lv s sh M)
    | _ => False)
  | .ifnull _ => (match f with
    | [_, e] => pR st fun _ s => J e lv s sh M
    | _ => False)
  | .ifnonnull _ => (match f with
    | [t, _] => pR st fun _ s => J t lv s sh M
    | _ => False)
  | .tableswitch _ lo hi _ => (match f with
    | t :: ts => pI st fun x s => ((wI x < lo ∨ hi < wI x) → J t lv s sh M) ∧ am_sw (wI x) lo ts fun t => J t lv s sh M
    | _ => False)
  | .ireturn => pI st fun x s => s = [] ∧ (f = [1] → x = 0 ∨ x = 1) ∧ Rt (some (.inl x)) sh M
  | .lreturn => pL st fun x s => s = [] ∧ Rt (some (.inr (.inl x))) sh M
  | .return_ => st = [] ∧ Rt none sh M
  | _ => False
end
section
/-! That the small machine speaks of the machine itself. -/
section AM
noncomputable def am_Cx (sc : Option (Nat × (Nat → Int))) (k : Nat) (p : Program) (R : Room) (s : State) (m : MethodId) (args : Array Value) (meth : Method) (c : Code) (D : va_G) (ca : am_Ca) (base b n0 sl0 : Nat) (fin : Nat × Nat) : Prop :=
  p.tables.exec = Jvm.exec ∧ c.code = am_cc k ∧ meth.sig.returnType = am_rt k ∧ c.maxLocals = am_ml k ∧ s.vm.findClass (am_y k).cls = some m.cls ∧ (∀ w ∈ lw_g, w.before args s = true) ∧ meth.locks = false ∧ meth.name = (am_y k).name ∧ am_fr k ≤ R.frames ∧ am_lc k ≤ R.locals ∧ am_Kn D ca s ∧ s.heap.size = base + n0 ∧ fin.1 ≤ n0 + R.cells ∧ fin.2 ≤ sl0 + R.slots ∧ (∀ c, sc = some c → va_X b c.1 (fun j => Int32.ofInt (c.2 j)) s s.heap ∧ b < base ∧ c.1 < 2 ^ 31)
noncomputable def am_St (k : Nat) (s : State) (D : va_G) (ca : am_Ca) (base b n0 sl0 : Nat) (fin : Nat × Nat) (H : Heap) (locs : List Loc) (ls : Array Slot) (lv : am_Lv) (sh : am_Sh) (M : am_M) : Prop :=
  lv_has ls (am_ml k) (am_lvl base b lv) ∧ lv.length = am_ml k ∧ H.size = base + sh.length ∧ va_P D vwCl (am_ws base ca sh M) H ∧ va_S (fun q => base ≤ q) s.heap H locs ∧ n0 ≤ sh.length ∧ sl0 ≤ am_sl sh ∧ sh.length ≤ fin.1 ∧ am_sl sh ≤ fin.2
noncomputable def am_rets (k pc : Nat) (v : Option am_V) : Prop :=
  (∃ x, v = some (.inl x) ∧ decode (am_cc k) pc = .ok (.ireturn, 1) ∧ (am_rt k = some .int ∨ am_rt k = some .boolean ∧ (x = 0 ∨ x = 1))) ∨
  (∃ x, v = some (.inr (.inl x)) ∧ decode (am_cc k) pc = .ok (.lreturn, 1) ∧ am_rt k = some .long) ∨
  (v = none ∧ decode (am_cc k) pc = .ok (.return_, 1) ∧ am_rt k = none)
/-- from place pc, with these locals, this stack, this world, method k comes to its end with that answer and that world -/
noncomputable def am_At (sc : Option (Nat × (Nat → Int))) (k pc : Nat) (lv : am_Lv) (st : List am_V) (sh : am_Sh) (M : am_M) (v : Option am_V) (sh' : am_Sh) (M' : am_M) : Prop :=
  ∀ ⦃p : Program⦄ ⦃l : Launch⦄ ⦃e : Env⦄ ⦃R : Room⦄ ⦃s : State⦄ ⦃m : MethodId⦄ ⦃args : Array Value⦄ ⦃below : List Frame⦄ ⦃meth : Method⦄ ⦃c : Code⦄ ⦃D : va_G⦄ ⦃ca : am_Ca⦄ ⦃base b n0 sl0 : Nat⦄ ⦃H : Heap⦄ ⦃locs : List Loc⦄ ⦃ls : Array Slot⦄ ⦃Q : State → Prop⦄,
    am_Cx sc k p R s m args meth c D ca base b n0 sl0 (sh'.length, am_sl sh') →
    am_St k s D ca base b n0 sl0 (sh'.length, am_sl sh') H locs ls lv sh M →
    (∀ (pc : Nat) (H : Heap) (locs : List Loc) (ls : Array Slot) (lv : am_Lv), am_rets k pc v → am_St k s D ca base b n0 sl0 (sh'.length, am_sl sh') H locs ls lv sh' M' →
      W p l e R s m args below meth c H locs (sh'.length - n0) (am_sl sh' - sl0) Q (F0 m pc ls ((v.map (am_cv base b)).toList))) →
    W p l e R s m args below meth c H locs (sh.length - n0) (am_sl sh - sl0) Q (F0 m pc ls (st.map (am_cv base b)))
theorem am_St.lv {k : Nat} {s : State} {D : va_G} {ca : am_Ca} {base b n0 sl0 : Nat} {fin : Nat × Nat} {H : Heap} {locs : List Loc} {ls ls' : Array Slot} {lv lv' : am_Lv} {sh : am_Sh} {M : am_M} (h : am_St k s D ca base b n0 sl0 fin H locs ls lv sh M) (h1 : lv_has ls' (am_ml k) (am_lvl base b lv')) (h2 : lv'.length = lv.length) : am_St k s D ca base b n0 sl0 fin H locs ls' lv' sh M :=
  ⟨h1, h2.trans h.2.1, h.2.2⟩
theorem am_St.at {k : Nat} {s : State} {D : va_G} {ca : am_Ca} {base b n0 sl0 : Nat} {fin : Nat × Nat} {H : Heap} {locs : List Loc} {ls : Array Slot} {lv : am_Lv} {sh : am_Sh} {M : am_M} (h : am_St k s D ca base b n0 sl0 fin H locs ls lv sh M) {n : Nat} {v : am_V} (hv : lv[n]? = some (some v)) : ls[n]? = some (.val (am_cv base b v)) :=
  h.1.2.2 (n, am_cv base b v) (am_lvl_mem.mpr ⟨v, hv, rfl⟩)
theorem va_S_trans {A : Nat → Prop} {H0 H H1 : Heap} {l l1 : List Loc} (h : va_S A H0 H l) (h1 : va_S A H H1 l1) : va_S A H0 H1 l1 :=
  ⟨Nat.le_trans h.1 h1.1, fun q hq hA => (h1.2.1 q (Nat.lt_of_lt_of_le hq h.1) hA).trans (h.2.1 q hq hA), h1.2.2⟩
theorem va_S_here {A : Nat → Prop} {H0 H : Heap} {l : List Loc} (h : va_S A H0 H l) : va_S A H H l := ⟨Nat.le_refl _, fun _ _ _ => rfl, h.2.2⟩
/-- how large the heap is: between what lies there and what was made -/
theorem am_exact {p : Program} {l : Launch} {e : Env} {R : Room} {s : State} {m : MethodId} {args : Array Value} {below : List Frame} {meth : Method} {c : Code} {H : Heap} {locs : List Loc} {slots : Nat} {Q : State → Prop} {g : JFrame} {base n0 n : Nat} (h1 : s.heap.size = base + n0) (hn : n0 ≤ n) (hl : base + n ≤ H.size)
    (kk : H.size = base + n → W p l e R s m args below meth c H locs (n - n0) slots Q g) : W p l e R s m args below meth c H locs (n - n0) slots Q g := fun T hT X => by
  have h2 := X.heapSize
  rw [hT] at h2
  exact kk (by omega) T hT X
section Simple
variable {sc : Option (Nat × (Nat → Int))} {k pc : Nat} {lv : am_Lv} {st : List am_V} {sh : am_Sh} {M : am_M} {v : Option am_V} {sh' : am_Sh} {M' : am_M}
theorem am_iconst {n : Int} (hd : decode (am_cc k) pc = .ok (.iconst n, 1)) (h : am_At sc k (pc + 1) lv (.inl n :: st) sh M v sh' M') : am_At sc k pc lv st sh M v sh' M' := by
  intro p l e R s m args below meth c D ca base b n0 sl0 H locs ls Q hC hS hQ
  exact lv_iconst hC.1 hC.2.1 hd rfl (h hC hS hQ)
theorem am_bipush {n : Int} (hd : decode (am_cc k) pc = .ok (.bipush n, 2)) (h1 : -128 ≤ n) (h2 : n < 128) (h : am_At sc k (pc + 2) lv (.inl n :: st) sh M v sh' M') : am_At sc k pc lv st sh M v sh' M' := by
  intro p l e R s m args below meth c D ca base b n0 sl0 H locs ls Q hC hS hQ
  exact lv_bipush hC.1 hC.2.1 hd (i_b h1 h2) (h hC hS hQ)
theorem am_sipush {n : Int} (hd : decode (am_cc k) pc = .ok (.sipush n, 3)) (h1 : -32768 ≤ n) (h2 : n < 32768) (h : am_At sc k (pc + 3) lv (.inl n :: st) sh M v sh' M') : am_At sc k pc lv st sh M v sh' M' := by
  intro p l e R s m args below meth c D ca base b n0 sl0 H locs ls Q hC hS hQ
  exact lv_sipush hC.1 hC.2.1 hd (i_s h1 h2) (h hC hS hQ)
theorem am_lconst {n : Fin 2} (hd : decode (am_cc k) pc = .ok (.lconst n, 1)) (h : am_At sc k (pc + 1) lv (.inr (.inl ((n : Nat) : Int)) :: st) sh M v sh' M') : am_At sc k pc lv st sh M v sh' M' := by
  intro p l e R s m args below meth c D ca base b n0 sl0 H locs ls Q hC hS hQ
  refine lv_lconst hC.1 hC.2.1 hd (v := Int64.ofInt ((n : Nat) : Int)) ?_ (h hC hS hQ)
  rfl
theorem am_ldc {ix n : Nat} (hd : decode (am_cc k) pc = .ok (.ldc ix, 2)) (hw : Cond.constant (am_y k).cls ix (Int32.ofInt n) ∈ lw_g) (h : am_At sc k (pc + 2) lv (.inl (n : Int) :: st) sh M v sh' M') : am_At sc k pc lv st sh M v sh' M' := by
  intro p l e R s m args below meth c D ca base b n0 sl0 H locs ls Q hC hS hQ
  exact lv_ldc hC.1 hC.2.1 hC.2.2.2.2.1 (hC.2.2.2.2.2.1 _ hw) hd (h hC hS hQ)
theorem am_ldcw {ix n : Nat} (hd : decode (am_cc k) pc = .ok (.ldc_w ix, 3)) (hw : Cond.constant (am_y k).cls ix (Int32.ofInt n) ∈ lw_g) (h : am_At sc k (pc + 3) lv (.inl (n : Int) :: st) sh M v sh' M') : am_At sc k pc lv st sh M v sh' M' := by
  intro p l e R s m args below meth c D ca base b n0 sl0 H locs ls Q hC hS hQ
  exact lv_ldcw hC.1 hC.2.1 hC.2.2.2.2.1 (hC.2.2.2.2.2.1 _ hw) hd (h hC hS hQ)
theorem am_ldc2 {ix : Nat} {n : Int} (hd : decode (am_cc k) pc = .ok (.ldc2_w ix, 3)) (hw : Cond.constantLong (am_y k).cls ix (Int64.ofInt n) ∈ lw_g) (h : am_At sc k (pc + 3) lv (.inr (.inl n) :: st) sh M v sh' M') : am_At sc k pc lv st sh M v sh' M' := by
  intro p l e R s m args below meth c D ca base b n0 sl0 H locs ls Q hC hS hQ
  exact lv_ldc2 hC.1 hC.2.1 hC.2.2.2.2.1 (hC.2.2.2.2.2.1 _ hw) hd (h hC hS hQ)
theorem am_iload {n : Nat} {x : Int} (hd : decode (am_cc k) pc = .ok (.iload n, 2)) (hl : lv[n]? = some (some (.inl x))) (h : am_At sc k (pc + 2) lv (.inl x :: st) sh M v sh' M') : am_At sc k pc lv st sh M v sh' M' := by
  intro p l e R s m args below meth c D ca base b n0 sl0 H locs ls Q hC hS hQ
  exact lv_iload hC.1 hC.2.1 hd (hS.at hl) (h hC hS hQ)
theorem am_iload_n {n : Fin 4} {x : Int} (hd : decode (am_cc k) pc = .ok (.iload_n n, 1)) (hl : lv[(n : Nat)]? = some (some (.inl x))) (h : am_At sc k (pc + 1) lv (.inl x :: st) sh M v sh' M') : am_At sc k pc lv st sh M v sh' M' := by
  intro p l e R s m args below meth c D ca base b n0 sl0 H locs ls Q hC hS hQ
  exact lv_iload_n hC.1 hC.2.1 hd rfl (hS.at hl) (h hC hS hQ)
theorem am_lload {n : Nat} {x : Int} (hd : decode (am_cc k) pc = .ok (.lload n, 2)) (hl : lv[n]? = some (some (.inr (.inl x)))) (h : am_At sc k (pc + 2) lv (.inr (.inl x) :: st) sh M v sh' M') : am_At sc k pc lv st sh M v sh' M' := by
  intro p l e R s m args below meth c D ca base b n0 sl0 H locs ls Q hC hS hQ
  exact lv_lload hC.1 hC.2.1 hd (hS.at hl) (h hC hS hQ)
theorem am_lload_n {n : Fin 4} {x : Int} (hd : decode (am_cc k) pc = .ok (.lload_n n, 1)) (hl : lv[(n : Nat)]? = some (some (.inr (.inl x)))) (h : am_At sc k (pc + 1) lv (.inr (.inl x) :: st) sh M v sh' M') : am_At sc k pc lv st sh M v sh' M' := by
  intro p l e R s m args below meth c D ca base b n0 sl0 H locs ls Q hC hS hQ
  exact lv_lload_n hC.1 hC.2.1 hd rfl (hS.at hl) (h hC hS hQ)
theorem am_cvX (base b : Nat) (x : Option Nat) : ∃ a, am_cv base b (.inr (.inr x)) = .ref a := by cases x <;> exact ⟨_, rfl⟩
theorem am_aload {n : Nat} {x : Option Nat} (hd : decode (am_cc k) pc = .ok (.aload n, 2)) (hl : lv[n]? = some (some (.inr (.inr x)))) (h : am_At sc k (pc + 2) lv (.inr (.inr x) :: st) sh M v sh' M') : am_At sc k pc lv st sh M v sh' M' := by
  intro p l e R s m args below meth c D ca base b n0 sl0 H locs ls Q hC hS hQ
  have h1 := h hC hS hQ
  have h2 := hS.at hl
  obtain ⟨a, ha⟩ := am_cvX base b x
  simp only [List.map_cons, ha] at h1 h2
  exact lv_aload hC.1 hC.2.1 hd h2 h1
theorem am_aload_n {n : Fin 4} {x : Option Nat} (hd : decode (am_cc k) pc = .ok (.aload_n n, 1)) (hl : lv[(n : Nat)]? = some (some (.inr (.inr x)))) (h : am_At sc k (pc + 1) lv (.inr (.inr x) :: st) sh M v sh' M') : am_At sc k pc lv st sh M v sh' M' := by
  intro p l e R s m args below meth c D ca base b n0 sl0 H locs ls Q hC hS hQ
  have h1 := h hC hS hQ
  have h2 := hS.at hl
  obtain ⟨a, ha⟩ := am_cvX base b x
  simp only [List.map_cons, ha] at h1 h2
  exact lv_aload_n hC.1 hC.2.1 hd rfl h2 h1
theorem am_istore {n : Nat} {x : Int} (hd : decode (am_cc k) pc = .ok (.istore n, 2)) (hn : n < am_ml k) (h : am_At sc k (pc + 2) (am_set lv n (.inl x)) st sh M v sh' M') : am_At sc k pc lv (.inl x :: st) sh M v sh' M' := by
  intro p l e R s m args below meth c D ca base b n0 sl0 H locs ls Q hC hS hQ
  exact lv_istore hC.1 hC.2.1 hd hS.1 hn rfl fun ls' h' => h hC (hS.lv (lv_has_sub h' am_set_sub) (am_set_len _ _ _)) hQ
theorem am_istore_n {n : Fin 4} {x : Int} (hd : decode (am_cc k) pc = .ok (.istore_n n, 1)) (hn : (n : Nat) < am_ml k) (h : am_At sc k (pc + 1) (am_set lv n (.inl x)) st sh M v sh' M') : am_At sc k pc lv (.inl x :: st) sh M v sh' M' := by
  intro p l e R s m args below meth c D ca base b n0 sl0 H locs ls Q hC hS hQ
  exact lv_istore_n hC.1 hC.2.1 hd rfl hS.1 hn rfl fun ls' h' => h hC (hS.lv (lv_has_sub h' am_set_sub) (am_set_len _ _ _)) hQ
theorem am_lstore {n : Nat} {x : Int} (hd : decode (am_cc k) pc = .ok (.lstore n, 2)) (hn : n + 1 < am_ml k) (h : am_At sc k (pc + 2) (am_setL lv n (.inr (.inl x))) st sh M v sh' M') : am_At sc k pc lv (.inr (.inl x) :: st) sh M v sh' M' := by
  intro p l e R s m args below meth c D ca base b n0 sl0 H locs ls Q hC hS hQ
  exact lv_lstore hC.1 hC.2.1 hd hS.1 hn rfl fun ls' h' => h hC (hS.lv (lv_has_sub h' am_setL_sub) (am_setL_len _ _ _)) hQ
theorem am_lstore_n {n : Fin 4} {x : Int} (hd : decode (am_cc k) pc = .ok (.lstore_n n, 1)) (hn : (n : Nat) + 1 < am_ml k) (h : am_At sc k (pc + 1) (am_setL lv n (.inr (.inl x))) st sh M v sh' M') : am_At sc k pc lv (.inr (.inl x) :: st) sh M v sh' M' := by
  intro p l e R s m args below meth c D ca base b n0 sl0 H locs ls Q hC hS hQ
  exact lv_lstore_n hC.1 hC.2.1 hd rfl hS.1 hn rfl fun ls' h' => h hC (hS.lv (lv_has_sub h' am_setL_sub) (am_setL_len _ _ _)) hQ
theorem am_astore_n {n : Fin 4} {x : Option Nat} (hd : decode (am_cc k) pc = .ok (.astore_n n, 1)) (hn : (n : Nat) < am_ml k) (h : am_At sc k (pc + 1) (am_set lv n (.inr (.inr x))) st sh M v sh' M') : am_At sc k pc lv (.inr (.inr x) :: st) sh M v sh' M' := by
  intro p l e R s m args below meth c D ca base b n0 sl0 H locs ls Q hC hS hQ
  obtain ⟨a, ha⟩ := am_cvX base b x
  simp only [List.map_cons, ha]
  exact lv_astore_n hC.1 hC.2.1 hd rfl hS.1 hn rfl fun ls' h' => h hC (hS.lv (lv_has_sub h' (by rw [← ha]; exact am_set_sub)) (am_set_len _ _ _)) hQ
theorem am_astore {n : Nat} {x : Option Nat} (hd : decode (am_cc k) pc = .ok (.astore n, 2)) (hn : (n : Nat) < am_ml k) (h : am_At sc k (pc + 2) (am_set lv n (.inr (.inr x))) st sh M v sh' M') : am_At sc k pc lv (.inr (.inr x) :: st) sh M v sh' M' := by
  intro p l e R s m args below meth c D ca base b n0 sl0 H locs ls Q hC hS hQ
  obtain ⟨a, ha⟩ := am_cvX base b x
  simp only [List.map_cons, ha]
  exact lv_astore hC.1 hC.2.1 hd hS.1 hn rfl fun ls' h' => h hC (hS.lv (lv_has_sub h' (by rw [← ha]; exact am_set_sub)) (am_set_len _ _ _)) hQ
theorem am_iinc {n : Nat} {x z : Int} (hd : decode (am_cc k) pc = .ok (.iinc n z, 3)) (hn : n < am_ml k) (hl : lv[n]? = some (some (.inl x))) (h : am_At sc k (pc + 3) (am_set lv n (.inl (x + z))) st sh M v sh' M') : am_At sc k pc lv st sh M v sh' M' := by
  intro p l e R s m args below meth c D ca base b n0 sl0 H locs ls Q hC hS hQ
  obtain ⟨j, hj⟩ := List.getElem?_of_mem (am_lvl_mem (base := base) (b := b) (q := (n, am_cv base b (.inl x))) |>.mpr ⟨_, hl, rfl⟩)
  exact lv_iinc (v := Int32.ofInt (x + z)) hC.1 hC.2.1 hd hS.1 hj (i_add x z) hn rfl fun ls' h' => h hC (hS.lv (lv_has_sub h' am_set_sub) (am_set_len _ _ _)) hQ
theorem am_iadd {x y : Int} (hd : decode (am_cc k) pc = .ok (.iadd, 1)) (h : am_At sc k (pc + 1) lv (.inl (x + y) :: st) sh M v sh' M') : am_At sc k pc lv (.inl y :: .inl x :: st) sh M v sh' M' := by
  intro p l e R s m args below meth c D ca base b n0 sl0 H locs ls Q hC hS hQ
  refine lv_iadd hC.1 hC.2.1 hd ?_
  rw [i_add]; exact h hC hS hQ
theorem am_isub {x y : Int} (hd : decode (am_cc k) pc = .ok (.isub, 1)) (h : am_At sc k (pc + 1) lv (.inl (x - y) :: st) sh M v sh' M') : am_At sc k pc lv (.inl y :: .inl x :: st) sh M v sh' M' := by
  intro p l e R s m args below meth c D ca base b n0 sl0 H locs ls Q hC hS hQ
  refine lv_isub hC.1 hC.2.1 hd ?_
  rw [i_sub]; exact h hC hS hQ
theorem am_imul {x y : Int} (hd : decode (am_cc k) pc = .ok (.imul, 1)) (h : am_At sc k (pc + 1) lv (.inl (x * y) :: st) sh M v sh' M') : am_At sc k pc lv (.inl y :: .inl x :: st) sh M v sh' M' := by
  intro p l e R s m args below meth c D ca base b n0 sl0 H locs ls Q hC hS hQ
  refine lv_imul hC.1 hC.2.1 hd ?_
  rw [i_mul]; exact h hC hS hQ
theorem am_idiv {x y : Int} (hd : decode (am_cc k) pc = .ok (.idiv, 1)) (hy : wI y ≠ 0) (h : am_At sc k (pc + 1) lv (.inl ((wI x).tdiv (wI y)) :: st) sh M v sh' M') : am_At sc k pc lv (.inl y :: .inl x :: st) sh M v sh' M' := by
  intro p l e R s m args below meth c D ca base b n0 sl0 H locs ls Q hC hS hQ
  refine lv_idiv hC.1 hC.2.1 hd (fun e => hy (by rw [← i_0, i_eq] at e; exact e)) ?_
  rw [i_div]; exact h hC hS hQ
theorem am_irem {x y : Int} (hd : decode (am_cc k) pc = .ok (.irem, 1)) (hy : wI y ≠ 0) (h : am_At sc k (pc + 1) lv (.inl ((wI x).tmod (wI y)) :: st) sh M v sh' M') : am_At sc k pc lv (.inl y :: .inl x :: st) sh M v sh' M' := by
  intro p l e R s m args below meth c D ca base b n0 sl0 H locs ls Q hC hS hQ
  refine lv_irem hC.1 hC.2.1 hd (fun e => hy (by rw [← i_0, i_eq] at e; exact e)) ?_
  rw [i_rem]; exact h hC hS hQ
theorem am_ineg {x : Int} (hd : decode (am_cc k) pc = .ok (.ineg, 1)) (h : am_At sc k (pc + 1) lv (.inl (-x) :: st) sh M v sh' M') : am_At sc k pc lv (.inl x :: st) sh M v sh' M' := by
  intro p l e R s m args below meth c D ca base b n0 sl0 H locs ls Q hC hS hQ
  refine lv_ineg hC.1 hC.2.1 hd ?_
  rw [i_neg]; exact h hC hS hQ
theorem am_iand {x y : Int} (hd : decode (am_cc k) pc = .ok (.iand, 1)) (h : am_At sc k (pc + 1) lv (.inl (b_and_ x y) :: st) sh M v sh' M') : am_At sc k pc lv (.inl y :: .inl x :: st) sh M v sh' M' := by
  intro p l e R s m args below meth c D ca base b n0 sl0 H locs ls Q hC hS hQ
  refine lv_iand hC.1 hC.2.1 hd ?_
  rw [← i_of (_ &&& _)]; exact h hC hS hQ
theorem am_ior {x y : Int} (hd : decode (am_cc k) pc = .ok (.ior, 1)) (h : am_At sc k (pc + 1) lv (.inl (b_or_ x y) :: st) sh M v sh' M') : am_At sc k pc lv (.inl y :: .inl x :: st) sh M v sh' M' := by
  intro p l e R s m args below meth c D ca base b n0 sl0 H locs ls Q hC hS hQ
  refine lv_ior hC.1 hC.2.1 hd ?_
  rw [← i_of (_ ||| _)]; exact h hC hS hQ
theorem am_ishl {x y : Int} (hd : decode (am_cc k) pc = .ok (.ishl, 1)) (h : am_At sc k (pc + 1) lv (.inl (b_shl_ x y) :: st) sh M v sh' M') : am_At sc k pc lv (.inl y :: .inl x :: st) sh M v sh' M' := by
  intro p l e R s m args below meth c D ca base b n0 sl0 H locs ls Q hC hS hQ
  refine lv_ishl hC.1 hC.2.1 hd ?_
  rw [← i_of (_ <<< _)]; exact h hC hS hQ
theorem am_ishr {x y : Int} (hd : decode (am_cc k) pc = .ok (.ishr, 1)) (h : am_At sc k (pc + 1) lv (.inl (b_shr_ x y) :: st) sh M v sh' M') : am_At sc k pc lv (.inl y :: .inl x :: st) sh M v sh' M' := by
  intro p l e R s m args below meth c D ca base b n0 sl0 H locs ls Q hC hS hQ
  refine lv_ishr hC.1 hC.2.1 hd ?_
  rw [← i_of (_ >>> _)]; exact h hC hS hQ
theorem am_ladd {x y : Int} (hd : decode (am_cc k) pc = .ok (.ladd, 1)) (h : am_At sc k (pc + 1) lv (.inr (.inl (x + y)) :: st) sh M v sh' M') : am_At sc k pc lv (.inr (.inl y) :: .inr (.inl x) :: st) sh M v sh' M' := by
  intro p l e R s m args below meth c D ca base b n0 sl0 H locs ls Q hC hS hQ
  refine lv_ladd hC.1 hC.2.1 hd ?_
  rw [l_add]; exact h hC hS hQ
theorem am_lmul {x y : Int} (hd : decode (am_cc k) pc = .ok (.lmul, 1)) (h : am_At sc k (pc + 1) lv (.inr (.inl (x * y)) :: st) sh M v sh' M') : am_At sc k pc lv (.inr (.inl y) :: .inr (.inl x) :: st) sh M v sh' M' := by
  intro p l e R s m args below meth c D ca base b n0 sl0 H locs ls Q hC hS hQ
  refine lv_lmul hC.1 hC.2.1 hd ?_
  rw [l_mul]; exact h hC hS hQ
theorem am_ldiv {x y : Int} (hd : decode (am_cc k) pc = .ok (.ldiv, 1)) (hy : wL y ≠ 0) (h : am_At sc k (pc + 1) lv (.inr (.inl ((wL x).tdiv (wL y))) :: st) sh M v sh' M') : am_At sc k pc lv (.inr (.inl y) :: .inr (.inl x) :: st) sh M v sh' M' := by
  intro p l e R s m args below meth c D ca base b n0 sl0 H locs ls Q hC hS hQ
  refine lv_ldiv hC.1 hC.2.1 hd (fun e => hy (by rw [show (0 : Int64) = Int64.ofInt 0 from rfl, l_eq] at e; exact e)) ?_
  rw [l_div]; exact h hC hS hQ
theorem am_lrem {x y : Int} (hd : decode (am_cc k) pc = .ok (.lrem, 1)) (hy : wL y ≠ 0) (h : am_At sc k (pc + 1) lv (.inr (.inl ((wL x).tmod (wL y))) :: st) sh M v sh' M') : am_At sc k pc lv (.inr (.inl y) :: .inr (.inl x) :: st) sh M v sh' M' := by
  intro p l e R s m args below meth c D ca base b n0 sl0 H locs ls Q hC hS hQ
  refine lv_lrem hC.1 hC.2.1 hd (fun e => hy (by rw [show (0 : Int64) = Int64.ofInt 0 from rfl, l_eq] at e; exact e)) ?_
  rw [l_rem]; exact h hC hS hQ
theorem am_lshl {x y : Int} (hd : decode (am_cc k) pc = .ok (.lshl, 1)) (h : am_At sc k (pc + 1) lv (.inr (.inl (b_lshl_ x y)) :: st) sh M v sh' M') : am_At sc k pc lv (.inl y :: .inr (.inl x) :: st) sh M v sh' M' := by
  intro p l e R s m args below meth c D ca base b n0 sl0 H locs ls Q hC hS hQ
  refine lv_lshl hC.1 hC.2.1 hd rfl ?_
  rw [← l_of (_ <<< _)]; exact h hC hS hQ
theorem am_lcmp {x y : Int} (hd : decode (am_cc k) pc = .ok (.lcmp, 1)) (h : am_At sc k (pc + 1) lv (.inl (c_lcmp x y) :: st) sh M v sh' M') : am_At sc k pc lv (.inr (.inl y) :: .inr (.inl x) :: st) sh M v sh' M' := by
  intro p l e R s m args below meth c D ca base b n0 sl0 H locs ls Q hC hS hQ
  refine W.lcmp hC.1 hC.2.1 hd ?_
  rw [l_cmp]; exact h hC hS hQ
theorem am_i2l {x : Int} (hd : decode (am_cc k) pc = .ok (.i2l, 1)) (h : am_At sc k (pc + 1) lv (.inr (.inl (wI x)) :: st) sh M v sh' M') : am_At sc k pc lv (.inl x :: st) sh M v sh' M' := by
  intro p l e R s m args below meth c D ca base b n0 sl0 H locs ls Q hC hS hQ
  exact lv_i2l hC.1 hC.2.1 hd (i_2l x) (h hC hS hQ)
theorem am_l2i {x : Int} (hd : decode (am_cc k) pc = .ok (.l2i, 1)) (h : am_At sc k (pc + 1) lv (.inl x :: st) sh M v sh' M') : am_At sc k pc lv (.inr (.inl x) :: st) sh M v sh' M' := by
  intro p l e R s m args below meth c D ca base b n0 sl0 H locs ls Q hC hS hQ
  exact lv_l2i hC.1 hC.2.1 hd (l_2i x) (h hC hS hQ)
theorem am_i2b {x : Int} (hd : decode (am_cc k) pc = .ok (.i2b, 1)) (h : am_At sc k (pc + 1) lv (.inl (wB x) :: st) sh M v sh' M') : am_At sc k pc lv (.inl x :: st) sh M v sh' M' := by
  intro p l e R s m args below meth c D ca base b n0 sl0 H locs ls Q hC hS hQ
  exact lv_i2b hC.1 hC.2.1 hd (i_2b x) (h hC hS hQ)
theorem am_cat1 {base b : Nat} {x : am_V} (h : am_cat x = 1) : (am_cv base b x).category = 1 := by
  rcases x with x | x | (_ | k)
  · rfl
  · cases h
  · rfl
  · rfl
theorem am_dup {x : am_V} (hd : decode (am_cc k) pc = .ok (.dup, 1)) (hx : am_cat x = 1) (h : am_At sc k (pc + 1) lv (x :: x :: st) sh M v sh' M') : am_At sc k pc lv (x :: st) sh M v sh' M' := by
  intro p l e R s m args below meth c D ca base b n0 sl0 H locs ls Q hC hS hQ
  exact lv_dup hC.1 hC.2.1 hd (am_cat1 hx) (h hC hS hQ)
theorem am_pop1 {x : am_V} (hd : decode (am_cc k) pc = .ok (.pop, 1)) (hx : am_cat x = 1) (h : am_At sc k (pc + 1) lv st sh M v sh' M') : am_At sc k pc lv (x :: st) sh M v sh' M' := by
  intro p l e R s m args below meth c D ca base b n0 sl0 H locs ls Q hC hS hQ
  exact lv_pop hC.1 hC.2.1 hd (am_cat1 hx) (h hC hS hQ)
theorem am_catL {base b : Nat} {x : am_V} (h : am_cat x = 2) : (am_cv base b x).category = 2 := by
  rcases x with x | x | (_ | k)
  · cases h
  · rfl
  · cases h
  · cases h
theorem am_popL {x : am_V} (hd : decode (am_cc k) pc = .ok (.pop2, 1)) (hx : am_cat x = 2) (h : am_At sc k (pc + 1) lv st sh M v sh' M') : am_At sc k pc lv (x :: st) sh M v sh' M' := by
  intro p l e R s m args below meth c D ca base b n0 sl0 H locs ls Q hC hS hQ
  exact lv_pop2_2 hC.1 hC.2.1 hd (am_catL hx) (h hC hS hQ)
theorem am_dup2 {x y : am_V} (hd : decode (am_cc k) pc = .ok (.dup2, 1)) (hy : am_cat y = 1) (hx : am_cat x = 1) (h : am_At sc k (pc + 1) lv (y :: x :: y :: x :: st) sh M v sh' M') : am_At sc k pc lv (y :: x :: st) sh M v sh' M' := by
  intro p l e R s m args below meth c D ca base b n0 sl0 H locs ls Q hC hS hQ
  exact lv_dup2_11 hC.1 hC.2.1 hd (am_cat1 hy) (am_cat1 hx) (h hC hS hQ)
theorem am_goto {off : Int} {t : Nat} (hd : decode (am_cc k) pc = .ok (.goto off, 3)) (ht : (pc : Int) + off = t) (h : am_At sc k t lv st sh M v sh' M') : am_At sc k pc lv st sh M v sh' M' := by
  intro p l e R s m args below meth c D ca base b n0 sl0 H locs ls Q hC hS hQ
  exact lv_goto hC.1 hC.2.1 hd ht (h hC hS hQ)
theorem am_ifnull {off : Int} {x : Nat} (hd : decode (am_cc k) pc = .ok (.ifnull off, 3)) (h : am_At sc k (pc + 3) lv st sh M v sh' M') : am_At sc k pc lv (.inr (.inr (some x)) :: st) sh M v sh' M' := by
  intro p l e R s m args below meth c D ca base b n0 sl0 H locs ls Q hC hS hQ
  exact lv_ifnull hC.1 hC.2.1 hd (h hC hS hQ)
theorem am_ifnonnull {off : Int} {t x : Nat} (hd : decode (am_cc k) pc = .ok (.ifnonnull off, 3)) (ht : (pc : Int) + off = t) (h : am_At sc k t lv st sh M v sh' M') : am_At sc k pc lv (.inr (.inr (some x)) :: st) sh M v sh' M' := by
  intro p l e R s m args below meth c D ca base b n0 sl0 H locs ls Q hC hS hQ
  exact lv_ifnonnull hC.1 hC.2.1 hd ht (h hC hS hQ)
theorem am_if {cd : Jvm.ClassFile.Cond} {off : Int} {t : Nat} {x : Int} (hd : decode (am_cc k) pc = .ok (.ifCond cd off, 3)) (ht : (pc : Int) + off = t) (h1 : am_cnd cd (wI x) 0 → am_At sc k t lv st sh M v sh' M') (h2 : ¬ am_cnd cd (wI x) 0 → am_At sc k (pc + 3) lv st sh M v sh' M') : am_At sc k pc lv (.inl x :: st) sh M v sh' M' := by
  intro p l e R s m args below meth c D ca base b n0 sl0 H locs ls Q hC hS hQ
  have e1 : ∀ {x y : Int}, Int32.ofInt x = Int32.ofInt y ↔ wI x = wI y := i_eq
  cases cd with
  | eq => exact lv_if_eq hC.1 hC.2.1 hd ht (fun q => h1 (by rw [← i_0, i_eq] at q; exact q) hC hS hQ) (fun q => h2 (by rw [← i_0, i_eq] at q; exact q) hC hS hQ)
  | ne => exact lv_if_ne hC.1 hC.2.1 hd ht (fun q => h1 (by rw [← i_0] at q; simp only [ne_eq, i_eq] at q; exact q) hC hS hQ) (fun q => h2 (by rw [← i_0, i_eq] at q; exact fun z => z q) hC hS hQ)
  | lt => exact lv_if_lt hC.1 hC.2.1 hd ht (fun q => h1 (by rw [← i_0, i_lt] at q; exact q) hC hS hQ) (fun q => h2 (by rw [← i_0, i_lt] at q; exact q) hC hS hQ)
  | ge => exact lv_if_ge hC.1 hC.2.1 hd ht (fun q => h1 (by rw [← i_0, i_le] at q; exact q) hC hS hQ) (fun q => h2 (by rw [← i_0, i_le] at q; exact q) hC hS hQ)
  | gt => exact lv_if_gt hC.1 hC.2.1 hd ht (fun q => h1 (by rw [← i_0, i_lt] at q; exact q) hC hS hQ) (fun q => h2 (by rw [← i_0, i_lt] at q; exact q) hC hS hQ)
  | le => exact lv_if_le hC.1 hC.2.1 hd ht (fun q => h1 (by rw [← i_0, i_le] at q; exact q) hC hS hQ) (fun q => h2 (by rw [← i_0, i_le] at q; exact q) hC hS hQ)
theorem am_icmp {cd : Jvm.ClassFile.Cond} {off : Int} {t : Nat} {x y : Int} (hd : decode (am_cc k) pc = .ok (.if_icmp cd off, 3)) (ht : (pc : Int) + off = t) (h1 : am_cnd cd (wI x) (wI y) → am_At sc k t lv st sh M v sh' M') (h2 : ¬ am_cnd cd (wI x) (wI y) → am_At sc k (pc + 3) lv st sh M v sh' M') : am_At sc k pc lv (.inl y :: .inl x :: st) sh M v sh' M' := by
  intro p l e R s m args below meth c D ca base b n0 sl0 H locs ls Q hC hS hQ
  cases cd with
  | eq => exact lv_icmp_eq hC.1 hC.2.1 hd ht (fun q => h1 (by rw [i_eq] at q; exact q) hC hS hQ) (fun q => h2 (by rw [i_eq] at q; exact q) hC hS hQ)
  | ne => exact lv_icmp_ne hC.1 hC.2.1 hd ht (fun q => h1 (by simp only [ne_eq, i_eq] at q; exact q) hC hS hQ) (fun q => h2 (by rw [i_eq] at q; exact fun z => z q) hC hS hQ)
  | lt => exact lv_icmp_lt hC.1 hC.2.1 hd ht (fun q => h1 (by rw [i_lt] at q; exact q) hC hS hQ) (fun q => h2 (by rw [i_lt] at q; exact q) hC hS hQ)
  | ge => exact lv_icmp_ge hC.1 hC.2.1 hd ht (fun q => h1 (by rw [i_le] at q; exact q) hC hS hQ) (fun q => h2 (by rw [i_le] at q; exact q) hC hS hQ)
  | gt => exact lv_icmp_gt hC.1 hC.2.1 hd ht (fun q => h1 (by rw [i_lt] at q; exact q) hC hS hQ) (fun q => h2 (by rw [i_lt] at q; exact q) hC hS hQ)
  | le => exact lv_icmp_le hC.1 hC.2.1 hd ht (fun q => h1 (by rw [i_le] at q; exact q) hC hS hQ) (fun q => h2 (by rw [i_le] at q; exact q) hC hS hQ)
end Simple
end AM
end
section
/-! Fields, arrays, switches, ends. -/
section AMH
variable {sc : Option (Nat × (Nat → Int))} {k pc : Nat} {lv : am_Lv} {st : List am_V} {sh : am_Sh} {M : am_M} {v : Option am_V} {sh' : am_Sh} {M' : am_M}
theorem am_fs_get {base : Nat} {M : am_M} {a : Nat} {q : am_S} {j : Nat} (h : j < q.2.1) : (am_fs base M a q)[j]? = some (am_fv base (am_fk q.1 j) q.2.2 (M a j) j) := by
  simp [am_fs, h]
theorem am_obj {base : Nat} {ca : am_Ca} {M : am_M} {a : Nat} {q : am_S} (h : q.1 < 10) : am_cell base ca M a q = .inr (q.1, am_fs base M a q) := by simp [am_cell, h]
theorem am_vw {ci : Nat} {q : vw_C} (h : vwCl[ci]? = some q) : ci < 10 := (List.getElem?_eq_some_iff.mp h).1
theorem am_getv {ix j : Nat} {q : am_S} {C : String} {T : u_T} {n : Nat} {a : Nat} {w : am_V} (hd : decode (am_cc k) pc = .ok (.getfield ix, 3)) (hc : vwCl[q.1]? = some (C, T, n)) (hj : j < n) (hw : Cond.fieldLink (am_y k).cls ix (T j).1 (T j).2.1 (T j).2.2.1 ∈ lw_g) (ha : sh[a]? = some q) (hq : j < q.2.1)
    (hv : ∀ base b, am_fv base (am_fk q.1 j) q.2.2 (M a j) j = am_cv base b w) (h : am_At sc k (pc + 3) lv (w :: st) sh M v sh' M') : am_At sc k pc lv (.inr (.inr (some a)) :: st) sh M v sh' M' := by
  intro p l e R s m args below meth c D ca base b n0 sl0 H locs ls Q hC hS hQ
  have hg := am_ws_get (base := base) (ca := ca) (M := M) ha
  rw [am_obj (am_vw hc)] at hg
  exact va_get hC.1 hC.2.1 hC.2.2.2.2.2.1 (am_cls q.1 _ hc).1 hC.2.2.2.2.1 hC.2.2.2.2.2.2.2.2.2.2.1.1 hS.2.2.2.1 a hg hc j hj (hC.2.2.2.2.2.1 _ hw) (fun x hx => hx) (by rw [am_fs_get hq, hv base b]) hd (h hC hS hQ)
theorem am_cell_up {base : Nat} {ca : am_Ca} {M : am_M} {a j : Nat} {x : Int} {q : am_S} (h : q.1 < 10) (hk : am_fk q.1 j = 2 → False) (hj : j < q.2.1) {w : Value} (hw : w = am_fv base (am_fk q.1 j) q.2.2 x j) : (.inr (q.1, (am_fs base M a q).set j w) : va_E) = am_cell base ca (am_up M a j x) a q := by
  rw [am_obj h]
  congr 2
  apply List.ext_getElem?
  intro i
  by_cases hi : i = j
  · subst hi
    rw [List.getElem?_set_self (by simpa [am_fs] using hj), am_fs_get hj, hw]
    simp [am_up]
  · rw [List.getElem?_set_ne (fun h => hi h.symm)]
    by_cases hl : i < q.2.1
    · rw [am_fs_get hl, am_fs_get hl]; simp [am_up, hi]
    · rw [List.getElem?_eq_none (by simpa [am_fs] using hl), List.getElem?_eq_none (by simpa [am_fs] using hl)]
theorem am_cell_ref {base : Nat} {ca : am_Ca} {M : am_M} {a j r : Nat} {q : am_S} (h : q.1 < 10) (hk : am_fk q.1 j = 2) (hj : j < q.2.1) (hr : j < q.2.2.length) : (.inr (q.1, (am_fs base M a q).set j (.ref (base + r))) : va_E) = am_cell base ca M a (q.1, q.2.1, q.2.2.set j (some r)) := by
  rw [am_obj (q := (q.1, q.2.1, q.2.2.set j (some r))) h]
  congr 2
  apply List.ext_getElem?
  intro i
  by_cases hi : i = j
  · subst hi
    rw [List.getElem?_set_self (by simpa [am_fs] using hj), am_fs_get (q := (q.1, q.2.1, q.2.2.set i (some r))) hj]
    simp [am_fv, hk, hr, va_rf]
  · rw [List.getElem?_set_ne (fun h => hi h.symm)]
    by_cases hl : i < q.2.1
    · rw [am_fs_get hl, am_fs_get (q := (q.1, q.2.1, q.2.2.set j (some r))) hl]
      congr 1
      simp only [am_fv, List.getD_eq_getElem?_getD, List.getElem?_set_ne (fun h => hi h.symm : j ≠ i)]
    · rw [List.getElem?_eq_none (by simpa [am_fs] using hl), List.getElem?_eq_none (by simpa [am_fs] using hl)]
/-- a field's store: the value fits, its cell becomes that of sh2, M2 -/
theorem am_putv {ix j : Nat} {q q2 : am_S} {C : String} {T : u_T} {n : Nat} {a : Nat} {w : am_V} {M2 : am_M} (hd : decode (am_cc k) pc = .ok (.putfield ix, 3)) (hc : vwCl[q.1]? = some (C, T, n)) (hj : j < n) (hw : Cond.fieldLink (am_y k).cls ix (T j).1 (T j).2.1 (T j).2.2.1 ∈ lw_g) (ha : sh[a]? = some q) (hq : j < q.2.1)
    (hfin : (T j).2.2.2 = false ∨ (T j).2.2.2 = true ∧ (am_y k).name = "<init>" ∧ (T j).1 = (am_y k).cls)
    (hfit : ∀ base b ty, parseFieldDescriptor (T j).2.2.1 = some ty → narrow ty (am_cv base b w) = am_cv base b w ∧ fits ty (am_cv base b w) = true)
    (hcell : ∀ base ca b, (.inr (q.1, (am_fs base M a q).set j (am_cv base b w)) : va_E) = am_cell base ca M2 a q2) (hM : ∀ a', a' ≠ a → M2 a' = M a') (hl2 : q2.2.1 = q.2.1)
    (h : am_At sc k (pc + 3) lv st (sh.set a q2) M2 v sh' M') : am_At sc k pc lv (w :: .inr (.inr (some a)) :: st) sh M v sh' M' := by
  intro p l e R s m args below meth c D ca base b n0 sl0 H locs ls Q hC hS hQ
  have hg := am_ws_get (base := base) (ca := ca) (M := M) ha
  rw [am_obj (am_vw hc)] at hg
  obtain ⟨hin, ⟨ty0, hty⟩, hnm⟩ := am_cls q.1 _ hc
  obtain ⟨hf1, hf2⟩ := hfit base b (ty0 j) (hty j hj)
  have hlen : (sh.set a q2).length = sh.length := List.length_set
  have hsl : am_sl (sh.set a q2) = am_sl sh := by
    have h1 : (sh.set a q2).map (fun q => q.2.1) = sh.map (fun q => q.2.1) := by
      apply List.ext_getElem?
      intro i
      simp only [List.getElem?_map]
      by_cases hi : i = a
      · subst hi
        rw [List.getElem?_set_self (List.getElem?_eq_some_iff.mp ha).1, ha]; simp [hl2]
      · rw [List.getElem?_set_ne (fun h => hi h.symm)]
    unfold am_sl; rw [h1]
  have go : ∀ (H1 : Heap) (locs1 : List Loc), va_P D vwCl ((am_ws base ca sh M).set a (base + a, .inr (q.1, (am_fs base M a q).set j (am_cv base b w)))) H1 → va_D (fun q => base ≤ q) ((am_ws base ca sh M).set a (base + a, .inr (q.1, (am_fs base M a q).set j (am_cv base b w)))) → va_S (fun q => base ≤ q) H H1 locs1 →
      W p l e R s m args below meth c H1 locs1 (sh.length - n0) (am_sl sh - sl0) Q (F0 m (pc + 3) ls (st.map (am_cv base b))) := by
    intro H1 locs1 hP1 hD1 hS1
    rw [am_ws_set ha rfl (hcell base ca b) hM] at hP1
    refine am_exact hC.2.2.2.2.2.2.2.2.2.2.2.1 hS.2.2.2.2.2.1 (by have := hS1.1; have := hS.2.2.1; omega) fun hsz => ?_
    rw [← hlen, ← hsl]
    exact h hC ⟨hS.1, hS.2.1, by rw [hlen]; exact hsz, hP1, va_S_trans hS.2.2.2.2.1 hS1, by rw [hlen]; exact hS.2.2.2.2.2.1, by rw [hsl]; exact hS.2.2.2.2.2.2.1, by rw [hlen]; exact hS.2.2.2.2.2.2.2.1, by rw [hsl]; exact hS.2.2.2.2.2.2.2.2⟩ hQ
  have hfl : j < (am_fs base M a q).length := by simpa [am_fs] using hq
  rcases hfin with hfin | ⟨hfin, hi, ho⟩
  · exact va_put hC.1 hC.2.1 hC.2.2.2.2.2.1 hin ty0 hty hnm hC.2.2.2.2.1 hC.2.2.2.2.2.2.2.2.2.2.1.1 hS.2.2.2.1 (am_D base ca sh M) (va_S_here hS.2.2.2.2.1) a hg hc j hj (hC.2.2.2.2.2.1 _ hw) (fun x hx => hx) hfin (hty j hj) hf1 hf2 hfl hd go
  · exact va_putF hC.1 hC.2.1 hC.2.2.2.2.2.1 hin ty0 hty hnm hC.2.2.2.2.1 hC.2.2.2.2.2.2.2.2.2.2.1.1 hS.2.2.2.1 (am_D base ca sh M) (va_S_here hS.2.2.2.2.1) a hg hc j hj (hC.2.2.2.2.2.1 _ hw) (fun x hx => hx) hfin (hC.2.2.2.2.2.2.2.1.trans hi) ho (hty j hj) hf1 hf2 hfl hd go
theorem am_iald {a n : Nat} {i : Int} {rs : List (Option Nat)} (hd : decode (am_cc k) pc = .ok (.iaload, 1)) (ha : sh[a]? = some (10, n, rs)) (hi : 0 ≤ wI i ∧ wI i < n) (h : am_At sc k (pc + 1) lv (.inl (M a (wI i).toNat) :: st) sh M v sh' M') : am_At sc k pc lv (.inl i :: .inr (.inr (some a)) :: st) sh M v sh' M' := by
  intro p l e R s m args below meth c D ca base b n0 sl0 H locs ls Q hC hS hQ
  have hg := am_ws_get (base := base) (ca := ca) (M := M) ha
  refine va_iald hC.1 hC.2.1 hC.2.2.2.2.2.2.2.2.2.2.1.1 hS.2.2.2.1 a 0 (f := fun j => Int32.ofInt (M a j)) hg rfl ((i_in i n).mpr hi) hd ?_
  have h1 := h hC hS hQ
  rw [i_cl]; exact h1
theorem am_lald {a n : Nat} {i : Int} {rs : List (Option Nat)} (hd : decode (am_cc k) pc = .ok (.laload, 1)) (ha : sh[a]? = some (11, n, rs)) (hi : 0 ≤ wI i ∧ wI i < n) (h : am_At sc k (pc + 1) lv (.inr (.inl (M a (wI i).toNat)) :: st) sh M v sh' M') : am_At sc k pc lv (.inl i :: .inr (.inr (some a)) :: st) sh M v sh' M' := by
  intro p l e R s m args below meth c D ca base b n0 sl0 H locs ls Q hC hS hQ
  have hg := am_ws_get (base := base) (ca := ca) (M := M) ha
  refine va_lald hC.1 hC.2.1 hC.2.2.2.2.2.2.2.2.2.2.1.1 hS.2.2.2.1 a 1 (f := fun j => Int64.ofInt (M a j)) hg rfl ((i_in i n).mpr hi) hd ?_
  have h1 := h hC hS hQ
  rw [i_cl]; exact h1
theorem am_aald {a n r : Nat} {i : Int} {rs : List (Option Nat)} (hd : decode (am_cc k) pc = .ok (.aaload, 1)) (ha : sh[a]? = some (12, n, rs)) (hi : 0 ≤ wI i ∧ wI i < n) (hr : rs.getD (wI i).toNat none = some r) (h : am_At sc k (pc + 1) lv (.inr (.inr (some r)) :: st) sh M v sh' M') : am_At sc k pc lv (.inl i :: .inr (.inr (some a)) :: st) sh M v sh' M' := by
  intro p l e R s m args below meth c D ca base b n0 sl0 H locs ls Q hC hS hQ
  have hg := am_ws_get (base := base) (ca := ca) (M := M) ha
  refine va_aldq hC.1 hC.2.1 hC.2.2.2.2.2.2.2.2.2.2.1.1 hS.2.2.2.1 a 2 (C := "PaceBorder$Days") (f := fun j => (rs.getD j none).map (base + ·)) hg rfl ((i_in i n).mpr hi) hd ?_
  have h1 := h hC hS hQ
  rw [i_cl]
  simp only [hr]
  exact h1
/-- an array's store -/
theorem am_ast {a : Nat} {q q2 : am_S} {M2 : am_M} {e2 : Nat → am_Ca → va_E} (ha : sh[a]? = some q) (hcell : ∀ base ca, e2 base ca = am_cell base ca M2 a q2) (hM : ∀ a', a' ≠ a → M2 a' = M a') (hl2 : q2.2.1 = q.2.1)
    (h : am_At sc k (pc + 1) lv st (sh.set a q2) M2 v sh' M') {p : Program} {l : Launch} {e : Env} {R : Room} {s : State} {m : MethodId} {args : Array Value} {below : List Frame} {meth : Method} {c : Code} {D : va_G} {ca : am_Ca} {base b n0 sl0 : Nat} {H : Heap} {locs : List Loc} {ls : Array Slot} {Q : State → Prop}
    (hC : am_Cx sc k p R s m args meth c D ca base b n0 sl0 (sh'.length, am_sl sh')) (hS : am_St k s D ca base b n0 sl0 (sh'.length, am_sl sh') H locs ls lv sh M)
    (hQ : ∀ (pc : Nat) (H : Heap) (locs : List Loc) (ls : Array Slot) (lv : am_Lv), am_rets k pc v → am_St k s D ca base b n0 sl0 (sh'.length, am_sl sh') H locs ls lv sh' M' →
      W p l e R s m args below meth c H locs (sh'.length - n0) (am_sl sh' - sl0) Q (F0 m pc ls ((v.map (am_cv base b)).toList))) :
    ∀ (H1 : Heap) (locs1 : List Loc), va_P D vwCl ((am_ws base ca sh M).set a (base + a, e2 base ca)) H1 → va_D (fun q => base ≤ q) ((am_ws base ca sh M).set a (base + a, e2 base ca)) → va_S (fun q => base ≤ q) H H1 locs1 →
      W p l e R s m args below meth c H1 locs1 (sh.length - n0) (am_sl sh - sl0) Q (F0 m (pc + 1) ls (st.map (am_cv base b))) := by
  intro H1 locs1 hP1 hD1 hS1
  have hlen : (sh.set a q2).length = sh.length := List.length_set
  have hsl : am_sl (sh.set a q2) = am_sl sh := by
    have h1 : (sh.set a q2).map (fun q => q.2.1) = sh.map (fun q => q.2.1) := by
      apply List.ext_getElem?
      intro i
      simp only [List.getElem?_map]
      by_cases hi : i = a
      · subst hi
        rw [List.getElem?_set_self (List.getElem?_eq_some_iff.mp ha).1, ha]; simp [hl2]
      · rw [List.getElem?_set_ne (fun h => hi h.symm)]
    unfold am_sl; rw [h1]
  rw [am_ws_set ha rfl (hcell base ca) hM] at hP1
  refine am_exact hC.2.2.2.2.2.2.2.2.2.2.2.1 hS.2.2.2.2.2.1 (by have := hS1.1; have := hS.2.2.1; omega) fun hsz => ?_
  rw [← hlen, ← hsl]
  exact h hC ⟨hS.1, hS.2.1, by rw [hlen]; exact hsz, hP1, va_S_trans hS.2.2.2.2.1 hS1, by rw [hlen]; exact hS.2.2.2.2.2.1, by rw [hsl]; exact hS.2.2.2.2.2.2.1, by rw [hlen]; exact hS.2.2.2.2.2.2.2.1, by rw [hsl]; exact hS.2.2.2.2.2.2.2.2⟩ hQ
theorem am_setself {a : Nat} {q : am_S} (h : sh[a]? = some q) : sh.set a q = sh := by
  apply List.ext_getElem?
  intro i
  by_cases hi : i = a
  · subst hi; rw [List.getElem?_set_self (List.getElem?_eq_some_iff.mp h).1, h]
  · rw [List.getElem?_set_ne (fun h => hi h.symm)]
theorem am_iast {a n : Nat} {i x : Int} {rs : List (Option Nat)} (hd : decode (am_cc k) pc = .ok (.iastore, 1)) (ha : sh[a]? = some (10, n, rs)) (hi : 0 ≤ wI i ∧ wI i < n) (h : am_At sc k (pc + 1) lv st sh (am_up M a (wI i).toNat x) v sh' M') : am_At sc k pc lv (.inl x :: .inl i :: .inr (.inr (some a)) :: st) sh M v sh' M' := by
  intro p l e R s m args below meth c D ca base b n0 sl0 H locs ls Q hC hS hQ
  have hg := am_ws_get (base := base) (ca := ca) (M := M) ha
  refine va_iast hC.1 hC.2.1 hC.2.2.2.2.2.2.2.2.2.2.1.1 hS.2.2.2.1 (am_D base ca sh M) (va_S_here hS.2.2.2.2.1) a 0 (f := fun j => Int32.ofInt (M a j)) hg rfl ((i_in i n).mpr hi) hd ?_
  rw [← am_setself ha] at h
  refine am_ast (e2 := fun base ca => .inl (ca.1, n, .inl (upd (fun j => Int32.ofInt (M a j)) (Int32.ofInt i).toNatClampNeg (Int32.ofInt x)))) ha (fun base ca => ?_) (fun a' h' => am_up_ne h') rfl h hC hS hQ
  simp only [am_cell]
  rw [if_neg (by omega), if_pos trivial, i_cl]
  congr 4
  funext j
  simp only [upd, am_up, if_true]
  split <;> rfl
theorem am_last {a n : Nat} {i x : Int} {rs : List (Option Nat)} (hd : decode (am_cc k) pc = .ok (.lastore, 1)) (ha : sh[a]? = some (11, n, rs)) (hi : 0 ≤ wI i ∧ wI i < n) (h : am_At sc k (pc + 1) lv st sh (am_up M a (wI i).toNat x) v sh' M') : am_At sc k pc lv (.inr (.inl x) :: .inl i :: .inr (.inr (some a)) :: st) sh M v sh' M' := by
  intro p l e R s m args below meth c D ca base b n0 sl0 H locs ls Q hC hS hQ
  have hg := am_ws_get (base := base) (ca := ca) (M := M) ha
  refine va_last hC.1 hC.2.1 hC.2.2.2.2.2.2.2.2.2.2.1.1 hS.2.2.2.1 (am_D base ca sh M) (va_S_here hS.2.2.2.2.1) a 1 (f := fun j => Int64.ofInt (M a j)) hg rfl ((i_in i n).mpr hi) hd ?_
  rw [← am_setself ha] at h
  refine am_ast (e2 := fun base ca => .inl (ca.2.1, n, .inr (.inl (vp_updL (fun j => Int64.ofInt (M a j)) (Int32.ofInt i).toNatClampNeg (Int64.ofInt x))))) ha (fun base ca => ?_) (fun a' h' => am_up_ne h') rfl h hC hS hQ
  simp only [am_cell]
  rw [if_neg (by omega), if_neg (by omega), if_pos trivial, i_cl]
  congr 5
  funext j
  simp only [vp_updL, am_up, if_true]
  split <;> rfl
theorem am_aast {a n r : Nat} {i : Int} {rs : List (Option Nat)} {qv : am_S} (hd : decode (am_cc k) pc = .ok (.aastore, 1)) (ha : sh[a]? = some (12, n, rs)) (hi : 0 ≤ wI i ∧ wI i < n) (hl : (wI i).toNat < rs.length) (hr : sh[r]? = some qv) (hq : qv.1 = 1) (h : am_At sc k (pc + 1) lv st (sh.set a (12, n, rs.set (wI i).toNat (some r))) M v sh' M') : am_At sc k pc lv (.inr (.inr (some r)) :: .inl i :: .inr (.inr (some a)) :: st) sh M v sh' M' := by
  intro p l e R s m args below meth c D ca base b n0 sl0 H locs ls Q hC hS hQ
  have hg := am_ws_get (base := base) (ca := ca) (M := M) ha
  have hg2 := am_ws_get (base := base) (ca := ca) (M := M) hr
  rw [am_obj (by omega)] at hg2
  refine va_astq hC.1 hC.2.1 hC.2.2.2.2.2.2.2.2.2.2.1.1 hS.2.2.2.1 (am_D base ca sh M) (va_S_here hS.2.2.2.2.1) a 2 r qv.1 (r := (RX1, TX1, 8)) (f := fun j => (rs.getD j none).map (base + ·)) hg rfl hg2 (by rw [hq]; rfl) ((i_in i n).mpr hi) hd ?_
  refine am_ast (q2 := (12, n, rs.set (wI i).toNat (some r))) (e2 := fun base ca => .inl (ca.2.2, n, .inr (.inr (.inr (.inr (va_up (fun j => (rs.getD j none).map (base + ·)) (Int32.ofInt i).toNatClampNeg (some (base + r)))))))) ha (fun base ca => ?_) (fun a' h' => rfl) rfl h hC hS hQ
  simp only [am_cell]
  rw [if_neg (by omega), if_neg (by omega), if_neg (by omega), i_cl]
  congr 7
  funext j
  simp only [va_up]
  by_cases hj : j = (wI i).toNat
  · subst hj; simp [hl]
  · simp only [hj, if_false, List.getD_eq_getElem?_getD, List.getElem?_set_ne (fun h => hj h.symm : (wI i).toNat ≠ j)]
theorem am_alen {a n : Nat} {q : am_S} (hd : decode (am_cc k) pc = .ok (.arraylength, 1)) (ha : sh[a]? = some q) (hq : q.1 = 10 ∨ q.1 = 11) (h : am_At sc k (pc + 1) lv (.inl (q.2.1 : Int) :: st) sh M v sh' M') : am_At sc k pc lv (.inr (.inr (some a)) :: st) sh M v sh' M' := by
  intro p l e R s m args below meth c D ca base b n0 sl0 H locs ls Q hC hS hQ
  have hg := am_ws_get (base := base) (ca := ca) (M := M) ha
  obtain ⟨kd, n, rs⟩ := q
  rcases hq with rfl | rfl
  · exact va_alen hC.1 hC.2.1 hC.2.2.2.2.2.2.2.2.2.2.1.1 hS.2.2.2.1 a 0 (x := (n, .inl fun j => Int32.ofInt (M a j))) hg rfl (v := Int32.ofInt (n : Int)) rfl hd (h hC hS hQ)
  · exact va_alen hC.1 hC.2.1 hC.2.2.2.2.2.2.2.2.2.2.1.1 hS.2.2.2.1 a 1 (x := (n, .inr (.inl fun j => Int64.ofInt (M a j)))) hg rfl (v := Int32.ofInt (n : Int)) rfl hd (h hC hS hQ)
theorem am_sld {i : Int} {c0 : Nat × (Nat → Int)} (hd : decode (am_cc k) pc = .ok (.iaload, 1)) (hs : sc = some c0) (hi : 0 ≤ wI i ∧ wI i < c0.1) (h : am_At sc k (pc + 1) lv (.inl (c0.2 (wI i).toNat) :: st) sh M v sh' M') : am_At sc k pc lv (.inl i :: .inr (.inr none) :: st) sh M v sh' M' := by
  intro p l e R s m args below meth c D ca base b n0 sl0 H locs ls Q hC hS hQ
  obtain ⟨hX, hb, hsz⟩ := hC.2.2.2.2.2.2.2.2.2.2.2.2.2.2 c0 hs
  have hsz0 := hC.2.2.2.2.2.2.2.2.2.2.2.1
  refine va_sld hC.1 hC.2.1 hX (by omega) (A := fun q => base ≤ q) (by omega) hS.2.2.2.2.1 ((i_in i c0.1).mpr hi) hd ?_
  have h1 := h hC hS hQ
  rw [i_cl]; exact h1
theorem am_slen {c0 : Nat × (Nat → Int)} (hd : decode (am_cc k) pc = .ok (.arraylength, 1)) (hs : sc = some c0) (h : am_At sc k (pc + 1) lv (.inl (c0.1 : Int) :: st) sh M v sh' M') : am_At sc k pc lv (.inr (.inr none) :: st) sh M v sh' M' := by
  intro p l e R s m args below meth c D ca base b n0 sl0 H locs ls Q hC hS hQ
  obtain ⟨hX, hb, hsz⟩ := hC.2.2.2.2.2.2.2.2.2.2.2.2.2.2 c0 hs
  have hsz0 := hC.2.2.2.2.2.2.2.2.2.2.2.1
  exact va_slen hC.1 hC.2.1 hX (by omega) (A := fun q => base ≤ q) (by omega) hS.2.2.2.2.1 hd (h hC hS hQ)
theorem am_tsw {d lo hi : Int} {offs : Array Int} {len t : Nat} {ts : List Nat} {x : Int} {tp : Nat → Nat} (hd : decode (am_cc k) pc = .ok (.tableswitch d lo hi offs, len)) (h0 : (pc : Int) + d = tp t) (hn : hi = lo + ts.length - 1) (ho : ∀ j t : Nat, ts[j]? = some t → ∃ off, offs[j]? = some off ∧ (pc : Int) + off = tp t)
    (h1 : (wI x < lo ∨ hi < wI x) → am_At sc k (tp t) lv st sh M v sh' M') (h2 : ∀ j t : Nat, ts[j]? = some t → wI x = lo + j → am_At sc k (tp t) lv st sh M v sh' M') : am_At sc k pc lv (.inl x :: st) sh M v sh' M' := by
  intro p l e R s m args below meth c D ca base b n0 sl0 H locs ls Q hC hS hQ
  by_cases hx : wI x < lo ∨ hi < wI x
  · exact lv_tableOut hC.1 hC.2.1 hd (by rw [wI_toInt]; exact hx) h0 (h1 hx hC hS hQ)
  · have hj : (wI x - lo).toNat < ts.length := by omega
    obtain ⟨t2, ht2⟩ : ∃ t2, ts[(wI x - lo).toNat]? = some t2 := ⟨_, List.getElem?_eq_getElem hj⟩
    obtain ⟨off, e1, e2⟩ := ho _ _ ht2
    exact lv_tableIn hC.1 hC.2.1 hd (by rw [wI_toInt]; omega) (by rw [wI_toInt]; omega) (by rw [wI_toInt]; exact e1) e2 (h2 _ _ ht2 (by omega) hC hS hQ)
theorem am_ret (hr : am_rets k pc v) : am_At sc k pc lv v.toList sh M v sh M := by
  intro p l e R s m args below meth c D ca base b n0 sl0 H locs ls Q hC hS hQ
  have h1 := hQ pc H locs ls lv hr hS
  cases v <;> exact h1
end AMH
end
section
/-! New cells, copies, calls. -/
section AMC
variable {sc : Option (Nat × (Nat → Int))} {k pc : Nat} {lv : am_Lv} {st : List am_V} {sh : am_Sh} {M : am_M} {v : Option am_V} {sh' : am_Sh} {M' : am_M}
theorem am_sl_push (sh : am_Sh) (q : am_S) : am_sl (sh ++ [q]) = am_sl sh + q.2.1 := by simp [am_sl]
/-- behind a making: the new cell lies at the end -/
theorem am_made {q : am_S} {M2 : am_M} {pc2 : Nat} {e2 : va_E} {ca : am_Ca} (hM : ∀ a', a' < sh.length → M2 a' = M a') (hcap : sh.length + 1 ≤ sh'.length ∧ am_sl sh + q.2.1 ≤ am_sl sh') (h : am_At sc k pc2 lv (.inr (.inr (some sh.length)) :: st) (sh ++ [q]) M2 v sh' M')
    {p : Program} {l : Launch} {e : Env} {R : Room} {s : State} {m : MethodId} {args : Array Value} {below : List Frame} {meth : Method} {c : Code} {D : va_G} {base b n0 sl0 : Nat} {H : Heap} {locs : List Loc} {ls : Array Slot} {Q : State → Prop}
    (hcell : e2 = am_cell base ca M2 sh.length q) (hC : am_Cx sc k p R s m args meth c D ca base b n0 sl0 (sh'.length, am_sl sh')) (hS : am_St k s D ca base b n0 sl0 (sh'.length, am_sl sh') H locs ls lv sh M)
    (hQ : ∀ (pc : Nat) (H : Heap) (locs : List Loc) (ls : Array Slot) (lv : am_Lv), am_rets k pc v → am_St k s D ca base b n0 sl0 (sh'.length, am_sl sh') H locs ls lv sh' M' →
      W p l e R s m args below meth c H locs (sh'.length - n0) (am_sl sh' - sl0) Q (F0 m pc ls ((v.map (am_cv base b)).toList)))
    {q0 : Nat} {H1 : Heap} (hP1 : va_P D vwCl (am_ws base ca sh M ++ [(q0, e2)]) H1) (hD1 : va_D (fun q => base ≤ q) (am_ws base ca sh M ++ [(q0, e2)])) (hS1 : va_S (fun q => base ≤ q) H H1 locs) :
      W p l e R s m args below meth c H1 locs (sh.length - n0 + 1) (am_sl sh - sl0 + q.2.1) Q (F0 m pc2 ls (.ref q0 :: st.map (am_cv base b))) := by
  have hwl : (am_ws base ca sh M).length = sh.length := by simp [am_ws]
  have hlast : (am_ws base ca sh M ++ [(q0, e2)])[sh.length]? = some (q0, e2) := by
    rw [List.getElem?_append_right (by omega), hwl, Nat.sub_self]; rfl
  have hlt := (hP1 _ _ hlast).lt
  have hge : base ≤ q0 := hD1.2 _ _ hlast
  have hne : ∀ i, i < sh.length → q0 ≠ base + i := by
    intro i hi he
    have h1 : (am_ws base ca sh M ++ [(q0, e2)])[i]? = some (base + i, am_cell base ca M i sh[i]) := by
      rw [List.getElem?_append_left (by omega)]
      exact am_ws_get (List.getElem?_eq_getElem hi)
    have := hD1.1 _ _ _ _ hlast h1 he
    omega
  have hl1 : (sh ++ [q]).length = sh.length + 1 := by simp
  have hlen : sh.length - n0 + 1 = (sh ++ [q]).length - n0 := by have := hS.2.2.2.2.2.1; omega
  have hsl : am_sl sh - sl0 + q.2.1 = am_sl (sh ++ [q]) - sl0 := by rw [am_sl_push]; have := hS.2.2.2.2.2.2.1; omega
  intro T hT X
  have h2 := X.heapSize
  rw [hT] at h2
  have hs0 := hC.2.2.2.2.2.2.2.2.2.2.2.1
  have hn0 := hS.2.2.2.2.2.1
  have hq0 : q0 = base + sh.length := by
    rcases Nat.lt_or_ge (q0 - base) sh.length with h | h
    · exact absurd (by omega) (hne (q0 - base) h)
    · omega
  have hsz : H1.size = base + (sh ++ [q]).length := by rw [hl1]; omega
  refine (?_ : W p l e R s m args below meth c H1 locs (sh.length - n0 + 1) (am_sl sh - sl0 + q.2.1) Q (F0 m pc2 ls (.ref q0 :: st.map (am_cv base b)))) T hT X
  rw [hlen, hsl]
  subst hq0
  rw [am_ws_push hcell hM] at hP1
  exact h hC ⟨hS.1, hS.2.1, hsz, hP1, va_S_trans hS.2.2.2.2.1 hS1, by omega, by rw [am_sl_push]; have := hS.2.2.2.2.2.2.1; omega, by rw [hl1]; exact hcap.1, by rw [am_sl_push]; exact hcap.2⟩ hQ
theorem am_new {ix ci n : Nat} {C : String} {T : u_T} (hd : decode (am_cc k) pc = .ok (.new ix, 3)) (hc : vwCl[ci]? = some (C, T, n)) (hl : Cond.classLink (am_y k).cls ix C ∈ lw_g) (hi : Cond.instantiable C n ∈ lw_g) (hn : Cond.initialized C ∈ lw_g) (hcap : sh.length + 1 ≤ sh'.length ∧ am_sl sh + n ≤ am_sl sh')
    (h : am_At sc k (pc + 3) lv (.inr (.inr (some sh.length)) :: st) (sh ++ [(ci, n, List.replicate n none)]) (am_row M sh.length (fun _ => 0)) v sh' M') : am_At sc k pc lv st sh M v sh' M' := by
  intro p l e R s m args below meth c D ca base b n0 sl0 H locs ls Q hC hS hQ
  obtain ⟨hin, -, hnm⟩ := am_cls ci _ hc
  have hty := fun j (hj : j < n) => am_tyk_of hc hj
  have hts := hC.2.2.2.2.2.1
  have hsz0 := hC.2.2.2.2.2.2.2.2.2.2.2.1
  have hcl := hC.2.2.2.2.2.2.2.2.2.2.2.2.1
  have hsl := hC.2.2.2.2.2.2.2.2.2.2.2.2.2.1
  have hn0 := hS.2.2.2.2.2.1
  have hs0 := hS.2.2.2.2.2.2.1
  dsimp only at hcl hsl
  have hty2 : ∀ j, j < n → parseFieldDescriptor (T j).2.2.1 = some ((parseFieldDescriptor (T j).2.2.1).getD .int) := fun j hj => by
    obtain ⟨ty, h1, -⟩ := hty j hj; rw [h1]; rfl
  refine va_new (C := C) (T := T) (N := n) hC.1 hC.2.1 (fs := am_fs base (fun _ _ => 0) 0 (ci, n, List.replicate n none)) hts hin (fun j => (parseFieldDescriptor (T j).2.2.1).getD .int) hty2 hC.2.2.2.2.1 (hts _ hl) (hts _ hi) (hts _ hn) hC.2.2.2.2.2.2.2.2.2.2.1.1 hS.2.2.2.1 (am_D base ca sh M) (va_S_here hS.2.2.2.2.1) (fun q hq => ?_) hc (fun j hj => ?_) (by omega) (by omega) hd fun q0 H1 hP1 hD1 hS1 => ?_
  · have := hS.2.2.1
    show base ≤ q
    omega
  · obtain ⟨ty, h1, h2⟩ := hty j hj
    have h1' : parseFieldDescriptor (T j).2.2.1 = some ty := h1
    rw [h1']
    simp only [Option.getD_some, vp_V, List.getD_eq_getElem?_getD]
    rw [am_fs_get (q := (ci, n, List.replicate n none)) hj]
    simp only [Option.getD_some, am_fv]
    have hrr : (List.replicate n (none : Option Nat)).getD j none = none := by simp [List.getD_eq_getElem?_getD, hj]
    unfold am_tyk at h2
    split at h2 <;> first | (rw [beq_iff_eq] at h2; rw [h2]; simp [defaultValue, va_rf, hrr]; done) | (cases h2) | (rw [beq_iff_eq] at h2; rw [h2]; simp only [hrr]; rfl)
  · refine am_made (q := (ci, n, List.replicate n none)) (M2 := am_row M sh.length (fun _ => 0)) (fun a' h' => am_row_ne (by omega)) hcap h ?_ hC hS hQ hP1 hD1 hS1
    rw [am_obj (am_vw hc)]
    congr 2
    simp only [am_fs, am_row, if_true]
theorem am_ca {D : va_G} {ca : am_Ca} {s : State} {tys : List (ClassId × FieldType)} {cA : ClassId} {ty : FieldType} (h1 : va_K D vwCl (am_ty ca) s) (h2 : va_K D vwCl (tys ++ [(cA, ty)]) s) : (ty = .int → cA = ca.1) ∧ (ty = .long → cA = ca.2.1) ∧ (ty = .object "PaceBorder$Days" → cA = ca.2.2) := by
  have h3 : (tys ++ [(cA, ty)])[tys.length]? = some (cA, ty) := by rw [List.getElem?_append_right (Nat.le_refl _), Nat.sub_self]; rfl
  have h4 := (h2.2 _ _ h3).2
  refine ⟨fun e => ?_, fun e => ?_, fun e => ?_⟩
  · have h5 := (h1.2 0 (ca.1, .int) rfl).2
    subst e
    exact Option.some.inj (h4.symm.trans h5)
  · have h5 := (h1.2 1 (ca.2.1, .long) rfl).2
    subst e
    exact Option.some.inj (h4.symm.trans h5)
  · have h5 := (h1.2 2 (ca.2.2, .object "PaceBorder$Days") rfl).2
    subst e
    obtain ⟨_, _, _, _, _, g1⟩ := h4
    obtain ⟨_, _, _, _, _, g2⟩ := h5
    exact Option.some.inj (g1.symm.trans g2)
theorem am_newai {n : Int} (hd : decode (am_cc k) pc = .ok (.newarray .int, 2)) (hw : Cond.arrayClass .int ∈ lw_g) (hn : 0 ≤ wI n) (hb : (wI n).toNat * 8 ≤ 536870912) (hcap : sh.length + 1 ≤ sh'.length ∧ am_sl sh + (wI n).toNat ≤ am_sl sh')
    (h : am_At sc k (pc + 2) lv (.inr (.inr (some sh.length)) :: st) (sh ++ [(10, (wI n).toNat, [])]) (am_row M sh.length (fun _ => 0)) v sh' M') : am_At sc k pc lv (.inl n :: st) sh M v sh' M' := by
  intro p l e R s m args below meth c D ca base b n0 sl0 H locs ls Q hC hS hQ
  have hsz0 := hC.2.2.2.2.2.2.2.2.2.2.2.1
  have hcl := hC.2.2.2.2.2.2.2.2.2.2.2.2.1
  have hsl := hC.2.2.2.2.2.2.2.2.2.2.2.2.2.1
  have hn0 := hS.2.2.2.2.2.1
  have hs0 := hS.2.2.2.2.2.2.1
  dsimp only at hcl hsl
  refine va_newa (atype := .int) (N' := (wI n).toNat) (ty := .int) (a0 := ((wI n).toNat, .inl fun _ => Int32.ofInt 0)) hC.1 hC.2.1 (hC.2.2.2.2.2.1 _ hw) rfl hC.2.2.2.2.2.2.2.2.2.2.1.1 hS.2.2.2.1 (am_D base ca sh M) (va_S_here hS.2.2.2.2.1) (fun q hq => ?_) (fun cA => rfl) (by rw [← i_0, i_lt, wI_0]; omega) (i_cl n) (Nat.le_trans (Nat.mul_le_mul_left _ (by decide : componentBytes .int ≤ 8)) hb) (by omega) (by omega) hd fun q0 cA H1 hK1 hP1 hD1 hS1 => ?_
  · have := hS.2.2.1
    show base ≤ q
    omega
  · have e1 := (am_ca hC.2.2.2.2.2.2.2.2.2.2.1.1 hK1).1 rfl
    subst e1
    refine am_made (q := (10, (wI n).toNat, [])) (M2 := am_row M sh.length (fun _ => 0)) (fun a' h' => am_row_ne (by omega)) hcap h ?_ hC hS hQ hP1 hD1 hS1
    simp only [am_cell, am_row, if_true]
    rfl
theorem am_newal {n : Int} (hd : decode (am_cc k) pc = .ok (.newarray .long, 2)) (hw : Cond.arrayClass .long ∈ lw_g) (hn : 0 ≤ wI n) (hb : (wI n).toNat * 8 ≤ 536870912) (hcap : sh.length + 1 ≤ sh'.length ∧ am_sl sh + (wI n).toNat ≤ am_sl sh')
    (h : am_At sc k (pc + 2) lv (.inr (.inr (some sh.length)) :: st) (sh ++ [(11, (wI n).toNat, [])]) (am_row M sh.length (fun _ => 0)) v sh' M') : am_At sc k pc lv (.inl n :: st) sh M v sh' M' := by
  intro p l e R s m args below meth c D ca base b n0 sl0 H locs ls Q hC hS hQ
  have hsz0 := hC.2.2.2.2.2.2.2.2.2.2.2.1
  have hcl := hC.2.2.2.2.2.2.2.2.2.2.2.2.1
  have hsl := hC.2.2.2.2.2.2.2.2.2.2.2.2.2.1
  have hn0 := hS.2.2.2.2.2.1
  have hs0 := hS.2.2.2.2.2.2.1
  dsimp only at hcl hsl
  refine va_newa (atype := .long) (N' := (wI n).toNat) (ty := .long) (a0 := ((wI n).toNat, .inr (.inl fun _ => Int64.ofInt 0))) hC.1 hC.2.1 (hC.2.2.2.2.2.1 _ hw) rfl hC.2.2.2.2.2.2.2.2.2.2.1.1 hS.2.2.2.1 (am_D base ca sh M) (va_S_here hS.2.2.2.2.1) (fun q hq => ?_) (fun cA => rfl) (by rw [← i_0, i_lt, wI_0]; omega) (i_cl n) (Nat.le_trans (Nat.mul_le_mul_left _ (by decide : componentBytes .long ≤ 8)) hb) (by omega) (by omega) hd fun q0 cA H1 hK1 hP1 hD1 hS1 => ?_
  · have := hS.2.2.1
    show base ≤ q
    omega
  · have e1 := (am_ca hC.2.2.2.2.2.2.2.2.2.2.1.1 hK1).2.1 rfl
    subst e1
    refine am_made (q := (11, (wI n).toNat, [])) (M2 := am_row M sh.length (fun _ => 0)) (fun a' h' => am_row_ne (by omega)) hcap h ?_ hC hS hQ hP1 hD1 hS1
    simp only [am_cell, am_row, if_true]
    rfl
theorem am_newq {ix : Nat} {n : Int} (hd : decode (am_cc k) pc = .ok (.anewarray ix, 3)) (hw : Cond.classLink (am_y k).cls ix "PaceBorder$Days" ∈ lw_g) (hn : 0 ≤ wI n) (hb : (wI n).toNat * 8 ≤ 536870912) (hcap : sh.length + 1 ≤ sh'.length ∧ am_sl sh + (wI n).toNat ≤ am_sl sh')
    (h : am_At sc k (pc + 3) lv (.inr (.inr (some sh.length)) :: st) (sh ++ [(12, (wI n).toNat, List.replicate (wI n).toNat none)]) (am_row M sh.length (fun _ => 0)) v sh' M') : am_At sc k pc lv (.inl n :: st) sh M v sh' M' := by
  intro p l e R s m args below meth c D ca base b n0 sl0 H locs ls Q hC hS hQ
  have hsz0 := hC.2.2.2.2.2.2.2.2.2.2.2.1
  have hcl := hC.2.2.2.2.2.2.2.2.2.2.2.2.1
  have hsl := hC.2.2.2.2.2.2.2.2.2.2.2.2.2.1
  have hn0 := hS.2.2.2.2.2.1
  have hs0 := hS.2.2.2.2.2.2.1
  dsimp only at hcl hsl
  refine va_newq (N' := (wI n).toNat) hC.1 hC.2.1 hC.2.2.2.2.1 (hC.2.2.2.2.2.1 _ hw) hC.2.2.2.2.2.2.2.2.2.2.1.2.2 hC.2.2.2.2.2.2.2.2.2.2.1.1 hS.2.2.2.1 (am_D base ca sh M) (va_S_here hS.2.2.2.2.1) (fun q hq => ?_) (by rw [← i_0, i_lt, wI_0]; omega) (i_cl n) (by omega) (by omega) (by omega) hd fun q0 cA H1 hK1 hP1 hD1 hS1 => ?_
  · have := hS.2.2.1
    show base ≤ q
    omega
  · have e1 := (am_ca hC.2.2.2.2.2.2.2.2.2.2.1.1 hK1).2.2 rfl
    subst e1
    refine am_made (q := (12, (wI n).toNat, List.replicate (wI n).toNat none)) (M2 := am_row M sh.length (fun _ => 0)) (fun a' h' => am_row_ne (by omega)) hcap h ?_ hC hS hQ hP1 hD1 hS1
    simp only [am_cell]
    rw [if_neg (by omega), if_neg (by omega), if_neg (by omega)]
    congr 7
    funext j
    simp only [List.getD_eq_getElem?_getD, List.getElem?_replicate]
    split <;> rfl
end AMC
end
section
/-! Copies and calls. -/
section AMR
variable {sc : Option (Nat × (Nat → Int))} {k pc : Nat} {lv : am_Lv} {st : List am_V} {sh : am_Sh} {M : am_M} {v : Option am_V} {sh' : am_Sh} {M' : am_M}
theorem am_setself2 {sh : am_Sh} {a : Nat} {q : am_S} (h : sh[a]? = some q) : sh.set a q = sh := by
  apply List.ext_getElem?
  intro i
  by_cases hi : i = a
  · subst hi; rw [List.getElem?_set_self (List.getElem?_eq_some_iff.mp h).1, h]
  · rw [List.getElem?_set_ne (fun h => hi h.symm)]
theorem am_back {a : Nat} {q : am_S} {M2 : am_M} {e2 : Nat → am_Ca → va_E} {pc2 : Nat} (ha : sh[a]? = some q) (hcell : ∀ base ca, e2 base ca = am_cell base ca M2 a q) (hM : ∀ a', a' ≠ a → M2 a' = M a')
    (h : am_At sc k pc2 lv st sh M2 v sh' M') {p : Program} {l : Launch} {e : Env} {R : Room} {s : State} {m : MethodId} {args : Array Value} {below : List Frame} {meth : Method} {c : Code} {D : va_G} {ca : am_Ca} {base b n0 sl0 : Nat} {H : Heap} {locs : List Loc} {ls : Array Slot} {Q : State → Prop}
    (hC : am_Cx sc k p R s m args meth c D ca base b n0 sl0 (sh'.length, am_sl sh')) (hS : am_St k s D ca base b n0 sl0 (sh'.length, am_sl sh') H locs ls lv sh M)
    (hQ : ∀ (pc : Nat) (H : Heap) (locs : List Loc) (ls : Array Slot) (lv : am_Lv), am_rets k pc v → am_St k s D ca base b n0 sl0 (sh'.length, am_sl sh') H locs ls lv sh' M' →
      W p l e R s m args below meth c H locs (sh'.length - n0) (am_sl sh' - sl0) Q (F0 m pc ls ((v.map (am_cv base b)).toList))) :
    ∀ (H1 : Heap) (locs1 : List Loc), va_P D vwCl ((am_ws base ca sh M).set a (base + a, e2 base ca)) H1 → va_D (fun q => base ≤ q) ((am_ws base ca sh M).set a (base + a, e2 base ca)) → va_S (fun q => base ≤ q) H H1 locs1 →
      W p l e R s m args below meth c H1 locs1 (sh.length - n0) (am_sl sh - sl0) Q (F0 m pc2 ls (st.map (am_cv base b))) := by
  intro H1 locs1 hP1 hD1 hS1
  rw [am_ws_setM ha (hcell base ca) hM] at hP1
  refine am_exact hC.2.2.2.2.2.2.2.2.2.2.2.1 hS.2.2.2.2.2.1 (by have := hS1.1; have := hS.2.2.1; omega) fun hsz => ?_
  exact h hC ⟨hS.1, hS.2.1, hsz, hP1, va_S_trans hS.2.2.2.2.1 hS1, hS.2.2.2.2.2⟩ hQ
theorem am_copy {ix s0 d : Nat} {q0 q1 : am_S} {sp dp n : Int} (hd : decode (am_cc k) pc = .ok (.invokestatic ix, 3)) (hl : Cond.methodLink (am_y k).cls ix arraycopyName ∈ lw_g) (hnat : Cond.native arraycopyName ∈ lw_g) (hst : Cond.static arraycopyName ∈ lw_g) (hin : Cond.initialized "java/lang/System" ∈ lw_g) (hfr : 1 ≤ am_fr k) (hlc : 26 ≤ am_lc k)
    (h0 : sh[s0]? = some q0) (h1 : sh[d]? = some q1) (hk : q0.1 = 10 ∧ q1.1 = 10 ∨ q0.1 = 11 ∧ q1.1 = 11) (hr : 0 ≤ wI sp ∧ 0 ≤ wI dp ∧ 0 ≤ wI n ∧ wI sp + wI n ≤ q0.2.1 ∧ wI dp + wI n ≤ q1.2.1) (hcat : am_cats st ≤ 8)
    (h : am_At sc k (pc + 3) lv st sh (am_cpy M s0 d (wI sp).toNat (wI dp).toNat (wI n).toNat) v sh' M') : am_At sc k pc lv (.inl n :: .inl dp :: .inr (.inr (some d)) :: .inl sp :: .inr (.inr (some s0)) :: st) sh M v sh' M' := by
  intro p l e R s m args below meth c D ca base b n0 sl0 H locs ls Q hC hS hQ
  have hg0 := am_ws_get (base := base) (ca := ca) (M := M) h0
  have hg1 := am_ws_get (base := base) (ca := ca) (M := M) h1
  obtain ⟨k0, m0, r0⟩ := q0
  obtain ⟨k1, m1, r1⟩ := q1
  dsimp only at hk hr
  have hts := hC.2.2.2.2.2.1
  have hfr2 := hC.2.2.2.2.2.2.2.2.1
  have hlc2 := hC.2.2.2.2.2.2.2.2.2.1
  have hfw : nativeFrameWords "java/lang/System" "arraycopy" 5 = 7 := by decide
  have hpos : ∀ {z : Int}, 0 ≤ wI z → ¬ Int32.ofInt z < 0 := fun {z} hz => by rw [← i_0, i_lt, wI_0]; omega
  have hsum : ((st.map (am_cv base b)).map fun v => v.category).sum ≤ 8 := by rw [am_cats_eq]; exact hcat
  rcases hk with ⟨rfl, rfl⟩ | ⟨rfl, rfl⟩
  · refine va_copyi (n0 := m0) (n1 := m1) hC.1 hC.2.1 (hC.2.2.2.1.trans hS.1.1.symm) hC.2.2.2.2.1 (hts _ hl) (hts _ hnat) (hts _ hst) (hts _ hin) hC.2.2.2.2.2.2.2.2.2.2.1.1 hS.2.2.2.1 (am_D base ca sh M) (va_S_here hS.2.2.2.2.1) s0 d 0 0 (f := fun j => Int32.ofInt (M s0 j)) (g := fun j => Int32.ofInt (M d j)) hg0 hg1 rfl rfl rfl (hpos hr.1) (hpos hr.2.1) (hpos hr.2.2.1) (by simp only [i_cl]; omega) (by simp only [i_cl]; omega) (fun i _ => rfl) (by omega) (by rw [hfw]; omega) hd ?_
    refine am_back (e2 := fun base ca => .inl (ca.1, m1, .inl (va_cpy (fun j => Int32.ofInt (M s0 j)) (fun j => Int32.ofInt (M d j)) (Int32.ofInt sp).toNatClampNeg (Int32.ofInt dp).toNatClampNeg (Int32.ofInt n).toNatClampNeg))) h1 (fun base ca => ?_) (fun a' h' => am_row_ne h') h hC hS hQ
    simp only [am_cell]
    rw [if_neg (by omega), if_pos trivial, i_cl, i_cl, i_cl]
    congr 4
    funext j
    simp only [va_cpy, am_cpy, am_row, if_true]
    split <;> rfl
  · refine va_copyl (n0 := m0) (n1 := m1) hC.1 hC.2.1 (hC.2.2.2.1.trans hS.1.1.symm) hC.2.2.2.2.1 (hts _ hl) (hts _ hnat) (hts _ hst) (hts _ hin) hC.2.2.2.2.2.2.2.2.2.2.1.1 hS.2.2.2.1 (am_D base ca sh M) (va_S_here hS.2.2.2.2.1) s0 d 1 1 (f := fun j => Int64.ofInt (M s0 j)) (g := fun j => Int64.ofInt (M d j)) hg0 hg1 rfl rfl rfl (hpos hr.1) (hpos hr.2.1) (hpos hr.2.2.1) (by simp only [i_cl]; omega) (by simp only [i_cl]; omega) (fun i _ => rfl) (by omega) (by rw [hfw]; omega) hd ?_
    refine am_back (e2 := fun base ca => .inl (ca.2.1, m1, .inr (.inl (va_cpy (fun j => Int64.ofInt (M s0 j)) (fun j => Int64.ofInt (M d j)) (Int32.ofInt sp).toNatClampNeg (Int32.ofInt dp).toNatClampNeg (Int32.ofInt n).toNatClampNeg)))) h1 (fun base ca => ?_) (fun a' h' => am_row_ne h') h hC hS hQ
    simp only [am_cell]
    rw [if_neg (by omega), if_neg (by omega), if_pos trivial, i_cl, i_cl, i_cl]
    congr 5
    funext j
    simp only [va_cpy, am_cpy, am_row, if_true]
    split <;> rfl
theorem am_objI {ix a : Nat} (hd : decode (am_cc k) pc = .ok (.invokespecial ix, 3)) (hl : Cond.methodLink (am_y k).cls ix Lib.objectInit ∈ lw_g) (hin : Cond.instanceMethod Lib.objectInit ∈ lw_g) (hcd : Cond.code Lib.objectInit ⟨#[0xb1]⟩ 1 none ∈ lw_g) (hfr : 1 ≤ am_fr k) (hlc : 26 ≤ am_lc k) (hcat : am_cats st ≤ 8)
    (h : am_At sc k (pc + 3) lv st sh M v sh' M') : am_At sc k pc lv (.inr (.inr (some a)) :: st) sh M v sh' M' := by
  intro p l e R s m args below meth c D ca base b n0 sl0 H locs ls Q hC hS hQ
  have hts := hC.2.2.2.2.2.1
  have hfr2 := hC.2.2.2.2.2.2.2.2.1
  have hlc2 := hC.2.2.2.2.2.2.2.2.2.1
  have hsum : ((st.map (am_cv base b)).map fun v => v.category).sum ≤ 8 := by rw [am_cats_eq]; exact hcat
  have hroom := lv_room (m := m) (pc := pc) (ls := ls) (rest := .ref (base + a) :: st.map (am_cv base b)) hsum
  exact W.objInit hC.1 hC.2.1 hC.2.2.2.2.1 (hts _ hl) (hts _ hin) (hts _ hcd) (g := F0 m pc ls (.ref (base + a) :: st.map (am_cv base b))) rfl (hS.1.1.trans hC.2.2.2.1.symm) rfl hd (by omega) (by omega) (h hC hS hQ)
/-- behind a call -/
theorem am_behind {p : Program} {l : Launch} {e : Env} {R : Room} {s : State} {m : MethodId} {args : Array Value} {below : List Frame} {meth : Method} {c : Code} {H : Heap} {locs : List Loc} {cells slots mc ms : Nat} {Q : State → Prop} {ls : Array Slot} {st0 rest : List Value} {base : Nat} {w : Option Value} {B : State → Prop}
    (hr : va_Run p l e R s m args below meth c H locs cells slots mc ms (F0 m pc ls st0) rest (fun st o t => o = .returned w ∧ B t ∧ va_F (fun q => base ≤ q) st t) (fun q => base ≤ q)) (hS : ∀ l ∈ locs, base ≤ l.base)
    (kk : ∀ (H1 : Heap) (locs1 : List Loc) (t : State), t.heap = H1 → B t → va_S (fun q => base ≤ q) H H1 locs1 → W p l e R s m args below meth c H1 locs1 (cells + mc) (slots + ms) Q (F0 m (pc + 3) ls (w.toList ++ rest))) : W p l e R s m args below meth c H locs cells slots Q (F0 m pc ls st0) := by
  intro T hT X
  obtain ⟨v, st₀, t, T', L, h0, X', hL, e1, e2, ⟨hv, hb, hz, hk⟩, st⟩ := hr T hT X
  cases hv
  rw [h0] at hz hk
  obtain ⟨t2, a1, b1⟩ := kk T'.heap (locs ++ L) t e1.symm hb ⟨by rw [e1]; exact hz, fun q h1 h2 => by rw [e1]; exact hk q h1 h2, fun q hq => by
      rcases List.mem_append.mp hq with h | h
      · exact hS q h
      · exact hL q h⟩ T' rfl X'
  exact ⟨t2, st t2 a1, b1⟩
theorem am_goodg (k2 : Nat) (hk : am_kw k2 ∈ lw_tbl) : GoodIn lw_g (am_tb k2) := fun w hw => by
  rcases List.mem_cons.mp hw with h | h
  · subst h; exact ⟨List.mem_filter.mpr ⟨hk, rfl⟩, good_of_word rfl⟩
  · exact ⟨h, good_of_word (lw_g_good w h)⟩
/-- what every call of method k2 by method k needs -/
noncomputable def am_okc (k k2 n : Nat) : Prop := am_kw k2 ∈ lw_tbl ∧ (am_y k2).cls ≠ "java/lang/invoke/MethodHandle" ∧ (am_y k2).cls ≠ "java/lang/invoke/VarHandle" ∧ (parseMethodDescriptor (am_y k2).desc).map (fun d => d.parameters.length) = some n ∧ am_fr k2 + 1 ≤ am_fr k ∧ 8 + (am_ml k2 + 11) + am_lc k2 ≤ am_lc k
/-- the caller's part behind a call that ended with w, sh1, M1 -/
theorem am_go {w : Option am_V} {sh1 : am_Sh} {M1 : am_M} {p : Program} {l : Launch} {e : Env} {R : Room} {s : State} {m : MethodId} {args : Array Value} {below : List Frame} {meth : Method} {c : Code} {D : va_G} {ca : am_Ca} {base b n0 sl0 : Nat} {H : Heap} {locs : List Loc} {ls : Array Slot} {Q : State → Prop} {st0 : List Value} {r : List am_V}
    (hC : am_Cx sc k p R s m args meth c D ca base b n0 sl0 (sh'.length, am_sl sh')) (hS : am_St k s D ca base b n0 sl0 (sh'.length, am_sl sh') H locs ls lv sh M)
    (hQ : ∀ (pc : Nat) (H : Heap) (locs : List Loc) (ls : Array Slot) (lv : am_Lv), am_rets k pc v → am_St k s D ca base b n0 sl0 (sh'.length, am_sl sh') H locs ls lv sh' M' →
      W p l e R s m args below meth c H locs (sh'.length - n0) (am_sl sh' - sl0) Q (F0 m pc ls ((v.map (am_cv base b)).toList)))
    (hg : sh.length ≤ sh1.length ∧ sh1.length ≤ sh'.length ∧ am_sl sh ≤ am_sl sh1 ∧ am_sl sh1 ≤ am_sl sh')
    (hr : va_Run p l e R s m args below meth c H locs (sh.length - n0) (am_sl sh - sl0) (sh1.length - sh.length) (am_sl sh1 - am_sl sh) (F0 m pc ls st0) (r.map (am_cv base b)) (fun st o t => o = .returned (w.map (am_cv base b)) ∧ (t.heap.size = base + sh1.length ∧ va_P D vwCl (am_ws base ca sh1 M1) t.heap) ∧ va_F (fun q => base ≤ q) st t) (fun q => base ≤ q))
    (h : am_At sc k (pc + 3) lv (w.toList ++ r) sh1 M1 v sh' M') : W p l e R s m args below meth c H locs (sh.length - n0) (am_sl sh - sl0) Q (F0 m pc ls st0) := by
  refine am_behind hr (fun q hq => hS.2.2.2.2.1.2.2 q hq) fun H1 locs1 t ht hB hS1 => ?_
  have hn0 := hS.2.2.2.2.2.1
  have hs0 := hS.2.2.2.2.2.2.1
  rw [show sh.length - n0 + (sh1.length - sh.length) = sh1.length - n0 by omega, show am_sl sh - sl0 + (am_sl sh1 - am_sl sh) = am_sl sh1 - sl0 by omega]
  rw [ht] at hB
  have hst : ((w.map (am_cv base b)).toList ++ r.map (am_cv base b)) = (w.toList ++ r).map (am_cv base b) := by cases w <;> simp
  rw [hst]
  exact h hC ⟨hS.1, hS.2.1, hB.1, hB.2, va_S_trans hS.2.2.2.2.1 hS1, by omega, by omega, hg.2.1, hg.2.2.2⟩ hQ
theorem am_blind {D : va_G} {ca : am_Ca} {base b : Nat} {as : List am_V} {sh : am_Sh} {M : am_M} : FrameBlind (va_Pc (as.map (am_cv base b)) (fun U => U.heap.size = base + sh.length ∧ va_P D vwCl (am_ws base ca sh M) U.heap ∧ am_Kn D ca U)) := fun a U g mk q => ⟨q.1, q.2.1, q.2.2.1, am_Kn.same (s := U) rfl q.2.2.2⟩
theorem am_callV {ix k2 n a ci : Nat} {q : am_S} {as : List am_V} {w : Option am_V} {M1 : am_M} (hd : decode (am_cc k) pc = .ok (.invokevirtual ix, 3)) (hok : am_okc k k2 n) (hci : (am_y k2).cls = (vwCl.getD ci ("", TX0, 0)).1) (hc10 : ci < 10) (h1 : Cond.methodLink (am_y k).cls ix (am_y k2) ∈ lw_g) (h2 : Cond.instanceMethod (am_y k2) ∈ lw_g) (h3 : Cond.selects (am_y k2).cls (am_y k2) (am_y k2) ∈ lw_g) (h4 : Cond.initialized (am_y k2).cls ∈ lw_g)
    (hn : as.length = n) (ha : sh[a]? = some q) (hq : q.1 = ci) (hcat : am_cats st ≤ 8) (hM : am_Calls k2 (.inr (.inr (some a)) :: as) sh M w sh M1)
    (h : am_At sc k (pc + 3) lv (w.toList ++ st) sh M1 v sh' M') : am_At sc k pc lv (as.reverse ++ .inr (.inr (some a)) :: st) sh M v sh' M' := by
  intro p l e R s m args below meth c D ca base b n0 sl0 H locs ls Q hC hS hQ
  have hts := hC.2.2.2.2.2.1
  have hfr2 := hC.2.2.2.2.2.2.2.2.1
  have hlc2 := hC.2.2.2.2.2.2.2.2.2.1
  have hsum : ((st.map (am_cv base b)).map fun v => v.category).sum ≤ 8 := by rw [am_cats_eq]; exact hcat
  obtain ⟨hkw, hx1, hx2, hx3, hx4, hx5⟩ := hok
  have hg := am_ws_get (base := base) (ca := ca) (M := M) ha
  subst hq
  rw [am_obj hc10] at hg
  have hcl : vwCl[q.1]? = some (vwCl.getD q.1 ("", TX0, 0)) := by
    rw [List.getD_eq_getElem?_getD, List.getElem?_eq_getElem (show q.1 < vwCl.length from hc10)]; rfl
  have hcells := hC.2.2.2.2.2.2.2.2.2.2.2.2.1
  have hslots := hC.2.2.2.2.2.2.2.2.2.2.2.2.2.1
  have hl1 := hS.2.2.2.2.2.2.2.1
  have hl2 := hS.2.2.2.2.2.2.2.2
  dsimp only at hcells hslots hl1 hl2
  have hG : GoodIn lw_g (wsV (am_y k).cls ix (am_y k2).cls (am_y k2) (am_tb k2)) := fun w hw => by
    unfold wsV at hw
    rcases List.mem_append.mp hw with h | h
    · simp only [List.mem_cons, List.not_mem_nil, or_false] at h
      rcases h with rfl | rfl | rfl | rfl
      · exact ⟨h1, good_of_word (lw_g_good _ h1)⟩
      · exact ⟨h2, good_of_word (lw_g_good _ h2)⟩
      · exact ⟨h3, good_of_word (lw_g_good _ h3)⟩
      · exact ⟨h4, good_of_word (lw_g_good _ h4)⟩
    · exact am_goodg k2 hkw w h
  refine am_go hC hS hQ ⟨Nat.le_refl _, hl1, Nat.le_refl _, hl2⟩ (va_runV (nL := am_ml k) (Ts := lw_g) (own := (am_y k).cls) (C := (am_y k2).cls) (b := base + a) (As := as.map (am_cv base b)) (rest := st.map (am_cv base b)) ⟨hC.1, hC.2.1, hC.2.2.2.1, hC.2.2.2.2.1, hts⟩ (hM l D ca base b) (cwV n hts hG rfl rfl rfl ⟨rfl, hx1, hx2, hx3⟩ ⟨by show am_fr k2 + 1 ≤ R.frames; omega, by show 8 + (am_ml k2 + 11) + am_lc k2 ≤ R.locals; omega⟩) ⟨am_blind, ?_, fun U hU hW => ⟨by simp [am_cv], by rw [hU]; exact hS.2.2.1, by rw [hU]; exact hS.2.2.2.1, am_Kn.warm hW hC.2.2.2.2.2.2.2.2.2.2.1⟩⟩ rfl (by simpa using hn) hS.1.1 (by simp [am_cv]) (lv_room hsum) hd ⟨by omega, by omega⟩) h
  rw [hci]
  exact va_recv hC.2.2.2.2.2.2.2.2.2.2.1.1 hS.2.2.2.1 hcl hg
theorem am_callS {ix k2 n : Nat} {as : List am_V} {w : Option am_V} {M1 : am_M} (hd : decode (am_cc k) pc = .ok (.invokestatic ix, 3)) (hok : am_okc k k2 n) (h1 : Cond.methodLink (am_y k).cls ix (am_y k2) ∈ lw_g) (h2 : Cond.static (am_y k2) ∈ lw_g) (h4 : Cond.initialized (am_y k2).cls ∈ lw_g)
    (hn : as.length = n) (hcat : am_cats st ≤ 8) (hM : am_Calls k2 as sh M w sh M1)
    (h : am_At sc k (pc + 3) lv (w.toList ++ st) sh M1 v sh' M') : am_At sc k pc lv (as.reverse ++ st) sh M v sh' M' := by
  intro p l e R s m args below meth c D ca base b n0 sl0 H locs ls Q hC hS hQ
  have hts := hC.2.2.2.2.2.1
  have hfr2 := hC.2.2.2.2.2.2.2.2.1
  have hlc2 := hC.2.2.2.2.2.2.2.2.2.1
  have hsum : ((st.map (am_cv base b)).map fun v => v.category).sum ≤ 8 := by rw [am_cats_eq]; exact hcat
  obtain ⟨hkw, hx1, hx2, hx3, hx4, hx5⟩ := hok
  have hcells := hC.2.2.2.2.2.2.2.2.2.2.2.2.1
  have hslots := hC.2.2.2.2.2.2.2.2.2.2.2.2.2.1
  have hl1 := hS.2.2.2.2.2.2.2.1
  have hl2 := hS.2.2.2.2.2.2.2.2
  dsimp only at hcells hslots hl1 hl2
  exact am_go hC hS hQ ⟨Nat.le_refl _, hl1, Nat.le_refl _, hl2⟩ (va_runS (nL := am_ml k) (Ts := lw_g) (own := (am_y k).cls) (As := as.map (am_cv base b)) (rest := st.map (am_cv base b)) ⟨hC.1, hC.2.1, hC.2.2.2.1, hC.2.2.2.2.1, hts⟩ (hM l D ca base b) ⟨callB_of n hts (am_goodg k2 hkw) rfl rfl rfl (hts _ h4) (hts _ h1) ⟨hx1, hx2, hx3⟩ ⟨by show am_fr k2 + 1 ≤ R.frames; omega, by show 8 + (am_ml k2 + 11) + am_lc k2 ≤ R.locals; omega⟩, hts _ h2⟩ ⟨am_blind, fun U hU hW => ⟨rfl, by rw [hU]; exact hS.2.2.1, by rw [hU]; exact hS.2.2.2.1, am_Kn.warm hW hC.2.2.2.2.2.2.2.2.2.2.1⟩⟩ rfl (by simpa using hn) hS.1.1 (by simp) (lv_room hsum) hd ⟨by omega, by omega⟩) h
theorem am_callN {ix k2 n : Nat} {host : String} {as : List am_V} {w : Option am_V} {M1 : am_M} (hd : decode (am_cc k) pc = .ok (.invokestatic ix, 3)) (hok : am_okc k k2 n) (h1 : ((am_y k).cls, ix, am_y k2, host) ∈ am_nst) (h2 : Cond.static (am_y k2) ∈ lw_g) (h4 : Cond.initialized (am_y k2).cls ∈ lw_g)
    (hn : as.length = n) (hcat : am_cats st ≤ 8) (hM : am_Calls k2 as sh M w sh M1)
    (h : am_At sc k (pc + 3) lv (w.toList ++ st) sh M1 v sh' M') : am_At sc k pc lv (as.reverse ++ st) sh M v sh' M' := by
  intro p l e R s m args below meth c D ca base b n0 sl0 H locs ls Q hC hS hQ
  have hts := hC.2.2.2.2.2.1
  have hfr2 := hC.2.2.2.2.2.2.2.2.1
  have hlc2 := hC.2.2.2.2.2.2.2.2.2.1
  have hsum : ((st.map (am_cv base b)).map fun v => v.category).sum ≤ 8 := by rw [am_cats_eq]; exact hcat
  obtain ⟨hkw, hx1, hx2, hx3, hx4, hx5⟩ := hok
  have hcells := hC.2.2.2.2.2.2.2.2.2.2.2.2.1
  have hslots := hC.2.2.2.2.2.2.2.2.2.2.2.2.2.1
  have hl1 := hS.2.2.2.2.2.2.2.1
  have hl2 := hS.2.2.2.2.2.2.2.2
  dsimp only at hcells hslots hl1 hl2
  have hnw := hC.2.2.2.2.2.2.2.2.2.2.1.2.1 _ h1
  exact am_go hC hS hQ ⟨Nat.le_refl _, hl1, Nat.le_refl _, hl2⟩ (va_runSN (nL := am_ml k) (Ts := lw_g) (own := (am_y k).cls) (As := as.map (am_cv base b)) (rest := st.map (am_cv base b)) ⟨hC.1, hC.2.1, hC.2.2.2.1, hC.2.2.2.2.1, hts⟩ (hM l D ca base b) ⟨va_cnB n hts (am_goodg k2 hkw) rfl rfl rfl hnw (hts _ h4) ⟨hx1, hx2, hx3⟩ ⟨by show am_fr k2 + 1 ≤ R.frames; omega, by show 8 + (am_ml k2 + 11) + am_lc k2 ≤ R.locals; omega⟩, hts _ h2, trivial⟩ ⟨am_blind, fun U hU hW => ⟨rfl, by rw [hU]; exact hS.2.2.1, by rw [hU]; exact hS.2.2.2.1, am_Kn.warm hW hC.2.2.2.2.2.2.2.2.2.2.1⟩⟩ rfl (by simpa using hn) hS.1.1 (by simp) (lv_room hsum) hd ⟨by omega, by omega⟩) h
theorem am_callI {ix k2 n a : Nat} {as : List am_V} {sh1 : am_Sh} {M1 : am_M} (hd : decode (am_cc k) pc = .ok (.invokespecial ix, 3)) (hok : am_okc k k2 n) (hnm : (am_y k2).name = "<init>") (hrt : am_rt k2 = none) (h1 : Cond.methodLink (am_y k).cls ix (am_y k2) ∈ lw_g) (h2 : Cond.instanceMethod (am_y k2) ∈ lw_g) (h4 : Cond.initialized (am_y k2).cls ∈ lw_g)
    (hn : as.length = n) (hcat : am_cats st ≤ 8) (hM : am_Calls k2 (.inr (.inr (some a)) :: as) sh M none sh1 M1) (hg : sh.length ≤ sh1.length ∧ sh1.length ≤ sh'.length ∧ am_sl sh ≤ am_sl sh1 ∧ am_sl sh1 ≤ am_sl sh')
    (h : am_At sc k (pc + 3) lv st sh1 M1 v sh' M') : am_At sc k pc lv (as.reverse ++ .inr (.inr (some a)) :: st) sh M v sh' M' := by
  intro p l e R s m args below meth c D ca base b n0 sl0 H locs ls Q hC hS hQ
  have hts := hC.2.2.2.2.2.1
  have hfr2 := hC.2.2.2.2.2.2.2.2.1
  have hlc2 := hC.2.2.2.2.2.2.2.2.2.1
  have hsum : ((st.map (am_cv base b)).map fun v => v.category).sum ≤ 8 := by rw [am_cats_eq]; exact hcat
  obtain ⟨hkw, hx1, hx2, hx3, hx4, hx5⟩ := hok
  have hcells := hC.2.2.2.2.2.2.2.2.2.2.2.2.1
  have hslots := hC.2.2.2.2.2.2.2.2.2.2.2.2.2.1
  have hn0 := hS.2.2.2.2.2.1
  have hs0 := hS.2.2.2.2.2.2.1
  dsimp only at hcells hslots
  have hcode : am_tb k2 = Cond.code (am_y k2) (am_cc k2) (am_ml k2) none :: lw_g := by rw [← hrt]; rfl
  exact am_go hC hS hQ hg (va_runI (nL := am_ml k) (Ts := lw_g) (own := (am_y k).cls) (b := base + a) (As := as.map (am_cv base b)) (rest := st.map (am_cv base b)) ⟨hC.1, hC.2.1, hC.2.2.2.1, hC.2.2.2.2.1, hts⟩ (hM l D ca base b) (cwI n hts (am_goodg k2 hkw) hcode rfl rfl (hts _ h4) (hts _ h1) (hts _ h2) hnm ⟨hx1, hx2, hx3⟩ ⟨by show am_fr k2 + 1 ≤ R.frames; omega, by show 8 + (am_ml k2 + 11) + am_lc k2 ≤ R.locals; omega⟩) ⟨am_blind, fun U hU hW => ⟨by simp [am_cv], by rw [hU]; exact hS.2.2.1, by rw [hU]; exact hS.2.2.2.1, am_Kn.warm hW hC.2.2.2.2.2.2.2.2.2.2.1⟩⟩ rfl (by simpa using hn) hS.1.1 (by simp [am_cv]) (lv_room hsum) hd ⟨by omega, by omega⟩) (w := none) (r := st) h
theorem am_mmax {ix : Nat} {x y : Int} (hd : decode (am_cc k) pc = .ok (.invokestatic ix, 3)) (h1 : Cond.methodLink (am_y k).cls ix Lib.Math.max.name ∈ lw_g) (h2 : Cond.static Lib.Math.max.name ∈ lw_g) (h3 : Cond.initialized "java/lang/Math" ∈ lw_g) (h4 : Cond.code Lib.Math.max.name Lib.Math.max.code 2 (some .int) ∈ lw_g) (hfr : 1 ≤ am_fr k) (hlc : 26 ≤ am_lc k) (hcat : am_cats st ≤ 8)
    (h : am_At sc k (pc + 3) lv (.inl (if wI x < wI y then y else x) :: st) sh M v sh' M') : am_At sc k pc lv (.inl y :: .inl x :: st) sh M v sh' M' := by
  intro p l e R s m args below meth c D ca base b n0 sl0 H locs ls Q hC hS hQ
  have hts := hC.2.2.2.2.2.1
  have hfr2 := hC.2.2.2.2.2.2.2.2.1
  have hlc2 := hC.2.2.2.2.2.2.2.2.2.1
  have hsum : ((st.map (am_cv base b)).map fun v => v.category).sum ≤ 8 := by rw [am_cats_eq]; exact hcat
  have hcells := hC.2.2.2.2.2.2.2.2.2.2.2.2.1
  have hslots := hC.2.2.2.2.2.2.2.2.2.2.2.2.2.1
  have hl1 := hS.2.2.2.2.2.2.2.1
  have hl2 := hS.2.2.2.2.2.2.2.2
  dsimp only at hcells hslots hl1 hl2
  refine va_mmax hC.1 hC.2.1 (hC.2.2.2.1.trans hS.1.1.symm) hC.2.2.2.2.1 (hts _ h1) (hts _ h2) (hts _ h3) (hts _ h4) (by omega) (by omega) (by omega) (by omega) hd ?_
  have hh := h hC hS hQ
  have e1 : (if Int32.ofInt x < Int32.ofInt y then Int32.ofInt y else Int32.ofInt x) = Int32.ofInt (if wI x < wI y then y else x) := by
    by_cases hx : wI x < wI y
    · rw [if_pos hx, if_pos (i_lt.mpr hx)]
    · rw [if_neg hx, if_neg (fun q => hx (i_lt.mp q))]
  rw [e1]; exact hh
theorem am_mmin {ix : Nat} {x y : Int} (hd : decode (am_cc k) pc = .ok (.invokestatic ix, 3)) (h1 : Cond.methodLink (am_y k).cls ix Lib.Math.min.name ∈ lw_g) (h2 : Cond.static Lib.Math.min.name ∈ lw_g) (h3 : Cond.initialized "java/lang/Math" ∈ lw_g) (h4 : Cond.code Lib.Math.min.name Lib.Math.min.code 2 (some .int) ∈ lw_g) (hfr : 1 ≤ am_fr k) (hlc : 26 ≤ am_lc k) (hcat : am_cats st ≤ 8)
    (h : am_At sc k (pc + 3) lv (.inl (if wI y < wI x then y else x) :: st) sh M v sh' M') : am_At sc k pc lv (.inl y :: .inl x :: st) sh M v sh' M' := by
  intro p l e R s m args below meth c D ca base b n0 sl0 H locs ls Q hC hS hQ
  have hts := hC.2.2.2.2.2.1
  have hfr2 := hC.2.2.2.2.2.2.2.2.1
  have hlc2 := hC.2.2.2.2.2.2.2.2.2.1
  have hsum : ((st.map (am_cv base b)).map fun v => v.category).sum ≤ 8 := by rw [am_cats_eq]; exact hcat
  have hcells := hC.2.2.2.2.2.2.2.2.2.2.2.2.1
  have hslots := hC.2.2.2.2.2.2.2.2.2.2.2.2.2.1
  have hl1 := hS.2.2.2.2.2.2.2.1
  have hl2 := hS.2.2.2.2.2.2.2.2
  dsimp only at hcells hslots hl1 hl2
  refine va_mmin hC.1 hC.2.1 (hC.2.2.2.1.trans hS.1.1.symm) hC.2.2.2.2.1 (hts _ h1) (hts _ h2) (hts _ h3) (hts _ h4) (by omega) (by omega) (by omega) (by omega) hd ?_
  have hh := h hC hS hQ
  have e1 : (if Int32.ofInt y < Int32.ofInt x then Int32.ofInt y else Int32.ofInt x) = Int32.ofInt (if wI y < wI x then y else x) := by
    by_cases hx : wI y < wI x
    · rw [if_pos hx, if_pos (i_lt.mpr hx)]
    · rw [if_neg hx, if_neg (fun q => hx (i_lt.mp q))]
  rw [e1]; exact hh
theorem am_mabs {ix : Nat} {x : Int} (hd : decode (am_cc k) pc = .ok (.invokestatic ix, 3)) (h1 : Cond.methodLink (am_y k).cls ix Lib.Math.abs.name ∈ lw_g) (h2 : Cond.static Lib.Math.abs.name ∈ lw_g) (h3 : Cond.initialized "java/lang/Math" ∈ lw_g) (h4 : Cond.code Lib.Math.abs.name Lib.Math.abs.code 1 (some .int) ∈ lw_g) (hfr : 1 ≤ am_fr k) (hlc : 26 ≤ am_lc k) (hcat : am_cats st ≤ 8)
    (h : am_At sc k (pc + 3) lv (.inl (if 0 ≤ wI x then x else 0 - x) :: st) sh M v sh' M') : am_At sc k pc lv (.inl x :: st) sh M v sh' M' := by
  intro p l e R s m args below meth c D ca base b n0 sl0 H locs ls Q hC hS hQ
  have hts := hC.2.2.2.2.2.1
  have hfr2 := hC.2.2.2.2.2.2.2.2.1
  have hlc2 := hC.2.2.2.2.2.2.2.2.2.1
  have hsum : ((st.map (am_cv base b)).map fun v => v.category).sum ≤ 8 := by rw [am_cats_eq]; exact hcat
  have hcells := hC.2.2.2.2.2.2.2.2.2.2.2.2.1
  have hslots := hC.2.2.2.2.2.2.2.2.2.2.2.2.2.1
  have hl1 := hS.2.2.2.2.2.2.2.1
  have hl2 := hS.2.2.2.2.2.2.2.2
  dsimp only at hcells hslots hl1 hl2
  refine va_mabs hC.1 hC.2.1 (hC.2.2.2.1.trans hS.1.1.symm) hC.2.2.2.2.1 (hts _ h1) (hts _ h2) (hts _ h3) (hts _ h4) (by omega) (by omega) (by omega) (by omega) hd ?_
  have hh := h hC hS hQ
  have e1 : (if 0 ≤ Int32.ofInt x then Int32.ofInt x else 0 - Int32.ofInt x) = Int32.ofInt (if 0 ≤ wI x then x else 0 - x) := by
    have e0 : (0 ≤ Int32.ofInt x) ↔ 0 ≤ wI x := by rw [← i_0, i_le, wI_0]
    by_cases hx : 0 ≤ wI x
    · rw [if_pos hx, if_pos (e0.mpr hx)]
    · rw [if_neg hx, if_neg (fun q => hx (e0.mp q)), ← i_0, i_sub]
  rw [e1]; exact hh
end AMR
end
section
/-! The words of the table, by numbers. -/
noncomputable def am_csl : List String := [RX0, RX1, RX2, RX3, RX4, RX5, RX6, RX7, RX8, RX9, RJ6, RJ9, RJ10, RJ7, RL]
noncomputable def am_cs (c : Nat) : String := am_csl.getD c ""
noncomputable def am_x0 : List (Nat × Nat) := [(0, 2), (0, 1), (0, 2), (0, 2), (0, 2), (0, 1), (0, 0), (0, 1), (0, 2), (0, 2), (0, 3), (1, 0), (1, 1), (1, 3), (1, 2), (1, 1), (1, 2), (1, 3), (1, 1), (1, 3), (1, 1), (1, 1), (1, 2), (1, 1), (1, 3), (1, 3), (1, 3), (2, 0), (2, 0), (2, 0), (2, 2), (2, 1), (2, 2), (2, 1), (2, 1), (2, 1), (2, 1), (2, 2), (2, 1), (2, 2)]
noncomputable def am_x1 : List (Nat × Nat) := [(2, 2), (2, 3), (2, 4), (2, 4), (3, 2), (3, 2), (3, 2), (3, 2), (3, 1), (3, 1), (4, 2), (4, 2), (4, 3), (4, 2), (4, 2), (4, 0), (4, 1), (4, 1), (4, 2), (4, 3), (4, 2), (4, 3), (4, 2), (4, 3), (4, 2), (4, 1), (4, 1), (4, 2), (4, 2), (4, 2), (4, 2), (4, 1), (5, 1), (5, 1), (5, 0), (5, 0), (5, 0), (5, 0), (5, 2), (5, 1)]
noncomputable def am_x2 : List (Nat × Nat) := [(6, 3), (6, 1), (6, 1), (6, 1), (6, 2), (6, 3), (6, 2), (6, 1), (6, 2), (6, 3), (6, 5), (6, 1), (6, 3), (6, 0), (6, 1), (7, 2), (7, 2), (7, 2), (7, 3), (7, 4), (7, 4), (7, 2), (7, 2), (7, 2), (7, 1), (8, 0), (8, 2), (8, 3), (8, 2), (8, 1), (8, 5), (8, 1), (8, 2), (8, 3), (8, 1), (8, 1), (8, 2), (8, 2), (8, 2), (8, 2)]
noncomputable def am_x3 : List (Nat × Nat) := [(8, 1), (8, 0), (8, 1), (8, 1), (8, 1), (8, 1), (8, 0), (8, 1), (8, 1), (8, 2), (8, 2), (8, 3), (8, 2), (8, 1), (8, 3), (8, 2), (8, 0), (8, 2), (8, 2), (8, 2), (8, 2), (8, 2), (8, 2), (8, 2), (8, 1), (8, 1), (8, 2), (8, 0), (8, 0), (8, 0), (8, 1), (8, 0), (8, 1), (8, 0), (8, 1), (8, 1), (8, 2), (8, 3), (8, 0), (8, 1)]
noncomputable def am_x4 : List (Nat × Nat) := [(8, 1), (8, 1), (8, 2), (8, 1), (8, 2), (8, 2), (8, 0), (9, 0), (9, 3), (9, 2), (9, 1), (9, 1), (9, 1), (9, 1), (9, 2), (9, 2), (9, 2), (9, 3), (9, 2), (9, 1), (9, 3), (9, 5), (9, 1), (9, 2), (9, 3), (9, 0), (9, 0), (9, 2), (9, 0), (9, 0), (9, 0), (9, 1), (9, 1), (9, 1), (9, 1), (9, 1), (9, 4), (9, 2), (9, 4), (9, 1)]
noncomputable def am_x5 : List (Nat × Nat) := [(9, 3), (9, 2), (9, 2), (9, 2), (9, 1), (9, 2), (9, 2), (9, 1), (9, 2), (9, 2), (9, 1), (9, 1), (9, 0), (9, 1), (9, 1), (9, 1), (9, 1), (9, 1), (9, 3), (9, 3), (9, 0), (9, 1), (9, 1), (9, 1), (9, 1), (9, 3), (9, 2), (9, 3), (9, 3), (9, 2), (9, 2), (9, 2), (9, 1), (9, 2), (9, 2), (9, 3), (9, 2), (9, 2), (9, 1), (9, 3)]
noncomputable def am_x6 : List (Nat × Nat) := [(9, 2), (9, 0), (9, 3), (9, 1), (9, 2), (9, 2), (9, 2), (9, 4), (9, 3), (9, 3), (9, 2), (9, 2), (9, 3), (9, 2), (9, 2), (9, 2), (9, 2), (9, 2), (9, 1), (9, 1), (9, 1), (9, 2), (9, 0), (9, 0), (9, 0), (9, 1), (9, 1), (9, 1), (9, 1), (9, 0), (9, 1), (9, 0), (10, 2), (11, 1), (11, 2), (11, 2), (13, 2), (13, 2), (14, 1)]
noncomputable def am_xc : List (List (Nat × Nat)) := [am_x0, am_x1, am_x2, am_x3, am_x4, am_x5, am_x6]
/-- a method's class and how many it takes -/
noncomputable def am_x (k : Nat) : Nat × Nat := (am_xc.getD (k / 40) []).getD (k % 40) (14, 1)
noncomputable def am_cn (k : Nat) : Nat := (am_x k).1
noncomputable def am_np (k : Nat) : Nat := (am_x k).2
theorem am_far {k : Nat} (h : 280 ≤ k) : (am_y k).cls = RL ∧ am_cn k = 14 := by
  have e : 7 ≤ k / 40 := by omega
  have e1 : am_hc[k / 40]? = none := List.getElem?_eq_none (by show 7 ≤ k / 40; exact e)
  have e2 : am_xc[k / 40]? = none := List.getElem?_eq_none (by show 7 ≤ k / 40; exact e)
  refine ⟨?_, ?_⟩
  · unfold am_y am_h
    rw [List.getD_eq_getElem?_getD (l := am_hc), e1]; rfl
  · unfold am_cn am_x
    rw [List.getD_eq_getElem?_getD (l := am_xc), e2]; rfl
theorem am_near : ∀ k, k < 280 → am_cs (am_cn k) = (am_y k).cls := by decide +kernel
theorem am_cn_e (k : Nat) : am_cs (am_cn k) = (am_y k).cls := by
  by_cases h : k < 280
  · exact am_near k h
  · obtain ⟨h1, h2⟩ := am_far (k := k) (by omega)
    rw [h1, h2]; rfl
theorem am_cs_ne : ∀ c, c < 15 → am_cs c ≠ "java/lang/invoke/MethodHandle" ∧ am_cs c ≠ "java/lang/invoke/VarHandle" := by decide +kernel
theorem am_np_e : ∀ k, k < 278 → am_cn k < 15 ∧ (parseMethodDescriptor (am_y k).desc).map (fun d => d.parameters.length) = some (am_np k) := by decide +kernel
theorem am_cs_vw : ∀ c, c < 10 → am_cs c = (vwCl.getD c ("", TX0, 0)).1 := by decide +kernel
noncomputable def am_wd : List Nat → Cond
  | [0, c] => .initialized (am_cs c)
  | [4, c, j, ci, kk] => (match vwCl[ci]? with
    | some q => .fieldLink (am_cs c) j (q.2.1 kk).1 (q.2.1 kk).2.1 (q.2.1 kk).2.2.1
    | none => .initialized "")
  | [7, c, j, k] => .methodLink (am_cs c) j (am_y k)
  | [8, k] => .instanceMethod (am_y k)
  | [9, k] => .selects (am_y k).cls (am_y k) (am_y k)
  | [10, k] => .static (am_y k)
  | _ => .initialized ""
noncomputable def am_wf (d : List Nat) (w : Cond) : Cond := match d with
  | [] => w
  | a :: r => am_wd (a :: r)
theorem am_zip : ∀ (ds : List (List Nat)) (ws : List Cond), List.zipWith am_wf ds ws = ws → ds.length ≤ ws.length → ∀ d ∈ ds, d ≠ [] → am_wd d ∈ ws
  | [], _, _, _, _, hd, _ => by cases hd
  | _ :: _, [], _, hl, _, _, _ => by simp at hl
  | d :: ds, w :: ws, h, hl, x, hx, hn => by
    rw [List.zipWith_cons_cons] at h
    injection h with h1 h2
    rcases List.mem_cons.mp hx with rfl | hx
    · cases x with
      | nil => exact absurd rfl hn
      | cons a r =>
        have e : am_wd (a :: r) = w := h1
        rw [e]; exact List.mem_cons_self
    · exact List.mem_cons_of_mem _ (am_zip ds ws h2 (by simpa using hl) x hx hn)
noncomputable def am_w0 : List (List Nat) := [[9, 154], [9, 155], [9, 74], [9, 75], [9, 77], [9, 78], [9, 76], [9, 165], [9, 158], [9, 18], [9, 163], [9, 58], [9, 67], [9, 68], [9, 63], [9, 60], [9, 61], [9, 164], [9, 70], [9, 156], [9, 6], [9, 8], [9, 10], [9, 7], [9, 9], [9, 5], [9, 100], [9, 97], [9, 98], [9, 99], [9, 47], [9, 48], [9, 166], [9, 170], [9, 175], [9, 176], [9, 171], [9, 180], [9, 191], [9, 186]]
noncomputable def am_w1 : List (List Nat) := [[9, 185], [9, 189], [9, 188], [9, 187], [9, 190], [9, 194], [9, 202], [9, 203], [9, 204], [9, 198], [9, 200], [9, 196], [9, 210], [9, 209], [9, 219], [9, 218], [9, 221], [9, 222], [9, 225], [9, 217], [9, 232], [9, 233], [9, 234], [9, 229], [9, 228], [9, 227], [9, 230], [9, 242], [9, 236], [9, 251], [9, 250], [9, 249], [9, 248], [9, 247], [9, 258], [9, 257], [9, 267], [9, 265], [9, 266]]
set_option maxRecDepth 100000 in
theorem am_z0 : List.zipWith am_wf (am_w0 ++ (am_w1)) (k2_sels lw_privs) = k2_sels lw_privs := rfl
set_option maxRecDepth 100000 in
theorem am_y0_l : (am_w0 ++ (am_w1)).length ≤ (k2_sels lw_privs).length := Nat.le_of_ble_eq_true rfl
noncomputable def am_w2 : List (List Nat) := [[0, 14], [0, 8], [0, 6], [0, 11], [0, 13], [0, 5], [0, 2], [0, 1], [0, 4], [0, 0], [0, 7], [0, 3], [0, 9], [0, 12], [0, 10], [], [], [7, 14, 9, 105], [8, 105], [], [], [], [], [], [], [7, 8, 11, 80], [8, 80], [], [], [7, 6, 9, 274], [10, 274], [], [7, 6, 34, 277], [10, 277], [], [4, 6, 15, 6, 0], [4, 6, 21, 6, 1], [4, 6, 24, 6, 2], [4, 6, 27, 6, 3], [4, 6, 31, 6, 4]]
noncomputable def am_w3 : List (List Nat) := [[], [], [], [], [], [], [], [], [], [], [], [], [], [], [7, 8, 23, 72], [8, 72], [], [], [], [], [7, 5, 17, 27], [8, 27], [], [], [4, 2, 18, 2, 0], [4, 7, 30, 2, 0], [4, 5, 39, 2, 0], [4, 3, 52, 2, 0], [4, 0, 52, 2, 0], [4, 1, 57, 2, 0], [4, 4, 82, 2, 0], [4, 8, 166, 2, 0], [4, 2, 9, 2, 1], [4, 2, 15, 2, 2], [], [], [], [], [], []]
noncomputable def am_w4 : List (List Nat) := [[], [4, 5, 18, 5, 0], [4, 8, 146, 5, 0], [4, 5, 69, 5, 1], [4, 8, 153, 5, 1], [4, 5, 72, 5, 2], [4, 8, 157, 5, 2], [4, 5, 75, 5, 3], [4, 8, 160, 5, 3], [4, 5, 9, 5, 4], [4, 5, 22, 5, 5], [4, 5, 26, 5, 6], [], [], [], [], [], [], [], [], [], [], [], [], [], [], [], [], [7, 8, 32, 27], [], [], [7, 8, 39, 11], [8, 11], [], [], [4, 3, 39, 1, 0], [4, 4, 49, 1, 0], [4, 1, 24, 1, 0], [4, 0, 31, 1, 0], [4, 7, 51, 1, 0]]
noncomputable def am_w5 : List (List Nat) := [[4, 8, 183, 1, 0], [4, 4, 39, 1, 1], [4, 1, 28, 1, 1], [4, 3, 80, 1, 1], [4, 0, 67, 1, 1], [4, 7, 67, 1, 1], [4, 8, 179, 1, 1], [4, 1, 31, 1, 2], [4, 1, 34, 1, 3], [4, 1, 9, 1, 4], [4, 1, 15, 1, 5], [4, 1, 18, 1, 6], [4, 1, 21, 1, 7], [], [], [], [], [], [], [], [], [], [], [], [], [], [], [], [], [], [], [7, 8, 52, 277], [], [], [7, 8, 60, 50], [8, 50], [], [], [4, 4, 9, 4, 0], [4, 4, 15, 4, 1]]
noncomputable def am_w6 : List (List Nat) := [[4, 4, 19, 4, 2], [4, 4, 23, 4, 3], [4, 4, 26, 4, 4], [4, 4, 30, 4, 5], [4, 4, 78, 4, 6], [], [], [], [], [], [], [], [], [], [], [], [], [], [], [], [], [], [], [7, 8, 69, 0], [8, 0], [], [], [4, 0, 9, 0, 0], [4, 0, 15, 0, 1], [4, 0, 19, 0, 2], [4, 0, 23, 0, 3], [], [], [], [], [], [], [], [], []]
noncomputable def am_w7 : List (List Nat) := [[], [], [7, 8, 76, 95], [8, 95], [], [], [4, 7, 9, 7, 0], [4, 7, 15, 7, 1], [4, 7, 19, 7, 2], [4, 7, 23, 7, 3], [4, 7, 26, 7, 4], [], [], [], [], [], [], [], [], [], [], [], [], [], [7, 8, 83, 44], [8, 44], [], [], [], [7, 3, 21, 27], [4, 3, 9, 3, 0], [4, 3, 15, 3, 1], [4, 3, 22, 3, 2], [4, 3, 25, 3, 3], [], [], [], [], [], []]
set_option maxRecDepth 100000 in
theorem am_z1 : List.zipWith am_wf (am_w2 ++ (am_w3 ++ (am_w4 ++ (am_w5 ++ (am_w6 ++ (am_w7)))))) (tables_1_1) = tables_1_1 := rfl
set_option maxRecDepth 100000 in
theorem am_y1_l : (am_w2 ++ (am_w3 ++ (am_w4 ++ (am_w5 ++ (am_w6 ++ (am_w7)))))).length ≤ (tables_1_1).length := Nat.le_of_ble_eq_true rfl
noncomputable def am_w8 : List (List Nat) := [[], [], [], [4, 8, 14, 8, 0], [4, 8, 18, 8, 1], [4, 8, 26, 8, 2], [4, 8, 33, 8, 3], [4, 8, 40, 8, 4], [4, 8, 44, 8, 5], [4, 8, 48, 8, 6], [4, 8, 63, 8, 7], [4, 8, 70, 8, 8], [4, 8, 77, 8, 9], [4, 8, 84, 8, 10], [4, 8, 88, 8, 11], [4, 8, 352, 8, 12], [4, 8, 336, 8, 13], [4, 8, 339, 8, 14], [4, 8, 91, 8, 15], [], [], [], [], [], [], [], [], [], [], [], [], [], [], [], [], [], [], [], [], []]
noncomputable def am_w9 : List (List Nat) := [[], [], [], [], [], [], [], [], [], [], [], [], [7, 14, 13, 106], [8, 106], [9, 106], [], [7, 8, 95, 81], [8, 81], [9, 81], [], [7, 8, 99, 154], [], [8, 154], [], [7, 8, 103, 86], [8, 86], [9, 86], [], [7, 6, 44, 81], [7, 14, 18, 107], [8, 107], [9, 107], [], [7, 8, 107, 157], [10, 157], [], [7, 8, 121, 82], [8, 82], [9, 82], []]
noncomputable def am_w10 : List (List Nat) := [[7, 6, 40, 83], [8, 83], [9, 83], [], [7, 8, 368, 84], [8, 84], [9, 84], [], [7, 8, 111, 88], [8, 88], [9, 88], [], [7, 8, 115, 89], [8, 89], [9, 89], [], [7, 6, 48, 84], [7, 8, 118, 155], [], [8, 155], [], [7, 14, 23, 108], [8, 108], [9, 108], [], [7, 14, 27, 109], [8, 109], [9, 109], [], [7, 8, 124, 87], [8, 87], [9, 87], [], [7, 14, 32, 110], [8, 110], [9, 110], [], [7, 8, 128, 85], [8, 85], [9, 85]]
noncomputable def am_w11 : List (List Nat) := [[], [7, 8, 132, 90], [8, 90], [9, 90], [], [7, 6, 52, 85], [], [], [], [7, 14, 37, 111], [8, 111], [9, 111], [], [7, 8, 136, 83], [7, 8, 139, 91], [8, 91], [9, 91], [], [7, 6, 62, 88], [7, 14, 41, 112], [8, 112], [9, 112], [], [7, 14, 45, 113], [8, 113], [9, 113], [], [7, 14, 49, 114], [8, 114], [9, 114], [], [7, 8, 143, 73], [8, 73], [9, 73], [], [7, 5, 29, 28], [8, 28], [9, 28], [], [7, 5, 32, 74]]
noncomputable def am_w12 : List (List Nat) := [[], [8, 74], [], [7, 5, 35, 75], [], [8, 75], [], [7, 5, 49, 88], [7, 5, 42, 77], [], [8, 77], [], [7, 5, 62, 78], [], [8, 78], [], [7, 5, 78, 83], [7, 5, 46, 76], [], [8, 76], [], [7, 5, 55, 79], [10, 79], [], [7, 5, 59, 29], [8, 29], [9, 29], [], [7, 5, 65, 30], [8, 30], [9, 30], [], [7, 2, 22, 29], [7, 14, 53, 115], [8, 115], [9, 115], [], [7, 8, 149, 31], [8, 31], [9, 31]]
noncomputable def am_w13 : List (List Nat) := [[], [], [7, 8, 163, 13], [8, 13], [9, 13], [], [7, 14, 57, 116], [8, 116], [9, 116], [], [7, 8, 169, 33], [8, 33], [9, 33], [], [7, 8, 172, 165], [], [8, 165], [], [7, 8, 374, 35], [8, 35], [9, 35], [], [7, 2, 32, 33], [7, 8, 377, 36], [8, 36], [9, 36], [], [7, 8, 315, 39], [10, 39], [], [7, 8, 213, 22], [8, 22], [9, 22], [], [7, 1, 60, 19], [10, 19], [], [7, 8, 380, 23], [8, 23], [9, 23]]
set_option maxRecDepth 100000 in
theorem am_z2 : List.zipWith am_wf (am_w8 ++ (am_w9 ++ (am_w10 ++ (am_w11 ++ (am_w12 ++ (am_w13)))))) (tables_1_2) = tables_1_2 := rfl
set_option maxRecDepth 100000 in
theorem am_y2_l : (am_w8 ++ (am_w9 ++ (am_w10 ++ (am_w11 ++ (am_w12 ++ (am_w13)))))).length ≤ (tables_1_2).length := Nat.le_of_ble_eq_true rfl
noncomputable def am_w14 : List (List Nat) := [[], [7, 1, 71, 21], [8, 21], [9, 21], [], [7, 1, 74, 39], [7, 14, 61, 117], [8, 117], [9, 117], [], [7, 8, 175, 37], [8, 37], [9, 37], [], [7, 2, 36, 35], [7, 8, 180, 40], [10, 40], [], [7, 8, 186, 24], [8, 24], [9, 24], [], [7, 1, 68, 43], [8, 43], [9, 43], [], [7, 2, 59, 36], [7, 2, 62, 40], [7, 2, 65, 39], [7, 14, 65, 118], [8, 118], [9, 118], [], [7, 8, 190, 159], [10, 159], [], [7, 8, 193, 158], [], [8, 158], []]
noncomputable def am_w15 : List (List Nat) := [[7, 8, 197, 15], [8, 15], [9, 15], [], [7, 8, 200, 16], [8, 16], [9, 16], [], [7, 14, 69, 119], [8, 119], [9, 119], [], [7, 8, 203, 17], [8, 17], [9, 17], [], [7, 1, 43, 42], [8, 42], [9, 42], [], [7, 2, 44, 272], [10, 272], [], [7, 2, 50, 41], [8, 41], [9, 41], [], [7, 2, 54, 273], [10, 273], [], [7, 1, 49, 12], [10, 12], [], [7, 1, 53, 18], [], [8, 18], [], [7, 1, 64, 15], [7, 14, 73, 120], [8, 120]]
noncomputable def am_w16 : List (List Nat) := [[9, 120], [], [7, 8, 207, 20], [8, 20], [9, 20], [], [7, 14, 77, 121], [8, 121], [9, 121], [], [7, 14, 82, 122], [8, 122], [9, 122], [], [7, 8, 210, 21], [7, 14, 86, 123], [8, 123], [9, 123], [], [7, 14, 90, 124], [8, 124], [9, 124], [], [7, 8, 216, 14], [10, 14], [], [], [7, 14, 94, 125], [8, 125], [9, 125], [], [7, 14, 98, 126], [8, 126], [9, 126], [], [7, 8, 220, 41], [7, 14, 102, 127], [8, 127], [9, 127], []]
noncomputable def am_w17 : List (List Nat) := [[7, 8, 224, 92], [8, 92], [9, 92], [], [7, 8, 227, 51], [8, 51], [9, 51], [], [7, 4, 33, 83], [7, 4, 45, 88], [7, 4, 52, 41], [7, 8, 231, 52], [8, 52], [9, 52], [], [7, 14, 106, 128], [8, 128], [9, 128], [], [7, 8, 234, 163], [], [8, 163], [], [7, 8, 237, 53], [8, 53], [9, 53], [], [7, 14, 110, 129], [8, 129], [9, 129], [], [7, 8, 240, 56], [8, 56], [9, 56], [], [7, 4, 67, 24], [7, 8, 243, 54], [8, 54], [9, 54], []]
noncomputable def am_w18 : List (List Nat) := [[7, 4, 58, 58], [], [8, 58], [], [7, 4, 74, 12], [7, 14, 114, 130], [8, 130], [9, 130], [], [7, 8, 246, 34], [8, 34], [9, 34], [], [7, 8, 249, 65], [8, 65], [9, 65], [], [7, 4, 104, 67], [], [8, 67], [], [7, 4, 107, 68], [], [8, 68], [], [7, 8, 252, 55], [8, 55], [9, 55], [], [7, 4, 61, 277], [7, 8, 255, 59], [8, 59], [9, 59], [], [], [7, 4, 86, 63], [], [8, 63], [], [7, 4, 90, 60]]
noncomputable def am_w19 : List (List Nat) := [[], [8, 60], [], [7, 4, 93, 61], [], [8, 61], [], [7, 4, 101, 62], [8, 62], [9, 62], [], [7, 4, 96, 275], [10, 275], [], [7, 8, 259, 164], [], [8, 164], [], [7, 8, 371, 64], [8, 64], [9, 64], [], [7, 14, 118, 131], [8, 131], [9, 131], [], [7, 8, 262, 160], [10, 160], [], [7, 8, 265, 62], [], [7, 14, 122, 132], [8, 132], [9, 132], [], [7, 8, 269, 69], [8, 69], [9, 69], [], [7, 4, 110, 276]]
set_option maxRecDepth 100000 in
theorem am_z3 : List.zipWith am_wf (am_w14 ++ (am_w15 ++ (am_w16 ++ (am_w17 ++ (am_w18 ++ (am_w19)))))) (tables_1_3) = tables_1_3 := rfl
set_option maxRecDepth 100000 in
theorem am_y3_l : (am_w14 ++ (am_w15 ++ (am_w16 ++ (am_w17 ++ (am_w18 ++ (am_w19)))))).length ≤ (tables_1_3).length := Nat.le_of_ble_eq_true rfl
noncomputable def am_w20 : List (List Nat) := [[10, 276], [], [7, 4, 113, 71], [10, 71], [], [7, 4, 116, 70], [], [8, 70], [], [], [7, 8, 273, 156], [], [8, 156], [], [], [7, 14, 126, 133], [8, 133], [9, 133], [], [7, 8, 277, 66], [8, 66], [9, 66], [], [7, 14, 130, 134], [8, 134], [9, 134], [], [7, 14, 134, 135], [8, 135], [9, 135], [], [7, 8, 280, 57], [8, 57], [9, 57], [], [7, 4, 71, 25], [8, 25], [9, 25], [], [7, 14, 138, 136]]
noncomputable def am_w21 : List (List Nat) := [[8, 136], [9, 136], [], [7, 8, 283, 25], [7, 14, 142, 137], [8, 137], [9, 137], [], [7, 8, 286, 161], [10, 161], [], [7, 8, 289, 2], [8, 2], [9, 2], [], [7, 0, 28, 6], [], [8, 6], [], [7, 0, 61, 276], [7, 0, 37, 8], [], [8, 8], [], [7, 0, 70, 10], [], [8, 10], [], [7, 0, 84, 41], [7, 0, 41, 7], [], [8, 7], [], [7, 0, 74, 9], [], [8, 9], [], [], [7, 8, 292, 1], [10, 1]]
noncomputable def am_w22 : List (List Nat) := [[], [], [7, 14, 146, 138], [8, 138], [9, 138], [], [7, 8, 295, 3], [8, 3], [9, 3], [], [7, 14, 150, 139], [8, 139], [9, 139], [], [7, 8, 298, 4], [8, 4], [9, 4], [], [7, 0, 45, 12], [7, 0, 49, 5], [], [8, 5], [], [7, 0, 57, 24], [7, 14, 154, 140], [8, 140], [9, 140], [], [7, 8, 301, 162], [10, 162], [], [7, 8, 304, 96], [8, 96], [9, 96], [], [7, 7, 35, 100], [], [8, 100], [], [7, 7, 63, 103]]
noncomputable def am_w23 : List (List Nat) := [[10, 103], [], [7, 7, 39, 97], [], [8, 97], [], [7, 7, 43, 98], [], [8, 98], [], [7, 7, 47, 99], [], [8, 99], [], [7, 7, 56, 42], [7, 7, 59, 101], [8, 101], [9, 101], [], [7, 8, 306, 101], [7, 14, 158, 141], [8, 141], [9, 141], [], [7, 8, 309, 102], [8, 102], [9, 102], [], [7, 14, 162, 142], [8, 142], [9, 142], [], [7, 8, 312, 104], [8, 104], [9, 104], [], [7, 7, 70, 102], [7, 14, 166, 143], [8, 143], [9, 143]]
noncomputable def am_w24 : List (List Nat) := [[], [7, 14, 170, 144], [8, 144], [9, 144], [], [7, 8, 318, 45], [8, 45], [9, 45], [], [7, 3, 29, 83], [7, 3, 35, 88], [7, 3, 45, 33], [], [7, 8, 322, 46], [8, 46], [9, 46], [], [7, 3, 55, 26], [8, 26], [9, 26], [], [7, 3, 59, 47], [], [8, 47], [], [7, 3, 63, 48], [], [8, 48], [], [7, 3, 66, 39], [7, 14, 174, 145], [8, 145], [9, 145], [], [7, 8, 325, 49], [8, 49], [9, 49], [], [7, 3, 69, 31], [7, 3, 73, 32]]
noncomputable def am_w25 : List (List Nat) := [[8, 32], [9, 32], [], [7, 3, 77, 21], [7, 14, 178, 146], [8, 146], [9, 146], [], [], [], [], [], [7, 14, 182, 147], [8, 147], [9, 147], [], [7, 14, 186, 148], [8, 148], [9, 148], [], [7, 14, 191, 149], [8, 149], [9, 149], [], [7, 14, 195, 150], [8, 150], [9, 150], [], [7, 8, 342, 38], [8, 38], [9, 38], [], [7, 2, 40, 37], [7, 8, 345, 93], [8, 93], [9, 93], [], [7, 6, 65, 82], [7, 8, 349, 166], []]
set_option maxRecDepth 100000 in
theorem am_z4 : List.zipWith am_wf (am_w20 ++ (am_w21 ++ (am_w22 ++ (am_w23 ++ (am_w24 ++ (am_w25)))))) (tables_1_4) = tables_1_4 := rfl
set_option maxRecDepth 100000 in
theorem am_y4_l : (am_w20 ++ (am_w21 ++ (am_w22 ++ (am_w23 ++ (am_w24 ++ (am_w25)))))).length ≤ (tables_1_4).length := Nat.le_of_ble_eq_true rfl
noncomputable def am_w26 : List (List Nat) := [[8, 166], [], [7, 14, 199, 151], [8, 151], [9, 151], [], [7, 14, 203, 152], [8, 152], [9, 152], [], [7, 14, 207, 153], [8, 153], [9, 153], [], [], [], [7, 8, 359, 150], [7, 8, 362, 94], [8, 94], [9, 94], [], [], [], [], [7, 14, 12, 167], [8, 167], [], [], [4, 9, 7, 9, 0], [4, 9, 136, 9, 1], [4, 9, 13, 9, 2], [4, 9, 16, 9, 3], [4, 9, 19, 9, 4], [4, 9, 22, 9, 5], [4, 9, 25, 9, 6], [4, 9, 28, 9, 7], [4, 9, 64, 9, 8], [4, 9, 246, 9, 9], [4, 9, 31, 9, 10], [4, 9, 60, 9, 11]]
noncomputable def am_w27 : List (List Nat) := [[4, 9, 35, 9, 12], [4, 9, 101, 9, 13], [4, 9, 104, 9, 14], [4, 9, 107, 9, 15], [4, 9, 38, 9, 16], [4, 9, 117, 9, 17], [4, 9, 41, 9, 18], [4, 9, 195, 9, 19], [4, 9, 198, 9, 20], [4, 9, 44, 9, 21], [4, 9, 210, 9, 22], [4, 9, 213, 9, 23], [4, 9, 47, 9, 24], [4, 9, 51, 9, 25], [4, 9, 54, 9, 26], [4, 9, 249, 9, 27], [4, 9, 57, 9, 28], [4, 9, 279, 9, 29], [4, 9, 267, 9, 30], [], [], [], [], [], [], [], [], [], [], [], [], [], [], [], [], [], [], [], [], []]
noncomputable def am_w28 : List (List Nat) := [[], [], [], [], [], [], [], [], [], [], [], [], [], [], [], [], [], [], [], [], [], [], [], [], [], [], [], [], [], [], [], [], [], [], [], [], [], [], [], []]
noncomputable def am_w29 : List (List Nat) := [[], [], [7, 14, 17, 174], [8, 174], [9, 174], [], [7, 9, 75, 172], [10, 172], [], [], [7, 9, 69, 168], [10, 168], [], [7, 9, 79, 170], [], [8, 170], [], [7, 9, 83, 175], [], [8, 175], [], [7, 14, 22, 177], [8, 177], [9, 177], [], [7, 9, 87, 176], [], [8, 176], [], [7, 9, 91, 171], [], [8, 171], [], [7, 14, 26, 178], [8, 178], [9, 178], [], [7, 14, 31, 179], [8, 179], [9, 179]]
noncomputable def am_w30 : List (List Nat) := [[], [7, 14, 36, 181], [8, 181], [9, 181], [], [7, 9, 94, 180], [], [8, 180], [], [7, 14, 40, 182], [8, 182], [9, 182], [], [7, 14, 44, 183], [8, 183], [9, 183], [], [7, 9, 98, 173], [10, 173], [], [], [7, 14, 48, 184], [8, 184], [9, 184], [], [7, 14, 52, 192], [8, 192], [9, 192], [], [7, 9, 133, 191], [], [8, 191], [], [7, 9, 123, 186], [], [8, 186], [], [7, 9, 110, 185], [], [8, 185]]
noncomputable def am_w31 : List (List Nat) := [[], [7, 9, 126, 189], [], [8, 189], [], [7, 9, 114, 188], [], [8, 188], [], [7, 9, 120, 187], [], [8, 187], [], [7, 9, 130, 190], [], [8, 190], [], [7, 14, 56, 193], [8, 193], [9, 193], [], [7, 14, 60, 201], [8, 201], [9, 201], [], [7, 9, 139, 194], [], [8, 194], [], [7, 9, 159, 202], [], [8, 202], [], [7, 14, 64, 205], [8, 205], [9, 205], [], [7, 9, 162, 203], [], [8, 203]]
set_option maxRecDepth 100000 in
theorem am_z5 : List.zipWith am_wf (am_w26 ++ (am_w27 ++ (am_w28 ++ (am_w29 ++ (am_w30 ++ (am_w31)))))) (tables_1_5) = tables_1_5 := rfl
set_option maxRecDepth 100000 in
theorem am_y5_l : (am_w26 ++ (am_w27 ++ (am_w28 ++ (am_w29 ++ (am_w30 ++ (am_w31)))))).length ≤ (tables_1_5).length := Nat.le_of_ble_eq_true rfl
noncomputable def am_w32 : List (List Nat) := [[], [7, 9, 145, 197], [10, 197], [], [7, 9, 165, 204], [], [8, 204], [], [7, 9, 156, 198], [], [8, 198], [], [7, 14, 68, 206], [8, 206], [9, 206], [], [], [7, 14, 72, 208], [8, 208], [9, 208], [], [7, 9, 170, 207], [10, 207], [], [7, 9, 173, 200], [], [8, 200], [], [7, 9, 149, 196], [], [8, 196], [], [7, 9, 142, 195], [10, 195], [], [7, 9, 153, 199], [10, 199], [], [7, 14, 76, 211], [8, 211]]
noncomputable def am_w33 : List (List Nat) := [[9, 211], [], [7, 9, 180, 210], [], [8, 210], [], [7, 9, 177, 209], [], [8, 209], [], [7, 14, 81, 212], [8, 212], [9, 212], [], [7, 14, 85, 213], [8, 213], [9, 213], [], [7, 14, 89, 214], [8, 214], [9, 214], [], [7, 14, 93, 215], [8, 215], [9, 215], [], [], [7, 14, 97, 216], [8, 216], [9, 216], [], [7, 14, 101, 220], [8, 220], [9, 220], [], [7, 9, 190, 219], [], [8, 219], [], [7, 9, 186, 218]]
noncomputable def am_w34 : List (List Nat) := [[], [8, 218], [], [7, 14, 105, 223], [8, 223], [9, 223], [], [7, 9, 201, 221], [], [8, 221], [], [], [7, 9, 204, 222], [], [8, 222], [], [7, 14, 109, 224], [8, 224], [9, 224], [], [7, 14, 113, 226], [8, 226], [9, 226], [], [7, 9, 207, 225], [], [8, 225], [], [7, 14, 117, 231], [8, 231], [9, 231], [], [7, 9, 223, 217], [], [8, 217], [], [7, 9, 226, 232], [], [8, 232], []]
noncomputable def am_w35 : List (List Nat) := [[7, 9, 229, 169], [10, 169], [], [7, 9, 232, 233], [], [8, 233], [], [7, 9, 235, 234], [], [8, 234], [], [7, 14, 121, 235], [8, 235], [9, 235], [], [], [7, 9, 240, 229], [], [8, 229], [], [], [7, 9, 220, 228], [], [8, 228], [], [7, 9, 217, 227], [], [8, 227], [], [7, 9, 243, 230], [], [8, 230], [], [7, 14, 125, 237], [8, 237], [9, 237], [], [7, 14, 129, 238], [8, 238], [9, 238]]
noncomputable def am_w36 : List (List Nat) := [[], [7, 14, 133, 239], [8, 239], [9, 239], [], [7, 14, 137, 240], [8, 240], [9, 240], [], [7, 14, 141, 241], [8, 241], [9, 241], [], [7, 14, 145, 244], [8, 244], [9, 244], [], [], [7, 9, 256, 242], [], [8, 242], [], [], [7, 9, 259, 243], [10, 243], [], [7, 9, 263, 236], [], [8, 236], [], [7, 14, 149, 245], [8, 245], [9, 245], [], [7, 14, 153, 246], [8, 246], [9, 246], [], [7, 14, 157, 253], [8, 253]]
noncomputable def am_w37 : List (List Nat) := [[9, 253], [], [7, 9, 287, 252], [10, 252], [], [], [7, 9, 290, 251], [], [8, 251], [], [7, 9, 282, 250], [], [8, 250], [], [7, 9, 276, 249], [], [8, 249], [], [7, 9, 273, 248], [], [8, 248], [], [7, 9, 270, 247], [], [8, 247], [], [7, 14, 161, 254], [8, 254], [9, 254], [], [7, 14, 165, 255], [8, 255], [9, 255], [], [7, 14, 169, 256], [8, 256], [9, 256], [], [7, 9, 293, 213], [7, 14, 173, 259]]
set_option maxRecDepth 100000 in
theorem am_z6 : List.zipWith am_wf (am_w32 ++ (am_w33 ++ (am_w34 ++ (am_w35 ++ (am_w36 ++ (am_w37)))))) (tables_1_6) = tables_1_6 := rfl
set_option maxRecDepth 100000 in
theorem am_y6_l : (am_w32 ++ (am_w33 ++ (am_w34 ++ (am_w35 ++ (am_w36 ++ (am_w37)))))).length ≤ (tables_1_6).length := Nat.le_of_ble_eq_true rfl
noncomputable def am_w38 : List (List Nat) := [[8, 259], [9, 259], [], [7, 9, 296, 258], [], [8, 258], [], [7, 9, 299, 257], [], [8, 257], [], [7, 14, 177, 260], [8, 260], [9, 260], [], [7, 14, 181, 261], [8, 261], [9, 261], [], [], [], [], [7, 14, 185, 262], [8, 262], [9, 262], [], [7, 14, 190, 263], [8, 263], [9, 263], [], [7, 14, 194, 264], [8, 264], [9, 264], [], [7, 14, 198, 268], [8, 268], [9, 268], [], [], [7, 9, 316, 267]]
noncomputable def am_w39 : List (List Nat) := [[], [8, 267], [], [7, 9, 308, 265], [], [8, 265], [], [7, 9, 311, 266], [], [8, 266], [], [7, 14, 202, 269], [8, 269], [9, 269], [], [7, 14, 206, 270], [8, 270], [9, 270], [], [7, 14, 210, 271], [8, 271], [9, 271], [], [], []]
set_option maxRecDepth 100000 in
theorem am_z7 : List.zipWith am_wf (am_w38 ++ (am_w39)) (tables_1_7) = tables_1_7 := rfl
set_option maxRecDepth 100000 in
theorem am_y7_l : (am_w38 ++ (am_w39)).length ≤ (tables_1_7).length := Nat.le_of_ble_eq_true rfl
noncomputable def am_wc : List (List (List Nat)) := [am_w0, am_w1, am_w2, am_w3, am_w4, am_w5, am_w6, am_w7, am_w8, am_w9, am_w10, am_w11, am_w12, am_w13, am_w14, am_w15, am_w16, am_w17, am_w18, am_w19, am_w20, am_w21, am_w22, am_w23, am_w24, am_w25, am_w26, am_w27, am_w28, am_w29, am_w30, am_w31, am_w32, am_w33, am_w34, am_w35, am_w36, am_w37, am_w38, am_w39]
theorem am_wc_e : ∀ l ∈ am_wc, ∀ d ∈ l, d ≠ [] → am_wd d ∈ lw_tbl :=
  List.forall_mem_cons.mpr ⟨fun d hd hn => List.mem_append_left _ (am_zip _ _ am_z0 am_y0_l d (List.mem_append_left _ hd) hn), List.forall_mem_cons.mpr ⟨fun d hd hn => List.mem_append_left _ (am_zip _ _ am_z0 am_y0_l d (List.mem_append_right _ (hd)) hn), List.forall_mem_cons.mpr ⟨fun d hd hn => am_in1 (am_zip _ _ am_z1 am_y1_l d (List.mem_append_left _ hd) hn), List.forall_mem_cons.mpr ⟨fun d hd hn => am_in1 (am_zip _ _ am_z1 am_y1_l d (List.mem_append_right _ (List.mem_append_left _ hd)) hn), List.forall_mem_cons.mpr ⟨fun d hd hn => am_in1 (am_zip _ _ am_z1 am_y1_l d (List.mem_append_right _ (List.mem_append_right _ (List.mem_append_left _ hd))) hn), List.forall_mem_cons.mpr ⟨fun d hd hn => am_in1 (am_zip _ _ am_z1 am_y1_l d (List.mem_append_right _ (List.mem_append_right _ (List.mem_append_right _ (List.mem_append_left _ hd)))) hn), List.forall_mem_cons.mpr ⟨fun d hd hn => am_in1 (am_zip _ _ am_z1 am_y1_l d (List.mem_append_right _ (List.mem_append_right _ (List.mem_append_right _ (List.mem_append_right _ (List.mem_append_left _ hd))))) hn), List.forall_mem_cons.mpr ⟨fun d hd hn => am_in1 (am_zip _ _ am_z1 am_y1_l d (List.mem_append_right _ (List.mem_append_right _ (List.mem_append_right _ (List.mem_append_right _ (List.mem_append_right _ (hd)))))) hn), List.forall_mem_cons.mpr ⟨fun d hd hn => am_in2 (am_zip _ _ am_z2 am_y2_l d (List.mem_append_left _ hd) hn), List.forall_mem_cons.mpr ⟨fun d hd hn => am_in2 (am_zip _ _ am_z2 am_y2_l d (List.mem_append_right _ (List.mem_append_left _ hd)) hn), List.forall_mem_cons.mpr ⟨fun d hd hn => am_in2 (am_zip _ _ am_z2 am_y2_l d (List.mem_append_right _ (List.mem_append_right _ (List.mem_append_left _ hd))) hn), List.forall_mem_cons.mpr ⟨fun d hd hn => am_in2 (am_zip _ _ am_z2 am_y2_l d (List.mem_append_right _ (List.mem_append_right _ (List.mem_append_right _ (List.mem_append_left _ hd)))) hn), List.forall_mem_cons.mpr ⟨fun d hd hn => am_in2 (am_zip _ _ am_z2 am_y2_l d (List.mem_append_right _ (List.mem_append_right _ (List.mem_append_right _ (List.mem_append_right _ (List.mem_append_left _ hd))))) hn), List.forall_mem_cons.mpr ⟨fun d hd hn => am_in2 (am_zip _ _ am_z2 am_y2_l d (List.mem_append_right _ (List.mem_append_right _ (List.mem_append_right _ (List.mem_append_right _ (List.mem_append_right _ (hd)))))) hn), List.forall_mem_cons.mpr ⟨fun d hd hn => am_in3 (am_zip _ _ am_z3 am_y3_l d (List.mem_append_left _ hd) hn), List.forall_mem_cons.mpr ⟨fun d hd hn => am_in3 (am_zip _ _ am_z3 am_y3_l d (List.mem_append_right _ (List.mem_append_left _ hd)) hn), List.forall_mem_cons.mpr ⟨fun d hd hn => am_in3 (am_zip _ _ am_z3 am_y3_l d (List.mem_append_right _ (List.mem_append_right _ (List.mem_append_left _ hd))) hn), List.forall_mem_cons.mpr ⟨fun d hd hn => am_in3 (am_zip _ _ am_z3 am_y3_l d (List.mem_append_right _ (List.mem_append_right _ (List.mem_append_right _ (List.mem_append_left _ hd)))) hn), List.forall_mem_cons.mpr ⟨fun d hd hn => am_in3 (am_zip _ _ am_z3 am_y3_l d (List.mem_append_right _ (List.mem_append_right _ (List.mem_append_right _ (List.mem_append_right _ (List.mem_append_left _ hd))))) hn), List.forall_mem_cons.mpr ⟨fun d hd hn => am_in3 (am_zip _ _ am_z3 am_y3_l d (List.mem_append_right _ (List.mem_append_right _ (List.mem_append_right _ (List.mem_append_right _ (List.mem_append_right _ (hd)))))) hn), List.forall_mem_cons.mpr ⟨fun d hd hn => am_in4 (am_zip _ _ am_z4 am_y4_l d (List.mem_append_left _ hd) hn), List.forall_mem_cons.mpr ⟨fun d hd hn => am_in4 (am_zip _ _ am_z4 am_y4_l d (List.mem_append_right _ (List.mem_append_left _ hd)) hn), List.forall_mem_cons.mpr ⟨fun d hd hn => am_in4 (am_zip _ _ am_z4 am_y4_l d (List.mem_append_right _ (List.mem_append_right _ (List.mem_append_left _ hd))) hn), List.forall_mem_cons.mpr ⟨fun d hd hn => am_in4 (am_zip _ _ am_z4 am_y4_l d (List.mem_append_right _ (List.mem_append_right _ (List.mem_append_right _ (List.mem_append_left _ hd)))) hn), List.forall_mem_cons.mpr ⟨fun d hd hn => am_in4 (am_zip _ _ am_z4 am_y4_l d (List.mem_append_right _ (List.mem_append_right _ (List.mem_append_right _ (List.mem_append_right _ (List.mem_append_left _ hd))))) hn), List.forall_mem_cons.mpr ⟨fun d hd hn => am_in4 (am_zip _ _ am_z4 am_y4_l d (List.mem_append_right _ (List.mem_append_right _ (List.mem_append_right _ (List.mem_append_right _ (List.mem_append_right _ (hd)))))) hn), List.forall_mem_cons.mpr ⟨fun d hd hn => am_in5 (am_zip _ _ am_z5 am_y5_l d (List.mem_append_left _ hd) hn), List.forall_mem_cons.mpr ⟨fun d hd hn => am_in5 (am_zip _ _ am_z5 am_y5_l d (List.mem_append_right _ (List.mem_append_left _ hd)) hn), List.forall_mem_cons.mpr ⟨fun d hd hn => am_in5 (am_zip _ _ am_z5 am_y5_l d (List.mem_append_right _ (List.mem_append_right _ (List.mem_append_left _ hd))) hn), List.forall_mem_cons.mpr ⟨fun d hd hn => am_in5 (am_zip _ _ am_z5 am_y5_l d (List.mem_append_right _ (List.mem_append_right _ (List.mem_append_right _ (List.mem_append_left _ hd)))) hn), List.forall_mem_cons.mpr ⟨fun d hd hn => am_in5 (am_zip _ _ am_z5 am_y5_l d (List.mem_append_right _ (List.mem_append_right _ (List.mem_append_right _ (List.mem_append_right _ (List.mem_append_left _ hd))))) hn), List.forall_mem_cons.mpr ⟨fun d hd hn => am_in5 (am_zip _ _ am_z5 am_y5_l d (List.mem_append_right _ (List.mem_append_right _ (List.mem_append_right _ (List.mem_append_right _ (List.mem_append_right _ (hd)))))) hn), List.forall_mem_cons.mpr ⟨fun d hd hn => am_in6 (am_zip _ _ am_z6 am_y6_l d (List.mem_append_left _ hd) hn), List.forall_mem_cons.mpr ⟨fun d hd hn => am_in6 (am_zip _ _ am_z6 am_y6_l d (List.mem_append_right _ (List.mem_append_left _ hd)) hn), List.forall_mem_cons.mpr ⟨fun d hd hn => am_in6 (am_zip _ _ am_z6 am_y6_l d (List.mem_append_right _ (List.mem_append_right _ (List.mem_append_left _ hd))) hn), List.forall_mem_cons.mpr ⟨fun d hd hn => am_in6 (am_zip _ _ am_z6 am_y6_l d (List.mem_append_right _ (List.mem_append_right _ (List.mem_append_right _ (List.mem_append_left _ hd)))) hn), List.forall_mem_cons.mpr ⟨fun d hd hn => am_in6 (am_zip _ _ am_z6 am_y6_l d (List.mem_append_right _ (List.mem_append_right _ (List.mem_append_right _ (List.mem_append_right _ (List.mem_append_left _ hd))))) hn), List.forall_mem_cons.mpr ⟨fun d hd hn => am_in6 (am_zip _ _ am_z6 am_y6_l d (List.mem_append_right _ (List.mem_append_right _ (List.mem_append_right _ (List.mem_append_right _ (List.mem_append_right _ (hd)))))) hn), List.forall_mem_cons.mpr ⟨fun d hd hn => am_in7 (am_zip _ _ am_z7 am_y7_l d (List.mem_append_left _ hd) hn), List.forall_mem_cons.mpr ⟨fun d hd hn => am_in7 (am_zip _ _ am_z7 am_y7_l d (List.mem_append_right _ (hd)) hn), fun _ h => absurd h List.not_mem_nil⟩⟩⟩⟩⟩⟩⟩⟩⟩⟩⟩⟩⟩⟩⟩⟩⟩⟩⟩⟩⟩⟩⟩⟩⟩⟩⟩⟩⟩⟩⟩⟩⟩⟩⟩⟩⟩⟩⟩⟩
noncomputable def am_wq (j : Nat) : List Nat := if j < 79 then (am_wc.getD (j / 40) []).getD (j % 40) [] else (am_wc.getD (2 + (j - 79) / 40) []).getD ((j - 79) % 40) []
theorem am_wc_g {a b : Nat} {d : List Nat} (h : (am_wc.getD a []).getD b [] = d) (hn : d ≠ []) : am_wd d ∈ lw_tbl := by
  rw [List.getD_eq_getElem?_getD (l := am_wc), List.getD_eq_getElem?_getD] at h
  cases ha : am_wc[a]? with
  | none => rw [ha] at h; simp at h; first | exact absurd h hn | exact absurd h.symm hn
  | some l =>
    rw [ha] at h
    cases hb : l[b]? with
    | none => rw [Option.getD_some, hb] at h; exact absurd h.symm hn
    | some q =>
      rw [Option.getD_some, hb, Option.getD_some] at h
      subst h
      exact am_wc_e l (List.mem_of_getElem? ha) q (List.mem_of_getElem? hb) hn
/-- the word at place j is the one that these numbers say -/
noncomputable def am_q (j : Nat) (d : List Nat) : Bool := decide (am_wq j = d) && goodWord (am_wd d)
theorem am_q_e {j : Nat} {d : List Nat} (h : am_q j d = true) (hn : d ≠ []) : am_wd d ∈ lw_g := by
  simp only [am_q, Bool.and_eq_true, decide_eq_true_eq] at h
  refine List.mem_filter.mpr ⟨?_, h.2⟩
  have h1 := h.1
  unfold am_wq at h1
  split at h1
  · exact am_wc_g h1 hn
  · exact am_wc_g h1 hn
theorem am_q4 {ix k j ci kk : Nat} {q : vw_C} (hc : vwCl[ci]? = some q) (h : am_q ix [4, am_cn k, j, ci, kk] = true) : Cond.fieldLink (am_y k).cls j (q.2.1 kk).1 (q.2.1 kk).2.1 (q.2.1 kk).2.2.1 ∈ lw_g := by
  have h1 := am_q_e h (List.cons_ne_nil _ _)
  have e : am_wd [4, am_cn k, j, ci, kk] = (match vwCl[ci]? with
    | some q => Cond.fieldLink (am_cs (am_cn k)) j (q.2.1 kk).1 (q.2.1 kk).2.1 (q.2.1 kk).2.2.1
    | none => .initialized "") := rfl
  rw [e, hc, am_cn_e] at h1
  exact h1
theorem am_q7 {ix k j k2 : Nat} (h : am_q ix [7, am_cn k, j, k2] = true) : Cond.methodLink (am_y k).cls j (am_y k2) ∈ lw_g := by
  have h1 := am_q_e h (List.cons_ne_nil _ _)
  have e : am_wd [7, am_cn k, j, k2] = Cond.methodLink (am_cs (am_cn k)) j (am_y k2) := rfl
  rw [e, am_cn_e] at h1
  exact h1
theorem am_q0 {ix k : Nat} (h : am_q ix [0, am_cn k] = true) : Cond.initialized (am_y k).cls ∈ lw_g := by
  have h1 := am_q_e h (List.cons_ne_nil _ _)
  have e : am_wd [0, am_cn k] = Cond.initialized (am_cs (am_cn k)) := rfl
  rw [e, am_cn_e] at h1
  exact h1
theorem am_q8 {ix k : Nat} (h : am_q ix [8, k] = true) : Cond.instanceMethod (am_y k) ∈ lw_g := am_q_e h (List.cons_ne_nil _ _)
theorem am_q9 {ix k : Nat} (h : am_q ix [9, k] = true) : Cond.selects (am_y k).cls (am_y k) (am_y k) ∈ lw_g := am_q_e h (List.cons_ne_nil _ _)
theorem am_q10 {ix k : Nat} (h : am_q ix [10, k] = true) : Cond.static (am_y k) ∈ lw_g := am_q_e h (List.cons_ne_nil _ _)
end
section
theorem am_kq0 : ∀ q ∈ ([0, 1, 2, 3, 4, 5, 6, 7, 8, 9, 10, 11, 12, 13, 14, 15, 16, 17, 18, 19, 20, 21, 22, 23, 24, 25, 26, 27, 28, 29, 30, 31, 32, 33, 34] : List Nat), am_kw q ∈ lw_tbl := List.forall_mem_cons.mpr ⟨am_kw0, List.forall_mem_cons.mpr ⟨am_kw1, List.forall_mem_cons.mpr ⟨am_kw2, List.forall_mem_cons.mpr ⟨am_kw3, List.forall_mem_cons.mpr ⟨am_kw4, List.forall_mem_cons.mpr ⟨am_kw5, List.forall_mem_cons.mpr ⟨am_kw6, List.forall_mem_cons.mpr ⟨am_kw7, List.forall_mem_cons.mpr ⟨am_kw8, List.forall_mem_cons.mpr ⟨am_kw9, List.forall_mem_cons.mpr ⟨am_kw10, List.forall_mem_cons.mpr ⟨am_kw11, List.forall_mem_cons.mpr ⟨am_kw12, List.forall_mem_cons.mpr ⟨am_kw13, List.forall_mem_cons.mpr ⟨am_kw14, List.forall_mem_cons.mpr ⟨am_kw15, List.forall_mem_cons.mpr ⟨am_kw16, List.forall_mem_cons.mpr ⟨am_kw17, List.forall_mem_cons.mpr ⟨am_kw18, List.forall_mem_cons.mpr ⟨am_kw19, List.forall_mem_cons.mpr ⟨am_kw20, List.forall_mem_cons.mpr ⟨am_kw21, List.forall_mem_cons.mpr ⟨am_kw22, List.forall_mem_cons.mpr ⟨am_kw23, List.forall_mem_cons.mpr ⟨am_kw24, List.forall_mem_cons.mpr ⟨am_kw25, List.forall_mem_cons.mpr ⟨am_kw26, List.forall_mem_cons.mpr ⟨am_kw27, List.forall_mem_cons.mpr ⟨am_kw28, List.forall_mem_cons.mpr ⟨am_kw29, List.forall_mem_cons.mpr ⟨am_kw30, List.forall_mem_cons.mpr ⟨am_kw31, List.forall_mem_cons.mpr ⟨am_kw32, List.forall_mem_cons.mpr ⟨am_kw33, List.forall_mem_cons.mpr ⟨am_kw34, fun _ h => absurd h List.not_mem_nil⟩⟩⟩⟩⟩⟩⟩⟩⟩⟩⟩⟩⟩⟩⟩⟩⟩⟩⟩⟩⟩⟩⟩⟩⟩⟩⟩⟩⟩⟩⟩⟩⟩⟩⟩
theorem am_kq35 : ∀ q ∈ ([35, 36, 37, 38, 39, 40, 41, 42, 43, 44, 45, 46, 47, 48, 49, 50, 51, 52, 53, 54, 55, 56, 57, 58, 59, 60, 61, 62, 63, 64, 65, 66, 67, 68, 69] : List Nat), am_kw q ∈ lw_tbl := List.forall_mem_cons.mpr ⟨am_kw35, List.forall_mem_cons.mpr ⟨am_kw36, List.forall_mem_cons.mpr ⟨am_kw37, List.forall_mem_cons.mpr ⟨am_kw38, List.forall_mem_cons.mpr ⟨am_kw39, List.forall_mem_cons.mpr ⟨am_kw40, List.forall_mem_cons.mpr ⟨am_kw41, List.forall_mem_cons.mpr ⟨am_kw42, List.forall_mem_cons.mpr ⟨am_kw43, List.forall_mem_cons.mpr ⟨am_kw44, List.forall_mem_cons.mpr ⟨am_kw45, List.forall_mem_cons.mpr ⟨am_kw46, List.forall_mem_cons.mpr ⟨am_kw47, List.forall_mem_cons.mpr ⟨am_kw48, List.forall_mem_cons.mpr ⟨am_kw49, List.forall_mem_cons.mpr ⟨am_kw50, List.forall_mem_cons.mpr ⟨am_kw51, List.forall_mem_cons.mpr ⟨am_kw52, List.forall_mem_cons.mpr ⟨am_kw53, List.forall_mem_cons.mpr ⟨am_kw54, List.forall_mem_cons.mpr ⟨am_kw55, List.forall_mem_cons.mpr ⟨am_kw56, List.forall_mem_cons.mpr ⟨am_kw57, List.forall_mem_cons.mpr ⟨am_kw58, List.forall_mem_cons.mpr ⟨am_kw59, List.forall_mem_cons.mpr ⟨am_kw60, List.forall_mem_cons.mpr ⟨am_kw61, List.forall_mem_cons.mpr ⟨am_kw62, List.forall_mem_cons.mpr ⟨am_kw63, List.forall_mem_cons.mpr ⟨am_kw64, List.forall_mem_cons.mpr ⟨am_kw65, List.forall_mem_cons.mpr ⟨am_kw66, List.forall_mem_cons.mpr ⟨am_kw67, List.forall_mem_cons.mpr ⟨am_kw68, List.forall_mem_cons.mpr ⟨am_kw69, fun _ h => absurd h List.not_mem_nil⟩⟩⟩⟩⟩⟩⟩⟩⟩⟩⟩⟩⟩⟩⟩⟩⟩⟩⟩⟩⟩⟩⟩⟩⟩⟩⟩⟩⟩⟩⟩⟩⟩⟩⟩
theorem am_kq70 : ∀ q ∈ ([70, 71, 72, 73, 74, 75, 76, 77, 78, 79, 80, 81, 82, 83, 84, 85, 86, 87, 88, 89, 90, 91, 92, 93, 94, 95, 96, 97, 98, 99, 100, 101, 102, 103, 104] : List Nat), am_kw q ∈ lw_tbl := List.forall_mem_cons.mpr ⟨am_kw70, List.forall_mem_cons.mpr ⟨am_kw71, List.forall_mem_cons.mpr ⟨am_kw72, List.forall_mem_cons.mpr ⟨am_kw73, List.forall_mem_cons.mpr ⟨am_kw74, List.forall_mem_cons.mpr ⟨am_kw75, List.forall_mem_cons.mpr ⟨am_kw76, List.forall_mem_cons.mpr ⟨am_kw77, List.forall_mem_cons.mpr ⟨am_kw78, List.forall_mem_cons.mpr ⟨am_kw79, List.forall_mem_cons.mpr ⟨am_kw80, List.forall_mem_cons.mpr ⟨am_kw81, List.forall_mem_cons.mpr ⟨am_kw82, List.forall_mem_cons.mpr ⟨am_kw83, List.forall_mem_cons.mpr ⟨am_kw84, List.forall_mem_cons.mpr ⟨am_kw85, List.forall_mem_cons.mpr ⟨am_kw86, List.forall_mem_cons.mpr ⟨am_kw87, List.forall_mem_cons.mpr ⟨am_kw88, List.forall_mem_cons.mpr ⟨am_kw89, List.forall_mem_cons.mpr ⟨am_kw90, List.forall_mem_cons.mpr ⟨am_kw91, List.forall_mem_cons.mpr ⟨am_kw92, List.forall_mem_cons.mpr ⟨am_kw93, List.forall_mem_cons.mpr ⟨am_kw94, List.forall_mem_cons.mpr ⟨am_kw95, List.forall_mem_cons.mpr ⟨am_kw96, List.forall_mem_cons.mpr ⟨am_kw97, List.forall_mem_cons.mpr ⟨am_kw98, List.forall_mem_cons.mpr ⟨am_kw99, List.forall_mem_cons.mpr ⟨am_kw100, List.forall_mem_cons.mpr ⟨am_kw101, List.forall_mem_cons.mpr ⟨am_kw102, List.forall_mem_cons.mpr ⟨am_kw103, List.forall_mem_cons.mpr ⟨am_kw104, fun _ h => absurd h List.not_mem_nil⟩⟩⟩⟩⟩⟩⟩⟩⟩⟩⟩⟩⟩⟩⟩⟩⟩⟩⟩⟩⟩⟩⟩⟩⟩⟩⟩⟩⟩⟩⟩⟩⟩⟩⟩
theorem am_kq105 : ∀ q ∈ ([105, 106, 107, 108, 109, 110, 111, 112, 113, 114, 115, 116, 117, 118, 119, 120, 121, 122, 123, 124, 125, 126, 127, 128, 129, 130, 131, 132, 133, 134, 135, 136, 137, 138, 139] : List Nat), am_kw q ∈ lw_tbl := List.forall_mem_cons.mpr ⟨am_kw105, List.forall_mem_cons.mpr ⟨am_kw106, List.forall_mem_cons.mpr ⟨am_kw107, List.forall_mem_cons.mpr ⟨am_kw108, List.forall_mem_cons.mpr ⟨am_kw109, List.forall_mem_cons.mpr ⟨am_kw110, List.forall_mem_cons.mpr ⟨am_kw111, List.forall_mem_cons.mpr ⟨am_kw112, List.forall_mem_cons.mpr ⟨am_kw113, List.forall_mem_cons.mpr ⟨am_kw114, List.forall_mem_cons.mpr ⟨am_kw115, List.forall_mem_cons.mpr ⟨am_kw116, List.forall_mem_cons.mpr ⟨am_kw117, List.forall_mem_cons.mpr ⟨am_kw118, List.forall_mem_cons.mpr ⟨am_kw119, List.forall_mem_cons.mpr ⟨am_kw120, List.forall_mem_cons.mpr ⟨am_kw121, List.forall_mem_cons.mpr ⟨am_kw122, List.forall_mem_cons.mpr ⟨am_kw123, List.forall_mem_cons.mpr ⟨am_kw124, List.forall_mem_cons.mpr ⟨am_kw125, List.forall_mem_cons.mpr ⟨am_kw126, List.forall_mem_cons.mpr ⟨am_kw127, List.forall_mem_cons.mpr ⟨am_kw128, List.forall_mem_cons.mpr ⟨am_kw129, List.forall_mem_cons.mpr ⟨am_kw130, List.forall_mem_cons.mpr ⟨am_kw131, List.forall_mem_cons.mpr ⟨am_kw132, List.forall_mem_cons.mpr ⟨am_kw133, List.forall_mem_cons.mpr ⟨am_kw134, List.forall_mem_cons.mpr ⟨am_kw135, List.forall_mem_cons.mpr ⟨am_kw136, List.forall_mem_cons.mpr ⟨am_kw137, List.forall_mem_cons.mpr ⟨am_kw138, List.forall_mem_cons.mpr ⟨am_kw139, fun _ h => absurd h List.not_mem_nil⟩⟩⟩⟩⟩⟩⟩⟩⟩⟩⟩⟩⟩⟩⟩⟩⟩⟩⟩⟩⟩⟩⟩⟩⟩⟩⟩⟩⟩⟩⟩⟩⟩⟩⟩
theorem am_kq140 : ∀ q ∈ ([140, 141, 142, 143, 144, 145, 146, 147, 148, 149, 150, 151, 152, 153, 154, 155, 156, 157, 158, 159, 160, 161, 162, 163, 164, 165, 166, 167, 168, 169, 170, 171, 172, 173, 174] : List Nat), am_kw q ∈ lw_tbl := List.forall_mem_cons.mpr ⟨am_kw140, List.forall_mem_cons.mpr ⟨am_kw141, List.forall_mem_cons.mpr ⟨am_kw142, List.forall_mem_cons.mpr ⟨am_kw143, List.forall_mem_cons.mpr ⟨am_kw144, List.forall_mem_cons.mpr ⟨am_kw145, List.forall_mem_cons.mpr ⟨am_kw146, List.forall_mem_cons.mpr ⟨am_kw147, List.forall_mem_cons.mpr ⟨am_kw148, List.forall_mem_cons.mpr ⟨am_kw149, List.forall_mem_cons.mpr ⟨am_kw150, List.forall_mem_cons.mpr ⟨am_kw151, List.forall_mem_cons.mpr ⟨am_kw152, List.forall_mem_cons.mpr ⟨am_kw153, List.forall_mem_cons.mpr ⟨am_kw154, List.forall_mem_cons.mpr ⟨am_kw155, List.forall_mem_cons.mpr ⟨am_kw156, List.forall_mem_cons.mpr ⟨am_kw157, List.forall_mem_cons.mpr ⟨am_kw158, List.forall_mem_cons.mpr ⟨am_kw159, List.forall_mem_cons.mpr ⟨am_kw160, List.forall_mem_cons.mpr ⟨am_kw161, List.forall_mem_cons.mpr ⟨am_kw162, List.forall_mem_cons.mpr ⟨am_kw163, List.forall_mem_cons.mpr ⟨am_kw164, List.forall_mem_cons.mpr ⟨am_kw165, List.forall_mem_cons.mpr ⟨am_kw166, List.forall_mem_cons.mpr ⟨am_kw167, List.forall_mem_cons.mpr ⟨am_kw168, List.forall_mem_cons.mpr ⟨am_kw169, List.forall_mem_cons.mpr ⟨am_kw170, List.forall_mem_cons.mpr ⟨am_kw171, List.forall_mem_cons.mpr ⟨am_kw172, List.forall_mem_cons.mpr ⟨am_kw173, List.forall_mem_cons.mpr ⟨am_kw174, fun _ h => absurd h List.not_mem_nil⟩⟩⟩⟩⟩⟩⟩⟩⟩⟩⟩⟩⟩⟩⟩⟩⟩⟩⟩⟩⟩⟩⟩⟩⟩⟩⟩⟩⟩⟩⟩⟩⟩⟩⟩
theorem am_kq175 : ∀ q ∈ ([175, 176, 177, 178, 179, 180, 181, 182, 183, 184, 185, 186, 187, 188, 189, 190, 191, 192, 193, 194, 195, 196, 197, 198, 199, 200, 201, 202, 203, 204, 205, 206, 207, 208, 209] : List Nat), am_kw q ∈ lw_tbl := List.forall_mem_cons.mpr ⟨am_kw175, List.forall_mem_cons.mpr ⟨am_kw176, List.forall_mem_cons.mpr ⟨am_kw177, List.forall_mem_cons.mpr ⟨am_kw178, List.forall_mem_cons.mpr ⟨am_kw179, List.forall_mem_cons.mpr ⟨am_kw180, List.forall_mem_cons.mpr ⟨am_kw181, List.forall_mem_cons.mpr ⟨am_kw182, List.forall_mem_cons.mpr ⟨am_kw183, List.forall_mem_cons.mpr ⟨am_kw184, List.forall_mem_cons.mpr ⟨am_kw185, List.forall_mem_cons.mpr ⟨am_kw186, List.forall_mem_cons.mpr ⟨am_kw187, List.forall_mem_cons.mpr ⟨am_kw188, List.forall_mem_cons.mpr ⟨am_kw189, List.forall_mem_cons.mpr ⟨am_kw190, List.forall_mem_cons.mpr ⟨am_kw191, List.forall_mem_cons.mpr ⟨am_kw192, List.forall_mem_cons.mpr ⟨am_kw193, List.forall_mem_cons.mpr ⟨am_kw194, List.forall_mem_cons.mpr ⟨am_kw195, List.forall_mem_cons.mpr ⟨am_kw196, List.forall_mem_cons.mpr ⟨am_kw197, List.forall_mem_cons.mpr ⟨am_kw198, List.forall_mem_cons.mpr ⟨am_kw199, List.forall_mem_cons.mpr ⟨am_kw200, List.forall_mem_cons.mpr ⟨am_kw201, List.forall_mem_cons.mpr ⟨am_kw202, List.forall_mem_cons.mpr ⟨am_kw203, List.forall_mem_cons.mpr ⟨am_kw204, List.forall_mem_cons.mpr ⟨am_kw205, List.forall_mem_cons.mpr ⟨am_kw206, List.forall_mem_cons.mpr ⟨am_kw207, List.forall_mem_cons.mpr ⟨am_kw208, List.forall_mem_cons.mpr ⟨am_kw209, fun _ h => absurd h List.not_mem_nil⟩⟩⟩⟩⟩⟩⟩⟩⟩⟩⟩⟩⟩⟩⟩⟩⟩⟩⟩⟩⟩⟩⟩⟩⟩⟩⟩⟩⟩⟩⟩⟩⟩⟩⟩
theorem am_kq210 : ∀ q ∈ ([210, 211, 212, 213, 214, 215, 216, 217, 218, 219, 220, 221, 222, 223, 224, 225, 226, 227, 228, 229, 230, 231, 232, 233, 234, 235, 236, 237, 238, 239, 240, 241, 242, 243, 244] : List Nat), am_kw q ∈ lw_tbl := List.forall_mem_cons.mpr ⟨am_kw210, List.forall_mem_cons.mpr ⟨am_kw211, List.forall_mem_cons.mpr ⟨am_kw212, List.forall_mem_cons.mpr ⟨am_kw213, List.forall_mem_cons.mpr ⟨am_kw214, List.forall_mem_cons.mpr ⟨am_kw215, List.forall_mem_cons.mpr ⟨am_kw216, List.forall_mem_cons.mpr ⟨am_kw217, List.forall_mem_cons.mpr ⟨am_kw218, List.forall_mem_cons.mpr ⟨am_kw219, List.forall_mem_cons.mpr ⟨am_kw220, List.forall_mem_cons.mpr ⟨am_kw221, List.forall_mem_cons.mpr ⟨am_kw222, List.forall_mem_cons.mpr ⟨am_kw223, List.forall_mem_cons.mpr ⟨am_kw224, List.forall_mem_cons.mpr ⟨am_kw225, List.forall_mem_cons.mpr ⟨am_kw226, List.forall_mem_cons.mpr ⟨am_kw227, List.forall_mem_cons.mpr ⟨am_kw228, List.forall_mem_cons.mpr ⟨am_kw229, List.forall_mem_cons.mpr ⟨am_kw230, List.forall_mem_cons.mpr ⟨am_kw231, List.forall_mem_cons.mpr ⟨am_kw232, List.forall_mem_cons.mpr ⟨am_kw233, List.forall_mem_cons.mpr ⟨am_kw234, List.forall_mem_cons.mpr ⟨am_kw235, List.forall_mem_cons.mpr ⟨am_kw236, List.forall_mem_cons.mpr ⟨am_kw237, List.forall_mem_cons.mpr ⟨am_kw238, List.forall_mem_cons.mpr ⟨am_kw239, List.forall_mem_cons.mpr ⟨am_kw240, List.forall_mem_cons.mpr ⟨am_kw241, List.forall_mem_cons.mpr ⟨am_kw242, List.forall_mem_cons.mpr ⟨am_kw243, List.forall_mem_cons.mpr ⟨am_kw244, fun _ h => absurd h List.not_mem_nil⟩⟩⟩⟩⟩⟩⟩⟩⟩⟩⟩⟩⟩⟩⟩⟩⟩⟩⟩⟩⟩⟩⟩⟩⟩⟩⟩⟩⟩⟩⟩⟩⟩⟩⟩
theorem am_kq245 : ∀ q ∈ ([245, 246, 247, 248, 249, 250, 251, 252, 253, 254, 255, 256, 257, 258, 259, 260, 261, 262, 263, 264, 265, 266, 267, 268, 269, 270, 271, 272, 273, 274, 275, 276, 277] : List Nat), am_kw q ∈ lw_tbl := List.forall_mem_cons.mpr ⟨am_kw245, List.forall_mem_cons.mpr ⟨am_kw246, List.forall_mem_cons.mpr ⟨am_kw247, List.forall_mem_cons.mpr ⟨am_kw248, List.forall_mem_cons.mpr ⟨am_kw249, List.forall_mem_cons.mpr ⟨am_kw250, List.forall_mem_cons.mpr ⟨am_kw251, List.forall_mem_cons.mpr ⟨am_kw252, List.forall_mem_cons.mpr ⟨am_kw253, List.forall_mem_cons.mpr ⟨am_kw254, List.forall_mem_cons.mpr ⟨am_kw255, List.forall_mem_cons.mpr ⟨am_kw256, List.forall_mem_cons.mpr ⟨am_kw257, List.forall_mem_cons.mpr ⟨am_kw258, List.forall_mem_cons.mpr ⟨am_kw259, List.forall_mem_cons.mpr ⟨am_kw260, List.forall_mem_cons.mpr ⟨am_kw261, List.forall_mem_cons.mpr ⟨am_kw262, List.forall_mem_cons.mpr ⟨am_kw263, List.forall_mem_cons.mpr ⟨am_kw264, List.forall_mem_cons.mpr ⟨am_kw265, List.forall_mem_cons.mpr ⟨am_kw266, List.forall_mem_cons.mpr ⟨am_kw267, List.forall_mem_cons.mpr ⟨am_kw268, List.forall_mem_cons.mpr ⟨am_kw269, List.forall_mem_cons.mpr ⟨am_kw270, List.forall_mem_cons.mpr ⟨am_kw271, List.forall_mem_cons.mpr ⟨am_kw272, List.forall_mem_cons.mpr ⟨am_kw273, List.forall_mem_cons.mpr ⟨am_kw274, List.forall_mem_cons.mpr ⟨am_kw275, List.forall_mem_cons.mpr ⟨am_kw276, List.forall_mem_cons.mpr ⟨am_kw277, fun _ h => absurd h List.not_mem_nil⟩⟩⟩⟩⟩⟩⟩⟩⟩⟩⟩⟩⟩⟩⟩⟩⟩⟩⟩⟩⟩⟩⟩⟩⟩⟩⟩⟩⟩⟩⟩⟩⟩
noncomputable def am_kl : List Nat := ([0, 1, 2, 3, 4, 5, 6, 7, 8, 9, 10, 11, 12, 13, 14, 15, 16, 17, 18, 19, 20, 21, 22, 23, 24, 25, 26, 27, 28, 29, 30, 31, 32, 33, 34] : List Nat) ++ (([35, 36, 37, 38, 39, 40, 41, 42, 43, 44, 45, 46, 47, 48, 49, 50, 51, 52, 53, 54, 55, 56, 57, 58, 59, 60, 61, 62, 63, 64, 65, 66, 67, 68, 69] : List Nat) ++ (([70, 71, 72, 73, 74, 75, 76, 77, 78, 79, 80, 81, 82, 83, 84, 85, 86, 87, 88, 89, 90, 91, 92, 93, 94, 95, 96, 97, 98, 99, 100, 101, 102, 103, 104] : List Nat) ++ (([105, 106, 107, 108, 109, 110, 111, 112, 113, 114, 115, 116, 117, 118, 119, 120, 121, 122, 123, 124, 125, 126, 127, 128, 129, 130, 131, 132, 133, 134, 135, 136, 137, 138, 139] : List Nat) ++ (([140, 141, 142, 143, 144, 145, 146, 147, 148, 149, 150, 151, 152, 153, 154, 155, 156, 157, 158, 159, 160, 161, 162, 163, 164, 165, 166, 167, 168, 169, 170, 171, 172, 173, 174] : List Nat) ++ (([175, 176, 177, 178, 179, 180, 181, 182, 183, 184, 185, 186, 187, 188, 189, 190, 191, 192, 193, 194, 195, 196, 197, 198, 199, 200, 201, 202, 203, 204, 205, 206, 207, 208, 209] : List Nat) ++ (([210, 211, 212, 213, 214, 215, 216, 217, 218, 219, 220, 221, 222, 223, 224, 225, 226, 227, 228, 229, 230, 231, 232, 233, 234, 235, 236, 237, 238, 239, 240, 241, 242, 243, 244] : List Nat) ++ (([245, 246, 247, 248, 249, 250, 251, 252, 253, 254, 255, 256, 257, 258, 259, 260, 261, 262, 263, 264, 265, 266, 267, 268, 269, 270, 271, 272, 273, 274, 275, 276, 277] : List Nat))))))))
theorem am_klA : ∀ q ∈ am_kl, am_kw q ∈ lw_tbl := by
  unfold am_kl
  exact List.forall_mem_append.mpr ⟨am_kq0, List.forall_mem_append.mpr ⟨am_kq35, List.forall_mem_append.mpr ⟨am_kq70, List.forall_mem_append.mpr ⟨am_kq105, List.forall_mem_append.mpr ⟨am_kq140, List.forall_mem_append.mpr ⟨am_kq175, List.forall_mem_append.mpr ⟨am_kq210, am_kq245⟩⟩⟩⟩⟩⟩⟩
theorem am_kl_e : am_kl = List.range 278 := by decide +kernel
theorem am_kwA (k : Nat) (h : k < 278) : am_kw k ∈ lw_tbl := am_klA k (by rw [am_kl_e]; exact List.mem_range.mpr h)
noncomputable abbrev am_kn : Nat := 278
/-- word j of the table -/
noncomputable def am_tw (j : Nat) : Option Cond := if j < 79 then (k2_sels lw_privs)[j]? else (am_tc.getD ((j - 79) / 240) [])[(j - 79) % 240]?
theorem am_tw_e {j : Nat} {w : Cond} (h : am_tw j = some w) : w ∈ lw_tbl := by
  unfold am_tw at h
  split at h
  · exact List.mem_append_left _ (List.mem_of_getElem? h)
  · refine List.mem_append_right _ ?_
    rw [List.getD_eq_getElem?_getD] at h
    cases hc : am_tc[(j - 79) / 240]? with
    | none => rw [hc] at h; simp at h
    | some l =>
      rw [hc] at h
      exact am_tc_e l (List.mem_of_getElem? hc) w (List.mem_of_getElem? h)
theorem am_ac_int : Cond.arrayClass .int ∈ lw_g := List.mem_filter.mpr ⟨am_tw_e (j := 130) (by decide +kernel), rfl⟩
theorem am_ac_long : Cond.arrayClass .long ∈ lw_g := List.mem_filter.mpr ⟨am_tw_e (j := 259) (by decide +kernel), rfl⟩
end
