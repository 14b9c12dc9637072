noncomputable abbrev am_H : Type := MethodName × ByteArray × Nat × Option FieldType × Nat × Nat
noncomputable def am_h0 : List am_H := [(yX0_init, cX0_init, 3, none, 1, 26),
  (yX0_pairsIn, cX0_pairsIn, 4, (some .long), 1, 0),
  (yX0_pairsEndingAt, cX0_pairsEndingAt, 4, (some .long), 4, 76),
  (yX0_pairsMeeting, cX0_pairsMeeting, 4, (some .long), 4, 76),
  (yX0_duesOf, cX0_duesOf, 6, (some .long), 6, 115),
  (yX0_duesNow, cX0_duesNow, 5, (some .long), 5, 91),
  (yX0_begin, cX0_begin, 1, none, 2, 24),
  (yX0_pairsAt, cX0_pairsAt, 2, (some .long), 1, 0),
  (yX0_goOn, cX0_goOn, 6, none, 3, 51),
  (yX0_bring, cX0_bring, 4, none, 1, 0),
  (yX0_pairsThatMove, cX0_pairsThatMove, 7, (some .int), 2, 25),
  (yX1_init, cX1_init, 1, none, 1, 26),
  (yX1_isTaxDay, cX1_isTaxDay, 1, (some .boolean), 1, 0),
  (yX1_begin, cX1_begin, 4, none, 1, 0),
  (yX1_carry, cX1_carry, 2, none, 1, 26),
  (yX1_rateOf, cX1_rateOf, 2, (some .int), 1, 0),
  (yX1_setRate, cX1_setRate, 3, none, 1, 0),
  (yX1_pass, cX1_pass, 4, none, 5, 92),
  (yX1_collect, cX1_collect, 5, none, 4, 68),
  (yX1_slotOf, cX1_slotOf, 3, (some .int), 1, 0),
  (yX1_goBackTo, cX1_goBackTo, 2, none, 2, 21),
  (yX1_borderAhead, cX1_borderAhead, 2, (some .int), 1, 0),
  (yX1_paidBy, cX1_paidBy, 6, (some .int), 2, 22),
  (yX1_changesOf, cX1_changesOf, 5, (some .int), 2, 21),
  (yX1_dueOfBoth, cX1_dueOfBoth, 4, (some .int), 4, 68),
  (yX1_dueToCrown, cX1_dueToCrown, 6, (some .int), 4, 68),
  (yX1_retrace, cX1_retrace, 5, none, 3, 53),
  (yX2_init, cX2_init, 1, none, 1, 26),
  (yX2_clear, cX2_clear, 1, none, 1, 0),
  (yX2_hasRoom, cX2_hasRoom, 1, (some .boolean), 1, 0),
  (yX2_add, cX2_add, 3, none, 2, 20),
  (yX2_takeFrom, cX2_takeFrom, 2, none, 1, 26),
  (yX2_setKind, cX2_setKind, 3, none, 2, 21),
  (yX2_has, cX2_has, 2, (some .boolean), 1, 0),
  (yX2_isPlace, cX2_isPlace, 2, (some .boolean), 1, 0),
  (yX2_kindOf, cX2_kindOf, 2, (some .int), 2, 21),
  (yX2_dueOf, cX2_dueOf, 2, (some .int), 2, 21),
  (yX2_isOf, cX2_isOf, 4, (some .boolean), 3, 42),
  (yX2_howManyAre, cX2_howManyAre, 4, (some .int), 4, 65),
  (yX2_crownOf, cX2_crownOf, 2, (some .int), 1, 0)]
noncomputable def am_h1 : List am_H := [(yX2_touches, cX2_touches, 2, (some .boolean), 1, 0),
  (yX2_rudeness, cX2_rudeness, 6, (some .int), 1, 0),
  (yX2_borderAfter, cX2_borderAfter, 8, (some .int), 2, 26),
  (yX2_dueTo, cX2_dueTo, 7, (some .int), 3, 42),
  (yX3_init, cX3_init, 3, none, 2, 46),
  (yX3_areBooks, cX3_areBooks, 5, (some .boolean), 3, 43),
  (yX3_startsThatFit, cX3_startsThatFit, 5, (some .int), 4, 77),
  (yX3_fits, cX3_fits, 5, (some .boolean), 3, 43),
  (yX3_trailAt, cX3_trailAt, 2, (some .int), 1, 0),
  (yX3_kindsThatFit, cX3_kindsThatFit, 4, (some .int), 4, 77),
  (yX4_init, cX4_init, 3, none, 1, 26),
  (yX4_firstThatCannotBe, cX4_firstThatCannotBe, 7, (some .int), 3, 43),
  (yX4_borderBehind, cX4_borderBehind, 6, (some .int), 3, 43),
  (yX4_rudenessOf, cX4_rudenessOf, 7, (some .int), 3, 43),
  (yX4_tollsOf, cX4_tollsOf, 6, (some .int), 3, 43),
  (yX4_tollNothing, cX4_tollNothing, 1, none, 2, 23),
  (yX4_tollOfStrip, cX4_tollOfStrip, 3, none, 5, 91),
  (yX4_tollLostBy, cX4_tollLostBy, 3, none, 5, 93),
  (yX4_tollAt, cX4_tollAt, 3, (some .int), 2, 20),
  (yX4_solve, cX4_solve, 6, none, 5, 92),
  (yX4_leastCost, cX4_leastCost, 5, (some .int), 4, 68),
  (yX4_costBy, cX4_costBy, 7, (some .int), 3, 42),
  (yX4_costFrom, cX4_costFrom, 3, (some .int), 1, 0),
  (yX4_setCost, cX4_setCost, 4, none, 1, 0),
  (yX4_firstMove, cX4_firstMove, 5, (some .int), 4, 68),
  (yX4_fewestDaysTo, cX4_fewestDaysTo, 4, (some .int), 4, 73),
  (yX4_reachIn, cX4_reachIn, 4, (some .int), 4, 73),
  (yX4_spread, cX4_spread, 5, (some .int), 3, 49),
  (yX4_placesBehind, cX4_placesBehind, 5, (some .int), 2, 25),
  (yX4_waysTo, cX4_waysTo, 5, (some .long), 4, 73),
  (yX4_passOn, cX4_passOn, 5, none, 3, 49),
  (yX4_isSlot, cX4_isSlot, 1, (some .boolean), 1, 0),
  (yX5_init, cX5_init, 2, none, 2, 46),
  (yX5_read, cX5_read, 3, (some .int), 6, 109),
  (yX5_skipBlanks, cX5_skipBlanks, 2, none, 4, 63),
  (yX5_sign, cX5_sign, 1, (some .int), 3, 43),
  (yX5_readStrip, cX5_readStrip, 3, (some .boolean), 5, 87),
  (yX5_readEnd, cX5_readEnd, 1, (some .boolean), 5, 87),
  (yX5_readFigure, cX5_readFigure, 5, (some .int), 4, 63),
  (yX5_kindOfSign, cX5_kindOfSign, 1, (some .int), 1, 0)]
noncomputable def am_h2 : List am_H := [(yX6_init, cX6_init, 4, none, 2, 26),
  (yX6_isNumber, cX6_isNumber, 2, (some .boolean), 1, 0),
  (yX6_isThere, cX6_isThere, 2, (some .boolean), 2, 21),
  (yX6_sizeOf, cX6_sizeOf, 2, (some .int), 1, 0),
  (yX6_hasPlace, cX6_hasPlace, 3, (some .boolean), 2, 21),
  (yX6_holds, cX6_holds, 4, (some .boolean), 2, 21),
  (yX6_make, cX6_make, 4, none, 2, 21),
  (yX6_remove, cX6_remove, 2, none, 2, 21),
  (yX6_get, cX6_get, 3, (some .int), 2, 21),
  (yX6_set, cX6_set, 4, none, 3, 43),
  (yX6_bring, cX6_bring, 6, none, 3, 44),
  (yX6_sum, cX6_sum, 5, (some .long), 3, 43),
  (yX6_isAllWithin, cX6_isAllWithin, 6, (some .boolean), 3, 43),
  (yX6_howMany, cX6_howMany, 3, (some .int), 3, 42),
  (yX6_digestOnto, cX6_digestOnto, 5, (some .long), 3, 43),
  (yX7_init, cX7_init, 3, none, 1, 26),
  (yX7_solve, cX7_solve, 5, none, 6, 131),
  (yX7_choose, cX7_choose, 7, none, 5, 105),
  (yX7_bestReply, cX7_bestReply, 8, (some .int), 4, 78),
  (yX7_worthOfBoth, cX7_worthOfBoth, 6, (some .int), 3, 53),
  (yX7_note, cX7_note, 5, none, 2, 21),
  (yX7_worthOf, cX7_worthOf, 3, (some .int), 2, 21),
  (yX7_bestSaying, cX7_bestSaying, 3, (some .int), 2, 21),
  (yX7_isSlot, cX7_isSlot, 2, (some .boolean), 1, 0),
  (yX7_isCalm, cX7_isCalm, 3, (some .boolean), 5, 105),
  (yX8_init, cX8_init, 2, none, 3, 68),
  (yX8_row, cX8_row, 3, (some .int), 3, 44),
  (yX8_lay, cX8_lay, 6, (some .int), 4, 66),
  (yX8_at, cX8_at, 4, (some .int), 4, 65),
  (yX8_tear, cX8_tear, 2, (some .int), 3, 42),
  (yX8_copy, cX8_copy, 6, (some .int), 4, 69),
  (yX8_mean, cX8_mean, 3, (some .int), 4, 67),
  (yX8_text, cX8_text, 3, (some .int), 3, 44),
  (yX8_put, cX8_put, 6, (some .int), 4, 66),
  (yX8_fault, cX8_fault, 2, (some .int), 7, 131),
  (yX8_land, cX8_land, 2, (some .int), 7, 131),
  (yX8_strip, cX8_strip, 3, (some .int), 4, 69),
  (yX8_mark, cX8_mark, 3, (some .int), 5, 91),
  (yX8_rate, cX8_rate, 4, (some .int), 2, 22),
  (yX8_day, cX8_day, 3, (some .int), 6, 115)]
noncomputable def am_h3 : List am_H := [(yX8_undo, cX8_undo, 3, (some .int), 3, 42),
  (yX8_border, cX8_border, 1, (some .int), 2, 21),
  (yX8_lain, cX8_lain, 2, (some .int), 2, 21),
  (yX8_got, cX8_got, 4, (some .int), 3, 47),
  (yX8_keep, cX8_keep, 2, (some .int), 2, 47),
  (yX8_on, cX8_on, 2, (some .int), 2, 47),
  (yX8_moves, cX8_moves, 3, (some .int), 2, 25),
  (yX8_judge, cX8_judge, 3, (some .int), 4, 69),
  (yX8_rude, cX8_rude, 2, (some .int), 5, 90),
  (yX8_pays, cX8_pays, 3, (some .int), 6, 113),
  (yX8_soonest, cX8_soonest, 4, (some .int), 6, 117),
  (yX8_polite, cX8_polite, 5, (some .int), 6, 117),
  (yX8_ways, cX8_ways, 3, (some .int), 5, 97),
  (yX8_reach, cX8_reach, 2, (some .int), 5, 96),
  (yX8_least, cX8_least, 4, (some .int), 6, 117),
  (yX8_most, cX8_most, 3, (some .int), 6, 117),
  (yX8_now, cX8_now, 1, (some .int), 5, 93),
  (yX8_odds, cX8_odds, 3, (some .int), 5, 99),
  (yX8_met, cX8_met, 3, (some .int), 5, 99),
  (yX8_hedge, cX8_hedge, 3, (some .int), 7, 140),
  (yX8_game, cX8_game, 3, (some .int), 7, 155),
  (yX8_said, cX8_said, 3, (some .int), 7, 155),
  (yX8_calm, cX8_calm, 3, (some .int), 7, 155),
  (yX8_law, cX8_law, 4, (some .int), 4, 65),
  (yX8_books, cX8_books, 2, (some .int), 5, 101),
  (yX8_kinds, cX8_kinds, 2, (some .int), 5, 100),
  (yX8_lots, cX8_lots, 6, (some .int), 6, 115),
  (yX8_asked, cX8_asked, 1, (some .int), 1, 0),
  (yX8_upper, cX8_upper, 1, (some .long), 1, 0),
  (yX8_lower, cX8_lower, 1, (some .long), 1, 0),
  (yX8_count, cX8_count, 2, (some .int), 5, 88),
  (yX8_finding, cX8_finding, 1, (some .int), 1, 0),
  (yX8_findings, cX8_findings, 2, (some .int), 1, 0),
  (yX8_digest, cX8_digest, 5, (some .long), 6, 109),
  (yX8_find, cX8_find, 2, (some .int), 1, 0),
  (yX8_tell, cX8_tell, 2, (some .int), 1, 0),
  (yX8_tellChance, cX8_tellChance, 5, (some .int), 1, 0),
  (yX8_lackingPlace, cX8_lackingPlace, 3, (some .int), 3, 43),
  (yX8_hasNoLand, cX8_hasNoLand, 1, (some .boolean), 1, 0),
  (yX8_isCrown, cX8_isCrown, 1, (some .boolean), 1, 0)]
noncomputable def am_h4 : List am_H := [(yX8_isPlanLength, cX8_isPlanLength, 1, (some .boolean), 1, 0),
  (yX8_isChanceLength, cX8_isChanceLength, 1, (some .boolean), 1, 0),
  (yX8_isGame, cX8_isGame, 2, (some .boolean), 1, 0),
  (yX8_canGo, cX8_canGo, 2, (some .boolean), 4, 69),
  (yX8_layPlan, cX8_layPlan, 6, none, 5, 92),
  (yX8_stripFact, cX8_stripFact, 3, (some .int), 3, 47),
  (yX8_keptLands, cX8_keptLands, 3, (some .int), 1, 0),
  (yX9_init, cX9_init, 2, none, 1, 26),
  (yX9_in, cX9_in, 6, (some .boolean), 1, 0),
  (yX9_has, cX9_has, 2, (some .boolean), 1, 0),
  (yX9_find, cX9_find, 2, (some .int), 1, 0),
  (yX9_tell, cX9_tell, 2, (some .int), 1, 0),
  (yX9_isRow, cX9_isRow, 1, (some .boolean), 2, 25),
  (yX9_isText, cX9_isText, 1, (some .boolean), 2, 25),
  (yX9_row, cX9_row, 3, (some .int), 3, 45),
  (yX9_makeRow, cX9_makeRow, 4, none, 1, 0),
  (yX9_refused, cX9_refused, 3, (some .int), 3, 45),
  (yX9_lay, cX9_lay, 6, (some .int), 4, 67),
  (yX9_at, cX9_at, 4, (some .int), 4, 67),
  (yX9_tear, cX9_tear, 2, (some .int), 3, 45),
  (yX9_isSpan, cX9_isSpan, 4, (some .boolean), 1, 0),
  (yX9_copy, cX9_copy, 9, (some .int), 3, 45),
  (yX9_mean, cX9_mean, 5, (some .int), 3, 45),
  (yX9_text, cX9_text, 4, (some .int), 3, 45),
  (yX9_put, cX9_put, 5, (some .int), 3, 45),
  (yX9_here, cX9_here, 1, (some .int), 1, 0),
  (yX9_skip, cX9_skip, 1, none, 2, 20),
  (yX9_figure, cX9_figure, 3, (some .int), 2, 25),
  (yX9_kindHere, cX9_kindHere, 2, (some .int), 2, 20),
  (yX9_readsStrip, cX9_readsStrip, 3, (some .boolean), 3, 47),
  (yX9_readsEnd, cX9_readsEnd, 2, (some .boolean), 3, 47),
  (yX9_faultOf, cX9_faultOf, 3, (some .int), 4, 69),
  (yX9_fault, cX9_fault, 2, (some .int), 5, 91),
  (yX9_land, cX9_land, 3, (some .int), 5, 91),
  (yX9_isStrip, cX9_isStrip, 2, (some .boolean), 2, 25),
  (yX9_isWall, cX9_isWall, 1, (some .boolean), 1, 0),
  (yX9_behind, cX9_behind, 7, (some .int), 3, 46),
  (yX9_isAt, cX9_isAt, 2, (some .boolean), 1, 0),
  (yX9_paysTo, cX9_paysTo, 7, (some .int), 2, 21),
  (yX9_isTaxed, cX9_isTaxed, 1, (some .boolean), 1, 0)]
noncomputable def am_h5 : List am_H := [(yX9_goOn, cX9_goOn, 8, none, 4, 72),
  (yX9_strip, cX9_strip, 3, (some .int), 3, 46),
  (yX9_toldOf, cX9_toldOf, 3, (some .int), 1, 0),
  (yX9_isOf, cX9_isOf, 3, (some .boolean), 1, 0),
  (yX9_paysNow, cX9_paysNow, 2, (some .int), 3, 47),
  (yX9_mark, cX9_mark, 3, (some .int), 4, 68),
  (yX9_rate, cX9_rate, 4, (some .int), 2, 25),
  (yX9_isSaid, cX9_isSaid, 1, (some .boolean), 2, 25),
  (yX9_day, cX9_day, 3, (some .int), 5, 99),
  (yX9_copyLand, cX9_copyLand, 4, none, 1, 0),
  (yX9_layAhead, cX9_layAhead, 3, none, 5, 99),
  (yX9_undo, cX9_undo, 3, (some .int), 6, 121),
  (yX9_border, cX9_border, 1, (some .int), 1, 0),
  (yX9_lain, cX9_lain, 2, (some .int), 6, 121),
  (yX9_got, cX9_got, 4, (some .int), 2, 25),
  (yX9_keep, cX9_keep, 2, (some .int), 2, 25),
  (yX9_on, cX9_on, 2, (some .int), 2, 25),
  (yX9_isPlace, cX9_isPlace, 2, (some .boolean), 2, 25),
  (yX9_rudeness, cX9_rudeness, 5, (some .int), 4, 72),
  (yX9_canBe, cX9_canBe, 4, (some .boolean), 5, 96),
  (yX9_moves, cX9_moves, 3, (some .int), 6, 119),
  (yX9_areMoves, cX9_areMoves, 4, (some .boolean), 2, 25),
  (yX9_goAlong, cX9_goAlong, 5, (some .int), 5, 96),
  (yX9_judge, cX9_judge, 3, (some .int), 6, 120),
  (yX9_rude, cX9_rude, 2, (some .int), 6, 120),
  (yX9_paysOn, cX9_paysOn, 4, (some .int), 3, 47),
  (yX9_pays, cX9_pays, 6, (some .int), 6, 120),
  (yX9_costOf, cX9_costOf, 6, (some .int), 5, 96),
  (yX9_valueBy, cX9_valueBy, 6, (some .int), 6, 121),
  (yX9_layValues, cX9_layValues, 8, none, 7, 146),
  (yX9_toRow, cX9_toRow, 6, none, 7, 146),
  (yX9_soonest, cX9_soonest, 4, (some .int), 7, 146),
  (yX9_reachIn, cX9_reachIn, 7, (some .int), 6, 119),
  (yX9_layWays, cX9_layWays, 8, none, 6, 119),
  (yX9_firstRow, cX9_firstRow, 6, none, 6, 119),
  (yX9_polite, cX9_polite, 5, (some .int), 8, 173),
  (yX9_tellParts, cX9_tellParts, 11, (some .int), 1, 0),
  (yX9_ways, cX9_ways, 3, (some .int), 7, 146),
  (yX9_reach, cX9_reach, 2, (some .int), 7, 145),
  (yX9_least, cX9_least, 4, (some .int), 8, 173)]
noncomputable def am_h6 : List am_H := [(yX9_most, cX9_most, 3, (some .int), 8, 173),
  (yX9_now, cX9_now, 3, (some .int), 3, 47),
  (yX9_layChances, cX9_layChances, 9, none, 4, 72),
  (yX9_sixteen, cX9_sixteen, 1, (some .long), 1, 0),
  (yX9_odds, cX9_odds, 3, (some .int), 5, 100),
  (yX9_met, cX9_met, 3, (some .int), 5, 100),
  (yX9_hedge, cX9_hedge, 3, (some .int), 5, 100),
  (yX9_gameBy, cX9_gameBy, 6, (some .int), 4, 72),
  (yX9_answerTo, cX9_answerTo, 6, (some .int), 5, 97),
  (yX9_valueOf, cX9_valueOf, 4, (some .int), 6, 122),
  (yX9_firstTo, cX9_firstTo, 5, (some .int), 7, 145),
  (yX9_layGames, cX9_layGames, 5, none, 8, 169),
  (yX9_isGame, cX9_isGame, 3, (some .boolean), 2, 25),
  (yX9_game, cX9_game, 3, (some .int), 9, 193),
  (yX9_said, cX9_said, 3, (some .int), 9, 193),
  (yX9_calm, cX9_calm, 5, (some .int), 9, 193),
  (yX9_law, cX9_law, 4, (some .int), 7, 142),
  (yX9_broughtTo, cX9_broughtTo, 5, (some .int), 4, 72),
  (yX9_areBooks, cX9_areBooks, 4, (some .boolean), 3, 46),
  (yX9_books, cX9_books, 7, (some .int), 5, 96),
  (yX9_kinds, cX9_kinds, 5, (some .int), 5, 96),
  (yX9_lots, cX9_lots, 6, (some .int), 5, 99),
  (yX9_asked, cX9_asked, 1, (some .int), 1, 0),
  (yX9_upper, cX9_upper, 1, (some .long), 1, 0),
  (yX9_lower, cX9_lower, 1, (some .long), 1, 0),
  (yX9_kindMany, cX9_kindMany, 4, (some .int), 2, 22),
  (yX9_thereOf, cX9_thereOf, 4, (some .int), 1, 0),
  (yX9_countOf, cX9_countOf, 2, (some .int), 3, 45),
  (yX9_count, cX9_count, 2, (some .int), 4, 66),
  (yX9_finding, cX9_finding, 1, (some .int), 1, 0),
  (yX9_findings, cX9_findings, 2, (some .int), 2, 25),
  (yX9_digest, cX9_digest, 5, (some .long), 4, 66),
  (yJ6_compare_7cf53, cJ6_compare_7cf53, 2, (some .int), 1, 0),
  (yJ9_abs_0f7a4, cJ9_abs_0f7a4, 1, (some .int), 1, 0),
  (yJ9_max_7cf53, cJ9_max_7cf53, 2, (some .int), 1, 0),
  (yJ9_min_7cf53, cJ9_min_7cf53, 2, (some .int), 1, 0),
  (yJ7_fill_d0a16, cJ7_fill_d0a16, 5, none, 1, 0),
  (yJ7_fill_53178, cJ7_fill_53178, 4, none, 1, 0),
  (yL_law, cL_law, 4, (some .boolean), 10, 217)]
noncomputable def am_hc : List (List am_H) := [am_h0, am_h1, am_h2, am_h3, am_h4, am_h5, am_h6]
noncomputable def am_h (k : Nat) : am_H := (am_hc.getD (k / 40) []).getD (k % 40) (yL_law, cL_law, 4, none, 0, 0)
noncomputable def am_y (k : Nat) : MethodName := (am_h k).1
noncomputable def am_cc (k : Nat) : ByteArray := (am_h k).2.1
noncomputable def am_ml (k : Nat) : Nat := (am_h k).2.2.1
noncomputable def am_rt (k : Nat) : Option FieldType := (am_h k).2.2.2.1
noncomputable def am_fr (k : Nat) : Nat := (am_h k).2.2.2.2.1
noncomputable def am_lc (k : Nat) : Nat := (am_h k).2.2.2.2.2
noncomputable def am_kw (k : Nat) : Cond := .code (am_y k) (am_cc k) (am_ml k) (am_rt k)
noncomputable def am_tc : List (List Cond) := [tables_1_1, tables_1_2, tables_1_3, tables_1_4, tables_1_5, tables_1_6, tables_1_7]
theorem am_tc_e : ∀ l ∈ am_tc, ∀ w ∈ l, w ∈ tables_1 := by
  intro l hl w hw
  simp only [am_tc, List.mem_cons, List.not_mem_nil, or_false] at hl
  unfold tables_1
  simp only [List.mem_append]
  rcases hl with rfl | rfl | rfl | rfl | rfl | rfl | rfl <;> simp only [hw, true_or, or_true]
theorem am_in1 {w : Cond} (h : w ∈ tables_1_1) : w ∈ lw_tbl := List.mem_append_right _ (am_tc_e _ (List.mem_of_getElem? (i := 0) rfl) _ h)
theorem am_in2 {w : Cond} (h : w ∈ tables_1_2) : w ∈ lw_tbl := List.mem_append_right _ (am_tc_e _ (List.mem_of_getElem? (i := 1) rfl) _ h)
theorem am_in3 {w : Cond} (h : w ∈ tables_1_3) : w ∈ lw_tbl := List.mem_append_right _ (am_tc_e _ (List.mem_of_getElem? (i := 2) rfl) _ h)
theorem am_in4 {w : Cond} (h : w ∈ tables_1_4) : w ∈ lw_tbl := List.mem_append_right _ (am_tc_e _ (List.mem_of_getElem? (i := 3) rfl) _ h)
theorem am_in5 {w : Cond} (h : w ∈ tables_1_5) : w ∈ lw_tbl := List.mem_append_right _ (am_tc_e _ (List.mem_of_getElem? (i := 4) rfl) _ h)
theorem am_in6 {w : Cond} (h : w ∈ tables_1_6) : w ∈ lw_tbl := List.mem_append_right _ (am_tc_e _ (List.mem_of_getElem? (i := 5) rfl) _ h)
theorem am_in7 {w : Cond} (h : w ∈ tables_1_7) : w ∈ lw_tbl := List.mem_append_right _ (am_tc_e _ (List.mem_of_getElem? (i := 6) rfl) _ h)
theorem am_kw0 : am_kw 0 ∈ lw_tbl := am_in1 (List.mem_of_getElem? (i := 185) rfl)
theorem am_kw1 : am_kw 1 ∈ lw_tbl := am_in4 (List.mem_of_getElem? (i := 80) rfl)
theorem am_kw2 : am_kw 2 ∈ lw_tbl := am_in4 (List.mem_of_getElem? (i := 54) rfl)
theorem am_kw3 : am_kw 3 ∈ lw_tbl := am_in4 (List.mem_of_getElem? (i := 89) rfl)
theorem am_kw4 : am_kw 4 ∈ lw_tbl := am_in4 (List.mem_of_getElem? (i := 97) rfl)
theorem am_kw5 : am_kw 5 ∈ lw_tbl := am_in4 (List.mem_of_getElem? (i := 102) rfl)
theorem am_kw6 : am_kw 6 ∈ lw_tbl := am_in4 (List.mem_of_getElem? (i := 58) rfl)
theorem am_kw7 : am_kw 7 ∈ lw_tbl := am_in4 (List.mem_of_getElem? (i := 72) rfl)
theorem am_kw8 : am_kw 8 ∈ lw_tbl := am_in4 (List.mem_of_getElem? (i := 63) rfl)
theorem am_kw9 : am_kw 9 ∈ lw_tbl := am_in4 (List.mem_of_getElem? (i := 76) rfl)
theorem am_kw10 : am_kw 10 ∈ lw_tbl := am_in4 (List.mem_of_getElem? (i := 67) rfl)
theorem am_kw11 : am_kw 11 ∈ lw_tbl := am_in1 (List.mem_of_getElem? (i := 113) rfl)
theorem am_kw12 : am_kw 12 ∈ lw_tbl := am_in3 (List.mem_of_getElem? (i := 72) rfl)
theorem am_kw13 : am_kw 13 ∈ lw_tbl := am_in2 (List.mem_of_getElem? (i := 205) rfl)
theorem am_kw14 : am_kw 14 ∈ lw_tbl := am_in3 (List.mem_of_getElem? (i := 105) rfl)
theorem am_kw15 : am_kw 15 ∈ lw_tbl := am_in3 (List.mem_of_getElem? (i := 43) rfl)
theorem am_kw16 : am_kw 16 ∈ lw_tbl := am_in3 (List.mem_of_getElem? (i := 47) rfl)
theorem am_kw17 : am_kw 17 ∈ lw_tbl := am_in3 (List.mem_of_getElem? (i := 55) rfl)
theorem am_kw18 : am_kw 18 ∈ lw_tbl := am_in3 (List.mem_of_getElem? (i := 76) rfl)
theorem am_kw19 : am_kw 19 ∈ lw_tbl := am_in2 (List.mem_of_getElem? (i := 236) rfl)
theorem am_kw20 : am_kw 20 ∈ lw_tbl := am_in3 (List.mem_of_getElem? (i := 85) rfl)
theorem am_kw21 : am_kw 21 ∈ lw_tbl := am_in3 (List.mem_of_getElem? (i := 4) rfl)
theorem am_kw22 : am_kw 22 ∈ lw_tbl := am_in2 (List.mem_of_getElem? (i := 233) rfl)
theorem am_kw23 : am_kw 23 ∈ lw_tbl := am_in3 (List.mem_of_getElem? (i := 0) rfl)
theorem am_kw24 : am_kw 24 ∈ lw_tbl := am_in3 (List.mem_of_getElem? (i := 21) rfl)
theorem am_kw25 : am_kw 25 ∈ lw_tbl := am_in4 (List.mem_of_getElem? (i := 38) rfl)
theorem am_kw26 : am_kw 26 ∈ lw_tbl := am_in4 (List.mem_of_getElem? (i := 180) rfl)
theorem am_kw27 : am_kw 27 ∈ lw_tbl := am_in1 (List.mem_of_getElem? (i := 62) rfl)
theorem am_kw28 : am_kw 28 ∈ lw_tbl := am_in2 (List.mem_of_getElem? (i := 158) rfl)
theorem am_kw29 : am_kw 29 ∈ lw_tbl := am_in2 (List.mem_of_getElem? (i := 187) rfl)
theorem am_kw30 : am_kw 30 ∈ lw_tbl := am_in2 (List.mem_of_getElem? (i := 191) rfl)
theorem am_kw31 : am_kw 31 ∈ lw_tbl := am_in2 (List.mem_of_getElem? (i := 200) rfl)
theorem am_kw32 : am_kw 32 ∈ lw_tbl := am_in4 (List.mem_of_getElem? (i := 202) rfl)
theorem am_kw33 : am_kw 33 ∈ lw_tbl := am_in2 (List.mem_of_getElem? (i := 213) rfl)
theorem am_kw34 : am_kw 34 ∈ lw_tbl := am_in3 (List.mem_of_getElem? (i := 172) rfl)
theorem am_kw35 : am_kw 35 ∈ lw_tbl := am_in2 (List.mem_of_getElem? (i := 221) rfl)
theorem am_kw36 : am_kw 36 ∈ lw_tbl := am_in2 (List.mem_of_getElem? (i := 226) rfl)
theorem am_kw37 : am_kw 37 ∈ lw_tbl := am_in3 (List.mem_of_getElem? (i := 13) rfl)
theorem am_kw38 : am_kw 38 ∈ lw_tbl := am_in4 (List.mem_of_getElem? (i := 231) rfl)
theorem am_kw39 : am_kw 39 ∈ lw_tbl := am_in2 (List.mem_of_getElem? (i := 229) rfl)
theorem am_kw40 : am_kw 40 ∈ lw_tbl := am_in3 (List.mem_of_getElem? (i := 17) rfl)
theorem am_kw41 : am_kw 41 ∈ lw_tbl := am_in3 (List.mem_of_getElem? (i := 66) rfl)
theorem am_kw42 : am_kw 42 ∈ lw_tbl := am_in3 (List.mem_of_getElem? (i := 59) rfl)
theorem am_kw43 : am_kw 43 ∈ lw_tbl := am_in3 (List.mem_of_getElem? (i := 25) rfl)
theorem am_kw44 : am_kw 44 ∈ lw_tbl := am_in1 (List.mem_of_getElem? (i := 226) rfl)
theorem am_kw45 : am_kw 45 ∈ lw_tbl := am_in4 (List.mem_of_getElem? (i := 168) rfl)
theorem am_kw46 : am_kw 46 ∈ lw_tbl := am_in4 (List.mem_of_getElem? (i := 176) rfl)
theorem am_kw47 : am_kw 47 ∈ lw_tbl := am_in4 (List.mem_of_getElem? (i := 184) rfl)
theorem am_kw48 : am_kw 48 ∈ lw_tbl := am_in4 (List.mem_of_getElem? (i := 188) rfl)
theorem am_kw49 : am_kw 49 ∈ lw_tbl := am_in4 (List.mem_of_getElem? (i := 197) rfl)
theorem am_kw50 : am_kw 50 ∈ lw_tbl := am_in1 (List.mem_of_getElem? (i := 156) rfl)
theorem am_kw51 : am_kw 51 ∈ lw_tbl := am_in3 (List.mem_of_getElem? (i := 127) rfl)
theorem am_kw52 : am_kw 52 ∈ lw_tbl := am_in3 (List.mem_of_getElem? (i := 134) rfl)
theorem am_kw53 : am_kw 53 ∈ lw_tbl := am_in3 (List.mem_of_getElem? (i := 146) rfl)
theorem am_kw54 : am_kw 54 ∈ lw_tbl := am_in3 (List.mem_of_getElem? (i := 159) rfl)
theorem am_kw55 : am_kw 55 ∈ lw_tbl := am_in3 (List.mem_of_getElem? (i := 188) rfl)
theorem am_kw56 : am_kw 56 ∈ lw_tbl := am_in3 (List.mem_of_getElem? (i := 154) rfl)
theorem am_kw57 : am_kw 57 ∈ lw_tbl := am_in4 (List.mem_of_getElem? (i := 34) rfl)
theorem am_kw58 : am_kw 58 ∈ lw_tbl := am_in3 (List.mem_of_getElem? (i := 163) rfl)
theorem am_kw59 : am_kw 59 ∈ lw_tbl := am_in3 (List.mem_of_getElem? (i := 193) rfl)
theorem am_kw60 : am_kw 60 ∈ lw_tbl := am_in3 (List.mem_of_getElem? (i := 202) rfl)
theorem am_kw61 : am_kw 61 ∈ lw_tbl := am_in3 (List.mem_of_getElem? (i := 206) rfl)
theorem am_kw62 : am_kw 62 ∈ lw_tbl := am_in3 (List.mem_of_getElem? (i := 210) rfl)
theorem am_kw63 : am_kw 63 ∈ lw_tbl := am_in3 (List.mem_of_getElem? (i := 198) rfl)
theorem am_kw64 : am_kw 64 ∈ lw_tbl := am_in3 (List.mem_of_getElem? (i := 221) rfl)
theorem am_kw65 : am_kw 65 ∈ lw_tbl := am_in3 (List.mem_of_getElem? (i := 176) rfl)
theorem am_kw66 : am_kw 66 ∈ lw_tbl := am_in4 (List.mem_of_getElem? (i := 22) rfl)
theorem am_kw67 : am_kw 67 ∈ lw_tbl := am_in3 (List.mem_of_getElem? (i := 180) rfl)
theorem am_kw68 : am_kw 68 ∈ lw_tbl := am_in3 (List.mem_of_getElem? (i := 184) rfl)
theorem am_kw69 : am_kw 69 ∈ lw_tbl := am_in3 (List.mem_of_getElem? (i := 238) rfl)
theorem am_kw70 : am_kw 70 ∈ lw_tbl := am_in4 (List.mem_of_getElem? (i := 8) rfl)
theorem am_kw71 : am_kw 71 ∈ lw_tbl := am_in4 (List.mem_of_getElem? (i := 4) rfl)
theorem am_kw72 : am_kw 72 ∈ lw_tbl := am_in1 (List.mem_of_getElem? (i := 56) rfl)
theorem am_kw73 : am_kw 73 ∈ lw_tbl := am_in2 (List.mem_of_getElem? (i := 154) rfl)
theorem am_kw74 : am_kw 74 ∈ lw_tbl := am_in2 (List.mem_of_getElem? (i := 162) rfl)
theorem am_kw75 : am_kw 75 ∈ lw_tbl := am_in2 (List.mem_of_getElem? (i := 166) rfl)
theorem am_kw76 : am_kw 76 ∈ lw_tbl := am_in2 (List.mem_of_getElem? (i := 180) rfl)
theorem am_kw77 : am_kw 77 ∈ lw_tbl := am_in2 (List.mem_of_getElem? (i := 171) rfl)
theorem am_kw78 : am_kw 78 ∈ lw_tbl := am_in2 (List.mem_of_getElem? (i := 175) rfl)
theorem am_kw79 : am_kw 79 ∈ lw_tbl := am_in2 (List.mem_of_getElem? (i := 183) rfl)
theorem am_kw80 : am_kw 80 ∈ lw_tbl := am_in1 (List.mem_of_getElem? (i := 27) rfl)
theorem am_kw81 : am_kw 81 ∈ lw_tbl := am_in2 (List.mem_of_getElem? (i := 59) rfl)
theorem am_kw82 : am_kw 82 ∈ lw_tbl := am_in2 (List.mem_of_getElem? (i := 79) rfl)
theorem am_kw83 : am_kw 83 ∈ lw_tbl := am_in2 (List.mem_of_getElem? (i := 83) rfl)
theorem am_kw84 : am_kw 84 ∈ lw_tbl := am_in2 (List.mem_of_getElem? (i := 87) rfl)
theorem am_kw85 : am_kw 85 ∈ lw_tbl := am_in2 (List.mem_of_getElem? (i := 120) rfl)
theorem am_kw86 : am_kw 86 ∈ lw_tbl := am_in2 (List.mem_of_getElem? (i := 67) rfl)
theorem am_kw87 : am_kw 87 ∈ lw_tbl := am_in2 (List.mem_of_getElem? (i := 112) rfl)
theorem am_kw88 : am_kw 88 ∈ lw_tbl := am_in2 (List.mem_of_getElem? (i := 91) rfl)
theorem am_kw89 : am_kw 89 ∈ lw_tbl := am_in2 (List.mem_of_getElem? (i := 95) rfl)
theorem am_kw90 : am_kw 90 ∈ lw_tbl := am_in2 (List.mem_of_getElem? (i := 124) rfl)
theorem am_kw91 : am_kw 91 ∈ lw_tbl := am_in2 (List.mem_of_getElem? (i := 137) rfl)
theorem am_kw92 : am_kw 92 ∈ lw_tbl := am_in3 (List.mem_of_getElem? (i := 123) rfl)
theorem am_kw93 : am_kw 93 ∈ lw_tbl := am_in4 (List.mem_of_getElem? (i := 236) rfl)
theorem am_kw94 : am_kw 94 ∈ lw_tbl := am_in5 (List.mem_of_getElem? (i := 20) rfl)
theorem am_kw95 : am_kw 95 ∈ lw_tbl := am_in1 (List.mem_of_getElem? (i := 204) rfl)
theorem am_kw96 : am_kw 96 ∈ lw_tbl := am_in4 (List.mem_of_getElem? (i := 114) rfl)
theorem am_kw97 : am_kw 97 ∈ lw_tbl := am_in4 (List.mem_of_getElem? (i := 125) rfl)
theorem am_kw98 : am_kw 98 ∈ lw_tbl := am_in4 (List.mem_of_getElem? (i := 129) rfl)
theorem am_kw99 : am_kw 99 ∈ lw_tbl := am_in4 (List.mem_of_getElem? (i := 133) rfl)
theorem am_kw100 : am_kw 100 ∈ lw_tbl := am_in4 (List.mem_of_getElem? (i := 118) rfl)
theorem am_kw101 : am_kw 101 ∈ lw_tbl := am_in4 (List.mem_of_getElem? (i := 138) rfl)
theorem am_kw102 : am_kw 102 ∈ lw_tbl := am_in4 (List.mem_of_getElem? (i := 147) rfl)
theorem am_kw103 : am_kw 103 ∈ lw_tbl := am_in4 (List.mem_of_getElem? (i := 121) rfl)
theorem am_kw104 : am_kw 104 ∈ lw_tbl := am_in4 (List.mem_of_getElem? (i := 155) rfl)
theorem am_kw105 : am_kw 105 ∈ lw_tbl := am_in1 (List.mem_of_getElem? (i := 19) rfl)
theorem am_kw106 : am_kw 106 ∈ lw_tbl := am_in2 (List.mem_of_getElem? (i := 55) rfl)
theorem am_kw107 : am_kw 107 ∈ lw_tbl := am_in2 (List.mem_of_getElem? (i := 72) rfl)
theorem am_kw108 : am_kw 108 ∈ lw_tbl := am_in2 (List.mem_of_getElem? (i := 104) rfl)
theorem am_kw109 : am_kw 109 ∈ lw_tbl := am_in2 (List.mem_of_getElem? (i := 108) rfl)
theorem am_kw110 : am_kw 110 ∈ lw_tbl := am_in2 (List.mem_of_getElem? (i := 116) rfl)
theorem am_kw111 : am_kw 111 ∈ lw_tbl := am_in2 (List.mem_of_getElem? (i := 132) rfl)
theorem am_kw112 : am_kw 112 ∈ lw_tbl := am_in2 (List.mem_of_getElem? (i := 142) rfl)
theorem am_kw113 : am_kw 113 ∈ lw_tbl := am_in2 (List.mem_of_getElem? (i := 146) rfl)
theorem am_kw114 : am_kw 114 ∈ lw_tbl := am_in2 (List.mem_of_getElem? (i := 150) rfl)
theorem am_kw115 : am_kw 115 ∈ lw_tbl := am_in2 (List.mem_of_getElem? (i := 196) rfl)
theorem am_kw116 : am_kw 116 ∈ lw_tbl := am_in2 (List.mem_of_getElem? (i := 209) rfl)
theorem am_kw117 : am_kw 117 ∈ lw_tbl := am_in3 (List.mem_of_getElem? (i := 9) rfl)
theorem am_kw118 : am_kw 118 ∈ lw_tbl := am_in3 (List.mem_of_getElem? (i := 32) rfl)
theorem am_kw119 : am_kw 119 ∈ lw_tbl := am_in3 (List.mem_of_getElem? (i := 51) rfl)
theorem am_kw120 : am_kw 120 ∈ lw_tbl := am_in3 (List.mem_of_getElem? (i := 81) rfl)
theorem am_kw121 : am_kw 121 ∈ lw_tbl := am_in3 (List.mem_of_getElem? (i := 89) rfl)
theorem am_kw122 : am_kw 122 ∈ lw_tbl := am_in3 (List.mem_of_getElem? (i := 93) rfl)
theorem am_kw123 : am_kw 123 ∈ lw_tbl := am_in3 (List.mem_of_getElem? (i := 98) rfl)
theorem am_kw124 : am_kw 124 ∈ lw_tbl := am_in3 (List.mem_of_getElem? (i := 102) rfl)
theorem am_kw125 : am_kw 125 ∈ lw_tbl := am_in3 (List.mem_of_getElem? (i := 110) rfl)
theorem am_kw126 : am_kw 126 ∈ lw_tbl := am_in3 (List.mem_of_getElem? (i := 114) rfl)
theorem am_kw127 : am_kw 127 ∈ lw_tbl := am_in3 (List.mem_of_getElem? (i := 119) rfl)
theorem am_kw128 : am_kw 128 ∈ lw_tbl := am_in3 (List.mem_of_getElem? (i := 138) rfl)
theorem am_kw129 : am_kw 129 ∈ lw_tbl := am_in3 (List.mem_of_getElem? (i := 150) rfl)
theorem am_kw130 : am_kw 130 ∈ lw_tbl := am_in3 (List.mem_of_getElem? (i := 168) rfl)
theorem am_kw131 : am_kw 131 ∈ lw_tbl := am_in3 (List.mem_of_getElem? (i := 225) rfl)
theorem am_kw132 : am_kw 132 ∈ lw_tbl := am_in3 (List.mem_of_getElem? (i := 234) rfl)
theorem am_kw133 : am_kw 133 ∈ lw_tbl := am_in4 (List.mem_of_getElem? (i := 18) rfl)
theorem am_kw134 : am_kw 134 ∈ lw_tbl := am_in4 (List.mem_of_getElem? (i := 26) rfl)
theorem am_kw135 : am_kw 135 ∈ lw_tbl := am_in4 (List.mem_of_getElem? (i := 30) rfl)
theorem am_kw136 : am_kw 136 ∈ lw_tbl := am_in4 (List.mem_of_getElem? (i := 42) rfl)
theorem am_kw137 : am_kw 137 ∈ lw_tbl := am_in4 (List.mem_of_getElem? (i := 47) rfl)
theorem am_kw138 : am_kw 138 ∈ lw_tbl := am_in4 (List.mem_of_getElem? (i := 85) rfl)
theorem am_kw139 : am_kw 139 ∈ lw_tbl := am_in4 (List.mem_of_getElem? (i := 93) rfl)
theorem am_kw140 : am_kw 140 ∈ lw_tbl := am_in4 (List.mem_of_getElem? (i := 107) rfl)
theorem am_kw141 : am_kw 141 ∈ lw_tbl := am_in4 (List.mem_of_getElem? (i := 143) rfl)
theorem am_kw142 : am_kw 142 ∈ lw_tbl := am_in4 (List.mem_of_getElem? (i := 151) rfl)
theorem am_kw143 : am_kw 143 ∈ lw_tbl := am_in4 (List.mem_of_getElem? (i := 160) rfl)
theorem am_kw144 : am_kw 144 ∈ lw_tbl := am_in4 (List.mem_of_getElem? (i := 164) rfl)
theorem am_kw145 : am_kw 145 ∈ lw_tbl := am_in4 (List.mem_of_getElem? (i := 193) rfl)
theorem am_kw146 : am_kw 146 ∈ lw_tbl := am_in4 (List.mem_of_getElem? (i := 207) rfl)
theorem am_kw147 : am_kw 147 ∈ lw_tbl := am_in4 (List.mem_of_getElem? (i := 215) rfl)
theorem am_kw148 : am_kw 148 ∈ lw_tbl := am_in4 (List.mem_of_getElem? (i := 219) rfl)
theorem am_kw149 : am_kw 149 ∈ lw_tbl := am_in4 (List.mem_of_getElem? (i := 223) rfl)
theorem am_kw150 : am_kw 150 ∈ lw_tbl := am_in4 (List.mem_of_getElem? (i := 227) rfl)
theorem am_kw151 : am_kw 151 ∈ lw_tbl := am_in5 (List.mem_of_getElem? (i := 5) rfl)
theorem am_kw152 : am_kw 152 ∈ lw_tbl := am_in5 (List.mem_of_getElem? (i := 9) rfl)
theorem am_kw153 : am_kw 153 ∈ lw_tbl := am_in5 (List.mem_of_getElem? (i := 13) rfl)
theorem am_kw154 : am_kw 154 ∈ lw_tbl := am_in2 (List.mem_of_getElem? (i := 63) rfl)
theorem am_kw155 : am_kw 155 ∈ lw_tbl := am_in2 (List.mem_of_getElem? (i := 100) rfl)
theorem am_kw156 : am_kw 156 ∈ lw_tbl := am_in4 (List.mem_of_getElem? (i := 13) rfl)
theorem am_kw157 : am_kw 157 ∈ lw_tbl := am_in2 (List.mem_of_getElem? (i := 75) rfl)
theorem am_kw158 : am_kw 158 ∈ lw_tbl := am_in3 (List.mem_of_getElem? (i := 39) rfl)
theorem am_kw159 : am_kw 159 ∈ lw_tbl := am_in3 (List.mem_of_getElem? (i := 35) rfl)
theorem am_kw160 : am_kw 160 ∈ lw_tbl := am_in3 (List.mem_of_getElem? (i := 228) rfl)
theorem am_kw161 : am_kw 161 ∈ lw_tbl := am_in4 (List.mem_of_getElem? (i := 50) rfl)
theorem am_kw162 : am_kw 162 ∈ lw_tbl := am_in4 (List.mem_of_getElem? (i := 110) rfl)
theorem am_kw163 : am_kw 163 ∈ lw_tbl := am_in3 (List.mem_of_getElem? (i := 142) rfl)
theorem am_kw164 : am_kw 164 ∈ lw_tbl := am_in3 (List.mem_of_getElem? (i := 217) rfl)
theorem am_kw165 : am_kw 165 ∈ lw_tbl := am_in2 (List.mem_of_getElem? (i := 217) rfl)
theorem am_kw166 : am_kw 166 ∈ lw_tbl := am_in5 (List.mem_of_getElem? (i := 1) rfl)
theorem am_kw167 : am_kw 167 ∈ lw_tbl := am_in5 (List.mem_of_getElem? (i := 26) rfl)
theorem am_kw168 : am_kw 168 ∈ lw_tbl := am_in5 (List.mem_of_getElem? (i := 132) rfl)
theorem am_kw169 : am_kw 169 ∈ lw_tbl := am_in6 (List.mem_of_getElem? (i := 122) rfl)
theorem am_kw170 : am_kw 170 ∈ lw_tbl := am_in5 (List.mem_of_getElem? (i := 136) rfl)
theorem am_kw171 : am_kw 171 ∈ lw_tbl := am_in5 (List.mem_of_getElem? (i := 152) rfl)
theorem am_kw172 : am_kw 172 ∈ lw_tbl := am_in5 (List.mem_of_getElem? (i := 128) rfl)
theorem am_kw173 : am_kw 173 ∈ lw_tbl := am_in5 (List.mem_of_getElem? (i := 179) rfl)
theorem am_kw174 : am_kw 174 ∈ lw_tbl := am_in5 (List.mem_of_getElem? (i := 125) rfl)
theorem am_kw175 : am_kw 175 ∈ lw_tbl := am_in5 (List.mem_of_getElem? (i := 140) rfl)
theorem am_kw176 : am_kw 176 ∈ lw_tbl := am_in5 (List.mem_of_getElem? (i := 148) rfl)
theorem am_kw177 : am_kw 177 ∈ lw_tbl := am_in5 (List.mem_of_getElem? (i := 144) rfl)
theorem am_kw178 : am_kw 178 ∈ lw_tbl := am_in5 (List.mem_of_getElem? (i := 156) rfl)
theorem am_kw179 : am_kw 179 ∈ lw_tbl := am_in5 (List.mem_of_getElem? (i := 160) rfl)
theorem am_kw180 : am_kw 180 ∈ lw_tbl := am_in5 (List.mem_of_getElem? (i := 168) rfl)
theorem am_kw181 : am_kw 181 ∈ lw_tbl := am_in5 (List.mem_of_getElem? (i := 164) rfl)
theorem am_kw182 : am_kw 182 ∈ lw_tbl := am_in5 (List.mem_of_getElem? (i := 172) rfl)
theorem am_kw183 : am_kw 183 ∈ lw_tbl := am_in5 (List.mem_of_getElem? (i := 176) rfl)
theorem am_kw184 : am_kw 184 ∈ lw_tbl := am_in5 (List.mem_of_getElem? (i := 184) rfl)
theorem am_kw185 : am_kw 185 ∈ lw_tbl := am_in5 (List.mem_of_getElem? (i := 200) rfl)
theorem am_kw186 : am_kw 186 ∈ lw_tbl := am_in5 (List.mem_of_getElem? (i := 196) rfl)
theorem am_kw187 : am_kw 187 ∈ lw_tbl := am_in5 (List.mem_of_getElem? (i := 212) rfl)
theorem am_kw188 : am_kw 188 ∈ lw_tbl := am_in5 (List.mem_of_getElem? (i := 208) rfl)
theorem am_kw189 : am_kw 189 ∈ lw_tbl := am_in5 (List.mem_of_getElem? (i := 204) rfl)
theorem am_kw190 : am_kw 190 ∈ lw_tbl := am_in5 (List.mem_of_getElem? (i := 216) rfl)
theorem am_kw191 : am_kw 191 ∈ lw_tbl := am_in5 (List.mem_of_getElem? (i := 192) rfl)
theorem am_kw192 : am_kw 192 ∈ lw_tbl := am_in5 (List.mem_of_getElem? (i := 188) rfl)
theorem am_kw193 : am_kw 193 ∈ lw_tbl := am_in5 (List.mem_of_getElem? (i := 220) rfl)
theorem am_kw194 : am_kw 194 ∈ lw_tbl := am_in5 (List.mem_of_getElem? (i := 228) rfl)
theorem am_kw195 : am_kw 195 ∈ lw_tbl := am_in6 (List.mem_of_getElem? (i := 34) rfl)
theorem am_kw196 : am_kw 196 ∈ lw_tbl := am_in6 (List.mem_of_getElem? (i := 31) rfl)
theorem am_kw197 : am_kw 197 ∈ lw_tbl := am_in6 (List.mem_of_getElem? (i := 3) rfl)
theorem am_kw198 : am_kw 198 ∈ lw_tbl := am_in6 (List.mem_of_getElem? (i := 11) rfl)
theorem am_kw199 : am_kw 199 ∈ lw_tbl := am_in6 (List.mem_of_getElem? (i := 37) rfl)
theorem am_kw200 : am_kw 200 ∈ lw_tbl := am_in6 (List.mem_of_getElem? (i := 27) rfl)
theorem am_kw201 : am_kw 201 ∈ lw_tbl := am_in5 (List.mem_of_getElem? (i := 224) rfl)
theorem am_kw202 : am_kw 202 ∈ lw_tbl := am_in5 (List.mem_of_getElem? (i := 232) rfl)
theorem am_kw203 : am_kw 203 ∈ lw_tbl := am_in6 (List.mem_of_getElem? (i := 0) rfl)
theorem am_kw204 : am_kw 204 ∈ lw_tbl := am_in6 (List.mem_of_getElem? (i := 7) rfl)
theorem am_kw205 : am_kw 205 ∈ lw_tbl := am_in5 (List.mem_of_getElem? (i := 236) rfl)
theorem am_kw206 : am_kw 206 ∈ lw_tbl := am_in6 (List.mem_of_getElem? (i := 15) rfl)
theorem am_kw207 : am_kw 207 ∈ lw_tbl := am_in6 (List.mem_of_getElem? (i := 23) rfl)
theorem am_kw208 : am_kw 208 ∈ lw_tbl := am_in6 (List.mem_of_getElem? (i := 20) rfl)
theorem am_kw209 : am_kw 209 ∈ lw_tbl := am_in6 (List.mem_of_getElem? (i := 49) rfl)
theorem am_kw210 : am_kw 210 ∈ lw_tbl := am_in6 (List.mem_of_getElem? (i := 45) rfl)
theorem am_kw211 : am_kw 211 ∈ lw_tbl := am_in6 (List.mem_of_getElem? (i := 41) rfl)
theorem am_kw212 : am_kw 212 ∈ lw_tbl := am_in6 (List.mem_of_getElem? (i := 53) rfl)
theorem am_kw213 : am_kw 213 ∈ lw_tbl := am_in6 (List.mem_of_getElem? (i := 57) rfl)
theorem am_kw214 : am_kw 214 ∈ lw_tbl := am_in6 (List.mem_of_getElem? (i := 61) rfl)
theorem am_kw215 : am_kw 215 ∈ lw_tbl := am_in6 (List.mem_of_getElem? (i := 65) rfl)
theorem am_kw216 : am_kw 216 ∈ lw_tbl := am_in6 (List.mem_of_getElem? (i := 70) rfl)
theorem am_kw217 : am_kw 217 ∈ lw_tbl := am_in6 (List.mem_of_getElem? (i := 115) rfl)
theorem am_kw218 : am_kw 218 ∈ lw_tbl := am_in6 (List.mem_of_getElem? (i := 82) rfl)
theorem am_kw219 : am_kw 219 ∈ lw_tbl := am_in6 (List.mem_of_getElem? (i := 78) rfl)
theorem am_kw220 : am_kw 220 ∈ lw_tbl := am_in6 (List.mem_of_getElem? (i := 74) rfl)
theorem am_kw221 : am_kw 221 ∈ lw_tbl := am_in6 (List.mem_of_getElem? (i := 90) rfl)
theorem am_kw222 : am_kw 222 ∈ lw_tbl := am_in6 (List.mem_of_getElem? (i := 95) rfl)
theorem am_kw223 : am_kw 223 ∈ lw_tbl := am_in6 (List.mem_of_getElem? (i := 86) rfl)
theorem am_kw224 : am_kw 224 ∈ lw_tbl := am_in6 (List.mem_of_getElem? (i := 99) rfl)
theorem am_kw225 : am_kw 225 ∈ lw_tbl := am_in6 (List.mem_of_getElem? (i := 107) rfl)
theorem am_kw226 : am_kw 226 ∈ lw_tbl := am_in6 (List.mem_of_getElem? (i := 103) rfl)
theorem am_kw227 : am_kw 227 ∈ lw_tbl := am_in6 (List.mem_of_getElem? (i := 148) rfl)
theorem am_kw228 : am_kw 228 ∈ lw_tbl := am_in6 (List.mem_of_getElem? (i := 144) rfl)
theorem am_kw229 : am_kw 229 ∈ lw_tbl := am_in6 (List.mem_of_getElem? (i := 139) rfl)
theorem am_kw230 : am_kw 230 ∈ lw_tbl := am_in6 (List.mem_of_getElem? (i := 152) rfl)
theorem am_kw231 : am_kw 231 ∈ lw_tbl := am_in6 (List.mem_of_getElem? (i := 111) rfl)
theorem am_kw232 : am_kw 232 ∈ lw_tbl := am_in6 (List.mem_of_getElem? (i := 119) rfl)
theorem am_kw233 : am_kw 233 ∈ lw_tbl := am_in6 (List.mem_of_getElem? (i := 126) rfl)
theorem am_kw234 : am_kw 234 ∈ lw_tbl := am_in6 (List.mem_of_getElem? (i := 130) rfl)
theorem am_kw235 : am_kw 235 ∈ lw_tbl := am_in6 (List.mem_of_getElem? (i := 134) rfl)
theorem am_kw236 : am_kw 236 ∈ lw_tbl := am_in6 (List.mem_of_getElem? (i := 189) rfl)
theorem am_kw237 : am_kw 237 ∈ lw_tbl := am_in6 (List.mem_of_getElem? (i := 156) rfl)
theorem am_kw238 : am_kw 238 ∈ lw_tbl := am_in6 (List.mem_of_getElem? (i := 160) rfl)
theorem am_kw239 : am_kw 239 ∈ lw_tbl := am_in6 (List.mem_of_getElem? (i := 164) rfl)
theorem am_kw240 : am_kw 240 ∈ lw_tbl := am_in6 (List.mem_of_getElem? (i := 168) rfl)
theorem am_kw241 : am_kw 241 ∈ lw_tbl := am_in6 (List.mem_of_getElem? (i := 172) rfl)
theorem am_kw242 : am_kw 242 ∈ lw_tbl := am_in6 (List.mem_of_getElem? (i := 181) rfl)
theorem am_kw243 : am_kw 243 ∈ lw_tbl := am_in6 (List.mem_of_getElem? (i := 185) rfl)
theorem am_kw244 : am_kw 244 ∈ lw_tbl := am_in6 (List.mem_of_getElem? (i := 176) rfl)
theorem am_kw245 : am_kw 245 ∈ lw_tbl := am_in6 (List.mem_of_getElem? (i := 193) rfl)
theorem am_kw246 : am_kw 246 ∈ lw_tbl := am_in6 (List.mem_of_getElem? (i := 197) rfl)
theorem am_kw247 : am_kw 247 ∈ lw_tbl := am_in6 (List.mem_of_getElem? (i := 225) rfl)
theorem am_kw248 : am_kw 248 ∈ lw_tbl := am_in6 (List.mem_of_getElem? (i := 221) rfl)
theorem am_kw249 : am_kw 249 ∈ lw_tbl := am_in6 (List.mem_of_getElem? (i := 217) rfl)
theorem am_kw250 : am_kw 250 ∈ lw_tbl := am_in6 (List.mem_of_getElem? (i := 213) rfl)
theorem am_kw251 : am_kw 251 ∈ lw_tbl := am_in6 (List.mem_of_getElem? (i := 209) rfl)
theorem am_kw252 : am_kw 252 ∈ lw_tbl := am_in6 (List.mem_of_getElem? (i := 204) rfl)
theorem am_kw253 : am_kw 253 ∈ lw_tbl := am_in6 (List.mem_of_getElem? (i := 201) rfl)
theorem am_kw254 : am_kw 254 ∈ lw_tbl := am_in6 (List.mem_of_getElem? (i := 229) rfl)
theorem am_kw255 : am_kw 255 ∈ lw_tbl := am_in6 (List.mem_of_getElem? (i := 233) rfl)
theorem am_kw256 : am_kw 256 ∈ lw_tbl := am_in6 (List.mem_of_getElem? (i := 237) rfl)
theorem am_kw257 : am_kw 257 ∈ lw_tbl := am_in7 (List.mem_of_getElem? (i := 10) rfl)
theorem am_kw258 : am_kw 258 ∈ lw_tbl := am_in7 (List.mem_of_getElem? (i := 6) rfl)
theorem am_kw259 : am_kw 259 ∈ lw_tbl := am_in7 (List.mem_of_getElem? (i := 2) rfl)
theorem am_kw260 : am_kw 260 ∈ lw_tbl := am_in7 (List.mem_of_getElem? (i := 14) rfl)
theorem am_kw261 : am_kw 261 ∈ lw_tbl := am_in7 (List.mem_of_getElem? (i := 18) rfl)
theorem am_kw262 : am_kw 262 ∈ lw_tbl := am_in7 (List.mem_of_getElem? (i := 25) rfl)
theorem am_kw263 : am_kw 263 ∈ lw_tbl := am_in7 (List.mem_of_getElem? (i := 29) rfl)
theorem am_kw264 : am_kw 264 ∈ lw_tbl := am_in7 (List.mem_of_getElem? (i := 33) rfl)
theorem am_kw265 : am_kw 265 ∈ lw_tbl := am_in7 (List.mem_of_getElem? (i := 46) rfl)
theorem am_kw266 : am_kw 266 ∈ lw_tbl := am_in7 (List.mem_of_getElem? (i := 50) rfl)
theorem am_kw267 : am_kw 267 ∈ lw_tbl := am_in7 (List.mem_of_getElem? (i := 42) rfl)
theorem am_kw268 : am_kw 268 ∈ lw_tbl := am_in7 (List.mem_of_getElem? (i := 37) rfl)
theorem am_kw269 : am_kw 269 ∈ lw_tbl := am_in7 (List.mem_of_getElem? (i := 54) rfl)
theorem am_kw270 : am_kw 270 ∈ lw_tbl := am_in7 (List.mem_of_getElem? (i := 58) rfl)
theorem am_kw271 : am_kw 271 ∈ lw_tbl := am_in7 (List.mem_of_getElem? (i := 62) rfl)
theorem am_kw272 : am_kw 272 ∈ lw_tbl := am_in3 (List.mem_of_getElem? (i := 62) rfl)
theorem am_kw273 : am_kw 273 ∈ lw_tbl := am_in3 (List.mem_of_getElem? (i := 69) rfl)
theorem am_kw274 : am_kw 274 ∈ lw_tbl := am_in1 (List.mem_of_getElem? (i := 31) rfl)
theorem am_kw275 : am_kw 275 ∈ lw_tbl := am_in3 (List.mem_of_getElem? (i := 213) rfl)
theorem am_kw276 : am_kw 276 ∈ lw_tbl := am_in4 (List.mem_of_getElem? (i := 1) rfl)
theorem am_kw277 : am_kw 277 ∈ lw_tbl := am_in1 (List.mem_of_getElem? (i := 34) rfl)
