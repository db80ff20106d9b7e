def bk_R : Nat → String
  | 0 => RX0
  | 1 => RX1
  | 2 => RX2
  | 3 => RX3
  | 4 => RX4
  | 5 => RX5
  | 6 => RX6
  | 7 => RX7
  | 8 => RX8
  | 9 => RX9
  | 10 => RX10
  | 11 => RX11
  | 12 => RX12
  | 13 => RL
  | _ => RJ6
def bk_F : Nat → u_T
  | 0 => TX0
  | 1 => TX1
  | 2 => TX2
  | 3 => TX3
  | 4 => TX4
  | 5 => TX5
  | 6 => TX6
  | 7 => TX7
  | 8 => TX8
  | 9 => TX9
  | 10 => TX10
  | 11 => TX11
  | _ => TX12
def bk_ty : Nat → Nat → FieldType
  | 0 => tyX0
  | 1 => tyX1
  | 2 => tyX2
  | 3 => tyX3
  | 4 => tyX4
  | 5 => tyX5
  | 6 => tyX6
  | 7 => tyX7
  | 8 => tyX8
  | 9 => tyX9
  | 10 => tyX10
  | 11 => tyX11
  | _ => tyX12
def bk_n : Nat → Nat
  | 0 => 6
  | 1 => 7
  | 2 => 2
  | 3 => 3
  | 4 => 3
  | 5 => 19
  | 6 => 4
  | 7 => 14
  | 8 => 6
  | 9 => 6
  | 10 => 12
  | 11 => 17
  | _ => 59
abbrev bk_Me : Type := MethodName × ByteArray × Nat × Option FieldType × Bool × Nat × Nat
def bk_x0 : bk_Me := (yX7_isTempted, cX7_isTempted, 2, some .boolean, false, 7, 2)
def bk_x1 : bk_Me := (yX9_readBracket, cX9_readBracket, 4, some .boolean, false, 9, 4)
def bk_x2 : bk_Me := (yX9_readNot, cX9_readNot, 4, some .boolean, false, 9, 4)
def bk_me1 : List bk_Me := [(yX5_reset, cX5_reset, 2, none, false, 5, 1)]
def bk_me3 : List bk_Me := [(yX11_feed, cX11_feed, 6, some .int, false, 11, 6),
  (yX10_add, cX10_add, 3, none, false, 10, 2),
  (yX11_end, cX11_end, 2, some .boolean, false, 11, 2),
  (yX11_plain, cX11_plain, 3, some .int, false, 11, 1),
  (yX6_readText, cX6_readText, 4, some .int, false, 6, 3),
  (yX10_begin, cX10_begin, 2, none, false, 10, 2),
  (yX10_step, cX10_step, 2, none, false, 10, 1),
  (yX10_isSmall, cX10_isSmall, 1, some .boolean, true, 10, 1),
  (yX10_isDigit, cX10_isDigit, 1, some .boolean, true, 10, 1),
  (yX10_readWordOrNumber, cX10_readWordOrNumber, 8, none, false, 10, 1),
  (yX11_indexOfName, cX11_indexOfName, 5, some .int, true, 11, 3),
  (yX10_isSign, cX10_isSign, 1, some .boolean, true, 10, 1),
  (yX6_readLine, cX6_readLine, 3, some .boolean, false, 6, 3),
  (yX6_readSize, cX6_readSize, 3, some .boolean, false, 6, 3),
  (yX6_isFirst, cX6_isFirst, 3, some .boolean, false, 6, 2),
  (yX10_fails, cX10_fails, 2, some .boolean, false, 10, 2),
  (yX10_between, cX10_between, 3, some .boolean, false, 10, 3),
  (yX6_readLand, cX6_readLand, 4, some .boolean, false, 6, 3),
  (yX6_readCell, cX6_readCell, 4, some .int, false, 6, 3),
  (yX5_cellAt, cX5_cellAt, 3, some .int, false, 5, 3),
  (yX6_readSource, cX6_readSource, 3, some .boolean, false, 6, 3),
  (yX6_readField, cX6_readField, 5, some .boolean, false, 6, 3),
  (yX6_readNewName, cX6_readNewName, 4, some .boolean, false, 6, 3),
  (yX10_isName, cX10_isName, 1, some .boolean, false, 10, 1),
  (yX6_isTaken, cX6_isTaken, 3, some .boolean, true, 6, 2),
  (yX6_readMill, cX6_readMill, 5, some .boolean, false, 6, 3),
  (yX6_readPurse, cX6_readPurse, 4, some .boolean, false, 6, 3),
  (yX10_isWord, cX10_isWord, 2, some .boolean, false, 10, 2),
  (yX6_readIce, cX6_readIce, 3, some .boolean, false, 6, 3),
  (yX10_sign, cX10_sign, 2, some .boolean, false, 10, 2),
  (yX11_emptyTape, cX11_emptyTape, 1, none, false, 11, 1),
  (yX8_takeLeast, cX8_takeLeast, 2, none, false, 8, 2),
  (yX8_runFreely, cX8_runFreely, 2, none, false, 8, 2),
  (yX8_load, cX8_load, 2, none, false, 8, 2),
  (yX8_run, cX8_run, 7, none, false, 8, 2)]
def bk_me4a : List bk_Me := [(yX8_leastBelow, cX8_leastBelow, 6, some .int, false, 8, 3),
  (yX9_forget, cX9_forget, 1, none, false, 9, 1),
  (yX3_forget, cX3_forget, 1, none, false, 3, 1),
  (yX11_fault, cX11_fault, 1, some .int, false, 11, 1),
  (yX11_mill, cX11_mill, 4, some .int, false, 11, 3),
  (yX11_bankBy, cX11_bankBy, 4, some .int, true, 11, 2),
  (yX11_height, cX11_height, 4, some .int, false, 11, 3),
  (yX11_bank, cX11_bank, 4, some .int, false, 11, 3),
  (yX11_bed, cX11_bed, 2, some .int, false, 11, 2),
  (yX11_isRow, cX11_isRow, 2, some .boolean, false, 11, 2),
  (yX11_side, cX11_side, 3, some .int, false, 11, 3),
  (yX11_isSide, cX11_isSide, 1, some .boolean, true, 11, 1),
  (yX5_fieldsBy, cX5_fieldsBy, 5, some .int, false, 5, 3),
  (yX5_worthBy, cX5_worthBy, 5, some .int, false, 5, 3),
  (yX11_now, cX11_now, 2, some .int, false, 11, 2),
  (yX5_bedHeights, cX5_bedHeights, 3, some .int, false, 5, 1),
  (yX5_bends, cX5_bends, 3, some .int, false, 5, 1),
  (yX5_changes, cX5_changes, 3, some .int, false, 5, 1),
  (yX11_dig, cX11_dig, 4, some .int, false, 11, 4),
  (yX11_workBy, cX11_workBy, 7, some .int, false, 11, 5),
  (yX5_whyNoWork, cX5_whyNoWork, 5, some .int, false, 5, 4),
  (yX3_keep, cX3_keep, 2, none, false, 3, 2),
  (yX5_copyOf, cX5_copyOf, 2, none, false, 5, 2),
  (yX5_work, cX5_work, 4, none, false, 5, 4),
  (yX11_lay, cX11_lay, 4, some .int, false, 11, 4),
  (yX11_roll, cX11_roll, 6, some .int, false, 11, 4),
  (yX5_whyNoRoll, cX5_whyNoRoll, 5, some .int, false, 5, 3),
  (yX5_rollTo, cX5_rollTo, 3, none, false, 5, 3),
  (yX11_spring, cX11_spring, 2, some .int, false, 11, 2),
  (yX8_flood, cX8_flood, 5, some .int, false, 8, 2),
  (yX8_draw, cX8_draw, 2, some .int, false, 8, 2),
  (yX5_takeBed, cX5_takeBed, 4, some .int, false, 5, 2),
  (yX5_earn, cX5_earn, 4, none, false, 5, 1),
  (yX11_years, cX11_years, 3, some .int, false, 11, 3),
  (yX8_floods, cX8_floods, 5, some .int, false, 8, 3),
  (yX11_undo, cX11_undo, 1, some .int, false, 11, 1),
  (yX3_takeBack, cX3_takeBack, 2, none, false, 3, 2),
  (yX11_would, cX11_would, 1, some .int, false, 11, 1),
  (yX11_wouldAt, cX11_wouldAt, 2, some .int, false, 11, 2),
  (yX11_wouldBe, cX11_wouldBe, 2, some .int, false, 11, 2),
  (yX11_tempted, cX11_tempted, 4, some .int, false, 11, 4),
  (yX11_isField, cX11_isField, 2, some .boolean, false, 11, 2),
  (yX7_tempt, cX7_tempt, 7, some .int, false, 7, 5),
  (yX7_listWorks, cX7_listWorks, 6, none, false, 7, 5),
  (yX7_may, cX7_may, 7, some .boolean, false, 7, 4),
  (yX7_tempts, cX7_tempts, 7, some .boolean, true, 7, 5)]
def bk_me4b : List bk_Me := [(yX7_apply, cX7_apply, 2, none, false, 7, 2),
  (yX7_takeBack, cX7_takeBack, 2, none, false, 7, 2),
  (yX11_temptedAt, cX11_temptedAt, 2, some .int, false, 11, 2),
  (yX11_duelAt, cX11_duelAt, 2, some .int, false, 11, 2),
  (yX11_pushed, cX11_pushed, 3, some .int, false, 11, 3),
  (yX7_push, cX7_push, 6, some .int, false, 7, 4),
  (yX7_weigh, cX7_weigh, 6, none, false, 7, 5),
  (yX11_pushedAt, cX11_pushedAt, 2, some .int, false, 11, 2)]
def bk_me4 : List bk_Me := bk_me4a ++ [bk_x0] ++ bk_me4b
def bk_me5a : List bk_Me := [(yX11_ago, cX11_ago, 3, some .int, false, 11, 3),
  (yX11_shares, cX11_shares, 8, some .int, false, 11, 5),
  (yX11_areTrials, cX11_areTrials, 2, some .boolean, true, 11, 2),
  (yX11_ran, cX11_ran, 2, some .int, false, 11, 1),
  (yX1_findBeds, cX1_findBeds, 4, some .int, false, 1, 3),
  (yX1_readPairs, cX1_readPairs, 8, some .boolean, false, 1, 3),
  (yX1_countBeds, cX1_countBeds, 6, some .int, false, 1, 2),
  (yX1_waysOn, cX1_waysOn, 6, some .int, false, 1, 4),
  (yX1_keepFirst, cX1_keepFirst, 5, none, false, 1, 2),
  (yX1_keepSure, cX1_keepSure, 6, none, false, 1, 2),
  (yX1_isReached, cX1_isReached, 5, some .boolean, false, 1, 4),
  (yX11_ranAt, cX11_ranAt, 2, some .int, false, 11, 2),
  (yX11_sure, cX11_sure, 2, some .int, false, 11, 2),
  (yX11_odds, cX11_odds, 8, some .int, false, 11, 6),
  (yX11_richest, cX11_richest, 5, some .int, false, 11, 2),
  (yX11_deed, cX11_deed, 2, some .int, false, 11, 2),
  (yX2_write, cX2_write, 5, none, false, 2, 3),
  (yX2_putName, cX2_putName, 5, none, false, 2, 2),
  (yX2_put, cX2_put, 2, none, false, 2, 2),
  (yX2_putText, cX2_putText, 3, none, false, 2, 2),
  (yX11_byteAt, cX11_byteAt, 2, some .int, false, 11, 2),
  (yX11_book, cX11_book, 4, some .int, false, 11, 2),
  (yX0_readText, cX0_readText, 4, some .boolean, false, 0, 3),
  (yX0_readLine, cX0_readLine, 5, some .boolean, false, 0, 3),
  (yX0_isBeginning, cX0_isBeginning, 1, some .boolean, true, 0, 1),
  (yX0_readOne, cX0_readOne, 4, some .boolean, false, 0, 4),
  (yX0_readPlace, cX0_readPlace, 2, some .boolean, false, 0, 2),
  (yX0_live, cX0_live, 4, some .int, false, 0, 3),
  (yX0_liveLine, cX0_liveLine, 4, some .int, false, 0, 4),
  (yX0_liveWork, cX0_liveWork, 7, some .int, false, 0, 5),
  (yX0_liveRoll, cX0_liveRoll, 5, some .int, false, 0, 3),
  (yX0_liveSprings, cX0_liveSprings, 6, some .int, false, 0, 4),
  (yX11_told, cX11_told, 2, some .int, false, 11, 2),
  (yX11_sentence, cX11_sentence, 3, some .int, false, 11, 1),
  (yX9_readText, cX9_readText, 3, some .boolean, false, 9, 3),
  (yX9_readCond, cX9_readCond, 5, some .boolean, false, 9, 4),
  (yX9_readAll, cX9_readAll, 5, some .boolean, false, 9, 4),
  (yX9_readOne, cX9_readOne, 5, some .boolean, false, 9, 4),
  (yX9_isBeginning, cX9_isBeginning, 1, some .boolean, true, 9, 1)]
def bk_me5b : List bk_Me := [(yX9_put, cX9_put, 4, some .boolean, false, 9, 4),
  (yX9_readPlainOne, cX9_readPlainOne, 5, some .boolean, false, 9, 3),
  (yX11_said, cX11_said, 5, some .int, false, 11, 2),
  (yX9_fieldsSaid, cX9_fieldsSaid, 6, some .int, false, 9, 2),
  (yX9_fieldsOfOne, cX9_fieldsOfOne, 5, some .int, false, 9, 3),
  (yX9_isSo, cX9_isSo, 6, some .boolean, false, 9, 4),
  (yX9_compares, cX9_compares, 3, some .boolean, false, 9, 3),
  (yJ6_bitCount_0f7a4, cJ6_bitCount_0f7a4, 1, some .int, true, 14, 1),
  (yX11_image, cX11_image, 2, some .boolean, false, 11, 2),
  (yX9_copyOf, cX9_copyOf, 2, none, false, 9, 2)]
def bk_me5 : List bk_Me := bk_me5a ++ [bk_x1] ++ [bk_x2] ++ bk_me5b
def bk_me6 : List bk_Me := [(yX11_restore, cX11_restore, 2, some .boolean, false, 11, 2),
  (yX11_count, cX11_count, 2, some .int, false, 11, 2),
  (yX11_field, cX11_field, 4, some .int, false, 11, 3),
  (yX11_duel, cX11_duel, 2, some .int, false, 11, 2),
  (yX7_fight, cX7_fight, 5, some .int, false, 7, 3),
  (yX7_answered, cX7_answered, 8, some .int, false, 7, 4),
  (yX7_lead, cX7_lead, 3, some .int, false, 7, 3),
  (yX12_thrown, cX12_thrown, 1, some .int, false, 12, 1),
  (yX12_feed, cX12_feed, 6, some .int, false, 12, 6),
  (yX12_come, cX12_come, 3, none, false, 12, 2),
  (yX12_end, cX12_end, 2, some .boolean, false, 12, 2),
  (yX12_startRead, cX12_startRead, 2, none, false, 12, 1),
  (yX12_startSo, cX12_startSo, 2, none, false, 12, 1),
  (yX12_melt, cX12_melt, 2, none, false, 12, 1),
  (yX12_layBest, cX12_layBest, 4, some .int, false, 12, 1),
  (yX12_leastNext, cX12_leastNext, 3, some .int, false, 12, 3),
  (yX12_costAt, cX12_costAt, 3, some .int, false, 12, 3),
  (yX12_isCell, cX12_isCell, 3, some .boolean, false, 12, 3),
  (yX12_isIn, cX12_isIn, 3, some .boolean, true, 12, 3),
  (yX12_least, cX12_least, 2, some .int, true, 12, 2)]
def bk_me7 : List bk_Me := [(yX12_plain, cX12_plain, 3, some .int, false, 12, 1),
  (yX12_begin, cX12_begin, 2, none, false, 12, 2),
  (yX12_take, cX12_take, 2, some .int, false, 12, 1),
  (yX12_go, cX12_go, 5, none, false, 12, 1),
  (yX12_isLetter, cX12_isLetter, 1, some .boolean, true, 12, 1),
  (yX12_isDigit, cX12_isDigit, 1, some .boolean, true, 12, 1),
  (yX12_tapeAt, cX12_tapeAt, 2, some .int, false, 12, 2),
  (yX12_readLine, cX12_readLine, 1, some .boolean, false, 12, 1),
  (yX12_isWord, cX12_isWord, 2, some .boolean, false, 12, 2),
  (yX12_wordOf, cX12_wordOf, 1, some .long, true, 12, 1),
  (yX12_spelt, cX12_spelt, 9, some .long, true, 12, 7),
  (yX12_readPlain, cX12_readPlain, 1, some .boolean, false, 12, 1),
  (yX12_bad, cX12_bad, 2, some .boolean, false, 12, 2),
  (yX12_isFresh, cX12_isFresh, 2, some .boolean, false, 12, 2),
  (yX12_readBetween, cX12_readBetween, 3, some .boolean, false, 12, 3),
  (yX12_readNumber, cX12_readNumber, 3, some .boolean, false, 12, 3),
  (yX12_put, cX12_put, 3, some .boolean, false, 12, 3),
  (yX12_readLand, cX12_readLand, 3, some .boolean, false, 12, 1),
  (yX12_readX, cX12_readX, 1, some .boolean, false, 12, 1),
  (yX12_isBelow, cX12_isBelow, 2, some .boolean, false, 12, 2),
  (yX12_readField, cX12_readField, 2, some .boolean, false, 12, 1),
  (yX12_readFirst, cX12_readFirst, 3, some .boolean, false, 12, 3),
  (yX12_readNew, cX12_readNew, 2, some .boolean, false, 12, 2),
  (yX12_isName, cX12_isName, 2, some .boolean, false, 12, 1),
  (yX12_findIn, cX12_findIn, 6, some .int, true, 12, 4),
  (yX12_isField, cX12_isField, 4, some .boolean, false, 12, 3),
  (yX12_readMill, cX12_readMill, 2, some .boolean, false, 12, 1),
  (yX12_readPurse, cX12_readPurse, 2, some .boolean, false, 12, 1),
  (yX12_isSideHere, cX12_isSideHere, 1, some .boolean, false, 12, 1),
  (yX12_readEnd, cX12_readEnd, 1, some .boolean, false, 12, 1),
  (yX12_isSign, cX12_isSign, 2, some .boolean, false, 12, 2),
  (yX12_fault, cX12_fault, 1, some .int, false, 12, 1),
  (yX12_field, cX12_field, 3, some .int, false, 12, 3),
  (yX12_isFieldAt, cX12_isFieldAt, 2, some .boolean, false, 12, 2),
  (yX12_refuse, cX12_refuse, 1, some .int, false, 12, 1),
  (yX12_whose, cX12_whose, 2, some .int, false, 12, 2),
  (yX12_bankOf, cX12_bankOf, 3, some .int, false, 12, 3),
  (yX12_sideOf, cX12_sideOf, 2, some .int, true, 12, 2),
  (yX12_mill, cX12_mill, 3, some .int, false, 12, 3)]
def bk_me8 : List bk_Me := [(yX12_isMill, cX12_isMill, 2, some .boolean, false, 12, 2),
  (yX12_height, cX12_height, 3, some .int, false, 12, 3),
  (yX12_bank, cX12_bank, 3, some .int, false, 12, 3),
  (yX12_bed, cX12_bed, 2, some .int, false, 12, 2),
  (yX12_isRow, cX12_isRow, 2, some .boolean, false, 12, 2),
  (yX12_side, cX12_side, 3, some .int, false, 12, 3),
  (yX12_fieldsOf, cX12_fieldsOf, 4, some .int, false, 12, 2),
  (yX12_worthOf, cX12_worthOf, 4, some .int, false, 12, 2),
  (yX12_has, cX12_has, 2, some .boolean, true, 12, 2),
  (yX12_now, cX12_now, 4, some .int, false, 12, 2),
  (yX12_dig, cX12_dig, 4, some .int, false, 12, 4),
  (yX12_act, cX12_act, 6, some .int, false, 12, 5),
  (yX12_why, cX12_why, 5, some .int, false, 12, 5),
  (yX12_size, cX12_size, 1, some .int, true, 12, 1),
  (yX12_mayWork, cX12_mayWork, 5, some .boolean, false, 12, 5),
  (yX12_snap, cX12_snap, 2, none, false, 12, 1),
  (yX12_live, cX12_live, 5, none, false, 12, 5),
  (yX12_lay, cX12_lay, 4, some .int, false, 12, 4),
  (yX12_roll, cX12_roll, 4, some .int, false, 12, 4),
  (yX12_undo, cX12_undo, 2, some .int, false, 12, 1),
  (yX12_spring, cX12_spring, 2, some .int, false, 12, 2),
  (yX12_oneSpring, cX12_oneSpring, 3, some .int, false, 12, 1),
  (yX12_draw, cX12_draw, 2, some .int, false, 12, 2),
  (yX12_keepPast, cX12_keepPast, 2, none, false, 12, 1),
  (yX12_whoseByBest, cX12_whoseByBest, 2, some .int, false, 12, 2),
  (yX12_earns, cX12_earns, 4, none, false, 12, 2),
  (yX12_years, cX12_years, 3, some .int, false, 12, 3),
  (yX12_passYears, cX12_passYears, 5, some .int, false, 12, 3),
  (yX12_ago, cX12_ago, 3, some .int, false, 12, 3),
  (yX12_would, cX12_would, 1, some .int, false, 12, 1),
  (yX12_wouldAt, cX12_wouldAt, 2, some .int, false, 12, 2),
  (yX12_wouldBe, cX12_wouldBe, 2, some .int, false, 12, 2),
  (yX12_fieldsByBest, cX12_fieldsByBest, 4, some .int, false, 12, 2),
  (yX12_tempted, cX12_tempted, 6, some .int, false, 12, 4),
  (yX12_tempts, cX12_tempts, 12, some .boolean, false, 12, 7),
  (yX12_temptedAt, cX12_temptedAt, 2, some .int, false, 12, 2),
  (yX12_duel, cX12_duel, 5, some .int, false, 12, 2),
  (yX12_answered, cX12_answered, 5, some .int, false, 12, 2),
  (yX12_edge, cX12_edge, 2, some .int, false, 12, 2),
  (yX12_mayCode, cX12_mayCode, 4, some .boolean, false, 12, 3),
  (yX12_byCode, cX12_byCode, 1, some .int, true, 12, 1),
  (yX12_duelAt, cX12_duelAt, 2, some .int, false, 12, 2),
  (yX12_pushed, cX12_pushed, 4, some .int, false, 12, 3),
  (yX12_pushFrom, cX12_pushFrom, 7, none, false, 12, 5),
  (yX12_pushedAt, cX12_pushedAt, 2, some .int, false, 12, 2),
  (yX12_shares, cX12_shares, 8, some .int, false, 12, 5),
  (yX12_layAside, cX12_layAside, 2, none, false, 12, 1),
  (yX12_takeBack, cX12_takeBack, 2, none, false, 12, 1),
  (yX12_odds, cX12_odds, 8, some .int, false, 12, 6),
  (yX12_ran, cX12_ran, 3, some .int, false, 12, 1),
  (yX12_runFrom, cX12_runFrom, 6, none, false, 12, 3),
  (yX12_rowFits, cX12_rowFits, 5, some .boolean, false, 12, 4),
  (yX12_ranAt, cX12_ranAt, 2, some .int, false, 12, 2),
  (yX12_sure, cX12_sure, 2, some .int, false, 12, 2),
  (yX12_richest, cX12_richest, 4, some .int, false, 12, 2),
  (yX12_deed, cX12_deed, 2, some .int, false, 12, 2),
  (yX12_writeWord, cX12_writeWord, 3, none, false, 12, 2),
  (yX12_write, cX12_write, 2, none, false, 12, 2),
  (yX12_writeNext, cX12_writeNext, 3, none, false, 12, 2),
  (yX12_byteAt, cX12_byteAt, 2, some .int, false, 12, 2)]
def bk_me9 : List bk_Me := [(yX12_book, cX12_book, 4, some .int, false, 12, 2),
  (yX12_readBookLine, cX12_readBookLine, 4, some .boolean, false, 12, 1),
  (yX12_readSide, cX12_readSide, 2, some .boolean, false, 12, 2),
  (yX12_readCell, cX12_readCell, 2, some .boolean, false, 12, 2),
  (yX12_keep, cX12_keep, 3, some .boolean, false, 12, 3),
  (yX12_readSprings, cX12_readSprings, 3, some .boolean, false, 12, 2),
  (yX12_readMillRolls, cX12_readMillRolls, 2, some .boolean, false, 12, 2),
  (yX12_goBy, cX12_goBy, 6, some .int, false, 12, 2),
  (yX12_stay, cX12_stay, 4, none, false, 12, 2),
  (yX12_told, cX12_told, 2, some .int, false, 12, 2),
  (yX12_sentence, cX12_sentence, 2, some .int, false, 12, 1),
  (yX12_readOr, cX12_readOr, 2, some .boolean, false, 12, 1),
  (yX12_readAnd, cX12_readAnd, 2, some .boolean, false, 12, 1),
  (yX12_readSaid, cX12_readSaid, 4, some .boolean, false, 12, 1),
  (yX12_readBracket, cX12_readBracket, 1, some .boolean, false, 12, 1),
  (yX12_readNot, cX12_readNot, 1, some .boolean, false, 12, 1),
  (yX12_saysOne, cX12_saysOne, 6, some .int, false, 12, 5),
  (yX12_readOf, cX12_readOf, 2, some .boolean, false, 12, 2),
  (yX12_readFieldName, cX12_readFieldName, 1, some .boolean, false, 12, 1),
  (yX12_readCompare, cX12_readCompare, 3, some .boolean, false, 12, 2),
  (yX12_said, cX12_said, 4, some .int, false, 12, 2),
  (yX12_holds, cX12_holds, 8, some .boolean, false, 12, 3),
  (yX12_isNear, cX12_isNear, 2, some .boolean, false, 12, 2),
  (yX12_image, cX12_image, 3, some .boolean, false, 12, 2),
  (yX12_restore, cX12_restore, 3, some .boolean, false, 12, 2),
  (yX12_count, cX12_count, 2, some .int, false, 12, 2)]
def bk_meT : List bk_Me := bk_me1 ++ bk_me3 ++ bk_me4 ++ bk_me5 ++ bk_me6 ++ bk_me7 ++ bk_me8 ++ bk_me9
def bk_me : List bk_Me := bk_me1 ++ bk_me3 ++ bk_me4a ++ bk_me4b ++ bk_me5a ++ bk_me5b ++ bk_me6 ++ bk_me7 ++ bk_me8 ++ bk_me9 ++ [bk_x0, bk_x1, bk_x2]
theorem bk_me_T {x : bk_Me} (h : x ∈ bk_me) : x ∈ bk_meT := by
  unfold bk_me at h
  unfold bk_meT bk_me4 bk_me5
  simp only [List.mem_append, List.mem_cons, List.not_mem_nil, or_false] at h ⊢
  grind
def bk_mw (e : bk_Me) : Cond := .code e.1 e.2.1 e.2.2.1 e.2.2.2.1
def bk_mi (e : bk_Me) : Cond := if e.2.2.2.2.1 = true then .static e.1 else .instanceMethod e.1
def bk_ms (e : bk_Me) : Cond := .selects e.1.cls e.1 e.1
def bk_m0 : bk_Me := (⟨"", "", ""⟩, ⟨#[]⟩, 0, none, true, 0, 0)
def bk_m (μ : Nat) : bk_Me := bk_me.getD μ bk_m0
/-- words along a list, in its order -/
def bk_sub : List Cond → List Cond → Bool
  | [], _ => true
  | _ :: _, [] => false
  | w :: ws, t :: ts => if w == t then bk_sub ws ts else bk_sub (w :: ws) ts
def bk_fl : List (Nat × Nat × Nat) := [(10, 9, 436864), (1, 63, 436864), (11, 99, 641), (10, 31, 641), (1, 55, 641), (0, 34, 642), (6, 37, 642), (9, 50, 642), (10, 53, 642), (0, 61, 1667), (10, 66, 1667), (6, 123, 1667), (9, 103, 1667), (6, 51, 644), (0, 76, 644), (10, 74, 644), (9, 80, 644), (0, 93, 645), (6, 85, 645), (10, 80, 645), (9, 111, 645), (10, 41, 646), (11, 125, 646), (10, 44, 647), (11, 114, 647), (10, 15, 445064), (10, 35, 649), (10, 38, 650), (10, 50, 651), (5, 52, 320), (7, 40, 320), (1, 60, 320), (8, 50, 320), (6, 88, 320), (11, 346, 320), (5, 56, 321), (1, 39, 321), (7, 34, 321), (8, 46, 321), (6, 91, 321), (11, 174, 321), (5, 59, 322), (7, 43, 322), (8, 53, 322), (6, 94, 322), (11, 349, 322), (5, 62, 323), (6, 97, 323), (8, 79, 323), (11, 352, 323), (5, 9, 231748), (8, 24, 231748), (6, 108, 231748), (11, 168, 231748), (9, 145, 231748), (5, 15, 239941), (2, 24, 239941), (7, 52, 239941), (8, 45, 239941), (11, 142, 239941), (9, 125, 239941), (5, 65, 326), (1, 66, 326), (11, 152, 326), (6, 120, 326), (9, 100, 326), (5, 18, 248135), (2, 19, 248135), (1, 69, 248135), (11, 136, 248135), (7, 105, 248135), (6, 143, 248135), (9, 122, 248135), (5, 21, 256328), (11, 139, 256328), (6, 146, 256328), (9, 138, 256328), (5, 24, 264521), (11, 149, 264521), (6, 149, 264521), (9, 148, 264521), (5, 27, 272714), (2, 31, 272714), (6, 116, 272714), (9, 94, 272714), (5, 68, 331), (0, 58, 331), (11, 155, 331), (6, 133, 331), (5, 31, 280908), (11, 158, 280908), (6, 152, 280908), (5, 34, 289101), (11, 161, 289101), (6, 155, 289101), (5, 37, 297294), (0, 52, 297294), (6, 130, 297294), (5, 40, 305487), (7, 122, 305487), (11, 180, 305487), (6, 161, 305487), (5, 43, 313680), (11, 189, 313680), (5, 71, 337), (8, 72, 337), (0, 133, 337), (11, 192, 337), (5, 46, 321874), (11, 279, 321874), (8, 9, 371200), (7, 59, 371200), (8, 15, 379393), (7, 104, 379393), (11, 248, 379393), (8, 69, 514), (11, 245, 514), (8, 93, 515), (0, 136, 515), (11, 227, 515), (8, 18, 387588), (8, 21, 395781), (6, 14, 384), (6, 20, 385), (6, 23, 1410), (6, 27, 4483), (0, 96, 0), (11, 316, 0), (0, 24, 1), (0, 9, 133122), (0, 15, 141315), (0, 18, 149508), (0, 21, 157701), (9, 24, 576), (11, 326, 576), (9, 28, 577), (11, 323, 577), (9, 9, 404034), (9, 15, 412227), (9, 18, 420420), (9, 21, 428613), (7, 9, 330176), (11, 256, 330176), (7, 87, 449), (11, 253, 449), (7, 15, 338370), (11, 266, 338370), (7, 108, 4547), (11, 262, 4547), (7, 18, 346564), (11, 276, 346564), (7, 132, 453), (11, 273, 453), (7, 24, 1116614), (7, 28, 354759), (7, 62, 456), (7, 31, 362953), (7, 73, 458), (7, 76, 459), (7, 119, 460), (7, 116, 461), (1, 9, 165952), (11, 295, 165952), (1, 15, 174145), (11, 298, 174145), (1, 45, 66), (11, 292, 66), (1, 18, 182339), (1, 21, 190532), (1, 24, 198725), (1, 27, 206918), (2, 9, 215168), (11, 306, 215168), (2, 15, 129), (11, 305, 129), (3, 18, 192), (11, 238, 192), (3, 22, 193), (3, 11, 223426), (11, 336, 11577600), (11, 339, 2173185), (11, 343, 4354), (11, 10, 84672), (11, 19, 44737), (11, 23, 44738), (11, 26, 2140867), (11, 32, 68292), (11, 39, 51909), (11, 46, 2758), (11, 53, 77511), (11, 57, 77512), (11, 63, 60105), (11, 70, 10954), (11, 77, 19147), (11, 84, 27340), (11, 91, 453325), (11, 95, 461518), (11, 319, 4815), (11, 128, 720), (12, 1, 768), (12, 7, 469761), (12, 11, 770), (12, 18, 771), (12, 27, 772), (12, 21, 773), (12, 24, 774), (12, 30, 775), (12, 47, 776), (12, 40, 777), (12, 66, 778), (12, 69, 779), (12, 43, 1804), (12, 79, 781), (12, 98, 477966), (12, 101, 486159), (12, 104, 494352), (12, 107, 502545), (12, 110, 510738), (12, 113, 518931), (12, 117, 527124), (12, 120, 535317), (12, 123, 543510), (12, 127, 551703), (12, 130, 559896), (12, 267, 793), (12, 190, 4890), (12, 133, 568091), (12, 136, 576284), (12, 139, 584477), (12, 337, 798), (12, 142, 592671), (12, 145, 600864), (12, 363, 801), (12, 148, 609058), (12, 381, 4899), (12, 369, 804), (12, 151, 617253), (12, 154, 625446), (12, 387, 807), (12, 384, 808), (12, 157, 633641), (12, 160, 641834), (12, 163, 650027), (12, 409, 812), (12, 399, 813), (12, 166, 658222), (12, 169, 666415), (12, 172, 674608), (12, 412, 817), (12, 175, 682802), (12, 178, 690995), (12, 431, 820), (12, 449, 4917), (12, 181, 699190), (12, 456, 823), (12, 471, 824), (12, 474, 825), (12, 462, 826)]
def bk_ml : List (Nat × Nat × Nat) := [(13, 23, 1), (11, 103, 2), (13, 28, 3), (13, 33, 4), (11, 107, 5), (6, 9, 0), (6, 31, 6), (10, 47, 7), (10, 56, 8), (10, 60, 9), (10, 63, 10), (10, 77, 12), (6, 40, 13), (6, 54, 14), (6, 78, 15), (6, 75, 16), (6, 81, 17), (10, 83, 16), (6, 57, 18), (6, 104, 19), (6, 100, 20), (6, 60, 21), (6, 63, 22), (6, 136, 23), (6, 48, 7), (6, 112, 24), (6, 139, 25), (6, 66, 26), (6, 69, 27), (6, 158, 28), (6, 72, 29), (6, 44, 30), (11, 111, 31), (11, 117, 32), (8, 42, 33), (8, 35, 34), (8, 39, 35), (8, 65, 36), (11, 121, 37), (11, 124, 38), (13, 38, 39), (13, 51, 40), (11, 145, 41), (13, 55, 42), (11, 164, 20), (13, 59, 43), (13, 63, 44), (11, 171, 45), (13, 67, 46), (11, 177, 47), (11, 183, 48), (11, 186, 49), (13, 71, 50), (11, 195, 51), (11, 199, 52), (11, 202, 53), (13, 75, 54), (11, 205, 55), (11, 209, 56), (11, 213, 57), (3, 25, 58), (11, 216, 59), (13, 80, 60), (13, 84, 61), (11, 220, 62), (11, 223, 63), (13, 88, 64), (11, 230, 65), (8, 82, 66), (8, 86, 67), (8, 90, 68), (5, 90, 49), (13, 92, 69), (11, 234, 70), (8, 75, 65), (13, 96, 71), (11, 239, 72), (13, 100, 73), (11, 242, 33), (13, 104, 74), (13, 108, 75), (13, 112, 76), (11, 129, 77), (11, 249, 78), (7, 69, 34), (7, 79, 79), (7, 65, 80), (7, 83, 81), (7, 90, 284), (7, 101, 35), (7, 94, 82), (7, 98, 83), (13, 116, 84), (13, 124, 85), (13, 128, 86), (11, 269, 87), (7, 129, 49), (7, 135, 88), (13, 132, 89), (13, 136, 90), (13, 140, 91), (11, 282, 92), (11, 286, 58), (13, 145, 93), (11, 289, 94), (1, 31, 95), (1, 35, 96), (1, 81, 97), (1, 48, 98), (1, 52, 99), (1, 85, 100), (13, 149, 101), (13, 153, 102), (13, 157, 103), (13, 161, 104), (13, 165, 105), (11, 301, 106), (2, 35, 107), (2, 51, 108), (2, 45, 109), (13, 169, 110), (13, 173, 111), (11, 309, 112), (0, 28, 6), (0, 37, 113), (0, 48, 24), (0, 69, 16), (0, 72, 114), (0, 79, 28), (0, 82, 115), (0, 89, 17), (0, 45, 7), (0, 86, 116), (0, 41, 30), (11, 312, 117), (0, 99, 118), (0, 103, 119), (0, 114, 20), (0, 118, 56), (0, 122, 59), (0, 107, 120), (0, 126, 62), (0, 129, 63), (0, 111, 121), (0, 141, 65), (13, 177, 122), (13, 181, 123), (11, 322, 124), (9, 37, 37), (9, 40, 6), (9, 46, 125), (9, 57, 126), (9, 70, 127), (9, 73, 128), (9, 53, 16), (9, 77, 285), (9, 63, 7), (9, 83, 286), (9, 66, 129), (9, 86, 130), (9, 90, 24), (9, 60, 28), (13, 185, 131), (11, 327, 132), (9, 114, 133), (9, 118, 134), (9, 141, 135), (11, 330, 136), (13, 189, 137), (11, 340, 138), (13, 193, 139), (13, 197, 140), (13, 7, 141), (13, 15, 142), (11, 259, 143), (7, 112, 144), (7, 125, 145), (13, 48, 146), (13, 27, 147), (12, 14, 148), (13, 32, 149), (12, 184, 150), (12, 187, 151), (12, 194, 152), (12, 197, 153), (12, 281, 154), (12, 274, 155), (12, 270, 156), (12, 75, 157), (12, 278, 158), (13, 37, 159), (12, 258, 160), (12, 89, 161), (12, 82, 162), (12, 33, 163), (12, 37, 164), (12, 50, 165), (12, 261, 166), (12, 237, 167), (12, 62, 168), (12, 58, 169), (12, 243, 170), (12, 72, 171), (12, 208, 172), (12, 211, 173), (12, 219, 174), (12, 215, 175), (12, 246, 176), (12, 222, 177), (12, 225, 178), (12, 249, 179), (12, 228, 180), (12, 231, 181), (12, 200, 182), (12, 204, 183), (12, 234, 184), (12, 252, 185), (12, 255, 186), (12, 240, 187), (12, 264, 188), (12, 86, 189), (13, 41, 190), (13, 47, 191), (12, 299, 192), (12, 302, 193), (12, 290, 194), (12, 287, 195), (12, 284, 196), (13, 54, 197), (12, 305, 198), (13, 58, 199), (13, 62, 200), (13, 66, 201), (12, 308, 202), (13, 70, 203), (12, 311, 204), (12, 314, 205), (12, 293, 206), (13, 74, 207), (13, 79, 208), (12, 334, 209), (12, 323, 210), (12, 317, 211), (12, 319, 212), (12, 327, 213), (12, 330, 214), (13, 83, 215), (13, 87, 216), (13, 99, 217), (13, 91, 218), (12, 350, 219), (12, 341, 220), (12, 344, 221), (12, 296, 222), (12, 347, 223), (13, 95, 224), (12, 353, 225), (13, 139, 226), (13, 103, 227), (13, 107, 228), (13, 111, 229), (12, 356, 230), (13, 115, 231), (12, 359, 232), (13, 119, 233), (13, 123, 234), (12, 378, 235), (12, 366, 236), (12, 372, 237), (12, 375, 238), (13, 127, 239), (13, 131, 240), (12, 390, 241), (13, 135, 242), (13, 144, 243), (12, 393, 244), (12, 396, 245), (13, 160, 246), (13, 148, 247), (12, 405, 248), (12, 402, 249), (13, 152, 250), (13, 156, 251), (13, 164, 252), (13, 168, 253), (12, 415, 254), (12, 419, 255), (12, 422, 256), (13, 172, 257), (13, 176, 258), (12, 443, 259), (12, 434, 260), (12, 428, 261), (12, 425, 262), (12, 437, 263), (12, 440, 264), (12, 446, 265), (12, 452, 266), (13, 180, 267), (13, 184, 268), (12, 489, 269), (12, 459, 270), (12, 468, 271), (12, 477, 272), (12, 480, 273), (12, 465, 274), (12, 483, 275), (12, 492, 276), (12, 486, 277), (13, 188, 278), (12, 495, 279), (12, 498, 280), (13, 192, 281), (13, 196, 282), (13, 200, 283)]
def bk_nl : List (Nat × Nat × Nat) := [(10, 70, 11), (6, 126, 11), (5, 80, 41), (7, 55, 41), (2, 27, 41), (0, 65, 11), (9, 107, 11), (9, 128, 41)]
def bk_kl : List (Nat × Nat × Int) := [(8, 96, 1103515245), (14, 265, 1431655765), (14, 266, 858993459), (14, 267, 252645135), (12, 273, 100000), (12, 340, 1103515245)]
def bk_kL : List (Nat × Nat × Int) := [(2, 65, 31), (12, 54, 27), (12, 56, 96)]
def bk_sT : List Nat := [0, 1, 2, 3, 4, 5, 6, 7, 16, 17, 20, 24, 28, 30, 32, 33, 34, 35, 37, 38, 39, 40, 42, 43, 44, 46, 48, 49, 50, 51, 52, 53, 54, 56, 57, 58, 59, 60, 61, 62, 63, 64, 65, 67, 68, 69, 70, 71, 72, 73, 74, 75, 76, 78, 84, 85, 86, 87, 89, 90, 91, 93, 94, 101, 102, 103, 104, 105, 106, 110, 111, 112, 117, 122, 123, 124, 131, 132, 137, 138, 139, 140, 141, 142, 143, 146, 147, 149, 159, 190, 191, 197, 199, 200, 201, 203, 207, 208, 215, 216, 217, 218, 224, 226, 227, 228, 229, 231, 233, 234, 239, 240, 242, 243, 246, 247, 250, 251, 252, 253, 257, 258, 267, 268, 278, 281, 282, 283]
def bk_sP : List Nat := [10, 13, 14, 15, 18, 19, 21, 22, 23, 26, 27, 29, 31, 36, 45, 55, 66, 77, 79, 80, 284, 82, 83, 88, 95, 96, 97, 98, 99, 100, 107, 108, 109, 113, 115, 116, 118, 119, 120, 121, 125, 126, 127, 285, 286, 129, 130, 133, 134, 135, 144, 145, 148, 150, 151, 152, 153, 154, 155, 156, 160, 161, 162, 165, 166, 167, 170, 171, 172, 173, 174, 175, 176, 177, 178, 179, 180, 181, 182, 184, 185, 186, 187, 188, 189, 192, 193, 194, 195, 198, 202, 204, 205, 209, 210, 212, 213, 214, 219, 220, 221, 222, 223, 225, 230, 232, 235, 236, 237, 241, 244, 245, 248, 249, 254, 255, 256, 259, 260, 261, 262, 263, 264, 265, 266, 269, 270, 271, 272, 273, 274, 275, 276, 277, 279, 280]
def bk_iT : List Nat := [0, 1, 2, 3, 4, 5, 6, 7, 10, 13, 14, 15, 16, 17, 18, 19, 20, 21, 22, 23, 24, 26, 27, 28, 29, 30, 31, 32, 33, 34, 35, 36, 37, 38, 39, 40, 42, 43, 44, 45, 46, 48, 49, 50, 51, 52, 53, 54, 55, 56, 57, 58, 59, 60, 61, 62, 63, 64, 65, 66, 67, 68, 69, 70, 71, 72, 73, 74, 75, 76, 77, 78, 79, 80, 284, 82, 83, 84, 85, 86, 87, 88, 89, 90, 91, 93, 94, 95, 96, 97, 98, 99, 100, 101, 102, 103, 104, 105, 106, 107, 108, 109, 110, 111, 112, 113, 115, 116, 117, 118, 119, 120, 121, 122, 123, 124, 125, 126, 127, 285, 286, 129, 130, 131, 132, 133, 134, 135, 137, 138, 139, 140, 141, 142, 143, 144, 145, 146, 147, 148, 149, 150, 151, 152, 153, 154, 155, 156, 159, 160, 161, 162, 165, 166, 167, 170, 171, 172, 173, 174, 175, 176, 177, 178, 179, 180, 181, 182, 184, 185, 186, 187, 188, 189, 190, 191, 192, 193, 194, 195, 197, 198, 199, 200, 201, 202, 203, 204, 205, 207, 208, 209, 210, 212, 213, 214, 215, 216, 217, 218, 219, 220, 221, 222, 223, 224, 225, 226, 227, 228, 229, 230, 231, 232, 233, 234, 235, 236, 237, 239, 240, 241, 242, 243, 244, 245, 246, 247, 248, 249, 250, 251, 252, 253, 254, 255, 256, 257, 258, 259, 260, 261, 262, 263, 264, 265, 266, 267, 268, 269, 270, 271, 272, 273, 274, 275, 276, 277, 278, 279, 280, 281, 282, 283]
def bk_tT : List Nat := [8, 9, 11, 12, 25, 41, 47, 81, 92, 114, 128, 136, 157, 158, 163, 164, 168, 169, 183, 196, 206, 211, 238]
def bk_ini : List Nat := [13, 11, 10, 5, 8, 6, 0, 9, 7, 1, 2, 3, 4, 12, 14]
def bk_fw (e : Nat × Nat × Nat) : Cond := .fieldLink (bk_R e.1) e.2.1 (bk_F (e.2.2 / 64 % 16) (e.2.2 % 64)).1 (bk_F (e.2.2 / 64 % 16) (e.2.2 % 64)).2.1 (bk_F (e.2.2 / 64 % 16) (e.2.2 % 64)).2.2.1
def bk_lw (e : Nat × Nat × Nat) : Cond := .methodLink (bk_R e.1) e.2.1 (bk_m e.2.2).1
def bk_nw (e : Nat × Nat × Nat) : Cond := .methodLinkNest (bk_R e.1) e.2.1 (bk_m e.2.2).1 "BanksDealt"
def bk_kw (e : Nat × Nat × Int) : Cond := .constant (bk_R e.1) e.2.1 (Int32.ofInt e.2.2)
def bk_kW (e : Nat × Nat × Int) : Cond := .constantLong (bk_R e.1) e.2.1 (Int64.ofInt e.2.2)
set_option maxRecDepth 20000 in
theorem bk_fl_in : bk_sub (bk_fl.map bk_fw) tables_1 = true := by decide +kernel
set_option maxRecDepth 20000 in
theorem bk_ml_in : bk_sub (bk_ml.map bk_lw) tables_1 = true := by decide +kernel
set_option maxRecDepth 20000 in
theorem bk_nl_in : bk_sub (bk_nl.map bk_nw) tables_1 = true := by decide +kernel
set_option maxRecDepth 20000 in
theorem bk_kl_in : bk_sub (bk_kl.map bk_kw) tables_1 = true := by decide +kernel
set_option maxRecDepth 20000 in
theorem bk_kL_in : bk_sub (bk_kL.map bk_kW) tables_1 = true := by decide +kernel
set_option maxRecDepth 20000 in
theorem bk_dummy : True := trivial
def bk_isC : Cond → Bool
  | .code y _ _ _ => (y.name != "<init>" && (y.cls == "BanksDealt" || y.cls == "BanksDealtModel" || y.name == "bitCount" || [RX0, RX1, RX2, RX3, RX4, RX5, RX6, RX7, RX8, RX9, RX10].elem y.cls))
  | _ => false
set_option maxRecDepth 20000 in
theorem bk_me1_in : tables_1_1.filter bk_isC = bk_me1.map bk_mw := by rfl
set_option maxRecDepth 20000 in
theorem bk_me3_in : tables_1_3.filter bk_isC = bk_me3.map bk_mw := by rfl
set_option maxRecDepth 20000 in
theorem bk_me4_in : tables_1_4.filter bk_isC = bk_me4.map bk_mw := by rfl
set_option maxRecDepth 20000 in
theorem bk_me5_in : tables_1_5.filter bk_isC = bk_me5.map bk_mw := by rfl
set_option maxRecDepth 20000 in
theorem bk_me6_in : tables_1_6.filter bk_isC = bk_me6.map bk_mw := by rfl
set_option maxRecDepth 20000 in
theorem bk_me7_in : tables_1_7.filter bk_isC = bk_me7.map bk_mw := by rfl
set_option maxRecDepth 20000 in
theorem bk_me8_in : tables_1_8.filter bk_isC = bk_me8.map bk_mw := by rfl
set_option maxRecDepth 20000 in
theorem bk_me9_in : tables_1_9.filter bk_isC = bk_me9.map bk_mw := by rfl
set_option maxRecDepth 20000 in
theorem bk_sT_in : bk_sub (bk_sT.map (fun μ => bk_ms (bk_m μ))) tables_1 = true := by decide +kernel
set_option maxRecDepth 20000 in
theorem bk_sP_in : bk_sub (bk_sP.map (fun μ => bk_ms (bk_m μ))) (k2_sels lw_privs) = true := by decide +kernel
set_option maxRecDepth 20000 in
theorem bk_iT_in : bk_sub (bk_iT.map (fun μ => Cond.instanceMethod (bk_m μ).1)) tables_1 = true := by decide +kernel
set_option maxRecDepth 20000 in
theorem bk_tT_in : bk_sub (bk_tT.map (fun μ => Cond.static (bk_m μ).1)) tables_1 = true := by decide +kernel
set_option maxRecDepth 20000 in
theorem bk_ini_in : bk_sub (bk_ini.map (fun c => Cond.initialized (bk_R c))) tables_1 = true := by decide +kernel
set_option maxRecDepth 20000 in
theorem bk_lay_in : ∀ c, c < 13 → bk_sub (u_ws (bk_R c) (bk_F c) (bk_n c)) tables_1 = true := by decide +kernel

