abbrev nJ0_charAt_5068e : mi := (yJ0_charAt_5068e, cJ0_charAt_5068e, 2, (some .char))
abbrev nJ0_checkIndex_df160 : mi := (yJ0_checkIndex_df160, cJ0_checkIndex_df160, 2, none)
abbrev nJ0_coder_7d493 : mi := (yJ0_coder_7d493, cJ0_coder_7d493, 1, (some .byte))
abbrev nJ0_indexOf_0f7a4 : mi := (yJ0_indexOf_0f7a4, cJ0_indexOf_0f7a4, 2, (some .int))
abbrev nJ0_indexOf_7cf53 : mi := (yJ0_indexOf_7cf53, cJ0_indexOf_7cf53, 3, (some .int))
abbrev nJ0_isLatin1_aae02 : mi := (yJ0_isLatin1_aae02, cJ0_isLatin1_aae02, 1, (some .boolean))
abbrev nJ0_length_8abf5 : mi := (yJ0_length_8abf5, cJ0_length_8abf5, 1, (some .int))
abbrev nJ1_canEncode_9a6ad : mi := (yJ1_canEncode_9a6ad, cJ1_canEncode_9a6ad, 1, (some .boolean))
abbrev nJ1_charAt_3b067 : mi := (yJ1_charAt_3b067, cJ1_charAt_3b067, 2, (some .char))
abbrev nJ1_indexOfChar_4cfef : mi := (yJ1_indexOfChar_4cfef, cJ1_indexOfChar_4cfef, 6, (some .int))
abbrev nJ1_indexOf_4cfef : mi := (yJ1_indexOf_4cfef, cJ1_indexOf_4cfef, 4, (some .int))
abbrev nJ3_checkIndex_8e157 : mi := (yJ3_checkIndex_8e157, cJ3_checkIndex_8e157, 3, (some .int))
abbrev nJ7_copyOf_59c91 : mi := (yJ7_copyOf_59c91, cJ7_copyOf_59c91, 3, (some (.array .int)))
abbrev nJ7_fill_53178 : mi := (yJ7_fill_53178, cJ7_fill_53178, 4, none)
abbrev nX0_groupOf : mi := (yX0_groupOf, cX0_groupOf, 6, (some .int))
abbrev nX0_init : mi := (yX0_init, cX0_init, 1, none)
abbrev nX0_isGroupOf : mi := (yX0_isGroupOf, cX0_isGroupOf, 4, (some .boolean))
abbrev nX0_lowestGroup : mi := (yX0_lowestGroup, cX0_lowestGroup, 4, (some .int))
abbrev nX0_mostGroups : mi := (yX0_mostGroups, cX0_mostGroups, 2, (some .int))
abbrev nX0_mostOf : mi := (yX0_mostOf, cX0_mostOf, 5, (some .int))
abbrev nX0_sumOf : mi := (yX0_sumOf, cX0_sumOf, 4, (some .int))
abbrev nX0_weighSets : mi := (yX0_weighSets, cX0_weighSets, 3, none)
abbrev nX10_addCar : mi := (yX10_addCar, cX10_addCar, 2, (some .int))
abbrev nX10_carAt : mi := (yX10_carAt, cX10_carAt, 3, (some .int))
abbrev nX10_carsOn : mi := (yX10_carsOn, cX10_carsOn, 4, (some .int))
abbrev nX10_changeFeet : mi := (yX10_changeFeet, cX10_changeFeet, 4, none)
abbrev nX10_copyFrom : mi := (yX10_copyFrom, cX10_copyFrom, 2, none)
abbrev nX10_countCars : mi := (yX10_countCars, cX10_countCars, 1, (some .int))
abbrev nX10_countLines : mi := (yX10_countLines, cX10_countLines, 1, (some .int))
abbrev nX10_countOn : mi := (yX10_countOn, cX10_countOn, 2, (some .int))
abbrev nX10_draw : mi := (yX10_draw, cX10_draw, 3, (some .int))
abbrev nX10_drawnX : mi := (yX10_drawnX, cX10_drawnX, 2, (some .int))
abbrev nX10_gainWheel : mi := (yX10_gainWheel, cX10_gainWheel, 2, none)
abbrev nX10_hourCanPass : mi := (yX10_hourCanPass, cX10_hourCanPass, 1, (some .boolean))
abbrev nX10_hourNow : mi := (yX10_hourNow, cX10_hourNow, 1, (some .int))
abbrev nX10_init : mi := (yX10_init, cX10_init, 1, none)
abbrev nX10_isWide : mi := (yX10_isWide, cX10_isWide, 2, (some .boolean))
abbrev nX10_lineTells : mi := (yX10_lineTells, cX10_lineTells, 4, (some .int))
abbrev nX10_moveUppermost : mi := (yX10_moveUppermost, cX10_moveUppermost, 4, none)
abbrev nX10_passHour : mi := (yX10_passHour, cX10_passHour, 4, (some .int))
abbrev nX10_placeOf : mi := (yX10_placeOf, cX10_placeOf, 3, (some .int))
abbrev nX10_placeOn : mi := (yX10_placeOn, cX10_placeOn, 4, (some .int))
abbrev nX10_putUppermost : mi := (yX10_putUppermost, cX10_putUppermost, 4, none)
abbrev nX10_toldCars : mi := (yX10_toldCars, cX10_toldCars, 1, (some .int))
abbrev nX10_trackOf : mi := (yX10_trackOf, cX10_trackOf, 3, (some .int))
abbrev nX10_uppermost : mi := (yX10_uppermost, cX10_uppermost, 3, (some .int))
abbrev nX10_wheelsOf : mi := (yX10_wheelsOf, cX10_wheelsOf, 2, (some .int))
abbrev nX10_wornOf : mi := (yX10_wornOf, cX10_wornOf, 2, (some .int))
abbrev nX10_wornTogether : mi := (yX10_wornTogether, cX10_wornTogether, 3, (some .int))
abbrev nX10_write : mi := (yX10_write, cX10_write, 4, none)
abbrev nX11_about : mi := (yX11_about, cX11_about, 2, (some .int))
abbrev nX11_amiss : mi := (yX11_amiss, cX11_amiss, 4, (some .int))
abbrev nX11_back : mi := (yX11_back, cX11_back, 1, (some .int))
abbrev nX11_balance : mi := (yX11_balance, cX11_balance, 2, (some .int))
abbrev nX11_book : mi := (yX11_book, cX11_book, 4, (some .int))
abbrev nX11_by : mi := (yX11_by, cX11_by, 2, (some .boolean))
abbrev nX11_car : mi := (yX11_car, cX11_car, 3, (some .int))
abbrev nX11_change : mi := (yX11_change, cX11_change, 1, (some .int))
abbrev nX11_commonDivisor : mi := (yX11_commonDivisor, cX11_commonDivisor, 11, (some .long))
abbrev nX11_crane : mi := (yX11_crane, cX11_crane, 3, (some .int))
abbrev nX11_end : mi := (yX11_end, cX11_end, 2, (some .int))
abbrev nX11_exploreFromNow : mi := (yX11_exploreFromNow, cX11_exploreFromNow, 1, none)
abbrev nX11_fastestOrder : mi := (yX11_fastestOrder, cX11_fastestOrder, 5, (some .int))
abbrev nX11_fault : mi := (yX11_fault, cX11_fault, 2, (some .int))
abbrev nX11_feed : mi := (yX11_feed, cX11_feed, 6, (some .int))
abbrev nX11_fitsAllSeen : mi := (yX11_fitsAllSeen, cX11_fitsAllSeen, 9, (some .boolean))
abbrev nX11_fitsSeen : mi := (yX11_fitsSeen, cX11_fitsSeen, 7, (some .boolean))
abbrev nX11_forbid : mi := (yX11_forbid, cX11_forbid, 4, (some .boolean))
abbrev nX11_foretold : mi := (yX11_foretold, cX11_foretold, 4, (some .int))
abbrev nX11_group : mi := (yX11_group, cX11_group, 2, (some .int))
abbrev nX11_heaviest : mi := (yX11_heaviest, cX11_heaviest, 5, (some .int))
abbrev nX11_histories : mi := (yX11_histories, cX11_histories, 8, (some .int))
abbrev nX11_hour : mi := (yX11_hour, cX11_hour, 2, (some .int))
abbrev nX11_idle : mi := (yX11_idle, cX11_idle, 4, (some .int))
abbrev nX11_image : mi := (yX11_image, cX11_image, 1, (some .int))
abbrev nX11_init : mi := (yX11_init, cX11_init, 1, none)
abbrev nX11_is : mi := (yX11_is, cX11_is, 2, (some .int))
abbrev nX11_isCar : mi := (yX11_isCar, cX11_isCar, 2, (some .boolean))
abbrev nX11_isRailway : mi := (yX11_isRailway, cX11_isRailway, 1, (some .boolean))
abbrev nX11_isText : mi := (yX11_isText, cX11_isText, 2, (some .boolean))
abbrev nX11_isTrack : mi := (yX11_isTrack, cX11_isTrack, 1, (some .boolean))
abbrev nX11_lastMomentSeen : mi := (yX11_lastMomentSeen, cX11_lastMomentSeen, 3, (some .int))
abbrev nX11_late : mi := (yX11_late, cX11_late, 3, (some .boolean))
abbrev nX11_law : mi := (yX11_law, cX11_law, 4, (some .int))
abbrev nX11_ledger : mi := (yX11_ledger, cX11_ledger, 4, (some .int))
abbrev nX11_lend : mi := (yX11_lend, cX11_lend, 3, (some .boolean))
abbrev nX11_likely : mi := (yX11_likely, cX11_likely, 9, (some .long))
abbrev nX11_lowest : mi := (yX11_lowest, cX11_lowest, 6, (some .int))
abbrev nX11_move : mi := (yX11_move, cX11_move, 3, (some .int))
abbrev nX11_of : mi := (yX11_of, cX11_of, 3, (some .int))
abbrev nX11_order : mi := (yX11_order, cX11_order, 4, (some .int))
abbrev nX11_owe : mi := (yX11_owe, cX11_owe, 4, (some .boolean))
abbrev nX11_played : mi := (yX11_played, cX11_played, 4, (some .int))
abbrev nX11_reach : mi := (yX11_reach, cX11_reach, 1, (some .int))
abbrev nX11_rows : mi := (yX11_rows, cX11_rows, 7, (some .long))
abbrev nX11_said : mi := (yX11_said, cX11_said, 3, (some .int))
abbrev nX11_saysAllThatWasSaid : mi := (yX11_saysAllThatWasSaid, cX11_saysAllThatWasSaid, 4, (some .boolean))
abbrev nX11_seen : mi := (yX11_seen, cX11_seen, 4, (some .int))
abbrev nX11_settled : mi := (yX11_settled, cX11_settled, 3, (some .int))
abbrev nX11_shunts : mi := (yX11_shunts, cX11_shunts, 4, (some .int))
abbrev nX11_stock : mi := (yX11_stock, cX11_stock, 6, (some .int))
abbrev nX11_text : mi := (yX11_text, cX11_text, 2, (some .int))
abbrev nX11_times : mi := (yX11_times, cX11_times, 4, (some .boolean))
abbrev nX11_track : mi := (yX11_track, cX11_track, 4, (some .int))
abbrev nX11_trip : mi := (yX11_trip, cX11_trip, 4, (some .int))
abbrev nX11_undo : mi := (yX11_undo, cX11_undo, 1, (some .int))
abbrev nX11_want : mi := (yX11_want, cX11_want, 2, (some .boolean))
abbrev nX11_wantedCode : mi := (yX11_wantedCode, cX11_wantedCode, 5, (some .int))
abbrev nX11_wheelsOut : mi := (yX11_wheelsOut, cX11_wheelsOut, 5, (some .int))
abbrev nX11_whose : mi := (yX11_whose, cX11_whose, 3, (some .int))
abbrev nX11_within : mi := (yX11_within, cX11_within, 3, (some .boolean))
abbrev nX11_worn : mi := (yX11_worn, cX11_worn, 4, (some .int))
abbrev nX11_years : mi := (yX11_years, cX11_years, 4, (some .int))
abbrev nX12_about : mi := (yX12_about, cX12_about, 2, (some .int))
abbrev nX12_amiss : mi := (yX12_amiss, cX12_amiss, 4, (some .int))
abbrev nX12_anew : mi := (yX12_anew, cX12_anew, 1, none)
abbrev nX12_arePassed : mi := (yX12_arePassed, cX12_arePassed, 3, (some .boolean))
abbrev nX12_back : mi := (yX12_back, cX12_back, 1, (some .int))
abbrev nX12_balance : mi := (yX12_balance, cX12_balance, 2, (some .int))
abbrev nX12_beginOne : mi := (yX12_beginOne, cX12_beginOne, 2, (some .int))
abbrev nX12_behindOne : mi := (yX12_behindOne, cX12_behindOne, 4, (some .boolean))
abbrev nX12_bestOrder : mi := (yX12_bestOrder, cX12_bestOrder, 3, (some .int))
abbrev nX12_betweenOf : mi := (yX12_betweenOf, cX12_betweenOf, 1, (some .int))
abbrev nX12_body : mi := (yX12_body, cX12_body, 3, (some .int))
abbrev nX12_book : mi := (yX12_book, cX12_book, 3, (some .int))
abbrev nX12_by : mi := (yX12_by, cX12_by, 2, (some .boolean))
abbrev nX12_byteAt : mi := (yX12_byteAt, cX12_byteAt, 2, (some .int))
abbrev nX12_canChange : mi := (yX12_canChange, cX12_canChange, 2, (some .boolean))
abbrev nX12_canLend : mi := (yX12_canLend, cX12_canLend, 3, (some .boolean))
abbrev nX12_canMove : mi := (yX12_canMove, cX12_canMove, 4, (some .boolean))
abbrev nX12_car : mi := (yX12_car, cX12_car, 4, (some .int))
abbrev nX12_carOn : mi := (yX12_carOn, cX12_carOn, 3, (some .int))
abbrev nX12_cars : mi := (yX12_cars, cX12_cars, 1, (some .int))
abbrev nX12_change : mi := (yX12_change, cX12_change, 1, (some .int))
abbrev nX12_changeNow : mi := (yX12_changeNow, cX12_changeNow, 3, (some .int))
abbrev nX12_changesOf : mi := (yX12_changesOf, cX12_changesOf, 3, (some .int))
abbrev nX12_clause : mi := (yX12_clause, cX12_clause, 5, (some .int))
abbrev nX12_clip : mi := (yX12_clip, cX12_clip, 2, (some .long))
abbrev nX12_come : mi := (yX12_come, cX12_come, 3, none)
abbrev nX12_compareOf : mi := (yX12_compareOf, cX12_compareOf, 1, (some .int))
abbrev nX12_copy : mi := (yX12_copy, cX12_copy, 3, none)
abbrev nX12_crane : mi := (yX12_crane, cX12_crane, 2, (some .int))
abbrev nX12_cut : mi := (yX12_cut, cX12_cut, 4, (some .int))
abbrev nX12_divisor : mi := (yX12_divisor, cX12_divisor, 10, (some .long))
abbrev nX12_doneBy : mi := (yX12_doneBy, cX12_doneBy, 5, (some .int))
abbrev nX12_drawnBy : mi := (yX12_drawnBy, cX12_drawnBy, 3, (some .int))
abbrev nX12_emit : mi := (yX12_emit, cX12_emit, 3, none)
abbrev nX12_end : mi := (yX12_end, cX12_end, 2, (some .int))
abbrev nX12_endOf : mi := (yX12_endOf, cX12_endOf, 2, (some .int))
abbrev nX12_entry : mi := (yX12_entry, cX12_entry, 4, (some .int))
abbrev nX12_factorial : mi := (yX12_factorial, cX12_factorial, 3, (some .int))
abbrev nX12_fault : mi := (yX12_fault, cX12_fault, 2, (some .int))
abbrev nX12_feed : mi := (yX12_feed, cX12_feed, 6, (some .int))
abbrev nX12_figure : mi := (yX12_figure, cX12_figure, 4, (some .int))
abbrev nX12_forbid : mi := (yX12_forbid, cX12_forbid, 4, (some .boolean))
abbrev nX12_forbidOne : mi := (yX12_forbidOne, cX12_forbidOne, 4, none)
abbrev nX12_foretold : mi := (yX12_foretold, cX12_foretold, 5, (some .int))
abbrev nX12_four : mi := (yX12_four, cX12_four, 3, none)
abbrev nX12_group : mi := (yX12_group, cX12_group, 4, (some .int))
abbrev nX12_happens : mi := (yX12_happens, cX12_happens, 4, none)
abbrev nX12_has : mi := (yX12_has, cX12_has, 2, (some .boolean))
abbrev nX12_heaviest : mi := (yX12_heaviest, cX12_heaviest, 3, (some .int))
abbrev nX12_histories : mi := (yX12_histories, cX12_histories, 6, (some .int))
abbrev nX12_hour : mi := (yX12_hour, cX12_hour, 2, (some .int))
abbrev nX12_idle : mi := (yX12_idle, cX12_idle, 3, (some .int))
abbrev nX12_image : mi := (yX12_image, cX12_image, 1, (some .int))
abbrev nX12_init : mi := (yX12_init, cX12_init, 2, none)
abbrev nX12_is : mi := (yX12_is, cX12_is, 2, (some .int))
abbrev nX12_isAskAhead : mi := (yX12_isAskAhead, cX12_isAskAhead, 1, (some .boolean))
abbrev nX12_isAsked : mi := (yX12_isAsked, cX12_isAsked, 5, (some .boolean))
abbrev nX12_isCar : mi := (yX12_isCar, cX12_isCar, 2, (some .boolean))
abbrev nX12_isChanges : mi := (yX12_isChanges, cX12_isChanges, 1, (some .boolean))
abbrev nX12_isCompared : mi := (yX12_isCompared, cX12_isCompared, 2, (some .boolean))
abbrev nX12_isFigure : mi := (yX12_isFigure, cX12_isFigure, 1, (some .boolean))
abbrev nX12_isForbidden : mi := (yX12_isForbidden, cX12_isForbidden, 3, (some .boolean))
abbrev nX12_isHistory : mi := (yX12_isHistory, cX12_isHistory, 5, (some .boolean))
abbrev nX12_isIn : mi := (yX12_isIn, cX12_isIn, 3, (some .boolean))
abbrev nX12_isLetterByte : mi := (yX12_isLetterByte, cX12_isLetterByte, 1, (some .boolean))
abbrev nX12_isOf : mi := (yX12_isOf, cX12_isOf, 2, (some .boolean))
abbrev nX12_isOnTrack : mi := (yX12_isOnTrack, cX12_isOnTrack, 3, (some .boolean))
abbrev nX12_isOrder : mi := (yX12_isOrder, cX12_isOrder, 1, (some .boolean))
abbrev nX12_isPlayed : mi := (yX12_isPlayed, cX12_isPlayed, 4, (some .boolean))
abbrev nX12_isRailway : mi := (yX12_isRailway, cX12_isRailway, 1, (some .boolean))
abbrev nX12_isSeenAt : mi := (yX12_isSeenAt, cX12_isSeenAt, 3, (some .boolean))
abbrev nX12_isShunted : mi := (yX12_isShunted, cX12_isShunted, 7, (some .boolean))
abbrev nX12_isSign : mi := (yX12_isSign, cX12_isSign, 1, (some .boolean))
abbrev nX12_isThere : mi := (yX12_isThere, cX12_isThere, 4, (some .boolean))
abbrev nX12_isTrack : mi := (yX12_isTrack, cX12_isTrack, 1, (some .boolean))
abbrev nX12_isWanted : mi := (yX12_isWanted, cX12_isWanted, 2, (some .boolean))
abbrev nX12_isWide : mi := (yX12_isWide, cX12_isWide, 2, (some .int))
abbrev nX12_isWord : mi := (yX12_isWord, cX12_isWord, 3, (some .boolean))
abbrev nX12_joined : mi := (yX12_joined, cX12_joined, 3, (some .boolean))
abbrev nX12_keep : mi := (yX12_keep, cX12_keep, 3, none)
abbrev nX12_late : mi := (yX12_late, cX12_late, 3, (some .boolean))
abbrev nX12_law : mi := (yX12_law, cX12_law, 3, (some .int))
abbrev nX12_lawClause : mi := (yX12_lawClause, cX12_lawClause, 3, (some .int))
abbrev nX12_layGroups : mi := (yX12_layGroups, cX12_layGroups, 4, none)
abbrev nX12_layRow : mi := (yX12_layRow, cX12_layRow, 8, none)
abbrev nX12_layRows : mi := (yX12_layRows, cX12_layRows, 8, (some .int))
abbrev nX12_ledger : mi := (yX12_ledger, cX12_ledger, 4, (some .int))
abbrev nX12_lend : mi := (yX12_lend, cX12_lend, 3, (some .boolean))
abbrev nX12_likely : mi := (yX12_likely, cX12_likely, 8, (some .long))
abbrev nX12_loadOf : mi := (yX12_loadOf, cX12_loadOf, 4, (some .int))
abbrev nX12_lowBit : mi := (yX12_lowBit, cX12_lowBit, 1, (some .int))
abbrev nX12_lowest : mi := (yX12_lowest, cX12_lowest, 3, (some .int))
abbrev nX12_lowestGroup : mi := (yX12_lowestGroup, cX12_lowestGroup, 3, (some .int))
abbrev nX12_move : mi := (yX12_move, cX12_move, 3, (some .int))
abbrev nX12_moveNow : mi := (yX12_moveNow, cX12_moveNow, 4, (some .int))
abbrev nX12_movesOf : mi := (yX12_movesOf, cX12_movesOf, 4, (some .int))
abbrev nX12_name : mi := (yX12_name, cX12_name, 2, none)
abbrev nX12_nameOf : mi := (yX12_nameOf, cX12_nameOf, 1, (some .int))
abbrev nX12_nextToken : mi := (yX12_nextToken, cX12_nextToken, 2, none)
abbrev nX12_of : mi := (yX12_of, cX12_of, 3, (some .int))
abbrev nX12_ofOne : mi := (yX12_ofOne, cX12_ofOne, 4, (some .long))
abbrev nX12_openAt : mi := (yX12_openAt, cX12_openAt, 2, (some .int))
abbrev nX12_openNow : mi := (yX12_openNow, cX12_openNow, 1, (some .int))
abbrev nX12_opened : mi := (yX12_opened, cX12_opened, 2, (some .int))
abbrev nX12_order : mi := (yX12_order, cX12_order, 3, (some .int))
abbrev nX12_outOn : mi := (yX12_outOn, cX12_outOn, 4, (some .int))
abbrev nX12_owe : mi := (yX12_owe, cX12_owe, 4, (some .boolean))
abbrev nX12_pair : mi := (yX12_pair, cX12_pair, 9, (some .int))
abbrev nX12_partOf : mi := (yX12_partOf, cX12_partOf, 2, (some .int))
abbrev nX12_pass : mi := (yX12_pass, cX12_pass, 4, none)
abbrev nX12_placeOf : mi := (yX12_placeOf, cX12_placeOf, 4, (some .int))
abbrev nX12_played : mi := (yX12_played, cX12_played, 3, (some .int))
abbrev nX12_rank : mi := (yX12_rank, cX12_rank, 1, (some .int))
abbrev nX12_reach : mi := (yX12_reach, cX12_reach, 1, (some .int))
abbrev nX12_readText : mi := (yX12_readText, cX12_readText, 2, (some .int))
abbrev nX12_rows : mi := (yX12_rows, cX12_rows, 2, (some .long))
abbrev nX12_said : mi := (yX12_said, cX12_said, 3, (some .int))
abbrev nX12_says : mi := (yX12_says, cX12_says, 4, (some .int))
abbrev nX12_seen : mi := (yX12_seen, cX12_seen, 5, (some .int))
abbrev nX12_settle : mi := (yX12_settle, cX12_settle, 2, none)
abbrev nX12_settled : mi := (yX12_settled, cX12_settled, 2, (some .int))
abbrev nX12_shunts : mi := (yX12_shunts, cX12_shunts, 5, (some .int))
abbrev nX12_sortOf : mi := (yX12_sortOf, cX12_sortOf, 1, (some .int))
abbrev nX12_spread : mi := (yX12_spread, cX12_spread, 6, (some .int))
abbrev nX12_standOf : mi := (yX12_standOf, cX12_standOf, 6, (some .int))
abbrev nX12_standSo : mi := (yX12_standSo, cX12_standSo, 6, none)
abbrev nX12_stock : mi := (yX12_stock, cX12_stock, 5, (some .int))
abbrev nX12_sumOf : mi := (yX12_sumOf, cX12_sumOf, 4, (some .int))
abbrev nX12_summed : mi := (yX12_summed, cX12_summed, 2, (some .int))
abbrev nX12_summedUp : mi := (yX12_summedUp, cX12_summedUp, 10, (some .long))
abbrev nX12_takeFrom : mi := (yX12_takeFrom, cX12_takeFrom, 5, none)
abbrev nX12_text : mi := (yX12_text, cX12_text, 1, (some .int))
abbrev nX12_times : mi := (yX12_times, cX12_times, 4, (some .boolean))
abbrev nX12_topLoad : mi := (yX12_topLoad, cX12_topLoad, 3, (some .long))
abbrev nX12_track : mi := (yX12_track, cX12_track, 3, (some .int))
abbrev nX12_trackOf : mi := (yX12_trackOf, cX12_trackOf, 4, (some .int))
abbrev nX12_trip : mi := (yX12_trip, cX12_trip, 5, (some .int))
abbrev nX12_two : mi := (yX12_two, cX12_two, 5, (some .long))
abbrev nX12_undo : mi := (yX12_undo, cX12_undo, 3, (some .int))
abbrev nX12_uppermost : mi := (yX12_uppermost, cX12_uppermost, 2, (some .int))
abbrev nX12_w2 : mi := (yX12_w2, cX12_w2, 2, (some .long))
abbrev nX12_w3 : mi := (yX12_w3, cX12_w3, 3, (some .long))
abbrev nX12_w4 : mi := (yX12_w4, cX12_w4, 4, (some .long))
abbrev nX12_w5 : mi := (yX12_w5, cX12_w5, 5, (some .long))
abbrev nX12_w6 : mi := (yX12_w6, cX12_w6, 6, (some .long))
abbrev nX12_want : mi := (yX12_want, cX12_want, 2, (some .boolean))
abbrev nX12_whose : mi := (yX12_whose, cX12_whose, 5, (some .int))
abbrev nX12_worn : mi := (yX12_worn, cX12_worn, 3, (some .int))
abbrev nX12_write : mi := (yX12_write, cX12_write, 5, none)
abbrev nX12_years : mi := (yX12_years, cX12_years, 5, (some .int))
abbrev nX1_carBehind : mi := (yX1_carBehind, cX1_carBehind, 4, (some .int))
abbrev nX1_countRows : mi := (yX1_countRows, cX1_countRows, 3, (some .int))
abbrev nX1_fillRow : mi := (yX1_fillRow, cX1_fillRow, 8, (some .int))
abbrev nX1_init : mi := (yX1_init, cX1_init, 1, none)
abbrev nX1_mayStand : mi := (yX1_mayStand, cX1_mayStand, 6, (some .boolean))
abbrev nX1_timeOf : mi := (yX1_timeOf, cX1_timeOf, 7, (some .int))
abbrev nX2_addClause : mi := (yX2_addClause, cX2_addClause, 4, none)
abbrev nX2_behindNumber : mi := (yX2_behindNumber, cX2_behindNumber, 3, (some .int))
abbrev nX2_behindWord : mi := (yX2_behindWord, cX2_behindWord, 3, (some .int))
abbrev nX2_emit : mi := (yX2_emit, cX2_emit, 2, none)
abbrev nX2_expect : mi := (yX2_expect, cX2_expect, 2, none)
abbrev nX2_expectNumber : mi := (yX2_expectNumber, cX2_expectNumber, 4, (some .int))
abbrev nX2_fail : mi := (yX2_fail, cX2_fail, 2, none)
abbrev nX2_init : mi := (yX2_init, cX2_init, 1, none)
abbrev nX2_isDigit : mi := (yX2_isDigit, cX2_isDigit, 1, (some .boolean))
abbrev nX2_isLetter : mi := (yX2_isLetter, cX2_isLetter, 1, (some .boolean))
abbrev nX2_nextToken : mi := (yX2_nextToken, cX2_nextToken, 1, none)
abbrev nX2_numberAt : mi := (yX2_numberAt, cX2_numberAt, 5, (some .int))
abbrev nX2_opens : mi := (yX2_opens, cX2_opens, 1, (some .boolean))
abbrev nX2_readAsk : mi := (yX2_readAsk, cX2_readAsk, 2, none)
abbrev nX2_readBoth : mi := (yX2_readBoth, cX2_readBoth, 2, none)
abbrev nX2_readChoice : mi := (yX2_readChoice, cX2_readChoice, 1, none)
abbrev nX2_readClause : mi := (yX2_readClause, cX2_readClause, 2, none)
abbrev nX2_readDeed : mi := (yX2_readDeed, cX2_readDeed, 4, none)
abbrev nX2_readEither : mi := (yX2_readEither, cX2_readEither, 2, none)
abbrev nX2_readLaw : mi := (yX2_readLaw, cX2_readLaw, 3, none)
abbrev nX2_readName : mi := (yX2_readName, cX2_readName, 3, none)
abbrev nX2_readOne : mi := (yX2_readOne, cX2_readOne, 2, none)
abbrev nX2_readProduct : mi := (yX2_readProduct, cX2_readProduct, 3, none)
abbrev nX2_readSum : mi := (yX2_readSum, cX2_readSum, 3, none)
abbrev nX2_readTape : mi := (yX2_readTape, cX2_readTape, 2, (some (.object "RailsGrowWider$Text")))
abbrev nX2_signAt : mi := (yX2_signAt, cX2_signAt, 3, (some .int))
abbrev nX2_splitTape : mi := (yX2_splitTape, cX2_splitTape, 4, none)
abbrev nX2_startsDouble : mi := (yX2_startsDouble, cX2_startsDouble, 2, (some .boolean))
abbrev nX2_takeFour : mi := (yX2_takeFour, cX2_takeFour, 3, none)
abbrev nX2_wordAt : mi := (yX2_wordAt, cX2_wordAt, 8, (some .int))
abbrev nX3_init : mi := (yX3_init, cX3_init, 1, none)
abbrev nX3_operate : mi := (yX3_operate, cX3_operate, 4, none)
abbrev nX3_operated : mi := (yX3_operated, cX3_operated, 3, (some .long))
abbrev nX3_pop : mi := (yX3_pop, cX3_pop, 1, (some .int))
abbrev nX3_push : mi := (yX3_push, cX3_push, 5, none)
abbrev nX3_valueOf : mi := (yX3_valueOf, cX3_valueOf, 2, (some .int))
abbrev nX3_weigh : mi := (yX3_weigh, cX3_weigh, 6, (some .int))
abbrev nX4_belowOf : mi := (yX4_belowOf, cX4_belowOf, 2, (some .int))
abbrev nX4_codeBehind : mi := (yX4_codeBehind, cX4_codeBehind, 5, (some .int))
abbrev nX4_codeOf : mi := (yX4_codeOf, cX4_codeOf, 6, (some .int))
abbrev nX4_countMovesTo : mi := (yX4_countMovesTo, cX4_countMovesTo, 4, (some .int))
abbrev nX4_explore : mi := (yX4_explore, cX4_explore, 7, none)
abbrev nX4_findTops : mi := (yX4_findTops, cX4_findTops, 6, none)
abbrev nX4_init : mi := (yX4_init, cX4_init, 1, none)
abbrev nX4_moveOnWayTo : mi := (yX4_moveOnWayTo, cX4_moveOnWayTo, 5, (some .int))
abbrev nX4_moved : mi := (yX4_moved, cX4_moved, 8, (some .int))
abbrev nX4_note : mi := (yX4_note, cX4_note, 5, none)
abbrev nX4_placeOfGoal : mi := (yX4_placeOfGoal, cX4_placeOfGoal, 3, (some .int))
abbrev nX4_trackIn : mi := (yX4_trackIn, cX4_trackIn, 4, (some .int))
abbrev nX5_addCar : mi := (yX5_addCar, cX5_addCar, 4, (some .int))
abbrev nX5_copyFrom : mi := (yX5_copyFrom, cX5_copyFrom, 3, none)
abbrev nX5_init : mi := (yX5_init, cX5_init, 1, none)
abbrev nX5_loadOfUppermost : mi := (yX5_loadOfUppermost, cX5_loadOfUppermost, 3, (some .int))
abbrev nX5_loadOn : mi := (yX5_loadOn, cX5_loadOn, 4, (some .int))
abbrev nX5_mayStandBeside : mi := (yX5_mayStandBeside, cX5_mayStandBeside, 3, (some .boolean))
abbrev nX5_pairsThatMay : mi := (yX5_pairsThatMay, cX5_pairsThatMay, 4, (some .int))
abbrev nX5_rulingText : mi := (yX5_rulingText, cX5_rulingText, 1, (some (.object "RailsGrowWider$Text")))
abbrev nX5_setForbidden : mi := (yX5_setForbidden, cX5_setForbidden, 5, (some .boolean))
abbrev nX6_copyFrom : mi := (yX6_copyFrom, cX6_copyFrom, 2, none)
abbrev nX6_init : mi := (yX6_init, cX6_init, 1, none)
abbrev nX6_keep : mi := (yX6_keep, cX6_keep, 3, none)
abbrev nX6_takeBack : mi := (yX6_takeBack, cX6_takeBack, 5, (some .boolean))
abbrev nX7_add : mi := (yX7_add, cX7_add, 4, (some .int))
abbrev nX7_cell : mi := (yX7_cell, cX7_cell, 3, (some .int))
abbrev nX7_copyFrom : mi := (yX7_copyFrom, cX7_copyFrom, 2, none)
abbrev nX7_empty : mi := (yX7_empty, cX7_empty, 1, (some .int))
abbrev nX7_init : mi := (yX7_init, cX7_init, 2, none)
abbrev nX8_clausePart : mi := (yX8_clausePart, cX8_clausePart, 3, (some .int))
abbrev nX8_codeBehind : mi := (yX8_codeBehind, cX8_codeBehind, 2, (some .int))
abbrev nX8_codeFrom : mi := (yX8_codeFrom, cX8_codeFrom, 2, (some .int))
abbrev nX8_countClauses : mi := (yX8_countClauses, cX8_countClauses, 1, (some .int))
abbrev nX8_hasLaw : mi := (yX8_hasLaw, cX8_hasLaw, 2, (some .boolean))
abbrev nX8_init : mi := (yX8_init, cX8_init, 4, none)
abbrev nX9_beginYears : mi := (yX9_beginYears, cX9_beginYears, 2, none)
abbrev nX9_changesSays : mi := (yX9_changesSays, cX9_changesSays, 3, (some .int))
abbrev nX9_feetFit : mi := (yX9_feetFit, cX9_feetFit, 3, (some .boolean))
abbrev nX9_init : mi := (yX9_init, cX9_init, 1, none)
abbrev nX9_lendWheels : mi := (yX9_lendWheels, cX9_lendWheels, 4, (some .boolean))
abbrev nX9_movesSays : mi := (yX9_movesSays, cX9_movesSays, 5, (some .int))
abbrev nX9_nameCar : mi := (yX9_nameCar, cX9_nameCar, 4, none)
abbrev nX9_passHours : mi := (yX9_passHours, cX9_passHours, 4, (some .int))
abbrev nX9_passHoursThatCan : mi := (yX9_passHoursThatCan, cX9_passHoursThatCan, 3, (some .boolean))
abbrev nX9_passYear : mi := (yX9_passYear, cX9_passYear, 4, none)
abbrev nX9_playClause : mi := (yX9_playClause, cX9_playClause, 5, (some .boolean))
abbrev nX9_shift : mi := (yX9_shift, cX9_shift, 7, (some .int))
abbrev nX9_swapFeet : mi := (yX9_swapFeet, cX9_swapFeet, 4, (some .int))
theorem nz {x : Int} (h : x = 0 ∨ x = 1) : narrow .boolean (.int (Int32.ofInt x)) = .int (Int32.ofInt x) := by rcases h with rfl | rfl <;> decide
theorem wl_m1000000 : w32 (-1000000) = -1000000 := by decide
theorem wk_m1000000 : w64 (-1000000) = -1000000 := by decide
theorem wl_m100000 : w32 (-100000) = -100000 := by decide
theorem wk_m100000 : w64 (-100000) = -100000 := by decide
theorem wl_m100 : w32 (-100) = -100 := by decide
theorem wk_m100 : w64 (-100) = -100 := by decide
theorem wl_m99 : w32 (-99) = -99 := by decide
theorem wk_m99 : w64 (-99) = -99 := by decide
theorem wl_m9 : w32 (-9) = -9 := by decide
theorem wk_m9 : w64 (-9) = -9 := by decide
theorem wl_m8 : w32 (-8) = -8 := by decide
theorem wk_m8 : w64 (-8) = -8 := by decide
theorem wl_m2 : w32 (-2) = -2 := by decide
theorem wk_m2 : w64 (-2) = -2 := by decide
theorem wl_m1 : w32 (-1) = -1 := by decide
theorem wk_m1 : w64 (-1) = -1 := by decide
theorem wl_0 : w32 (0) = 0 := by decide
theorem wk_0 : w64 (0) = 0 := by decide
theorem wl_1 : w32 (1) = 1 := by decide
theorem wk_1 : w64 (1) = 1 := by decide
theorem wl_2 : w32 (2) = 2 := by decide
theorem wk_2 : w64 (2) = 2 := by decide
theorem wl_3 : w32 (3) = 3 := by decide
theorem wk_3 : w64 (3) = 3 := by decide
theorem wl_4 : w32 (4) = 4 := by decide
theorem wk_4 : w64 (4) = 4 := by decide
theorem wl_5 : w32 (5) = 5 := by decide
theorem wk_5 : w64 (5) = 5 := by decide
theorem wl_6 : w32 (6) = 6 := by decide
theorem wk_6 : w64 (6) = 6 := by decide
theorem wl_7 : w32 (7) = 7 := by decide
theorem wk_7 : w64 (7) = 7 := by decide
theorem wl_8 : w32 (8) = 8 := by decide
theorem wk_8 : w64 (8) = 8 := by decide
theorem wl_9 : w32 (9) = 9 := by decide
theorem wk_9 : w64 (9) = 9 := by decide
theorem wl_10 : w32 (10) = 10 := by decide
theorem wk_10 : w64 (10) = 10 := by decide
theorem wl_11 : w32 (11) = 11 := by decide
theorem wk_11 : w64 (11) = 11 := by decide
theorem wl_12 : w32 (12) = 12 := by decide
theorem wk_12 : w64 (12) = 12 := by decide
theorem wl_13 : w32 (13) = 13 := by decide
theorem wk_13 : w64 (13) = 13 := by decide
theorem wl_14 : w32 (14) = 14 := by decide
theorem wk_14 : w64 (14) = 14 := by decide
theorem wl_15 : w32 (15) = 15 := by decide
theorem wk_15 : w64 (15) = 15 := by decide
theorem wl_16 : w32 (16) = 16 := by decide
theorem wk_16 : w64 (16) = 16 := by decide
theorem wl_17 : w32 (17) = 17 := by decide
theorem wk_17 : w64 (17) = 17 := by decide
theorem wl_18 : w32 (18) = 18 := by decide
theorem wk_18 : w64 (18) = 18 := by decide
theorem wl_19 : w32 (19) = 19 := by decide
theorem wk_19 : w64 (19) = 19 := by decide
theorem wl_20 : w32 (20) = 20 := by decide
theorem wk_20 : w64 (20) = 20 := by decide
theorem wl_21 : w32 (21) = 21 := by decide
theorem wk_21 : w64 (21) = 21 := by decide
theorem wl_22 : w32 (22) = 22 := by decide
theorem wk_22 : w64 (22) = 22 := by decide
theorem wl_23 : w32 (23) = 23 := by decide
theorem wk_23 : w64 (23) = 23 := by decide
theorem wl_24 : w32 (24) = 24 := by decide
theorem wk_24 : w64 (24) = 24 := by decide
theorem wl_25 : w32 (25) = 25 := by decide
theorem wk_25 : w64 (25) = 25 := by decide
theorem wl_26 : w32 (26) = 26 := by decide
theorem wk_26 : w64 (26) = 26 := by decide
theorem wl_27 : w32 (27) = 27 := by decide
theorem wk_27 : w64 (27) = 27 := by decide
theorem wl_28 : w32 (28) = 28 := by decide
theorem wk_28 : w64 (28) = 28 := by decide
theorem wl_29 : w32 (29) = 29 := by decide
theorem wk_29 : w64 (29) = 29 := by decide
theorem wl_30 : w32 (30) = 30 := by decide
theorem wk_30 : w64 (30) = 30 := by decide
theorem wl_31 : w32 (31) = 31 := by decide
theorem wk_31 : w64 (31) = 31 := by decide
theorem wl_32 : w32 (32) = 32 := by decide
theorem wk_32 : w64 (32) = 32 := by decide
theorem wl_33 : w32 (33) = 33 := by decide
theorem wk_33 : w64 (33) = 33 := by decide
theorem wl_34 : w32 (34) = 34 := by decide
theorem wk_34 : w64 (34) = 34 := by decide
theorem wl_35 : w32 (35) = 35 := by decide
theorem wk_35 : w64 (35) = 35 := by decide
theorem wl_36 : w32 (36) = 36 := by decide
theorem wk_36 : w64 (36) = 36 := by decide
theorem wl_37 : w32 (37) = 37 := by decide
theorem wk_37 : w64 (37) = 37 := by decide
theorem wl_38 : w32 (38) = 38 := by decide
theorem wk_38 : w64 (38) = 38 := by decide
theorem wl_39 : w32 (39) = 39 := by decide
theorem wk_39 : w64 (39) = 39 := by decide
theorem wl_40 : w32 (40) = 40 := by decide
theorem wk_40 : w64 (40) = 40 := by decide
theorem wl_41 : w32 (41) = 41 := by decide
theorem wk_41 : w64 (41) = 41 := by decide
theorem wl_42 : w32 (42) = 42 := by decide
theorem wk_42 : w64 (42) = 42 := by decide
theorem wl_43 : w32 (43) = 43 := by decide
theorem wk_43 : w64 (43) = 43 := by decide
theorem wl_44 : w32 (44) = 44 := by decide
theorem wk_44 : w64 (44) = 44 := by decide
theorem wl_45 : w32 (45) = 45 := by decide
theorem wk_45 : w64 (45) = 45 := by decide
theorem wl_46 : w32 (46) = 46 := by decide
theorem wk_46 : w64 (46) = 46 := by decide
theorem wl_47 : w32 (47) = 47 := by decide
theorem wk_47 : w64 (47) = 47 := by decide
theorem wl_48 : w32 (48) = 48 := by decide
theorem wk_48 : w64 (48) = 48 := by decide
theorem wl_49 : w32 (49) = 49 := by decide
theorem wk_49 : w64 (49) = 49 := by decide
theorem wl_50 : w32 (50) = 50 := by decide
theorem wk_50 : w64 (50) = 50 := by decide
theorem wl_51 : w32 (51) = 51 := by decide
theorem wk_51 : w64 (51) = 51 := by decide
theorem wl_52 : w32 (52) = 52 := by decide
theorem wk_52 : w64 (52) = 52 := by decide
theorem wl_53 : w32 (53) = 53 := by decide
theorem wk_53 : w64 (53) = 53 := by decide
theorem wl_54 : w32 (54) = 54 := by decide
theorem wk_54 : w64 (54) = 54 := by decide
theorem wl_55 : w32 (55) = 55 := by decide
theorem wk_55 : w64 (55) = 55 := by decide
theorem wl_56 : w32 (56) = 56 := by decide
theorem wk_56 : w64 (56) = 56 := by decide
theorem wl_57 : w32 (57) = 57 := by decide
theorem wk_57 : w64 (57) = 57 := by decide
theorem wl_58 : w32 (58) = 58 := by decide
theorem wk_58 : w64 (58) = 58 := by decide
theorem wl_59 : w32 (59) = 59 := by decide
theorem wk_59 : w64 (59) = 59 := by decide
theorem wl_60 : w32 (60) = 60 := by decide
theorem wk_60 : w64 (60) = 60 := by decide
theorem wl_61 : w32 (61) = 61 := by decide
theorem wk_61 : w64 (61) = 61 := by decide
theorem wl_62 : w32 (62) = 62 := by decide
theorem wk_62 : w64 (62) = 62 := by decide
theorem wl_63 : w32 (63) = 63 := by decide
theorem wk_63 : w64 (63) = 63 := by decide
theorem wl_64 : w32 (64) = 64 := by decide
theorem wk_64 : w64 (64) = 64 := by decide
theorem wl_65 : w32 (65) = 65 := by decide
theorem wk_65 : w64 (65) = 65 := by decide
theorem wl_67 : w32 (67) = 67 := by decide
theorem wk_67 : w64 (67) = 67 := by decide
theorem wl_72 : w32 (72) = 72 := by decide
theorem wk_72 : w64 (72) = 72 := by decide
theorem wl_73 : w32 (73) = 73 := by decide
theorem wk_73 : w64 (73) = 73 := by decide
theorem wl_81 : w32 (81) = 81 := by decide
theorem wk_81 : w64 (81) = 81 := by decide
theorem wl_90 : w32 (90) = 90 := by decide
theorem wk_90 : w64 (90) = 90 := by decide
theorem wl_91 : w32 (91) = 91 := by decide
theorem wk_91 : w64 (91) = 91 := by decide
theorem wl_97 : w32 (97) = 97 := by decide
theorem wk_97 : w64 (97) = 97 := by decide
theorem wl_98 : w32 (98) = 98 := by decide
theorem wk_98 : w64 (98) = 98 := by decide
theorem wl_99 : w32 (99) = 99 := by decide
theorem wk_99 : w64 (99) = 99 := by decide
theorem wl_100 : w32 (100) = 100 := by decide
theorem wk_100 : w64 (100) = 100 := by decide
theorem wl_101 : w32 (101) = 101 := by decide
theorem wk_101 : w64 (101) = 101 := by decide
theorem wl_102 : w32 (102) = 102 := by decide
theorem wk_102 : w64 (102) = 102 := by decide
theorem wl_103 : w32 (103) = 103 := by decide
theorem wk_103 : w64 (103) = 103 := by decide
theorem wl_104 : w32 (104) = 104 := by decide
theorem wk_104 : w64 (104) = 104 := by decide
theorem wl_105 : w32 (105) = 105 := by decide
theorem wk_105 : w64 (105) = 105 := by decide
theorem wl_107 : w32 (107) = 107 := by decide
theorem wk_107 : w64 (107) = 107 := by decide
theorem wl_108 : w32 (108) = 108 := by decide
theorem wk_108 : w64 (108) = 108 := by decide
theorem wl_109 : w32 (109) = 109 := by decide
theorem wk_109 : w64 (109) = 109 := by decide
theorem wl_110 : w32 (110) = 110 := by decide
theorem wk_110 : w64 (110) = 110 := by decide
theorem wl_111 : w32 (111) = 111 := by decide
theorem wk_111 : w64 (111) = 111 := by decide
theorem wl_112 : w32 (112) = 112 := by decide
theorem wk_112 : w64 (112) = 112 := by decide
theorem wl_114 : w32 (114) = 114 := by decide
theorem wk_114 : w64 (114) = 114 := by decide
theorem wl_115 : w32 (115) = 115 := by decide
theorem wk_115 : w64 (115) = 115 := by decide
theorem wl_116 : w32 (116) = 116 := by decide
theorem wk_116 : w64 (116) = 116 := by decide
theorem wl_117 : w32 (117) = 117 := by decide
theorem wk_117 : w64 (117) = 117 := by decide
theorem wl_118 : w32 (118) = 118 := by decide
theorem wk_118 : w64 (118) = 118 := by decide
theorem wl_119 : w32 (119) = 119 := by decide
theorem wk_119 : w64 (119) = 119 := by decide
theorem wl_120 : w32 (120) = 120 := by decide
theorem wk_120 : w64 (120) = 120 := by decide
theorem wl_121 : w32 (121) = 121 := by decide
theorem wk_121 : w64 (121) = 121 := by decide
theorem wl_122 : w32 (122) = 122 := by decide
theorem wk_122 : w64 (122) = 122 := by decide
theorem wl_124 : w32 (124) = 124 := by decide
theorem wk_124 : w64 (124) = 124 := by decide
theorem wl_160 : w32 (160) = 160 := by decide
theorem wk_160 : w64 (160) = 160 := by decide
theorem wl_184 : w32 (184) = 184 := by decide
theorem wk_184 : w64 (184) = 184 := by decide
theorem wl_255 : w32 (255) = 255 := by decide
theorem wk_255 : w64 (255) = 255 := by decide
theorem wl_300 : w32 (300) = 300 := by decide
theorem wk_300 : w64 (300) = 300 := by decide
theorem wl_301 : w32 (301) = 301 := by decide
theorem wk_301 : w64 (301) = 301 := by decide
theorem wl_330 : w32 (330) = 330 := by decide
theorem wk_330 : w64 (330) = 330 := by decide
theorem wl_353 : w32 (353) = 353 := by decide
theorem wk_353 : w64 (353) = 353 := by decide
theorem wl_479 : w32 (479) = 479 := by decide
theorem wk_479 : w64 (479) = 479 := by decide
theorem wl_607 : w32 (607) = 607 := by decide
theorem wk_607 : w64 (607) = 607 := by decide
theorem wl_681 : w32 (681) = 681 := by decide
theorem wk_681 : w64 (681) = 681 := by decide
theorem wl_729 : w32 (729) = 729 := by decide
theorem wk_729 : w64 (729) = 729 := by decide
theorem wl_1000 : w32 (1000) = 1000 := by decide
theorem wk_1000 : w64 (1000) = 1000 := by decide
theorem wl_1024 : w32 (1024) = 1024 := by decide
theorem wk_1024 : w64 (1024) = 1024 := by decide
theorem wl_1740 : w32 (1740) = 1740 := by decide
theorem wk_1740 : w64 (1740) = 1740 := by decide
theorem wl_1800 : w32 (1800) = 1800 := by decide
theorem wk_1800 : w64 (1800) = 1800 := by decide
theorem wl_1924 : w32 (1924) = 1924 := by decide
theorem wk_1924 : w64 (1924) = 1924 := by decide
theorem wl_1954 : w32 (1954) = 1954 := by decide
theorem wk_1954 : w64 (1954) = 1954 := by decide
theorem wl_2520 : w32 (2520) = 2520 := by decide
theorem wk_2520 : w64 (2520) = 2520 := by decide
theorem wl_2724 : w32 (2724) = 2724 := by decide
theorem wk_2724 : w64 (2724) = 2724 := by decide
theorem wl_4320 : w32 (4320) = 4320 := by decide
theorem wk_4320 : w64 (4320) = 4320 := by decide
theorem wl_9999 : w32 (9999) = 9999 := by decide
theorem wk_9999 : w64 (9999) = 9999 := by decide
theorem wl_10000 : w32 (10000) = 10000 := by decide
theorem wk_10000 : w64 (10000) = 10000 := by decide
theorem wl_20000 : w32 (20000) = 20000 := by decide
theorem wk_20000 : w64 (20000) = 20000 := by decide
theorem wl_20022 : w32 (20022) = 20022 := by decide
theorem wk_20022 : w64 (20022) = 20022 := by decide
theorem wl_20026 : w32 (20026) = 20026 := by decide
theorem wk_20026 : w64 (20026) = 20026 := by decide
theorem wl_20027 : w32 (20027) = 20027 := by decide
theorem wk_20027 : w64 (20027) = 20027 := by decide
theorem wl_20028 : w32 (20028) = 20028 := by decide
theorem wk_20028 : w64 (20028) = 20028 := by decide
theorem wl_30851 : w32 (30851) = 30851 := by decide
theorem wk_30851 : w64 (30851) = 30851 := by decide
theorem wl_99999 : w32 (99999) = 99999 := by decide
theorem wk_99999 : w64 (99999) = 99999 := by decide
theorem wl_1000000 : w32 (1000000) = 1000000 := by decide
theorem wk_1000000 : w64 (1000000) = 1000000 := by decide
theorem wk_1152921504606846976 : w64 (1152921504606846976) = 1152921504606846976 := by decide
set_option maxRecDepth 100000 in
theorem mw_max : Cond.static Lib.Math.max.name ∈ lw_g ∧ Cond.initialized "java/lang/Math" ∈ lw_g ∧ Cond.code Lib.Math.max.name Lib.Math.max.code 2 (some .int) ∈ lw_g := ⟨List.mem_filter.mpr ⟨List.mem_of_getElem? (i := 209) (by decide +kernel), by decide +kernel⟩, List.mem_filter.mpr ⟨List.mem_of_getElem? (i := 136) (by decide +kernel), by decide +kernel⟩, List.mem_filter.mpr ⟨List.mem_of_getElem? (i := 210) (by rfl), by rfl⟩⟩
set_option maxRecDepth 100000 in
theorem mw_min : Cond.static Lib.Math.min.name ∈ lw_g ∧ Cond.initialized "java/lang/Math" ∈ lw_g ∧ Cond.code Lib.Math.min.name Lib.Math.min.code 2 (some .int) ∈ lw_g := ⟨List.mem_filter.mpr ⟨List.mem_of_getElem? (i := 601) (by decide +kernel), by decide +kernel⟩, List.mem_filter.mpr ⟨List.mem_of_getElem? (i := 136) (by decide +kernel), by decide +kernel⟩, List.mem_filter.mpr ⟨List.mem_of_getElem? (i := 602) (by rfl), by rfl⟩⟩
set_option maxRecDepth 100000 in
theorem mw_copy : Cond.native arraycopyName ∈ lw_g ∧ Cond.static arraycopyName ∈ lw_g ∧ Cond.initialized "java/lang/System" ∈ lw_g := ⟨List.mem_filter.mpr ⟨List.mem_of_getElem? (i := 758) (by decide +kernel), by decide +kernel⟩, List.mem_filter.mpr ⟨List.mem_of_getElem? (i := 757) (by decide +kernel), by decide +kernel⟩, List.mem_filter.mpr ⟨List.mem_of_getElem? (i := 150) (by decide +kernel), by decide +kernel⟩⟩
set_option maxRecDepth 100000 in
theorem mw_obj : Cond.instanceMethod objectInit ∈ lw_g ∧ Cond.code objectInit ⟨#[0xb1]⟩ 1 none ∈ lw_g := ⟨List.mem_filter.mpr ⟨List.mem_of_getElem? (i := 157) (by decide +kernel), by decide +kernel⟩, List.mem_filter.mpr ⟨List.mem_of_getElem? (i := 158) (by rfl), by rfl⟩⟩
set_option maxRecDepth 100000 in
theorem mw_clone : Cond.sameMethod "[I" "java/lang/Object" "clone" "()Ljava/lang/Object;" ∈ lw_g ∧ Cond.native ⟨"java/lang/Object", "clone", "()Ljava/lang/Object;"⟩ ∈ lw_g ∧ Cond.instanceMethod ⟨"java/lang/Object", "clone", "()Ljava/lang/Object;"⟩ ∈ lw_g ∧ Cond.selects "[I" ⟨"[I", "clone", "()Ljava/lang/Object;"⟩ ⟨"java/lang/Object", "clone", "()Ljava/lang/Object;"⟩ ∈ lw_g := ⟨List.mem_filter.mpr ⟨List.mem_of_getElem? (i := 749) (by decide +kernel), by decide +kernel⟩, List.mem_filter.mpr ⟨List.mem_of_getElem? (i := 750) (by decide +kernel), by decide +kernel⟩, List.mem_filter.mpr ⟨List.mem_of_getElem? (i := 751) (by decide +kernel), by decide +kernel⟩, List.mem_filter.mpr ⟨List.mem_of_getElem? (i := 752) (by decide +kernel), by decide +kernel⟩⟩
theorem ft_X0_0 : ft 0 0 true (.array .int) := ⟨RX0, TX0, 2, tyX0, rfl, tyX0_ok, nmX0, rfl, rfl, rfl⟩
theorem ft_X0_1 : ft 0 1 true (.array .int) := ⟨RX0, TX0, 2, tyX0, rfl, tyX0_ok, nmX0, rfl, rfl, rfl⟩
theorem ft_X10_0 : ft 10 0 true (.array .int) := ⟨RX10, TX10, 1, tyX10, rfl, tyX10_ok, nmX10, rfl, rfl, rfl⟩
theorem ft_X11_0 : ft 11 0 true (.object "RailsGrowWider$Station") := ⟨RX11, TX11, 8, tyX11, rfl, tyX11_ok, nmX11, rfl, rfl, rfl⟩
theorem ft_X11_1 : ft 11 1 true (.object "RailsGrowWider$Station") := ⟨RX11, TX11, 8, tyX11, rfl, tyX11_ok, nmX11, rfl, rfl, rfl⟩
theorem ft_X11_2 : ft 11 2 true (.object "RailsGrowWider$Works") := ⟨RX11, TX11, 8, tyX11, rfl, tyX11_ok, nmX11, rfl, rfl, rfl⟩
theorem ft_X11_3 : ft 11 3 true (.object "RailsGrowWider$Reader") := ⟨RX11, TX11, 8, tyX11, rfl, tyX11_ok, nmX11, rfl, rfl, rfl⟩
theorem ft_X11_4 : ft 11 4 true (.object "RailsGrowWider$Shunter") := ⟨RX11, TX11, 8, tyX11, rfl, tyX11_ok, nmX11, rfl, rfl, rfl⟩
theorem ft_X11_5 : ft 11 5 true (.object "RailsGrowWider$Orders") := ⟨RX11, TX11, 8, tyX11, rfl, tyX11_ok, nmX11, rfl, rfl, rfl⟩
theorem ft_X11_6 : ft 11 6 true (.object "RailsGrowWider$Accounts") := ⟨RX11, TX11, 8, tyX11, rfl, tyX11_ok, nmX11, rfl, rfl, rfl⟩
theorem ft_X11_7 : ft 11 7 true (.object "RailsGrowWider$Yard") := ⟨RX11, TX11, 8, tyX11, rfl, tyX11_ok, nmX11, rfl, rfl, rfl⟩
theorem ft_X12_0 : ft 12 0 true (.array .int) := ⟨RX12, TX12, 35, tyX12, rfl, tyX12_ok, nmX12, rfl, rfl, rfl⟩
theorem ft_X12_1 : ft 12 1 true (.array .int) := ⟨RX12, TX12, 35, tyX12, rfl, tyX12_ok, nmX12, rfl, rfl, rfl⟩
theorem ft_X12_10 : ft 12 10 false .int := ⟨RX12, TX12, 35, tyX12, rfl, tyX12_ok, nmX12, rfl, rfl, rfl⟩
theorem ft_X12_11 : ft 12 11 false .long := ⟨RX12, TX12, 35, tyX12, rfl, tyX12_ok, nmX12, rfl, rfl, rfl⟩
theorem ft_X12_12 : ft 12 12 false .int := ⟨RX12, TX12, 35, tyX12, rfl, tyX12_ok, nmX12, rfl, rfl, rfl⟩
theorem ft_X12_13 : ft 12 13 false .int := ⟨RX12, TX12, 35, tyX12, rfl, tyX12_ok, nmX12, rfl, rfl, rfl⟩
theorem ft_X12_14 : ft 12 14 false .int := ⟨RX12, TX12, 35, tyX12, rfl, tyX12_ok, nmX12, rfl, rfl, rfl⟩
theorem ft_X12_15 : ft 12 15 true (.array .int) := ⟨RX12, TX12, 35, tyX12, rfl, tyX12_ok, nmX12, rfl, rfl, rfl⟩
theorem ft_X12_16 : ft 12 16 false .int := ⟨RX12, TX12, 35, tyX12, rfl, tyX12_ok, nmX12, rfl, rfl, rfl⟩
theorem ft_X12_17 : ft 12 17 false .int := ⟨RX12, TX12, 35, tyX12, rfl, tyX12_ok, nmX12, rfl, rfl, rfl⟩
theorem ft_X12_18 : ft 12 18 false .boolean := ⟨RX12, TX12, 35, tyX12, rfl, tyX12_ok, nmX12, rfl, rfl, rfl⟩
theorem ft_X12_19 : ft 12 19 false .int := ⟨RX12, TX12, 35, tyX12, rfl, tyX12_ok, nmX12, rfl, rfl, rfl⟩
theorem ft_X12_2 : ft 12 2 true (.array .int) := ⟨RX12, TX12, 35, tyX12, rfl, tyX12_ok, nmX12, rfl, rfl, rfl⟩
theorem ft_X12_20 : ft 12 20 true (.array .int) := ⟨RX12, TX12, 35, tyX12, rfl, tyX12_ok, nmX12, rfl, rfl, rfl⟩
theorem ft_X12_21 : ft 12 21 true (.array .long) := ⟨RX12, TX12, 35, tyX12, rfl, tyX12_ok, nmX12, rfl, rfl, rfl⟩
theorem ft_X12_22 : ft 12 22 true (.array .boolean) := ⟨RX12, TX12, 35, tyX12, rfl, tyX12_ok, nmX12, rfl, rfl, rfl⟩
theorem ft_X12_23 : ft 12 23 false .boolean := ⟨RX12, TX12, 35, tyX12, rfl, tyX12_ok, nmX12, rfl, rfl, rfl⟩
theorem ft_X12_24 : ft 12 24 false .int := ⟨RX12, TX12, 35, tyX12, rfl, tyX12_ok, nmX12, rfl, rfl, rfl⟩
theorem ft_X12_25 : ft 12 25 true (.array .int) := ⟨RX12, TX12, 35, tyX12, rfl, tyX12_ok, nmX12, rfl, rfl, rfl⟩
theorem ft_X12_26 : ft 12 26 true (.array .int) := ⟨RX12, TX12, 35, tyX12, rfl, tyX12_ok, nmX12, rfl, rfl, rfl⟩
theorem ft_X12_27 : ft 12 27 true (.array .int) := ⟨RX12, TX12, 35, tyX12, rfl, tyX12_ok, nmX12, rfl, rfl, rfl⟩
theorem ft_X12_28 : ft 12 28 true (.array .int) := ⟨RX12, TX12, 35, tyX12, rfl, tyX12_ok, nmX12, rfl, rfl, rfl⟩
theorem ft_X12_29 : ft 12 29 true (.array .int) := ⟨RX12, TX12, 35, tyX12, rfl, tyX12_ok, nmX12, rfl, rfl, rfl⟩
theorem ft_X12_3 : ft 12 3 true (.array .int) := ⟨RX12, TX12, 35, tyX12, rfl, tyX12_ok, nmX12, rfl, rfl, rfl⟩
theorem ft_X12_30 : ft 12 30 true (.array .int) := ⟨RX12, TX12, 35, tyX12, rfl, tyX12_ok, nmX12, rfl, rfl, rfl⟩
theorem ft_X12_31 : ft 12 31 true (.array .int) := ⟨RX12, TX12, 35, tyX12, rfl, tyX12_ok, nmX12, rfl, rfl, rfl⟩
theorem ft_X12_32 : ft 12 32 false .int := ⟨RX12, TX12, 35, tyX12, rfl, tyX12_ok, nmX12, rfl, rfl, rfl⟩
theorem ft_X12_33 : ft 12 33 true (.array .int) := ⟨RX12, TX12, 35, tyX12, rfl, tyX12_ok, nmX12, rfl, rfl, rfl⟩
theorem ft_X12_34 : ft 12 34 true (.array .int) := ⟨RX12, TX12, 35, tyX12, rfl, tyX12_ok, nmX12, rfl, rfl, rfl⟩
theorem ft_X12_4 : ft 12 4 false .int := ⟨RX12, TX12, 35, tyX12, rfl, tyX12_ok, nmX12, rfl, rfl, rfl⟩
theorem ft_X12_5 : ft 12 5 false .int := ⟨RX12, TX12, 35, tyX12, rfl, tyX12_ok, nmX12, rfl, rfl, rfl⟩
theorem ft_X12_6 : ft 12 6 false .int := ⟨RX12, TX12, 35, tyX12, rfl, tyX12_ok, nmX12, rfl, rfl, rfl⟩
theorem ft_X12_7 : ft 12 7 false .int := ⟨RX12, TX12, 35, tyX12, rfl, tyX12_ok, nmX12, rfl, rfl, rfl⟩
theorem ft_X12_8 : ft 12 8 false .int := ⟨RX12, TX12, 35, tyX12, rfl, tyX12_ok, nmX12, rfl, rfl, rfl⟩
theorem ft_X12_9 : ft 12 9 false .int := ⟨RX12, TX12, 35, tyX12, rfl, tyX12_ok, nmX12, rfl, rfl, rfl⟩
theorem ft_X1_0 : ft 1 0 true (.array .int) := ⟨RX1, TX1, 1, tyX1, rfl, tyX1_ok, nmX1, rfl, rfl, rfl⟩
theorem ft_X2_0 : ft 2 0 true (.array .byte) := ⟨RX2, TX2, 15, tyX2, rfl, tyX2_ok, nmX2, rfl, rfl, rfl⟩
theorem ft_X2_1 : ft 2 1 true (.array .int) := ⟨RX2, TX2, 15, tyX2, rfl, tyX2_ok, nmX2, rfl, rfl, rfl⟩
theorem ft_X2_10 : ft 2 10 false .int := ⟨RX2, TX2, 15, tyX2, rfl, tyX2_ok, nmX2, rfl, rfl, rfl⟩
theorem ft_X2_11 : ft 2 11 false .int := ⟨RX2, TX2, 15, tyX2, rfl, tyX2_ok, nmX2, rfl, rfl, rfl⟩
theorem ft_X2_12 : ft 2 12 false .int := ⟨RX2, TX2, 15, tyX2, rfl, tyX2_ok, nmX2, rfl, rfl, rfl⟩
theorem ft_X2_13 : ft 2 13 false .int := ⟨RX2, TX2, 15, tyX2, rfl, tyX2_ok, nmX2, rfl, rfl, rfl⟩
theorem ft_X2_14 : ft 2 14 false .boolean := ⟨RX2, TX2, 15, tyX2, rfl, tyX2_ok, nmX2, rfl, rfl, rfl⟩
theorem ft_X2_2 : ft 2 2 true (.array .int) := ⟨RX2, TX2, 15, tyX2, rfl, tyX2_ok, nmX2, rfl, rfl, rfl⟩
theorem ft_X2_3 : ft 2 3 true (.array .int) := ⟨RX2, TX2, 15, tyX2, rfl, tyX2_ok, nmX2, rfl, rfl, rfl⟩
theorem ft_X2_4 : ft 2 4 true (.array .int) := ⟨RX2, TX2, 15, tyX2, rfl, tyX2_ok, nmX2, rfl, rfl, rfl⟩
theorem ft_X2_5 : ft 2 5 true (.array .int) := ⟨RX2, TX2, 15, tyX2, rfl, tyX2_ok, nmX2, rfl, rfl, rfl⟩
theorem ft_X2_6 : ft 2 6 false .int := ⟨RX2, TX2, 15, tyX2, rfl, tyX2_ok, nmX2, rfl, rfl, rfl⟩
theorem ft_X2_7 : ft 2 7 false .int := ⟨RX2, TX2, 15, tyX2, rfl, tyX2_ok, nmX2, rfl, rfl, rfl⟩
theorem ft_X2_8 : ft 2 8 false .int := ⟨RX2, TX2, 15, tyX2, rfl, tyX2_ok, nmX2, rfl, rfl, rfl⟩
theorem ft_X2_9 : ft 2 9 false .int := ⟨RX2, TX2, 15, tyX2, rfl, tyX2_ok, nmX2, rfl, rfl, rfl⟩
theorem ft_X3_0 : ft 3 0 true (.array .int) := ⟨RX3, TX3, 3, tyX3, rfl, tyX3_ok, nmX3, rfl, rfl, rfl⟩
theorem ft_X3_1 : ft 3 1 true (.array .int) := ⟨RX3, TX3, 3, tyX3, rfl, tyX3_ok, nmX3, rfl, rfl, rfl⟩
theorem ft_X3_2 : ft 3 2 false .int := ⟨RX3, TX3, 3, tyX3, rfl, tyX3_ok, nmX3, rfl, rfl, rfl⟩
theorem ft_X4_0 : ft 4 0 true (.array .int) := ⟨RX4, TX4, 8, tyX4, rfl, tyX4_ok, nmX4, rfl, rfl, rfl⟩
theorem ft_X4_1 : ft 4 1 true (.array .int) := ⟨RX4, TX4, 8, tyX4, rfl, tyX4_ok, nmX4, rfl, rfl, rfl⟩
theorem ft_X4_2 : ft 4 2 true (.array .int) := ⟨RX4, TX4, 8, tyX4, rfl, tyX4_ok, nmX4, rfl, rfl, rfl⟩
theorem ft_X4_3 : ft 4 3 true (.array .int) := ⟨RX4, TX4, 8, tyX4, rfl, tyX4_ok, nmX4, rfl, rfl, rfl⟩
theorem ft_X4_4 : ft 4 4 true (.array .int) := ⟨RX4, TX4, 8, tyX4, rfl, tyX4_ok, nmX4, rfl, rfl, rfl⟩
theorem ft_X4_5 : ft 4 5 false .int := ⟨RX4, TX4, 8, tyX4, rfl, tyX4_ok, nmX4, rfl, rfl, rfl⟩
theorem ft_X4_6 : ft 4 6 false .int := ⟨RX4, TX4, 8, tyX4, rfl, tyX4_ok, nmX4, rfl, rfl, rfl⟩
theorem ft_X4_7 : ft 4 7 false .int := ⟨RX4, TX4, 8, tyX4, rfl, tyX4_ok, nmX4, rfl, rfl, rfl⟩
theorem ft_X5_0 : ft 5 0 true (.object "RailsGrowWider$Yard") := ⟨RX5, TX5, 16, tyX5, rfl, tyX5_ok, nmX5, rfl, rfl, rfl⟩
theorem ft_X5_1 : ft 5 1 true (.object "RailsGrowWider$Steps") := ⟨RX5, TX5, 16, tyX5, rfl, tyX5_ok, nmX5, rfl, rfl, rfl⟩
theorem ft_X5_10 : ft 5 10 true (.object "RailsGrowWider$Table") := ⟨RX5, TX5, 16, tyX5, rfl, tyX5_ok, nmX5, rfl, rfl, rfl⟩
theorem ft_X5_11 : ft 5 11 true (.array (.object "RailsGrowWider$Text")) := ⟨RX5, TX5, 16, tyX5, rfl, tyX5_ok, nmX5, rfl, rfl, rfl⟩
theorem ft_X5_12 : ft 5 12 false .int := ⟨RX5, TX5, 16, tyX5, rfl, tyX5_ok, nmX5, rfl, rfl, rfl⟩
theorem ft_X5_13 : ft 5 13 false .int := ⟨RX5, TX5, 16, tyX5, rfl, tyX5_ok, nmX5, rfl, rfl, rfl⟩
theorem ft_X5_14 : ft 5 14 false .int := ⟨RX5, TX5, 16, tyX5, rfl, tyX5_ok, nmX5, rfl, rfl, rfl⟩
theorem ft_X5_15 : ft 5 15 false .int := ⟨RX5, TX5, 16, tyX5, rfl, tyX5_ok, nmX5, rfl, rfl, rfl⟩
theorem ft_X5_2 : ft 5 2 true (.array .int) := ⟨RX5, TX5, 16, tyX5, rfl, tyX5_ok, nmX5, rfl, rfl, rfl⟩
theorem ft_X5_3 : ft 5 3 true (.array .int) := ⟨RX5, TX5, 16, tyX5, rfl, tyX5_ok, nmX5, rfl, rfl, rfl⟩
theorem ft_X5_4 : ft 5 4 true (.array .int) := ⟨RX5, TX5, 16, tyX5, rfl, tyX5_ok, nmX5, rfl, rfl, rfl⟩
theorem ft_X5_5 : ft 5 5 true (.array .int) := ⟨RX5, TX5, 16, tyX5, rfl, tyX5_ok, nmX5, rfl, rfl, rfl⟩
theorem ft_X5_6 : ft 5 6 true (.array .int) := ⟨RX5, TX5, 16, tyX5, rfl, tyX5_ok, nmX5, rfl, rfl, rfl⟩
theorem ft_X5_7 : ft 5 7 true (.array .int) := ⟨RX5, TX5, 16, tyX5, rfl, tyX5_ok, nmX5, rfl, rfl, rfl⟩
theorem ft_X5_8 : ft 5 8 true (.object "RailsGrowWider$Table") := ⟨RX5, TX5, 16, tyX5, rfl, tyX5_ok, nmX5, rfl, rfl, rfl⟩
theorem ft_X5_9 : ft 5 9 true (.object "RailsGrowWider$Table") := ⟨RX5, TX5, 16, tyX5, rfl, tyX5_ok, nmX5, rfl, rfl, rfl⟩
theorem ft_X6_0 : ft 6 0 true (.array .int) := ⟨RX6, TX6, 3, tyX6, rfl, tyX6_ok, nmX6, rfl, rfl, rfl⟩
theorem ft_X6_1 : ft 6 1 false .int := ⟨RX6, TX6, 3, tyX6, rfl, tyX6_ok, nmX6, rfl, rfl, rfl⟩
theorem ft_X6_2 : ft 6 2 false .int := ⟨RX6, TX6, 3, tyX6, rfl, tyX6_ok, nmX6, rfl, rfl, rfl⟩
theorem ft_X7_0 : ft 7 0 true (.array .int) := ⟨RX7, TX7, 3, tyX7, rfl, tyX7_ok, nmX7, rfl, rfl, rfl⟩
theorem ft_X7_1 : ft 7 1 true .int := ⟨RX7, TX7, 3, tyX7, rfl, tyX7_ok, nmX7, rfl, rfl, rfl⟩
theorem ft_X7_2 : ft 7 2 false .int := ⟨RX7, TX7, 3, tyX7, rfl, tyX7_ok, nmX7, rfl, rfl, rfl⟩
theorem ft_X8_0 : ft 8 0 true (.array .int) := ⟨RX8, TX8, 3, tyX8, rfl, tyX8_ok, nmX8, rfl, rfl, rfl⟩
theorem ft_X8_1 : ft 8 1 true (.array .int) := ⟨RX8, TX8, 3, tyX8, rfl, tyX8_ok, nmX8, rfl, rfl, rfl⟩
theorem ft_X8_2 : ft 8 2 true (.array .int) := ⟨RX8, TX8, 3, tyX8, rfl, tyX8_ok, nmX8, rfl, rfl, rfl⟩
theorem ft_X9_0 : ft 9 0 true (.object "RailsGrowWider$Station") := ⟨RX9, TX9, 2, tyX9, rfl, tyX9_ok, nmX9, rfl, rfl, rfl⟩
theorem ft_X9_1 : ft 9 1 true (.object "RailsGrowWider$Scale") := ⟨RX9, TX9, 2, tyX9, rfl, tyX9_ok, nmX9, rfl, rfl, rfl⟩
set_option maxRecDepth 100000 in
theorem mt_J0_charAt_5068e : mt nJ0_charAt_5068e 1 := ⟨List.mem_filter.mpr ⟨List.mem_of_getElem? (i := 554) (by rfl), by rfl⟩, List.mem_filter.mpr ⟨List.mem_of_getElem? (i := 143) (by decide +kernel), by decide +kernel⟩, ⟨by decide +kernel, by decide +kernel, by decide +kernel⟩, by decide⟩
set_option maxRecDepth 100000 in
theorem mt_J0_checkIndex_df160 : mt nJ0_checkIndex_df160 2 := ⟨List.mem_filter.mpr ⟨List.mem_of_getElem? (i := 564) (by rfl), by rfl⟩, List.mem_filter.mpr ⟨List.mem_of_getElem? (i := 143) (by decide +kernel), by decide +kernel⟩, ⟨by decide +kernel, by decide +kernel, by decide +kernel⟩, by decide⟩
set_option maxRecDepth 100000 in
theorem mt_J0_coder_7d493 : mt nJ0_coder_7d493 0 := ⟨List.mem_filter.mpr ⟨List.mem_of_getElem? (i := 548) (by rfl), by rfl⟩, List.mem_filter.mpr ⟨List.mem_of_getElem? (i := 143) (by decide +kernel), by decide +kernel⟩, ⟨by decide +kernel, by decide +kernel, by decide +kernel⟩, by decide⟩
set_option maxRecDepth 100000 in
theorem mt_J0_indexOf_0f7a4 : mt nJ0_indexOf_0f7a4 1 := ⟨List.mem_filter.mpr ⟨List.mem_of_getElem? (i := 615) (by rfl), by rfl⟩, List.mem_filter.mpr ⟨List.mem_of_getElem? (i := 143) (by decide +kernel), by decide +kernel⟩, ⟨by decide +kernel, by decide +kernel, by decide +kernel⟩, by decide⟩
set_option maxRecDepth 100000 in
theorem mt_J0_indexOf_7cf53 : mt nJ0_indexOf_7cf53 2 := ⟨List.mem_filter.mpr ⟨List.mem_of_getElem? (i := 619) (by rfl), by rfl⟩, List.mem_filter.mpr ⟨List.mem_of_getElem? (i := 143) (by decide +kernel), by decide +kernel⟩, ⟨by decide +kernel, by decide +kernel, by decide +kernel⟩, by decide⟩
set_option maxRecDepth 100000 in
theorem mt_J0_isLatin1_aae02 : mt nJ0_isLatin1_aae02 0 := ⟨List.mem_filter.mpr ⟨List.mem_of_getElem? (i := 558) (by rfl), by rfl⟩, List.mem_filter.mpr ⟨List.mem_of_getElem? (i := 143) (by decide +kernel), by decide +kernel⟩, ⟨by decide +kernel, by decide +kernel, by decide +kernel⟩, by decide⟩
set_option maxRecDepth 100000 in
theorem mt_J0_length_8abf5 : mt nJ0_length_8abf5 0 := ⟨List.mem_filter.mpr ⟨List.mem_of_getElem? (i := 544) (by rfl), by rfl⟩, List.mem_filter.mpr ⟨List.mem_of_getElem? (i := 143) (by decide +kernel), by decide +kernel⟩, ⟨by decide +kernel, by decide +kernel, by decide +kernel⟩, by decide⟩
set_option maxRecDepth 100000 in
theorem mt_J1_canEncode_9a6ad : mt nJ1_canEncode_9a6ad 1 := ⟨List.mem_filter.mpr ⟨List.mem_of_getElem? (i := 626) (by rfl), by rfl⟩, List.mem_filter.mpr ⟨List.mem_of_getElem? (i := 144) (by decide +kernel), by decide +kernel⟩, ⟨by decide +kernel, by decide +kernel, by decide +kernel⟩, by decide⟩
set_option maxRecDepth 100000 in
theorem mt_J1_charAt_3b067 : mt nJ1_charAt_3b067 2 := ⟨List.mem_filter.mpr ⟨List.mem_of_getElem? (i := 561) (by rfl), by rfl⟩, List.mem_filter.mpr ⟨List.mem_of_getElem? (i := 144) (by decide +kernel), by decide +kernel⟩, ⟨by decide +kernel, by decide +kernel, by decide +kernel⟩, by decide⟩
set_option maxRecDepth 100000 in
theorem mt_J1_indexOfChar_4cfef : mt nJ1_indexOfChar_4cfef 4 := ⟨List.mem_filter.mpr ⟨List.mem_of_getElem? (i := 631) (by rfl), by rfl⟩, List.mem_filter.mpr ⟨List.mem_of_getElem? (i := 144) (by decide +kernel), by decide +kernel⟩, ⟨by decide +kernel, by decide +kernel, by decide +kernel⟩, by decide⟩
set_option maxRecDepth 100000 in
theorem mt_J1_indexOf_4cfef : mt nJ1_indexOf_4cfef 4 := ⟨List.mem_filter.mpr ⟨List.mem_of_getElem? (i := 623) (by rfl), by rfl⟩, List.mem_filter.mpr ⟨List.mem_of_getElem? (i := 144) (by decide +kernel), by decide +kernel⟩, ⟨by decide +kernel, by decide +kernel, by decide +kernel⟩, by decide⟩
set_option maxRecDepth 100000 in
theorem mt_J3_checkIndex_8e157 : mt nJ3_checkIndex_8e157 3 := ⟨List.mem_filter.mpr ⟨List.mem_of_getElem? (i := 569) (by rfl), by rfl⟩, List.mem_filter.mpr ⟨List.mem_of_getElem? (i := 145) (by decide +kernel), by decide +kernel⟩, ⟨by decide +kernel, by decide +kernel, by decide +kernel⟩, by decide⟩
set_option maxRecDepth 100000 in
theorem mt_J7_copyOf_59c91 : mt nJ7_copyOf_59c91 2 := ⟨List.mem_filter.mpr ⟨List.mem_of_getElem? (i := 747) (by rfl), by rfl⟩, List.mem_filter.mpr ⟨List.mem_of_getElem? (i := 148) (by decide +kernel), by decide +kernel⟩, ⟨by decide +kernel, by decide +kernel, by decide +kernel⟩, by decide⟩
set_option maxRecDepth 100000 in
theorem mt_J7_fill_53178 : mt nJ7_fill_53178 2 := ⟨List.mem_filter.mpr ⟨List.mem_of_getElem? (i := 670) (by rfl), by rfl⟩, List.mem_filter.mpr ⟨List.mem_of_getElem? (i := 148) (by decide +kernel), by decide +kernel⟩, ⟨by decide +kernel, by decide +kernel, by decide +kernel⟩, by decide⟩
set_option maxRecDepth 100000 in
theorem mt_X0_groupOf : mt nX0_groupOf 2 := ⟨List.mem_filter.mpr ⟨List.mem_of_getElem? (i := 1237) (by rfl), by rfl⟩, List.mem_filter.mpr ⟨List.mem_of_getElem? (i := 141) (by decide +kernel), by decide +kernel⟩, ⟨by decide +kernel, by decide +kernel, by decide +kernel⟩, by decide⟩
set_option maxRecDepth 100000 in
theorem mt_X0_init : mt nX0_init 0 := ⟨List.mem_filter.mpr ⟨List.mem_of_getElem? (i := 425) (by rfl), by rfl⟩, List.mem_filter.mpr ⟨List.mem_of_getElem? (i := 141) (by decide +kernel), by decide +kernel⟩, ⟨by decide +kernel, by decide +kernel, by decide +kernel⟩, by decide⟩
set_option maxRecDepth 100000 in
theorem mt_X0_isGroupOf : mt nX0_isGroupOf 3 := ⟨List.mem_filter.mpr ⟨List.mem_of_getElem? (i := 1228) (by rfl), by rfl⟩, List.mem_filter.mpr ⟨List.mem_of_getElem? (i := 141) (by decide +kernel), by decide +kernel⟩, ⟨by decide +kernel, by decide +kernel, by decide +kernel⟩, by decide⟩
set_option maxRecDepth 100000 in
theorem mt_X0_lowestGroup : mt nX0_lowestGroup 1 := ⟨List.mem_filter.mpr ⟨List.mem_of_getElem? (i := 1241) (by rfl), by rfl⟩, List.mem_filter.mpr ⟨List.mem_of_getElem? (i := 141) (by decide +kernel), by decide +kernel⟩, ⟨by decide +kernel, by decide +kernel, by decide +kernel⟩, by decide⟩
set_option maxRecDepth 100000 in
theorem mt_X0_mostGroups : mt nX0_mostGroups 1 := ⟨List.mem_filter.mpr ⟨List.mem_of_getElem? (i := 1213) (by rfl), by rfl⟩, List.mem_filter.mpr ⟨List.mem_of_getElem? (i := 141) (by decide +kernel), by decide +kernel⟩, ⟨by decide +kernel, by decide +kernel, by decide +kernel⟩, by decide⟩
set_option maxRecDepth 100000 in
theorem mt_X0_mostOf : mt nX0_mostOf 1 := ⟨List.mem_filter.mpr ⟨List.mem_of_getElem? (i := 1224) (by rfl), by rfl⟩, List.mem_filter.mpr ⟨List.mem_of_getElem? (i := 141) (by decide +kernel), by decide +kernel⟩, ⟨by decide +kernel, by decide +kernel, by decide +kernel⟩, by decide⟩
set_option maxRecDepth 100000 in
theorem mt_X0_sumOf : mt nX0_sumOf 2 := ⟨List.mem_filter.mpr ⟨List.mem_of_getElem? (i := 1220) (by rfl), by rfl⟩, List.mem_filter.mpr ⟨List.mem_of_getElem? (i := 141) (by decide +kernel), by decide +kernel⟩, ⟨by decide +kernel, by decide +kernel, by decide +kernel⟩, by decide⟩
set_option maxRecDepth 100000 in
theorem mt_X0_weighSets : mt nX0_weighSets 1 := ⟨List.mem_filter.mpr ⟨List.mem_of_getElem? (i := 1217) (by rfl), by rfl⟩, List.mem_filter.mpr ⟨List.mem_of_getElem? (i := 141) (by decide +kernel), by decide +kernel⟩, ⟨by decide +kernel, by decide +kernel, by decide +kernel⟩, by decide⟩
set_option maxRecDepth 100000 in
theorem mt_X10_addCar : mt nX10_addCar 0 := ⟨List.mem_filter.mpr ⟨List.mem_of_getElem? (i := 475) (by rfl), by rfl⟩, List.mem_filter.mpr ⟨List.mem_of_getElem? (i := 133) (by decide +kernel), by decide +kernel⟩, ⟨by decide +kernel, by decide +kernel, by decide +kernel⟩, by decide⟩
set_option maxRecDepth 100000 in
theorem mt_X10_carAt : mt nX10_carAt 2 := ⟨List.mem_filter.mpr ⟨List.mem_of_getElem? (i := 1020) (by rfl), by rfl⟩, List.mem_filter.mpr ⟨List.mem_of_getElem? (i := 133) (by decide +kernel), by decide +kernel⟩, ⟨by decide +kernel, by decide +kernel, by decide +kernel⟩, by decide⟩
set_option maxRecDepth 100000 in
theorem mt_X10_carsOn : mt nX10_carsOn 1 := ⟨List.mem_filter.mpr ⟨List.mem_of_getElem? (i := 1162) (by rfl), by rfl⟩, List.mem_filter.mpr ⟨List.mem_of_getElem? (i := 133) (by decide +kernel), by decide +kernel⟩, ⟨by decide +kernel, by decide +kernel, by decide +kernel⟩, by decide⟩
set_option maxRecDepth 100000 in
theorem mt_X10_changeFeet : mt nX10_changeFeet 1 := ⟨List.mem_filter.mpr ⟨List.mem_of_getElem? (i := 914) (by rfl), by rfl⟩, List.mem_filter.mpr ⟨List.mem_of_getElem? (i := 133) (by decide +kernel), by decide +kernel⟩, ⟨by decide +kernel, by decide +kernel, by decide +kernel⟩, by decide⟩
set_option maxRecDepth 100000 in
theorem mt_X10_copyFrom : mt nX10_copyFrom 1 := ⟨List.mem_filter.mpr ⟨List.mem_of_getElem? (i := 1066) (by rfl), by rfl⟩, List.mem_filter.mpr ⟨List.mem_of_getElem? (i := 133) (by decide +kernel), by decide +kernel⟩, ⟨by decide +kernel, by decide +kernel, by decide +kernel⟩, by decide⟩
set_option maxRecDepth 100000 in
theorem mt_X10_countCars : mt nX10_countCars 0 := ⟨List.mem_filter.mpr ⟨List.mem_of_getElem? (i := 503) (by rfl), by rfl⟩, List.mem_filter.mpr ⟨List.mem_of_getElem? (i := 133) (by decide +kernel), by decide +kernel⟩, ⟨by decide +kernel, by decide +kernel, by decide +kernel⟩, by decide⟩
set_option maxRecDepth 100000 in
theorem mt_X10_countLines : mt nX10_countLines 0 := ⟨List.mem_filter.mpr ⟨List.mem_of_getElem? (i := 1054) (by rfl), by rfl⟩, List.mem_filter.mpr ⟨List.mem_of_getElem? (i := 133) (by decide +kernel), by decide +kernel⟩, ⟨by decide +kernel, by decide +kernel, by decide +kernel⟩, by decide⟩
set_option maxRecDepth 100000 in
theorem mt_X10_countOn : mt nX10_countOn 1 := ⟨List.mem_filter.mpr ⟨List.mem_of_getElem? (i := 483) (by rfl), by rfl⟩, List.mem_filter.mpr ⟨List.mem_of_getElem? (i := 133) (by decide +kernel), by decide +kernel⟩, ⟨by decide +kernel, by decide +kernel, by decide +kernel⟩, by decide⟩
set_option maxRecDepth 100000 in
theorem mt_X10_draw : mt nX10_draw 1 := ⟨List.mem_filter.mpr ⟨List.mem_of_getElem? (i := 949) (by rfl), by rfl⟩, List.mem_filter.mpr ⟨List.mem_of_getElem? (i := 133) (by decide +kernel), by decide +kernel⟩, ⟨by decide +kernel, by decide +kernel, by decide +kernel⟩, by decide⟩
set_option maxRecDepth 100000 in
theorem mt_X10_drawnX : mt nX10_drawnX 0 := ⟨List.mem_filter.mpr ⟨List.mem_of_getElem? (i := 953) (by rfl), by rfl⟩, List.mem_filter.mpr ⟨List.mem_of_getElem? (i := 133) (by decide +kernel), by decide +kernel⟩, ⟨by decide +kernel, by decide +kernel, by decide +kernel⟩, by decide⟩
set_option maxRecDepth 100000 in
theorem mt_X10_gainWheel : mt nX10_gainWheel 1 := ⟨List.mem_filter.mpr ⟨List.mem_of_getElem? (i := 919) (by rfl), by rfl⟩, List.mem_filter.mpr ⟨List.mem_of_getElem? (i := 133) (by decide +kernel), by decide +kernel⟩, ⟨by decide +kernel, by decide +kernel, by decide +kernel⟩, by decide⟩
set_option maxRecDepth 100000 in
theorem mt_X10_hourCanPass : mt nX10_hourCanPass 0 := ⟨List.mem_filter.mpr ⟨List.mem_of_getElem? (i := 941) (by rfl), by rfl⟩, List.mem_filter.mpr ⟨List.mem_of_getElem? (i := 133) (by decide +kernel), by decide +kernel⟩, ⟨by decide +kernel, by decide +kernel, by decide +kernel⟩, by decide⟩
set_option maxRecDepth 100000 in
theorem mt_X10_hourNow : mt nX10_hourNow 0 := ⟨List.mem_filter.mpr ⟨List.mem_of_getElem? (i := 834) (by rfl), by rfl⟩, List.mem_filter.mpr ⟨List.mem_of_getElem? (i := 133) (by decide +kernel), by decide +kernel⟩, ⟨by decide +kernel, by decide +kernel, by decide +kernel⟩, by decide⟩
set_option maxRecDepth 100000 in
theorem mt_X10_init : mt nX10_init 0 := ⟨List.mem_filter.mpr ⟨List.mem_of_getElem? (i := 175) (by rfl), by rfl⟩, List.mem_filter.mpr ⟨List.mem_of_getElem? (i := 133) (by decide +kernel), by decide +kernel⟩, ⟨by decide +kernel, by decide +kernel, by decide +kernel⟩, by decide⟩
set_option maxRecDepth 100000 in
theorem mt_X10_isWide : mt nX10_isWide 1 := ⟨List.mem_filter.mpr ⟨List.mem_of_getElem? (i := 810) (by rfl), by rfl⟩, List.mem_filter.mpr ⟨List.mem_of_getElem? (i := 133) (by decide +kernel), by decide +kernel⟩, ⟨by decide +kernel, by decide +kernel, by decide +kernel⟩, by decide⟩
set_option maxRecDepth 100000 in
theorem mt_X10_lineTells : mt nX10_lineTells 2 := ⟨List.mem_filter.mpr ⟨List.mem_of_getElem? (i := 1058) (by rfl), by rfl⟩, List.mem_filter.mpr ⟨List.mem_of_getElem? (i := 133) (by decide +kernel), by decide +kernel⟩, ⟨by decide +kernel, by decide +kernel, by decide +kernel⟩, by decide⟩
set_option maxRecDepth 100000 in
theorem mt_X10_moveUppermost : mt nX10_moveUppermost 2 := ⟨List.mem_filter.mpr ⟨List.mem_of_getElem? (i := 888) (by rfl), by rfl⟩, List.mem_filter.mpr ⟨List.mem_of_getElem? (i := 133) (by decide +kernel), by decide +kernel⟩, ⟨by decide +kernel, by decide +kernel, by decide +kernel⟩, by decide⟩
set_option maxRecDepth 100000 in
theorem mt_X10_passHour : mt nX10_passHour 0 := ⟨List.mem_filter.mpr ⟨List.mem_of_getElem? (i := 945) (by rfl), by rfl⟩, List.mem_filter.mpr ⟨List.mem_of_getElem? (i := 133) (by decide +kernel), by decide +kernel⟩, ⟨by decide +kernel, by decide +kernel, by decide +kernel⟩, by decide⟩
set_option maxRecDepth 100000 in
theorem mt_X10_placeOf : mt nX10_placeOf 1 := ⟨List.mem_filter.mpr ⟨List.mem_of_getElem? (i := 1024) (by rfl), by rfl⟩, List.mem_filter.mpr ⟨List.mem_of_getElem? (i := 133) (by decide +kernel), by decide +kernel⟩, ⟨by decide +kernel, by decide +kernel, by decide +kernel⟩, by decide⟩
set_option maxRecDepth 100000 in
theorem mt_X10_placeOn : mt nX10_placeOn 2 := ⟨List.mem_filter.mpr ⟨List.mem_of_getElem? (i := 1016) (by rfl), by rfl⟩, List.mem_filter.mpr ⟨List.mem_of_getElem? (i := 133) (by decide +kernel), by decide +kernel⟩, ⟨by decide +kernel, by decide +kernel, by decide +kernel⟩, by decide⟩
set_option maxRecDepth 100000 in
theorem mt_X10_putUppermost : mt nX10_putUppermost 2 := ⟨List.mem_filter.mpr ⟨List.mem_of_getElem? (i := 479) (by rfl), by rfl⟩, List.mem_filter.mpr ⟨List.mem_of_getElem? (i := 133) (by decide +kernel), by decide +kernel⟩, ⟨by decide +kernel, by decide +kernel, by decide +kernel⟩, by decide⟩
set_option maxRecDepth 100000 in
theorem mt_X10_toldCars : mt nX10_toldCars 0 := ⟨List.mem_filter.mpr ⟨List.mem_of_getElem? (i := 1124) (by rfl), by rfl⟩, List.mem_filter.mpr ⟨List.mem_of_getElem? (i := 133) (by decide +kernel), by decide +kernel⟩, ⟨by decide +kernel, by decide +kernel, by decide +kernel⟩, by decide⟩
set_option maxRecDepth 100000 in
theorem mt_X10_trackOf : mt nX10_trackOf 1 := ⟨List.mem_filter.mpr ⟨List.mem_of_getElem? (i := 1012) (by rfl), by rfl⟩, List.mem_filter.mpr ⟨List.mem_of_getElem? (i := 133) (by decide +kernel), by decide +kernel⟩, ⟨by decide +kernel, by decide +kernel, by decide +kernel⟩, by decide⟩
set_option maxRecDepth 100000 in
theorem mt_X10_uppermost : mt nX10_uppermost 1 := ⟨List.mem_filter.mpr ⟨List.mem_of_getElem? (i := 802) (by rfl), by rfl⟩, List.mem_filter.mpr ⟨List.mem_of_getElem? (i := 133) (by decide +kernel), by decide +kernel⟩, ⟨by decide +kernel, by decide +kernel, by decide +kernel⟩, by decide⟩
set_option maxRecDepth 100000 in
theorem mt_X10_wheelsOf : mt nX10_wheelsOf 1 := ⟨List.mem_filter.mpr ⟨List.mem_of_getElem? (i := 906) (by rfl), by rfl⟩, List.mem_filter.mpr ⟨List.mem_of_getElem? (i := 133) (by decide +kernel), by decide +kernel⟩, ⟨by decide +kernel, by decide +kernel, by decide +kernel⟩, by decide⟩
set_option maxRecDepth 100000 in
theorem mt_X10_wornOf : mt nX10_wornOf 1 := ⟨List.mem_filter.mpr ⟨List.mem_of_getElem? (i := 838) (by rfl), by rfl⟩, List.mem_filter.mpr ⟨List.mem_of_getElem? (i := 133) (by decide +kernel), by decide +kernel⟩, ⟨by decide +kernel, by decide +kernel, by decide +kernel⟩, by decide⟩
set_option maxRecDepth 100000 in
theorem mt_X10_wornTogether : mt nX10_wornTogether 0 := ⟨List.mem_filter.mpr ⟨List.mem_of_getElem? (i := 1072) (by rfl), by rfl⟩, List.mem_filter.mpr ⟨List.mem_of_getElem? (i := 133) (by decide +kernel), by decide +kernel⟩, ⟨by decide +kernel, by decide +kernel, by decide +kernel⟩, by decide⟩
set_option maxRecDepth 100000 in
theorem mt_X10_write : mt nX10_write 3 := ⟨List.mem_filter.mpr ⟨List.mem_of_getElem? (i := 893) (by rfl), by rfl⟩, List.mem_filter.mpr ⟨List.mem_of_getElem? (i := 133) (by decide +kernel), by decide +kernel⟩, ⟨by decide +kernel, by decide +kernel, by decide +kernel⟩, by decide⟩
set_option maxRecDepth 100000 in
theorem mt_X11_about : mt nX11_about 1 := ⟨List.mem_filter.mpr ⟨List.mem_of_getElem? (i := 1368) (by rfl), by rfl⟩, List.mem_filter.mpr ⟨List.mem_of_getElem? (i := 130) (by decide +kernel), by decide +kernel⟩, ⟨by decide +kernel, by decide +kernel, by decide +kernel⟩, by decide⟩
set_option maxRecDepth 100000 in
theorem mt_X11_amiss : mt nX11_amiss 0 := ⟨List.mem_filter.mpr ⟨List.mem_of_getElem? (i := 1335) (by rfl), by rfl⟩, List.mem_filter.mpr ⟨List.mem_of_getElem? (i := 130) (by decide +kernel), by decide +kernel⟩, ⟨by decide +kernel, by decide +kernel, by decide +kernel⟩, by decide⟩
set_option maxRecDepth 100000 in
theorem mt_X11_back : mt nX11_back 0 := ⟨List.mem_filter.mpr ⟨List.mem_of_getElem? (i := 1364) (by rfl), by rfl⟩, List.mem_filter.mpr ⟨List.mem_of_getElem? (i := 130) (by decide +kernel), by decide +kernel⟩, ⟨by decide +kernel, by decide +kernel, by decide +kernel⟩, by decide⟩
set_option maxRecDepth 100000 in
theorem mt_X11_balance : mt nX11_balance 1 := ⟨List.mem_filter.mpr ⟨List.mem_of_getElem? (i := 1204) (by rfl), by rfl⟩, List.mem_filter.mpr ⟨List.mem_of_getElem? (i := 130) (by decide +kernel), by decide +kernel⟩, ⟨by decide +kernel, by decide +kernel, by decide +kernel⟩, by decide⟩
set_option maxRecDepth 100000 in
theorem mt_X11_book : mt nX11_book 2 := ⟨List.mem_filter.mpr ⟨List.mem_of_getElem? (i := 1050) (by rfl), by rfl⟩, List.mem_filter.mpr ⟨List.mem_of_getElem? (i := 130) (by decide +kernel), by decide +kernel⟩, ⟨by decide +kernel, by decide +kernel, by decide +kernel⟩, by decide⟩
set_option maxRecDepth 100000 in
theorem mt_X11_by : mt nX11_by 1 := ⟨List.mem_filter.mpr ⟨List.mem_of_getElem? (i := 783) (by rfl), by rfl⟩, List.mem_filter.mpr ⟨List.mem_of_getElem? (i := 130) (by decide +kernel), by decide +kernel⟩, ⟨by decide +kernel, by decide +kernel, by decide +kernel⟩, by decide⟩
set_option maxRecDepth 100000 in
theorem mt_X11_car : mt nX11_car 2 := ⟨List.mem_filter.mpr ⟨List.mem_of_getElem? (i := 464) (by rfl), by rfl⟩, List.mem_filter.mpr ⟨List.mem_of_getElem? (i := 130) (by decide +kernel), by decide +kernel⟩, ⟨by decide +kernel, by decide +kernel, by decide +kernel⟩, by decide⟩
set_option maxRecDepth 100000 in
theorem mt_X11_change : mt nX11_change 0 := ⟨List.mem_filter.mpr ⟨List.mem_of_getElem? (i := 898) (by rfl), by rfl⟩, List.mem_filter.mpr ⟨List.mem_of_getElem? (i := 130) (by decide +kernel), by decide +kernel⟩, ⟨by decide +kernel, by decide +kernel, by decide +kernel⟩, by decide⟩
set_option maxRecDepth 100000 in
theorem mt_X11_commonDivisor : mt nX11_commonDivisor 2 := ⟨List.mem_filter.mpr ⟨List.mem_of_getElem? (i := 1305) (by rfl), by rfl⟩, List.mem_filter.mpr ⟨List.mem_of_getElem? (i := 130) (by decide +kernel), by decide +kernel⟩, ⟨by decide +kernel, by decide +kernel, by decide +kernel⟩, by decide⟩
set_option maxRecDepth 100000 in
theorem mt_X11_crane : mt nX11_crane 1 := ⟨List.mem_filter.mpr ⟨List.mem_of_getElem? (i := 1179) (by rfl), by rfl⟩, List.mem_filter.mpr ⟨List.mem_of_getElem? (i := 130) (by decide +kernel), by decide +kernel⟩, ⟨by decide +kernel, by decide +kernel, by decide +kernel⟩, by decide⟩
set_option maxRecDepth 100000 in
theorem mt_X11_end : mt nX11_end 1 := ⟨List.mem_filter.mpr ⟨List.mem_of_getElem? (i := 515) (by rfl), by rfl⟩, List.mem_filter.mpr ⟨List.mem_of_getElem? (i := 130) (by decide +kernel), by decide +kernel⟩, ⟨by decide +kernel, by decide +kernel, by decide +kernel⟩, by decide⟩
set_option maxRecDepth 100000 in
theorem mt_X11_exploreFromNow : mt nX11_exploreFromNow 0 := ⟨List.mem_filter.mpr ⟨List.mem_of_getElem? (i := 1085) (by rfl), by rfl⟩, List.mem_filter.mpr ⟨List.mem_of_getElem? (i := 130) (by decide +kernel), by decide +kernel⟩, ⟨by decide +kernel, by decide +kernel, by decide +kernel⟩, by decide⟩
set_option maxRecDepth 100000 in
theorem mt_X11_fastestOrder : mt nX11_fastestOrder 0 := ⟨List.mem_filter.mpr ⟨List.mem_of_getElem? (i := 1183) (by rfl), by rfl⟩, List.mem_filter.mpr ⟨List.mem_of_getElem? (i := 130) (by decide +kernel), by decide +kernel⟩, ⟨by decide +kernel, by decide +kernel, by decide +kernel⟩, by decide⟩
set_option maxRecDepth 100000 in
theorem mt_X11_fault : mt nX11_fault 1 := ⟨List.mem_filter.mpr ⟨List.mem_of_getElem? (i := 779) (by rfl), by rfl⟩, List.mem_filter.mpr ⟨List.mem_of_getElem? (i := 130) (by decide +kernel), by decide +kernel⟩, ⟨by decide +kernel, by decide +kernel, by decide +kernel⟩, by decide⟩
set_option maxRecDepth 100000 in
theorem mt_X11_feed : mt nX11_feed 5 := ⟨List.mem_filter.mpr ⟨List.mem_of_getElem? (i := 507) (by rfl), by rfl⟩, List.mem_filter.mpr ⟨List.mem_of_getElem? (i := 130) (by decide +kernel), by decide +kernel⟩, ⟨by decide +kernel, by decide +kernel, by decide +kernel⟩, by decide⟩
set_option maxRecDepth 100000 in
theorem mt_X11_fitsAllSeen : mt nX11_fitsAllSeen 4 := ⟨List.mem_filter.mpr ⟨List.mem_of_getElem? (i := 1282) (by rfl), by rfl⟩, List.mem_filter.mpr ⟨List.mem_of_getElem? (i := 130) (by decide +kernel), by decide +kernel⟩, ⟨by decide +kernel, by decide +kernel, by decide +kernel⟩, by decide⟩
set_option maxRecDepth 100000 in
theorem mt_X11_fitsSeen : mt nX11_fitsSeen 3 := ⟨List.mem_filter.mpr ⟨List.mem_of_getElem? (i := 1286) (by rfl), by rfl⟩, List.mem_filter.mpr ⟨List.mem_of_getElem? (i := 130) (by decide +kernel), by decide +kernel⟩, ⟨by decide +kernel, by decide +kernel, by decide +kernel⟩, by decide⟩
set_option maxRecDepth 100000 in
theorem mt_X11_forbid : mt nX11_forbid 3 := ⟨List.mem_filter.mpr ⟨List.mem_of_getElem? (i := 487) (by rfl), by rfl⟩, List.mem_filter.mpr ⟨List.mem_of_getElem? (i := 130) (by decide +kernel), by decide +kernel⟩, ⟨by decide +kernel, by decide +kernel, by decide +kernel⟩, by decide⟩
set_option maxRecDepth 100000 in
theorem mt_X11_foretold : mt nX11_foretold 2 := ⟨List.mem_filter.mpr ⟨List.mem_of_getElem? (i := 1062) (by rfl), by rfl⟩, List.mem_filter.mpr ⟨List.mem_of_getElem? (i := 130) (by decide +kernel), by decide +kernel⟩, ⟨by decide +kernel, by decide +kernel, by decide +kernel⟩, by decide⟩
set_option maxRecDepth 100000 in
theorem mt_X11_group : mt nX11_group 1 := ⟨List.mem_filter.mpr ⟨List.mem_of_getElem? (i := 1233) (by rfl), by rfl⟩, List.mem_filter.mpr ⟨List.mem_of_getElem? (i := 130) (by decide +kernel), by decide +kernel⟩, ⟨by decide +kernel, by decide +kernel, by decide +kernel⟩, by decide⟩
set_option maxRecDepth 100000 in
theorem mt_X11_heaviest : mt nX11_heaviest 0 := ⟨List.mem_filter.mpr ⟨List.mem_of_getElem? (i := 1321) (by rfl), by rfl⟩, List.mem_filter.mpr ⟨List.mem_of_getElem? (i := 130) (by decide +kernel), by decide +kernel⟩, ⟨by decide +kernel, by decide +kernel, by decide +kernel⟩, by decide⟩
set_option maxRecDepth 100000 in
theorem mt_X11_histories : mt nX11_histories 1 := ⟨List.mem_filter.mpr ⟨List.mem_of_getElem? (i := 1273) (by rfl), by rfl⟩, List.mem_filter.mpr ⟨List.mem_of_getElem? (i := 130) (by decide +kernel), by decide +kernel⟩, ⟨by decide +kernel, by decide +kernel, by decide +kernel⟩, by decide⟩
set_option maxRecDepth 100000 in
theorem mt_X11_hour : mt nX11_hour 1 := ⟨List.mem_filter.mpr ⟨List.mem_of_getElem? (i := 932) (by rfl), by rfl⟩, List.mem_filter.mpr ⟨List.mem_of_getElem? (i := 130) (by decide +kernel), by decide +kernel⟩, ⟨by decide +kernel, by decide +kernel, by decide +kernel⟩, by decide⟩
set_option maxRecDepth 100000 in
theorem mt_X11_idle : mt nX11_idle 0 := ⟨List.mem_filter.mpr ⟨List.mem_of_getElem? (i := 1193) (by rfl), by rfl⟩, List.mem_filter.mpr ⟨List.mem_of_getElem? (i := 130) (by decide +kernel), by decide +kernel⟩, ⟨by decide +kernel, by decide +kernel, by decide +kernel⟩, by decide⟩
set_option maxRecDepth 100000 in
theorem mt_X11_image : mt nX11_image 0 := ⟨List.mem_filter.mpr ⟨List.mem_of_getElem? (i := 1344) (by rfl), by rfl⟩, List.mem_filter.mpr ⟨List.mem_of_getElem? (i := 130) (by decide +kernel), by decide +kernel⟩, ⟨by decide +kernel, by decide +kernel, by decide +kernel⟩, by decide⟩
set_option maxRecDepth 100000 in
theorem mt_X11_init : mt nX11_init 0 := ⟨List.mem_filter.mpr ⟨List.mem_of_getElem? (i := 155) (by rfl), by rfl⟩, List.mem_filter.mpr ⟨List.mem_of_getElem? (i := 130) (by decide +kernel), by decide +kernel⟩, ⟨by decide +kernel, by decide +kernel, by decide +kernel⟩, by decide⟩
set_option maxRecDepth 100000 in
theorem mt_X11_is : mt nX11_is 1 := ⟨List.mem_filter.mpr ⟨List.mem_of_getElem? (i := 1045) (by rfl), by rfl⟩, List.mem_filter.mpr ⟨List.mem_of_getElem? (i := 130) (by decide +kernel), by decide +kernel⟩, ⟨by decide +kernel, by decide +kernel, by decide +kernel⟩, by decide⟩
set_option maxRecDepth 100000 in
theorem mt_X11_isCar : mt nX11_isCar 1 := ⟨List.mem_filter.mpr ⟨List.mem_of_getElem? (i := 499) (by rfl), by rfl⟩, List.mem_filter.mpr ⟨List.mem_of_getElem? (i := 130) (by decide +kernel), by decide +kernel⟩, ⟨by decide +kernel, by decide +kernel, by decide +kernel⟩, by decide⟩
set_option maxRecDepth 100000 in
theorem mt_X11_isRailway : mt nX11_isRailway 1 := ⟨List.mem_filter.mpr ⟨List.mem_of_getElem? (i := 1200) (by rfl), by rfl⟩, List.mem_filter.mpr ⟨List.mem_of_getElem? (i := 130) (by decide +kernel), by decide +kernel⟩, ⟨by decide +kernel, by decide +kernel, by decide +kernel⟩, by decide⟩
set_option maxRecDepth 100000 in
theorem mt_X11_isText : mt nX11_isText 1 := ⟨List.mem_filter.mpr ⟨List.mem_of_getElem? (i := 787) (by rfl), by rfl⟩, List.mem_filter.mpr ⟨List.mem_of_getElem? (i := 130) (by decide +kernel), by decide +kernel⟩, ⟨by decide +kernel, by decide +kernel, by decide +kernel⟩, by decide⟩
set_option maxRecDepth 100000 in
theorem mt_X11_isTrack : mt nX11_isTrack 1 := ⟨List.mem_filter.mpr ⟨List.mem_of_getElem? (i := 794) (by rfl), by rfl⟩, List.mem_filter.mpr ⟨List.mem_of_getElem? (i := 130) (by decide +kernel), by decide +kernel⟩, ⟨by decide +kernel, by decide +kernel, by decide +kernel⟩, by decide⟩
set_option maxRecDepth 100000 in
theorem mt_X11_lastMomentSeen : mt nX11_lastMomentSeen 0 := ⟨List.mem_filter.mpr ⟨List.mem_of_getElem? (i := 1277) (by rfl), by rfl⟩, List.mem_filter.mpr ⟨List.mem_of_getElem? (i := 130) (by decide +kernel), by decide +kernel⟩, ⟨by decide +kernel, by decide +kernel, by decide +kernel⟩, by decide⟩
set_option maxRecDepth 100000 in
theorem mt_X11_late : mt nX11_late 2 := ⟨List.mem_filter.mpr ⟨List.mem_of_getElem? (i := 1297) (by rfl), by rfl⟩, List.mem_filter.mpr ⟨List.mem_of_getElem? (i := 130) (by decide +kernel), by decide +kernel⟩, ⟨by decide +kernel, by decide +kernel, by decide +kernel⟩, by decide⟩
set_option maxRecDepth 100000 in
theorem mt_X11_law : mt nX11_law 2 := ⟨List.mem_filter.mpr ⟨List.mem_of_getElem? (i := 1037) (by rfl), by rfl⟩, List.mem_filter.mpr ⟨List.mem_of_getElem? (i := 130) (by decide +kernel), by decide +kernel⟩, ⟨by decide +kernel, by decide +kernel, by decide +kernel⟩, by decide⟩
set_option maxRecDepth 100000 in
theorem mt_X11_ledger : mt nX11_ledger 1 := ⟨List.mem_filter.mpr ⟨List.mem_of_getElem? (i := 1340) (by rfl), by rfl⟩, List.mem_filter.mpr ⟨List.mem_of_getElem? (i := 130) (by decide +kernel), by decide +kernel⟩, ⟨by decide +kernel, by decide +kernel, by decide +kernel⟩, by decide⟩
set_option maxRecDepth 100000 in
theorem mt_X11_lend : mt nX11_lend 2 := ⟨List.mem_filter.mpr ⟨List.mem_of_getElem? (i := 924) (by rfl), by rfl⟩, List.mem_filter.mpr ⟨List.mem_of_getElem? (i := 130) (by decide +kernel), by decide +kernel⟩, ⟨by decide +kernel, by decide +kernel, by decide +kernel⟩, by decide⟩
set_option maxRecDepth 100000 in
theorem mt_X11_likely : mt nX11_likely 2 := ⟨List.mem_filter.mpr ⟨List.mem_of_getElem? (i := 1301) (by rfl), by rfl⟩, List.mem_filter.mpr ⟨List.mem_of_getElem? (i := 130) (by decide +kernel), by decide +kernel⟩, ⟨by decide +kernel, by decide +kernel, by decide +kernel⟩, by decide⟩
set_option maxRecDepth 100000 in
theorem mt_X11_lowest : mt nX11_lowest 2 := ⟨List.mem_filter.mpr ⟨List.mem_of_getElem? (i := 1175) (by rfl), by rfl⟩, List.mem_filter.mpr ⟨List.mem_of_getElem? (i := 130) (by decide +kernel), by decide +kernel⟩, ⟨by decide +kernel, by decide +kernel, by decide +kernel⟩, by decide⟩
set_option maxRecDepth 100000 in
theorem mt_X11_move : mt nX11_move 2 := ⟨List.mem_filter.mpr ⟨List.mem_of_getElem? (i := 791) (by rfl), by rfl⟩, List.mem_filter.mpr ⟨List.mem_of_getElem? (i := 130) (by decide +kernel), by decide +kernel⟩, ⟨by decide +kernel, by decide +kernel, by decide +kernel⟩, by decide⟩
set_option maxRecDepth 100000 in
theorem mt_X11_of : mt nX11_of 2 := ⟨List.mem_filter.mpr ⟨List.mem_of_getElem? (i := 1008) (by rfl), by rfl⟩, List.mem_filter.mpr ⟨List.mem_of_getElem? (i := 130) (by decide +kernel), by decide +kernel⟩, ⟨by decide +kernel, by decide +kernel, by decide +kernel⟩, by decide⟩
set_option maxRecDepth 100000 in
theorem mt_X11_order : mt nX11_order 2 := ⟨List.mem_filter.mpr ⟨List.mem_of_getElem? (i := 1153) (by rfl), by rfl⟩, List.mem_filter.mpr ⟨List.mem_of_getElem? (i := 130) (by decide +kernel), by decide +kernel⟩, ⟨by decide +kernel, by decide +kernel, by decide +kernel⟩, by decide⟩
set_option maxRecDepth 100000 in
theorem mt_X11_owe : mt nX11_owe 3 := ⟨List.mem_filter.mpr ⟨List.mem_of_getElem? (i := 1197) (by rfl), by rfl⟩, List.mem_filter.mpr ⟨List.mem_of_getElem? (i := 130) (by decide +kernel), by decide +kernel⟩, ⟨by decide +kernel, by decide +kernel, by decide +kernel⟩, by decide⟩
set_option maxRecDepth 100000 in
theorem mt_X11_played : mt nX11_played 1 := ⟨List.mem_filter.mpr ⟨List.mem_of_getElem? (i := 958) (by rfl), by rfl⟩, List.mem_filter.mpr ⟨List.mem_of_getElem? (i := 130) (by decide +kernel), by decide +kernel⟩, ⟨by decide +kernel, by decide +kernel, by decide +kernel⟩, by decide⟩
set_option maxRecDepth 100000 in
theorem mt_X11_reach : mt nX11_reach 0 := ⟨List.mem_filter.mpr ⟨List.mem_of_getElem? (i := 1149) (by rfl), by rfl⟩, List.mem_filter.mpr ⟨List.mem_of_getElem? (i := 130) (by decide +kernel), by decide +kernel⟩, ⟨by decide +kernel, by decide +kernel, by decide +kernel⟩, by decide⟩
set_option maxRecDepth 100000 in
theorem mt_X11_rows : mt nX11_rows 1 := ⟨List.mem_filter.mpr ⟨List.mem_of_getElem? (i := 1157) (by rfl), by rfl⟩, List.mem_filter.mpr ⟨List.mem_of_getElem? (i := 130) (by decide +kernel), by decide +kernel⟩, ⟨by decide +kernel, by decide +kernel, by decide +kernel⟩, by decide⟩
set_option maxRecDepth 100000 in
theorem mt_X11_said : mt nX11_said 2 := ⟨List.mem_filter.mpr ⟨List.mem_of_getElem? (i := 1309) (by rfl), by rfl⟩, List.mem_filter.mpr ⟨List.mem_of_getElem? (i := 130) (by decide +kernel), by decide +kernel⟩, ⟨by decide +kernel, by decide +kernel, by decide +kernel⟩, by decide⟩
set_option maxRecDepth 100000 in
theorem mt_X11_saysAllThatWasSaid : mt nX11_saysAllThatWasSaid 1 := ⟨List.mem_filter.mpr ⟨List.mem_of_getElem? (i := 1317) (by rfl), by rfl⟩, List.mem_filter.mpr ⟨List.mem_of_getElem? (i := 130) (by decide +kernel), by decide +kernel⟩, ⟨by decide +kernel, by decide +kernel, by decide +kernel⟩, by decide⟩
set_option maxRecDepth 100000 in
theorem mt_X11_seen : mt nX11_seen 3 := ⟨List.mem_filter.mpr ⟨List.mem_of_getElem? (i := 1269) (by rfl), by rfl⟩, List.mem_filter.mpr ⟨List.mem_of_getElem? (i := 130) (by decide +kernel), by decide +kernel⟩, ⟨by decide +kernel, by decide +kernel, by decide +kernel⟩, by decide⟩
set_option maxRecDepth 100000 in
theorem mt_X11_settled : mt nX11_settled 1 := ⟨List.mem_filter.mpr ⟨List.mem_of_getElem? (i := 1209) (by rfl), by rfl⟩, List.mem_filter.mpr ⟨List.mem_of_getElem? (i := 130) (by decide +kernel), by decide +kernel⟩, ⟨by decide +kernel, by decide +kernel, by decide +kernel⟩, by decide⟩
set_option maxRecDepth 100000 in
theorem mt_X11_shunts : mt nX11_shunts 1 := ⟨List.mem_filter.mpr ⟨List.mem_of_getElem? (i := 1081) (by rfl), by rfl⟩, List.mem_filter.mpr ⟨List.mem_of_getElem? (i := 130) (by decide +kernel), by decide +kernel⟩, ⟨by decide +kernel, by decide +kernel, by decide +kernel⟩, by decide⟩
set_option maxRecDepth 100000 in
theorem mt_X11_stock : mt nX11_stock 1 := ⟨List.mem_filter.mpr ⟨List.mem_of_getElem? (i := 1257) (by rfl), by rfl⟩, List.mem_filter.mpr ⟨List.mem_of_getElem? (i := 130) (by decide +kernel), by decide +kernel⟩, ⟨by decide +kernel, by decide +kernel, by decide +kernel⟩, by decide⟩
set_option maxRecDepth 100000 in
theorem mt_X11_text : mt nX11_text 0 := ⟨List.mem_filter.mpr ⟨List.mem_of_getElem? (i := 519) (by rfl), by rfl⟩, List.mem_filter.mpr ⟨List.mem_of_getElem? (i := 130) (by decide +kernel), by decide +kernel⟩, ⟨by decide +kernel, by decide +kernel, by decide +kernel⟩, by decide⟩
set_option maxRecDepth 100000 in
theorem mt_X11_times : mt nX11_times 3 := ⟨List.mem_filter.mpr ⟨List.mem_of_getElem? (i := 495) (by rfl), by rfl⟩, List.mem_filter.mpr ⟨List.mem_of_getElem? (i := 130) (by decide +kernel), by decide +kernel⟩, ⟨by decide +kernel, by decide +kernel, by decide +kernel⟩, by decide⟩
set_option maxRecDepth 100000 in
theorem mt_X11_track : mt nX11_track 2 := ⟨List.mem_filter.mpr ⟨List.mem_of_getElem? (i := 1031) (by rfl), by rfl⟩, List.mem_filter.mpr ⟨List.mem_of_getElem? (i := 130) (by decide +kernel), by decide +kernel⟩, ⟨by decide +kernel, by decide +kernel, by decide +kernel⟩, by decide⟩
set_option maxRecDepth 100000 in
theorem mt_X11_trip : mt nX11_trip 3 := ⟨List.mem_filter.mpr ⟨List.mem_of_getElem? (i := 1245) (by rfl), by rfl⟩, List.mem_filter.mpr ⟨List.mem_of_getElem? (i := 130) (by decide +kernel), by decide +kernel⟩, ⟨by decide +kernel, by decide +kernel, by decide +kernel⟩, by decide⟩
set_option maxRecDepth 100000 in
theorem mt_X11_undo : mt nX11_undo 0 := ⟨List.mem_filter.mpr ⟨List.mem_of_getElem? (i := 998) (by rfl), by rfl⟩, List.mem_filter.mpr ⟨List.mem_of_getElem? (i := 130) (by decide +kernel), by decide +kernel⟩, ⟨by decide +kernel, by decide +kernel, by decide +kernel⟩, by decide⟩
set_option maxRecDepth 100000 in
theorem mt_X11_want : mt nX11_want 1 := ⟨List.mem_filter.mpr ⟨List.mem_of_getElem? (i := 1077) (by rfl), by rfl⟩, List.mem_filter.mpr ⟨List.mem_of_getElem? (i := 130) (by decide +kernel), by decide +kernel⟩, ⟨by decide +kernel, by decide +kernel, by decide +kernel⟩, by decide⟩
set_option maxRecDepth 100000 in
theorem mt_X11_wantedCode : mt nX11_wantedCode 0 := ⟨List.mem_filter.mpr ⟨List.mem_of_getElem? (i := 1120) (by rfl), by rfl⟩, List.mem_filter.mpr ⟨List.mem_of_getElem? (i := 130) (by decide +kernel), by decide +kernel⟩, ⟨by decide +kernel, by decide +kernel, by decide +kernel⟩, by decide⟩
set_option maxRecDepth 100000 in
theorem mt_X11_wheelsOut : mt nX11_wheelsOut 1 := ⟨List.mem_filter.mpr ⟨List.mem_of_getElem? (i := 1261) (by rfl), by rfl⟩, List.mem_filter.mpr ⟨List.mem_of_getElem? (i := 130) (by decide +kernel), by decide +kernel⟩, ⟨by decide +kernel, by decide +kernel, by decide +kernel⟩, by decide⟩
set_option maxRecDepth 100000 in
theorem mt_X11_whose : mt nX11_whose 0 := ⟨List.mem_filter.mpr ⟨List.mem_of_getElem? (i := 1313) (by rfl), by rfl⟩, List.mem_filter.mpr ⟨List.mem_of_getElem? (i := 130) (by decide +kernel), by decide +kernel⟩, ⟨by decide +kernel, by decide +kernel, by decide +kernel⟩, by decide⟩
set_option maxRecDepth 100000 in
theorem mt_X11_within : mt nX11_within 3 := ⟨List.mem_filter.mpr ⟨List.mem_of_getElem? (i := 467) (by rfl), by rfl⟩, List.mem_filter.mpr ⟨List.mem_of_getElem? (i := 130) (by decide +kernel), by decide +kernel⟩, ⟨by decide +kernel, by decide +kernel, by decide +kernel⟩, by decide⟩
set_option maxRecDepth 100000 in
theorem mt_X11_worn : mt nX11_worn 0 := ⟨List.mem_filter.mpr ⟨List.mem_of_getElem? (i := 1331) (by rfl), by rfl⟩, List.mem_filter.mpr ⟨List.mem_of_getElem? (i := 130) (by decide +kernel), by decide +kernel⟩, ⟨by decide +kernel, by decide +kernel, by decide +kernel⟩, by decide⟩
set_option maxRecDepth 100000 in
theorem mt_X11_years : mt nX11_years 2 := ⟨List.mem_filter.mpr ⟨List.mem_of_getElem? (i := 984) (by rfl), by rfl⟩, List.mem_filter.mpr ⟨List.mem_of_getElem? (i := 130) (by decide +kernel), by decide +kernel⟩, ⟨by decide +kernel, by decide +kernel, by decide +kernel⟩, by decide⟩
set_option maxRecDepth 100000 in
theorem mt_X12_about : mt nX12_about 1 := ⟨List.mem_filter.mpr ⟨List.mem_of_getElem? (i := 2072) (by rfl), by rfl⟩, List.mem_filter.mpr ⟨List.mem_of_getElem? (i := 142) (by decide +kernel), by decide +kernel⟩, ⟨by decide +kernel, by decide +kernel, by decide +kernel⟩, by decide⟩
set_option maxRecDepth 100000 in
theorem mt_X12_amiss : mt nX12_amiss 0 := ⟨List.mem_filter.mpr ⟨List.mem_of_getElem? (i := 1878) (by rfl), by rfl⟩, List.mem_filter.mpr ⟨List.mem_of_getElem? (i := 142) (by decide +kernel), by decide +kernel⟩, ⟨by decide +kernel, by decide +kernel, by decide +kernel⟩, by decide⟩
set_option maxRecDepth 100000 in
theorem mt_X12_anew : mt nX12_anew 0 := ⟨List.mem_filter.mpr ⟨List.mem_of_getElem? (i := 1802) (by rfl), by rfl⟩, List.mem_filter.mpr ⟨List.mem_of_getElem? (i := 142) (by decide +kernel), by decide +kernel⟩, ⟨by decide +kernel, by decide +kernel, by decide +kernel⟩, by decide⟩
set_option maxRecDepth 100000 in
theorem mt_X12_arePassed : mt nX12_arePassed 1 := ⟨List.mem_filter.mpr ⟨List.mem_of_getElem? (i := 1790) (by rfl), by rfl⟩, List.mem_filter.mpr ⟨List.mem_of_getElem? (i := 142) (by decide +kernel), by decide +kernel⟩, ⟨by decide +kernel, by decide +kernel, by decide +kernel⟩, by decide⟩
set_option maxRecDepth 100000 in
theorem mt_X12_back : mt nX12_back 0 := ⟨List.mem_filter.mpr ⟨List.mem_of_getElem? (i := 2068) (by rfl), by rfl⟩, List.mem_filter.mpr ⟨List.mem_of_getElem? (i := 142) (by decide +kernel), by decide +kernel⟩, ⟨by decide +kernel, by decide +kernel, by decide +kernel⟩, by decide⟩
set_option maxRecDepth 100000 in
theorem mt_X12_balance : mt nX12_balance 1 := ⟨List.mem_filter.mpr ⟨List.mem_of_getElem? (i := 1984) (by rfl), by rfl⟩, List.mem_filter.mpr ⟨List.mem_of_getElem? (i := 142) (by decide +kernel), by decide +kernel⟩, ⟨by decide +kernel, by decide +kernel, by decide +kernel⟩, by decide⟩
set_option maxRecDepth 100000 in
theorem mt_X12_beginOne : mt nX12_beginOne 0 := ⟨List.mem_filter.mpr ⟨List.mem_of_getElem? (i := 1648) (by rfl), by rfl⟩, List.mem_filter.mpr ⟨List.mem_of_getElem? (i := 142) (by decide +kernel), by decide +kernel⟩, ⟨by decide +kernel, by decide +kernel, by decide +kernel⟩, by decide⟩
set_option maxRecDepth 100000 in
theorem mt_X12_behindOne : mt nX12_behindOne 0 := ⟨List.mem_filter.mpr ⟨List.mem_of_getElem? (i := 1609) (by rfl), by rfl⟩, List.mem_filter.mpr ⟨List.mem_of_getElem? (i := 142) (by decide +kernel), by decide +kernel⟩, ⟨by decide +kernel, by decide +kernel, by decide +kernel⟩, by decide⟩
set_option maxRecDepth 100000 in
theorem mt_X12_bestOrder : mt nX12_bestOrder 0 := ⟨List.mem_filter.mpr ⟨List.mem_of_getElem? (i := 1965) (by rfl), by rfl⟩, List.mem_filter.mpr ⟨List.mem_of_getElem? (i := 142) (by decide +kernel), by decide +kernel⟩, ⟨by decide +kernel, by decide +kernel, by decide +kernel⟩, by decide⟩
set_option maxRecDepth 100000 in
theorem mt_X12_betweenOf : mt nX12_betweenOf 0 := ⟨List.mem_filter.mpr ⟨List.mem_of_getElem? (i := 1613) (by rfl), by rfl⟩, List.mem_filter.mpr ⟨List.mem_of_getElem? (i := 142) (by decide +kernel), by decide +kernel⟩, ⟨by decide +kernel, by decide +kernel, by decide +kernel⟩, by decide⟩
set_option maxRecDepth 100000 in
theorem mt_X12_body : mt nX12_body 2 := ⟨List.mem_filter.mpr ⟨List.mem_of_getElem? (i := 1589) (by rfl), by rfl⟩, List.mem_filter.mpr ⟨List.mem_of_getElem? (i := 142) (by decide +kernel), by decide +kernel⟩, ⟨by decide +kernel, by decide +kernel, by decide +kernel⟩, by decide⟩
set_option maxRecDepth 100000 in
theorem mt_X12_book : mt nX12_book 2 := ⟨List.mem_filter.mpr ⟨List.mem_of_getElem? (i := 1854) (by rfl), by rfl⟩, List.mem_filter.mpr ⟨List.mem_of_getElem? (i := 142) (by decide +kernel), by decide +kernel⟩, ⟨by decide +kernel, by decide +kernel, by decide +kernel⟩, by decide⟩
set_option maxRecDepth 100000 in
theorem mt_X12_by : mt nX12_by 1 := ⟨List.mem_filter.mpr ⟨List.mem_of_getElem? (i := 1672) (by rfl), by rfl⟩, List.mem_filter.mpr ⟨List.mem_of_getElem? (i := 142) (by decide +kernel), by decide +kernel⟩, ⟨by decide +kernel, by decide +kernel, by decide +kernel⟩, by decide⟩
set_option maxRecDepth 100000 in
theorem mt_X12_byteAt : mt nX12_byteAt 1 := ⟨List.mem_filter.mpr ⟨List.mem_of_getElem? (i := 1540) (by rfl), by rfl⟩, List.mem_filter.mpr ⟨List.mem_of_getElem? (i := 142) (by decide +kernel), by decide +kernel⟩, ⟨by decide +kernel, by decide +kernel, by decide +kernel⟩, by decide⟩
set_option maxRecDepth 100000 in
theorem mt_X12_canChange : mt nX12_canChange 0 := ⟨List.mem_filter.mpr ⟨List.mem_of_getElem? (i := 1766) (by rfl), by rfl⟩, List.mem_filter.mpr ⟨List.mem_of_getElem? (i := 142) (by decide +kernel), by decide +kernel⟩, ⟨by decide +kernel, by decide +kernel, by decide +kernel⟩, by decide⟩
set_option maxRecDepth 100000 in
theorem mt_X12_canLend : mt nX12_canLend 2 := ⟨List.mem_filter.mpr ⟨List.mem_of_getElem? (i := 1782) (by rfl), by rfl⟩, List.mem_filter.mpr ⟨List.mem_of_getElem? (i := 142) (by decide +kernel), by decide +kernel⟩, ⟨by decide +kernel, by decide +kernel, by decide +kernel⟩, by decide⟩
set_option maxRecDepth 100000 in
theorem mt_X12_canMove : mt nX12_canMove 2 := ⟨List.mem_filter.mpr ⟨List.mem_of_getElem? (i := 1684) (by rfl), by rfl⟩, List.mem_filter.mpr ⟨List.mem_of_getElem? (i := 142) (by decide +kernel), by decide +kernel⟩, ⟨by decide +kernel, by decide +kernel, by decide +kernel⟩, by decide⟩
set_option maxRecDepth 100000 in
theorem mt_X12_car : mt nX12_car 2 := ⟨List.mem_filter.mpr ⟨List.mem_of_getElem? (i := 1489) (by rfl), by rfl⟩, List.mem_filter.mpr ⟨List.mem_of_getElem? (i := 142) (by decide +kernel), by decide +kernel⟩, ⟨by decide +kernel, by decide +kernel, by decide +kernel⟩, by decide⟩
set_option maxRecDepth 100000 in
theorem mt_X12_carOn : mt nX12_carOn 2 := ⟨List.mem_filter.mpr ⟨List.mem_of_getElem? (i := 1695) (by rfl), by rfl⟩, List.mem_filter.mpr ⟨List.mem_of_getElem? (i := 142) (by decide +kernel), by decide +kernel⟩, ⟨by decide +kernel, by decide +kernel, by decide +kernel⟩, by decide⟩
set_option maxRecDepth 100000 in
theorem mt_X12_cars : mt nX12_cars 0 := ⟨List.mem_filter.mpr ⟨List.mem_of_getElem? (i := 1916) (by rfl), by rfl⟩, List.mem_filter.mpr ⟨List.mem_of_getElem? (i := 142) (by decide +kernel), by decide +kernel⟩, ⟨by decide +kernel, by decide +kernel, by decide +kernel⟩, by decide⟩
set_option maxRecDepth 100000 in
theorem mt_X12_change : mt nX12_change 0 := ⟨List.mem_filter.mpr ⟨List.mem_of_getElem? (i := 1762) (by rfl), by rfl⟩, List.mem_filter.mpr ⟨List.mem_of_getElem? (i := 142) (by decide +kernel), by decide +kernel⟩, ⟨by decide +kernel, by decide +kernel, by decide +kernel⟩, by decide⟩
set_option maxRecDepth 100000 in
theorem mt_X12_changeNow : mt nX12_changeNow 0 := ⟨List.mem_filter.mpr ⟨List.mem_of_getElem? (i := 1774) (by rfl), by rfl⟩, List.mem_filter.mpr ⟨List.mem_of_getElem? (i := 142) (by decide +kernel), by decide +kernel⟩, ⟨by decide +kernel, by decide +kernel, by decide +kernel⟩, by decide⟩
set_option maxRecDepth 100000 in
theorem mt_X12_changesOf : mt nX12_changesOf 2 := ⟨List.mem_filter.mpr ⟨List.mem_of_getElem? (i := 1770) (by rfl), by rfl⟩, List.mem_filter.mpr ⟨List.mem_of_getElem? (i := 142) (by decide +kernel), by decide +kernel⟩, ⟨by decide +kernel, by decide +kernel, by decide +kernel⟩, by decide⟩
set_option maxRecDepth 100000 in
theorem mt_X12_clause : mt nX12_clause 0 := ⟨List.mem_filter.mpr ⟨List.mem_of_getElem? (i := 1555) (by rfl), by rfl⟩, List.mem_filter.mpr ⟨List.mem_of_getElem? (i := 142) (by decide +kernel), by decide +kernel⟩, ⟨by decide +kernel, by decide +kernel, by decide +kernel⟩, by decide⟩
set_option maxRecDepth 100000 in
theorem mt_X12_clip : mt nX12_clip 1 := ⟨List.mem_filter.mpr ⟨List.mem_of_getElem? (i := 1735) (by rfl), by rfl⟩, List.mem_filter.mpr ⟨List.mem_of_getElem? (i := 142) (by decide +kernel), by decide +kernel⟩, ⟨by decide +kernel, by decide +kernel, by decide +kernel⟩, by decide⟩
set_option maxRecDepth 100000 in
theorem mt_X12_come : mt nX12_come 2 := ⟨List.mem_filter.mpr ⟨List.mem_of_getElem? (i := 1496) (by rfl), by rfl⟩, List.mem_filter.mpr ⟨List.mem_of_getElem? (i := 142) (by decide +kernel), by decide +kernel⟩, ⟨by decide +kernel, by decide +kernel, by decide +kernel⟩, by decide⟩
set_option maxRecDepth 100000 in
theorem mt_X12_compareOf : mt nX12_compareOf 0 := ⟨List.mem_filter.mpr ⟨List.mem_of_getElem? (i := 1632) (by rfl), by rfl⟩, List.mem_filter.mpr ⟨List.mem_of_getElem? (i := 142) (by decide +kernel), by decide +kernel⟩, ⟨by decide +kernel, by decide +kernel, by decide +kernel⟩, by decide⟩
set_option maxRecDepth 100000 in
theorem mt_X12_copy : mt nX12_copy 2 := ⟨List.mem_filter.mpr ⟨List.mem_of_getElem? (i := 1377) (by rfl), by rfl⟩, List.mem_filter.mpr ⟨List.mem_of_getElem? (i := 142) (by decide +kernel), by decide +kernel⟩, ⟨by decide +kernel, by decide +kernel, by decide +kernel⟩, by decide⟩
set_option maxRecDepth 100000 in
theorem mt_X12_crane : mt nX12_crane 1 := ⟨List.mem_filter.mpr ⟨List.mem_of_getElem? (i := 1961) (by rfl), by rfl⟩, List.mem_filter.mpr ⟨List.mem_of_getElem? (i := 142) (by decide +kernel), by decide +kernel⟩, ⟨by decide +kernel, by decide +kernel, by decide +kernel⟩, by decide⟩
set_option maxRecDepth 100000 in
theorem mt_X12_cut : mt nX12_cut 3 := ⟨List.mem_filter.mpr ⟨List.mem_of_getElem? (i := 1746) (by rfl), by rfl⟩, List.mem_filter.mpr ⟨List.mem_of_getElem? (i := 142) (by decide +kernel), by decide +kernel⟩, ⟨by decide +kernel, by decide +kernel, by decide +kernel⟩, by decide⟩
set_option maxRecDepth 100000 in
theorem mt_X12_divisor : mt nX12_divisor 2 := ⟨List.mem_filter.mpr ⟨List.mem_of_getElem? (i := 2052) (by rfl), by rfl⟩, List.mem_filter.mpr ⟨List.mem_of_getElem? (i := 142) (by decide +kernel), by decide +kernel⟩, ⟨by decide +kernel, by decide +kernel, by decide +kernel⟩, by decide⟩
set_option maxRecDepth 100000 in
theorem mt_X12_doneBy : mt nX12_doneBy 1 := ⟨List.mem_filter.mpr ⟨List.mem_of_getElem? (i := 1969) (by rfl), by rfl⟩, List.mem_filter.mpr ⟨List.mem_of_getElem? (i := 142) (by decide +kernel), by decide +kernel⟩, ⟨by decide +kernel, by decide +kernel, by decide +kernel⟩, by decide⟩
set_option maxRecDepth 100000 in
theorem mt_X12_drawnBy : mt nX12_drawnBy 1 := ⟨List.mem_filter.mpr ⟨List.mem_of_getElem? (i := 1798) (by rfl), by rfl⟩, List.mem_filter.mpr ⟨List.mem_of_getElem? (i := 142) (by decide +kernel), by decide +kernel⟩, ⟨by decide +kernel, by decide +kernel, by decide +kernel⟩, by decide⟩
set_option maxRecDepth 100000 in
theorem mt_X12_emit : mt nX12_emit 2 := ⟨List.mem_filter.mpr ⟨List.mem_of_getElem? (i := 1640) (by rfl), by rfl⟩, List.mem_filter.mpr ⟨List.mem_of_getElem? (i := 142) (by decide +kernel), by decide +kernel⟩, ⟨by decide +kernel, by decide +kernel, by decide +kernel⟩, by decide⟩
set_option maxRecDepth 100000 in
theorem mt_X12_end : mt nX12_end 1 := ⟨List.mem_filter.mpr ⟨List.mem_of_getElem? (i := 1524) (by rfl), by rfl⟩, List.mem_filter.mpr ⟨List.mem_of_getElem? (i := 142) (by decide +kernel), by decide +kernel⟩, ⟨by decide +kernel, by decide +kernel, by decide +kernel⟩, by decide⟩
set_option maxRecDepth 100000 in
theorem mt_X12_endOf : mt nX12_endOf 1 := ⟨List.mem_filter.mpr ⟨List.mem_of_getElem? (i := 1936) (by rfl), by rfl⟩, List.mem_filter.mpr ⟨List.mem_of_getElem? (i := 142) (by decide +kernel), by decide +kernel⟩, ⟨by decide +kernel, by decide +kernel, by decide +kernel⟩, by decide⟩
set_option maxRecDepth 100000 in
theorem mt_X12_entry : mt nX12_entry 2 := ⟨List.mem_filter.mpr ⟨List.mem_of_getElem? (i := 1858) (by rfl), by rfl⟩, List.mem_filter.mpr ⟨List.mem_of_getElem? (i := 142) (by decide +kernel), by decide +kernel⟩, ⟨by decide +kernel, by decide +kernel, by decide +kernel⟩, by decide⟩
set_option maxRecDepth 100000 in
theorem mt_X12_factorial : mt nX12_factorial 1 := ⟨List.mem_filter.mpr ⟨List.mem_of_getElem? (i := 1896) (by rfl), by rfl⟩, List.mem_filter.mpr ⟨List.mem_of_getElem? (i := 142) (by decide +kernel), by decide +kernel⟩, ⟨by decide +kernel, by decide +kernel, by decide +kernel⟩, by decide⟩
set_option maxRecDepth 100000 in
theorem mt_X12_fault : mt nX12_fault 1 := ⟨List.mem_filter.mpr ⟨List.mem_of_getElem? (i := 1668) (by rfl), by rfl⟩, List.mem_filter.mpr ⟨List.mem_of_getElem? (i := 142) (by decide +kernel), by decide +kernel⟩, ⟨by decide +kernel, by decide +kernel, by decide +kernel⟩, by decide⟩
set_option maxRecDepth 100000 in
theorem mt_X12_feed : mt nX12_feed 5 := ⟨List.mem_filter.mpr ⟨List.mem_of_getElem? (i := 1516) (by rfl), by rfl⟩, List.mem_filter.mpr ⟨List.mem_of_getElem? (i := 142) (by decide +kernel), by decide +kernel⟩, ⟨by decide +kernel, by decide +kernel, by decide +kernel⟩, by decide⟩
set_option maxRecDepth 100000 in
theorem mt_X12_figure : mt nX12_figure 3 := ⟨List.mem_filter.mpr ⟨List.mem_of_getElem? (i := 1597) (by rfl), by rfl⟩, List.mem_filter.mpr ⟨List.mem_of_getElem? (i := 142) (by decide +kernel), by decide +kernel⟩, ⟨by decide +kernel, by decide +kernel, by decide +kernel⟩, by decide⟩
set_option maxRecDepth 100000 in
theorem mt_X12_forbid : mt nX12_forbid 3 := ⟨List.mem_filter.mpr ⟨List.mem_of_getElem? (i := 1500) (by rfl), by rfl⟩, List.mem_filter.mpr ⟨List.mem_of_getElem? (i := 142) (by decide +kernel), by decide +kernel⟩, ⟨by decide +kernel, by decide +kernel, by decide +kernel⟩, by decide⟩
set_option maxRecDepth 100000 in
theorem mt_X12_forbidOne : mt nX12_forbidOne 3 := ⟨List.mem_filter.mpr ⟨List.mem_of_getElem? (i := 1504) (by rfl), by rfl⟩, List.mem_filter.mpr ⟨List.mem_of_getElem? (i := 142) (by decide +kernel), by decide +kernel⟩, ⟨by decide +kernel, by decide +kernel, by decide +kernel⟩, by decide⟩
set_option maxRecDepth 100000 in
theorem mt_X12_foretold : mt nX12_foretold 2 := ⟨List.mem_filter.mpr ⟨List.mem_of_getElem? (i := 1882) (by rfl), by rfl⟩, List.mem_filter.mpr ⟨List.mem_of_getElem? (i := 142) (by decide +kernel), by decide +kernel⟩, ⟨by decide +kernel, by decide +kernel, by decide +kernel⟩, by decide⟩
set_option maxRecDepth 100000 in
theorem mt_X12_four : mt nX12_four 1 := ⟨List.mem_filter.mpr ⟨List.mem_of_getElem? (i := 1520) (by rfl), by rfl⟩, List.mem_filter.mpr ⟨List.mem_of_getElem? (i := 142) (by decide +kernel), by decide +kernel⟩, ⟨by decide +kernel, by decide +kernel, by decide +kernel⟩, by decide⟩
set_option maxRecDepth 100000 in
theorem mt_X12_group : mt nX12_group 1 := ⟨List.mem_filter.mpr ⟨List.mem_of_getElem? (i := 2004) (by rfl), by rfl⟩, List.mem_filter.mpr ⟨List.mem_of_getElem? (i := 142) (by decide +kernel), by decide +kernel⟩, ⟨by decide +kernel, by decide +kernel, by decide +kernel⟩, by decide⟩
set_option maxRecDepth 100000 in
theorem mt_X12_happens : mt nX12_happens 1 := ⟨List.mem_filter.mpr ⟨List.mem_of_getElem? (i := 1826) (by rfl), by rfl⟩, List.mem_filter.mpr ⟨List.mem_of_getElem? (i := 142) (by decide +kernel), by decide +kernel⟩, ⟨by decide +kernel, by decide +kernel, by decide +kernel⟩, by decide⟩
set_option maxRecDepth 100000 in
theorem mt_X12_has : mt nX12_has 2 := ⟨List.mem_filter.mpr ⟨List.mem_of_getElem? (i := 1585) (by rfl), by rfl⟩, List.mem_filter.mpr ⟨List.mem_of_getElem? (i := 142) (by decide +kernel), by decide +kernel⟩, ⟨by decide +kernel, by decide +kernel, by decide +kernel⟩, by decide⟩
set_option maxRecDepth 100000 in
theorem mt_X12_heaviest : mt nX12_heaviest 0 := ⟨List.mem_filter.mpr ⟨List.mem_of_getElem? (i := 1866) (by rfl), by rfl⟩, List.mem_filter.mpr ⟨List.mem_of_getElem? (i := 142) (by decide +kernel), by decide +kernel⟩, ⟨by decide +kernel, by decide +kernel, by decide +kernel⟩, by decide⟩
set_option maxRecDepth 100000 in
theorem mt_X12_histories : mt nX12_histories 1 := ⟨List.mem_filter.mpr ⟨List.mem_of_getElem? (i := 2028) (by rfl), by rfl⟩, List.mem_filter.mpr ⟨List.mem_of_getElem? (i := 142) (by decide +kernel), by decide +kernel⟩, ⟨by decide +kernel, by decide +kernel, by decide +kernel⟩, by decide⟩
set_option maxRecDepth 100000 in
theorem mt_X12_hour : mt nX12_hour 1 := ⟨List.mem_filter.mpr ⟨List.mem_of_getElem? (i := 1786) (by rfl), by rfl⟩, List.mem_filter.mpr ⟨List.mem_of_getElem? (i := 142) (by decide +kernel), by decide +kernel⟩, ⟨by decide +kernel, by decide +kernel, by decide +kernel⟩, by decide⟩
set_option maxRecDepth 100000 in
theorem mt_X12_idle : mt nX12_idle 0 := ⟨List.mem_filter.mpr ⟨List.mem_of_getElem? (i := 1973) (by rfl), by rfl⟩, List.mem_filter.mpr ⟨List.mem_of_getElem? (i := 142) (by decide +kernel), by decide +kernel⟩, ⟨by decide +kernel, by decide +kernel, by decide +kernel⟩, by decide⟩
set_option maxRecDepth 100000 in
theorem mt_X12_image : mt nX12_image 0 := ⟨List.mem_filter.mpr ⟨List.mem_of_getElem? (i := 2064) (by rfl), by rfl⟩, List.mem_filter.mpr ⟨List.mem_of_getElem? (i := 142) (by decide +kernel), by decide +kernel⟩, ⟨by decide +kernel, by decide +kernel, by decide +kernel⟩, by decide⟩
set_option maxRecDepth 100000 in
theorem mt_X12_init : mt nX12_init 0 := ⟨List.mem_filter.mpr ⟨List.mem_of_getElem? (i := 1373) (by rfl), by rfl⟩, List.mem_filter.mpr ⟨List.mem_of_getElem? (i := 142) (by decide +kernel), by decide +kernel⟩, ⟨by decide +kernel, by decide +kernel, by decide +kernel⟩, by decide⟩
set_option maxRecDepth 100000 in
theorem mt_X12_is : mt nX12_is 1 := ⟨List.mem_filter.mpr ⟨List.mem_of_getElem? (i := 1850) (by rfl), by rfl⟩, List.mem_filter.mpr ⟨List.mem_of_getElem? (i := 142) (by decide +kernel), by decide +kernel⟩, ⟨by decide +kernel, by decide +kernel, by decide +kernel⟩, by decide⟩
set_option maxRecDepth 100000 in
theorem mt_X12_isAskAhead : mt nX12_isAskAhead 0 := ⟨List.mem_filter.mpr ⟨List.mem_of_getElem? (i := 1664) (by rfl), by rfl⟩, List.mem_filter.mpr ⟨List.mem_of_getElem? (i := 142) (by decide +kernel), by decide +kernel⟩, ⟨by decide +kernel, by decide +kernel, by decide +kernel⟩, by decide⟩
set_option maxRecDepth 100000 in
theorem mt_X12_isAsked : mt nX12_isAsked 3 := ⟨List.mem_filter.mpr ⟨List.mem_of_getElem? (i := 1740) (by rfl), by rfl⟩, List.mem_filter.mpr ⟨List.mem_of_getElem? (i := 142) (by decide +kernel), by decide +kernel⟩, ⟨by decide +kernel, by decide +kernel, by decide +kernel⟩, by decide⟩
set_option maxRecDepth 100000 in
theorem mt_X12_isCar : mt nX12_isCar 1 := ⟨List.mem_filter.mpr ⟨List.mem_of_getElem? (i := 1512) (by rfl), by rfl⟩, List.mem_filter.mpr ⟨List.mem_of_getElem? (i := 142) (by decide +kernel), by decide +kernel⟩, ⟨by decide +kernel, by decide +kernel, by decide +kernel⟩, by decide⟩
set_option maxRecDepth 100000 in
theorem mt_X12_isChanges : mt nX12_isChanges 0 := ⟨List.mem_filter.mpr ⟨List.mem_of_getElem? (i := 1579) (by rfl), by rfl⟩, List.mem_filter.mpr ⟨List.mem_of_getElem? (i := 142) (by decide +kernel), by decide +kernel⟩, ⟨by decide +kernel, by decide +kernel, by decide +kernel⟩, by decide⟩
set_option maxRecDepth 100000 in
theorem mt_X12_isCompared : mt nX12_isCompared 0 := ⟨List.mem_filter.mpr ⟨List.mem_of_getElem? (i := 1625) (by rfl), by rfl⟩, List.mem_filter.mpr ⟨List.mem_of_getElem? (i := 142) (by decide +kernel), by decide +kernel⟩, ⟨by decide +kernel, by decide +kernel, by decide +kernel⟩, by decide⟩
set_option maxRecDepth 100000 in
theorem mt_X12_isFigure : mt nX12_isFigure 1 := ⟨List.mem_filter.mpr ⟨List.mem_of_getElem? (i := 1543) (by rfl), by rfl⟩, List.mem_filter.mpr ⟨List.mem_of_getElem? (i := 142) (by decide +kernel), by decide +kernel⟩, ⟨by decide +kernel, by decide +kernel, by decide +kernel⟩, by decide⟩
set_option maxRecDepth 100000 in
theorem mt_X12_isForbidden : mt nX12_isForbidden 2 := ⟨List.mem_filter.mpr ⟨List.mem_of_getElem? (i := 1699) (by rfl), by rfl⟩, List.mem_filter.mpr ⟨List.mem_of_getElem? (i := 142) (by decide +kernel), by decide +kernel⟩, ⟨by decide +kernel, by decide +kernel, by decide +kernel⟩, by decide⟩
set_option maxRecDepth 100000 in
theorem mt_X12_isHistory : mt nX12_isHistory 2 := ⟨List.mem_filter.mpr ⟨List.mem_of_getElem? (i := 2032) (by rfl), by rfl⟩, List.mem_filter.mpr ⟨List.mem_of_getElem? (i := 142) (by decide +kernel), by decide +kernel⟩, ⟨by decide +kernel, by decide +kernel, by decide +kernel⟩, by decide⟩
set_option maxRecDepth 100000 in
theorem mt_X12_isIn : mt nX12_isIn 3 := ⟨List.mem_filter.mpr ⟨List.mem_of_getElem? (i := 1492) (by rfl), by rfl⟩, List.mem_filter.mpr ⟨List.mem_of_getElem? (i := 142) (by decide +kernel), by decide +kernel⟩, ⟨by decide +kernel, by decide +kernel, by decide +kernel⟩, by decide⟩
set_option maxRecDepth 100000 in
theorem mt_X12_isLetterByte : mt nX12_isLetterByte 1 := ⟨List.mem_filter.mpr ⟨List.mem_of_getElem? (i := 1547) (by rfl), by rfl⟩, List.mem_filter.mpr ⟨List.mem_of_getElem? (i := 142) (by decide +kernel), by decide +kernel⟩, ⟨by decide +kernel, by decide +kernel, by decide +kernel⟩, by decide⟩
set_option maxRecDepth 100000 in
theorem mt_X12_isOf : mt nX12_isOf 1 := ⟨List.mem_filter.mpr ⟨List.mem_of_getElem? (i := 1656) (by rfl), by rfl⟩, List.mem_filter.mpr ⟨List.mem_of_getElem? (i := 142) (by decide +kernel), by decide +kernel⟩, ⟨by decide +kernel, by decide +kernel, by decide +kernel⟩, by decide⟩
set_option maxRecDepth 100000 in
theorem mt_X12_isOnTrack : mt nX12_isOnTrack 2 := ⟨List.mem_filter.mpr ⟨List.mem_of_getElem? (i := 1952) (by rfl), by rfl⟩, List.mem_filter.mpr ⟨List.mem_of_getElem? (i := 142) (by decide +kernel), by decide +kernel⟩, ⟨by decide +kernel, by decide +kernel, by decide +kernel⟩, by decide⟩
set_option maxRecDepth 100000 in
theorem mt_X12_isOrder : mt nX12_isOrder 1 := ⟨List.mem_filter.mpr ⟨List.mem_of_getElem? (i := 1889) (by rfl), by rfl⟩, List.mem_filter.mpr ⟨List.mem_of_getElem? (i := 142) (by decide +kernel), by decide +kernel⟩, ⟨by decide +kernel, by decide +kernel, by decide +kernel⟩, by decide⟩
set_option maxRecDepth 100000 in
theorem mt_X12_isPlayed : mt nX12_isPlayed 1 := ⟨List.mem_filter.mpr ⟨List.mem_of_getElem? (i := 1813) (by rfl), by rfl⟩, List.mem_filter.mpr ⟨List.mem_of_getElem? (i := 142) (by decide +kernel), by decide +kernel⟩, ⟨by decide +kernel, by decide +kernel, by decide +kernel⟩, by decide⟩
set_option maxRecDepth 100000 in
theorem mt_X12_isRailway : mt nX12_isRailway 1 := ⟨List.mem_filter.mpr ⟨List.mem_of_getElem? (i := 1980) (by rfl), by rfl⟩, List.mem_filter.mpr ⟨List.mem_of_getElem? (i := 142) (by decide +kernel), by decide +kernel⟩, ⟨by decide +kernel, by decide +kernel, by decide +kernel⟩, by decide⟩
set_option maxRecDepth 100000 in
theorem mt_X12_isSeenAt : mt nX12_isSeenAt 1 := ⟨List.mem_filter.mpr ⟨List.mem_of_getElem? (i := 2036) (by rfl), by rfl⟩, List.mem_filter.mpr ⟨List.mem_of_getElem? (i := 142) (by decide +kernel), by decide +kernel⟩, ⟨by decide +kernel, by decide +kernel, by decide +kernel⟩, by decide⟩
set_option maxRecDepth 100000 in
theorem mt_X12_isShunted : mt nX12_isShunted 2 := ⟨List.mem_filter.mpr ⟨List.mem_of_getElem? (i := 1932) (by rfl), by rfl⟩, List.mem_filter.mpr ⟨List.mem_of_getElem? (i := 142) (by decide +kernel), by decide +kernel⟩, ⟨by decide +kernel, by decide +kernel, by decide +kernel⟩, by decide⟩
set_option maxRecDepth 100000 in
theorem mt_X12_isSign : mt nX12_isSign 1 := ⟨List.mem_filter.mpr ⟨List.mem_of_getElem? (i := 1551) (by rfl), by rfl⟩, List.mem_filter.mpr ⟨List.mem_of_getElem? (i := 142) (by decide +kernel), by decide +kernel⟩, ⟨by decide +kernel, by decide +kernel, by decide +kernel⟩, by decide⟩
set_option maxRecDepth 100000 in
theorem mt_X12_isThere : mt nX12_isThere 2 := ⟨List.mem_filter.mpr ⟨List.mem_of_getElem? (i := 2040) (by rfl), by rfl⟩, List.mem_filter.mpr ⟨List.mem_of_getElem? (i := 142) (by decide +kernel), by decide +kernel⟩, ⟨by decide +kernel, by decide +kernel, by decide +kernel⟩, by decide⟩
set_option maxRecDepth 100000 in
theorem mt_X12_isTrack : mt nX12_isTrack 1 := ⟨List.mem_filter.mpr ⟨List.mem_of_getElem? (i := 1687) (by rfl), by rfl⟩, List.mem_filter.mpr ⟨List.mem_of_getElem? (i := 142) (by decide +kernel), by decide +kernel⟩, ⟨by decide +kernel, by decide +kernel, by decide +kernel⟩, by decide⟩
set_option maxRecDepth 100000 in
theorem mt_X12_isWanted : mt nX12_isWanted 0 := ⟨List.mem_filter.mpr ⟨List.mem_of_getElem? (i := 1924) (by rfl), by rfl⟩, List.mem_filter.mpr ⟨List.mem_of_getElem? (i := 142) (by decide +kernel), by decide +kernel⟩, ⟨by decide +kernel, by decide +kernel, by decide +kernel⟩, by decide⟩
set_option maxRecDepth 100000 in
theorem mt_X12_isWide : mt nX12_isWide 1 := ⟨List.mem_filter.mpr ⟨List.mem_of_getElem? (i := 1703) (by rfl), by rfl⟩, List.mem_filter.mpr ⟨List.mem_of_getElem? (i := 142) (by decide +kernel), by decide +kernel⟩, ⟨by decide +kernel, by decide +kernel, by decide +kernel⟩, by decide⟩
set_option maxRecDepth 100000 in
theorem mt_X12_isWord : mt nX12_isWord 1 := ⟨List.mem_filter.mpr ⟨List.mem_of_getElem? (i := 1575) (by rfl), by rfl⟩, List.mem_filter.mpr ⟨List.mem_of_getElem? (i := 142) (by decide +kernel), by decide +kernel⟩, ⟨by decide +kernel, by decide +kernel, by decide +kernel⟩, by decide⟩
set_option maxRecDepth 100000 in
theorem mt_X12_joined : mt nX12_joined 3 := ⟨List.mem_filter.mpr ⟨List.mem_of_getElem? (i := 1743) (by rfl), by rfl⟩, List.mem_filter.mpr ⟨List.mem_of_getElem? (i := 142) (by decide +kernel), by decide +kernel⟩, ⟨by decide +kernel, by decide +kernel, by decide +kernel⟩, by decide⟩
set_option maxRecDepth 100000 in
theorem mt_X12_keep : mt nX12_keep 0 := ⟨List.mem_filter.mpr ⟨List.mem_of_getElem? (i := 1750) (by rfl), by rfl⟩, List.mem_filter.mpr ⟨List.mem_of_getElem? (i := 142) (by decide +kernel), by decide +kernel⟩, ⟨by decide +kernel, by decide +kernel, by decide +kernel⟩, by decide⟩
set_option maxRecDepth 100000 in
theorem mt_X12_late : mt nX12_late 2 := ⟨List.mem_filter.mpr ⟨List.mem_of_getElem? (i := 2044) (by rfl), by rfl⟩, List.mem_filter.mpr ⟨List.mem_of_getElem? (i := 142) (by decide +kernel), by decide +kernel⟩, ⟨by decide +kernel, by decide +kernel, by decide +kernel⟩, by decide⟩
set_option maxRecDepth 100000 in
theorem mt_X12_law : mt nX12_law 2 := ⟨List.mem_filter.mpr ⟨List.mem_of_getElem? (i := 1846) (by rfl), by rfl⟩, List.mem_filter.mpr ⟨List.mem_of_getElem? (i := 142) (by decide +kernel), by decide +kernel⟩, ⟨by decide +kernel, by decide +kernel, by decide +kernel⟩, by decide⟩
set_option maxRecDepth 100000 in
theorem mt_X12_lawClause : mt nX12_lawClause 1 := ⟨List.mem_filter.mpr ⟨List.mem_of_getElem? (i := 1601) (by rfl), by rfl⟩, List.mem_filter.mpr ⟨List.mem_of_getElem? (i := 142) (by decide +kernel), by decide +kernel⟩, ⟨by decide +kernel, by decide +kernel, by decide +kernel⟩, by decide⟩
set_option maxRecDepth 100000 in
theorem mt_X12_layGroups : mt nX12_layGroups 0 := ⟨List.mem_filter.mpr ⟨List.mem_of_getElem? (i := 1993) (by rfl), by rfl⟩, List.mem_filter.mpr ⟨List.mem_of_getElem? (i := 142) (by decide +kernel), by decide +kernel⟩, ⟨by decide +kernel, by decide +kernel, by decide +kernel⟩, by decide⟩
set_option maxRecDepth 100000 in
theorem mt_X12_layRow : mt nX12_layRow 1 := ⟨List.mem_filter.mpr ⟨List.mem_of_getElem? (i := 1893) (by rfl), by rfl⟩, List.mem_filter.mpr ⟨List.mem_of_getElem? (i := 142) (by decide +kernel), by decide +kernel⟩, ⟨by decide +kernel, by decide +kernel, by decide +kernel⟩, by decide⟩
set_option maxRecDepth 100000 in
theorem mt_X12_layRows : mt nX12_layRows 1 := ⟨List.mem_filter.mpr ⟨List.mem_of_getElem? (i := 1948) (by rfl), by rfl⟩, List.mem_filter.mpr ⟨List.mem_of_getElem? (i := 142) (by decide +kernel), by decide +kernel⟩, ⟨by decide +kernel, by decide +kernel, by decide +kernel⟩, by decide⟩
set_option maxRecDepth 100000 in
theorem mt_X12_ledger : mt nX12_ledger 1 := ⟨List.mem_filter.mpr ⟨List.mem_of_getElem? (i := 1862) (by rfl), by rfl⟩, List.mem_filter.mpr ⟨List.mem_of_getElem? (i := 142) (by decide +kernel), by decide +kernel⟩, ⟨by decide +kernel, by decide +kernel, by decide +kernel⟩, by decide⟩
set_option maxRecDepth 100000 in
theorem mt_X12_lend : mt nX12_lend 2 := ⟨List.mem_filter.mpr ⟨List.mem_of_getElem? (i := 1778) (by rfl), by rfl⟩, List.mem_filter.mpr ⟨List.mem_of_getElem? (i := 142) (by decide +kernel), by decide +kernel⟩, ⟨by decide +kernel, by decide +kernel, by decide +kernel⟩, by decide⟩
set_option maxRecDepth 100000 in
theorem mt_X12_likely : mt nX12_likely 2 := ⟨List.mem_filter.mpr ⟨List.mem_of_getElem? (i := 2048) (by rfl), by rfl⟩, List.mem_filter.mpr ⟨List.mem_of_getElem? (i := 142) (by decide +kernel), by decide +kernel⟩, ⟨by decide +kernel, by decide +kernel, by decide +kernel⟩, by decide⟩
set_option maxRecDepth 100000 in
theorem mt_X12_loadOf : mt nX12_loadOf 1 := ⟨List.mem_filter.mpr ⟨List.mem_of_getElem? (i := 1870) (by rfl), by rfl⟩, List.mem_filter.mpr ⟨List.mem_of_getElem? (i := 142) (by decide +kernel), by decide +kernel⟩, ⟨by decide +kernel, by decide +kernel, by decide +kernel⟩, by decide⟩
set_option maxRecDepth 100000 in
theorem mt_X12_lowBit : mt nX12_lowBit 1 := ⟨List.mem_filter.mpr ⟨List.mem_of_getElem? (i := 1996) (by rfl), by rfl⟩, List.mem_filter.mpr ⟨List.mem_of_getElem? (i := 142) (by decide +kernel), by decide +kernel⟩, ⟨by decide +kernel, by decide +kernel, by decide +kernel⟩, by decide⟩
set_option maxRecDepth 100000 in
theorem mt_X12_lowest : mt nX12_lowest 2 := ⟨List.mem_filter.mpr ⟨List.mem_of_getElem? (i := 1957) (by rfl), by rfl⟩, List.mem_filter.mpr ⟨List.mem_of_getElem? (i := 142) (by decide +kernel), by decide +kernel⟩, ⟨by decide +kernel, by decide +kernel, by decide +kernel⟩, by decide⟩
set_option maxRecDepth 100000 in
theorem mt_X12_lowestGroup : mt nX12_lowestGroup 1 := ⟨List.mem_filter.mpr ⟨List.mem_of_getElem? (i := 2008) (by rfl), by rfl⟩, List.mem_filter.mpr ⟨List.mem_of_getElem? (i := 142) (by decide +kernel), by decide +kernel⟩, ⟨by decide +kernel, by decide +kernel, by decide +kernel⟩, by decide⟩
set_option maxRecDepth 100000 in
theorem mt_X12_move : mt nX12_move 2 := ⟨List.mem_filter.mpr ⟨List.mem_of_getElem? (i := 1680) (by rfl), by rfl⟩, List.mem_filter.mpr ⟨List.mem_of_getElem? (i := 142) (by decide +kernel), by decide +kernel⟩, ⟨by decide +kernel, by decide +kernel, by decide +kernel⟩, by decide⟩
set_option maxRecDepth 100000 in
theorem mt_X12_moveNow : mt nX12_moveNow 2 := ⟨List.mem_filter.mpr ⟨List.mem_of_getElem? (i := 1754) (by rfl), by rfl⟩, List.mem_filter.mpr ⟨List.mem_of_getElem? (i := 142) (by decide +kernel), by decide +kernel⟩, ⟨by decide +kernel, by decide +kernel, by decide +kernel⟩, by decide⟩
set_option maxRecDepth 100000 in
theorem mt_X12_movesOf : mt nX12_movesOf 3 := ⟨List.mem_filter.mpr ⟨List.mem_of_getElem? (i := 1707) (by rfl), by rfl⟩, List.mem_filter.mpr ⟨List.mem_of_getElem? (i := 142) (by decide +kernel), by decide +kernel⟩, ⟨by decide +kernel, by decide +kernel, by decide +kernel⟩, by decide⟩
set_option maxRecDepth 100000 in
theorem mt_X12_name : mt nX12_name 1 := ⟨List.mem_filter.mpr ⟨List.mem_of_getElem? (i := 1711) (by rfl), by rfl⟩, List.mem_filter.mpr ⟨List.mem_of_getElem? (i := 142) (by decide +kernel), by decide +kernel⟩, ⟨by decide +kernel, by decide +kernel, by decide +kernel⟩, by decide⟩
set_option maxRecDepth 100000 in
theorem mt_X12_nameOf : mt nX12_nameOf 0 := ⟨List.mem_filter.mpr ⟨List.mem_of_getElem? (i := 1652) (by rfl), by rfl⟩, List.mem_filter.mpr ⟨List.mem_of_getElem? (i := 142) (by decide +kernel), by decide +kernel⟩, ⟨by decide +kernel, by decide +kernel, by decide +kernel⟩, by decide⟩
set_option maxRecDepth 100000 in
theorem mt_X12_nextToken : mt nX12_nextToken 0 := ⟨List.mem_filter.mpr ⟨List.mem_of_getElem? (i := 1536) (by rfl), by rfl⟩, List.mem_filter.mpr ⟨List.mem_of_getElem? (i := 142) (by decide +kernel), by decide +kernel⟩, ⟨by decide +kernel, by decide +kernel, by decide +kernel⟩, by decide⟩
set_option maxRecDepth 100000 in
theorem mt_X12_of : mt nX12_of 2 := ⟨List.mem_filter.mpr ⟨List.mem_of_getElem? (i := 1830) (by rfl), by rfl⟩, List.mem_filter.mpr ⟨List.mem_of_getElem? (i := 142) (by decide +kernel), by decide +kernel⟩, ⟨by decide +kernel, by decide +kernel, by decide +kernel⟩, by decide⟩
set_option maxRecDepth 100000 in
theorem mt_X12_ofOne : mt nX12_ofOne 2 := ⟨List.mem_filter.mpr ⟨List.mem_of_getElem? (i := 1723) (by rfl), by rfl⟩, List.mem_filter.mpr ⟨List.mem_of_getElem? (i := 142) (by decide +kernel), by decide +kernel⟩, ⟨by decide +kernel, by decide +kernel, by decide +kernel⟩, by decide⟩
set_option maxRecDepth 100000 in
theorem mt_X12_openAt : mt nX12_openAt 0 := ⟨List.mem_filter.mpr ⟨List.mem_of_getElem? (i := 1621) (by rfl), by rfl⟩, List.mem_filter.mpr ⟨List.mem_of_getElem? (i := 142) (by decide +kernel), by decide +kernel⟩, ⟨by decide +kernel, by decide +kernel, by decide +kernel⟩, by decide⟩
set_option maxRecDepth 100000 in
theorem mt_X12_openNow : mt nX12_openNow 0 := ⟨List.mem_filter.mpr ⟨List.mem_of_getElem? (i := 1617) (by rfl), by rfl⟩, List.mem_filter.mpr ⟨List.mem_of_getElem? (i := 142) (by decide +kernel), by decide +kernel⟩, ⟨by decide +kernel, by decide +kernel, by decide +kernel⟩, by decide⟩
set_option maxRecDepth 100000 in
theorem mt_X12_opened : mt nX12_opened 1 := ⟨List.mem_filter.mpr ⟨List.mem_of_getElem? (i := 1660) (by rfl), by rfl⟩, List.mem_filter.mpr ⟨List.mem_of_getElem? (i := 142) (by decide +kernel), by decide +kernel⟩, ⟨by decide +kernel, by decide +kernel, by decide +kernel⟩, by decide⟩
set_option maxRecDepth 100000 in
theorem mt_X12_order : mt nX12_order 2 := ⟨List.mem_filter.mpr ⟨List.mem_of_getElem? (i := 1886) (by rfl), by rfl⟩, List.mem_filter.mpr ⟨List.mem_of_getElem? (i := 142) (by decide +kernel), by decide +kernel⟩, ⟨by decide +kernel, by decide +kernel, by decide +kernel⟩, by decide⟩
set_option maxRecDepth 100000 in
theorem mt_X12_outOn : mt nX12_outOn 1 := ⟨List.mem_filter.mpr ⟨List.mem_of_getElem? (i := 2020) (by rfl), by rfl⟩, List.mem_filter.mpr ⟨List.mem_of_getElem? (i := 142) (by decide +kernel), by decide +kernel⟩, ⟨by decide +kernel, by decide +kernel, by decide +kernel⟩, by decide⟩
set_option maxRecDepth 100000 in
theorem mt_X12_owe : mt nX12_owe 3 := ⟨List.mem_filter.mpr ⟨List.mem_of_getElem? (i := 1977) (by rfl), by rfl⟩, List.mem_filter.mpr ⟨List.mem_of_getElem? (i := 142) (by decide +kernel), by decide +kernel⟩, ⟨by decide +kernel, by decide +kernel, by decide +kernel⟩, by decide⟩
set_option maxRecDepth 100000 in
theorem mt_X12_pair : mt nX12_pair 6 := ⟨List.mem_filter.mpr ⟨List.mem_of_getElem? (i := 1593) (by rfl), by rfl⟩, List.mem_filter.mpr ⟨List.mem_of_getElem? (i := 142) (by decide +kernel), by decide +kernel⟩, ⟨by decide +kernel, by decide +kernel, by decide +kernel⟩, by decide⟩
set_option maxRecDepth 100000 in
theorem mt_X12_partOf : mt nX12_partOf 1 := ⟨List.mem_filter.mpr ⟨List.mem_of_getElem? (i := 1644) (by rfl), by rfl⟩, List.mem_filter.mpr ⟨List.mem_of_getElem? (i := 142) (by decide +kernel), by decide +kernel⟩, ⟨by decide +kernel, by decide +kernel, by decide +kernel⟩, by decide⟩
set_option maxRecDepth 100000 in
theorem mt_X12_pass : mt nX12_pass 0 := ⟨List.mem_filter.mpr ⟨List.mem_of_getElem? (i := 1794) (by rfl), by rfl⟩, List.mem_filter.mpr ⟨List.mem_of_getElem? (i := 142) (by decide +kernel), by decide +kernel⟩, ⟨by decide +kernel, by decide +kernel, by decide +kernel⟩, by decide⟩
set_option maxRecDepth 100000 in
theorem mt_X12_placeOf : mt nX12_placeOf 1 := ⟨List.mem_filter.mpr ⟨List.mem_of_getElem? (i := 1838) (by rfl), by rfl⟩, List.mem_filter.mpr ⟨List.mem_of_getElem? (i := 142) (by decide +kernel), by decide +kernel⟩, ⟨by decide +kernel, by decide +kernel, by decide +kernel⟩, by decide⟩
set_option maxRecDepth 100000 in
theorem mt_X12_played : mt nX12_played 1 := ⟨List.mem_filter.mpr ⟨List.mem_of_getElem? (i := 1809) (by rfl), by rfl⟩, List.mem_filter.mpr ⟨List.mem_of_getElem? (i := 142) (by decide +kernel), by decide +kernel⟩, ⟨by decide +kernel, by decide +kernel, by decide +kernel⟩, by decide⟩
set_option maxRecDepth 100000 in
theorem mt_X12_rank : mt nX12_rank 1 := ⟨List.mem_filter.mpr ⟨List.mem_of_getElem? (i := 1628) (by rfl), by rfl⟩, List.mem_filter.mpr ⟨List.mem_of_getElem? (i := 142) (by decide +kernel), by decide +kernel⟩, ⟨by decide +kernel, by decide +kernel, by decide +kernel⟩, by decide⟩
set_option maxRecDepth 100000 in
theorem mt_X12_reach : mt nX12_reach 0 := ⟨List.mem_filter.mpr ⟨List.mem_of_getElem? (i := 1904) (by rfl), by rfl⟩, List.mem_filter.mpr ⟨List.mem_of_getElem? (i := 142) (by decide +kernel), by decide +kernel⟩, ⟨by decide +kernel, by decide +kernel, by decide +kernel⟩, by decide⟩
set_option maxRecDepth 100000 in
theorem mt_X12_readText : mt nX12_readText 0 := ⟨List.mem_filter.mpr ⟨List.mem_of_getElem? (i := 1532) (by rfl), by rfl⟩, List.mem_filter.mpr ⟨List.mem_of_getElem? (i := 142) (by decide +kernel), by decide +kernel⟩, ⟨by decide +kernel, by decide +kernel, by decide +kernel⟩, by decide⟩
set_option maxRecDepth 100000 in
theorem mt_X12_rows : mt nX12_rows 1 := ⟨List.mem_filter.mpr ⟨List.mem_of_getElem? (i := 1944) (by rfl), by rfl⟩, List.mem_filter.mpr ⟨List.mem_of_getElem? (i := 142) (by decide +kernel), by decide +kernel⟩, ⟨by decide +kernel, by decide +kernel, by decide +kernel⟩, by decide⟩
set_option maxRecDepth 100000 in
theorem mt_X12_said : mt nX12_said 2 := ⟨List.mem_filter.mpr ⟨List.mem_of_getElem? (i := 2056) (by rfl), by rfl⟩, List.mem_filter.mpr ⟨List.mem_of_getElem? (i := 142) (by decide +kernel), by decide +kernel⟩, ⟨by decide +kernel, by decide +kernel, by decide +kernel⟩, by decide⟩
set_option maxRecDepth 100000 in
theorem mt_X12_says : mt nX12_says 2 := ⟨List.mem_filter.mpr ⟨List.mem_of_getElem? (i := 1715) (by rfl), by rfl⟩, List.mem_filter.mpr ⟨List.mem_of_getElem? (i := 142) (by decide +kernel), by decide +kernel⟩, ⟨by decide +kernel, by decide +kernel, by decide +kernel⟩, by decide⟩
set_option maxRecDepth 100000 in
theorem mt_X12_seen : mt nX12_seen 3 := ⟨List.mem_filter.mpr ⟨List.mem_of_getElem? (i := 2024) (by rfl), by rfl⟩, List.mem_filter.mpr ⟨List.mem_of_getElem? (i := 142) (by decide +kernel), by decide +kernel⟩, ⟨by decide +kernel, by decide +kernel, by decide +kernel⟩, by decide⟩
set_option maxRecDepth 100000 in
theorem mt_X12_settle : mt nX12_settle 1 := ⟨List.mem_filter.mpr ⟨List.mem_of_getElem? (i := 1636) (by rfl), by rfl⟩, List.mem_filter.mpr ⟨List.mem_of_getElem? (i := 142) (by decide +kernel), by decide +kernel⟩, ⟨by decide +kernel, by decide +kernel, by decide +kernel⟩, by decide⟩
set_option maxRecDepth 100000 in
theorem mt_X12_settled : mt nX12_settled 1 := ⟨List.mem_filter.mpr ⟨List.mem_of_getElem? (i := 1989) (by rfl), by rfl⟩, List.mem_filter.mpr ⟨List.mem_of_getElem? (i := 142) (by decide +kernel), by decide +kernel⟩, ⟨by decide +kernel, by decide +kernel, by decide +kernel⟩, by decide⟩
set_option maxRecDepth 100000 in
theorem mt_X12_shunts : mt nX12_shunts 1 := ⟨List.mem_filter.mpr ⟨List.mem_of_getElem? (i := 1940) (by rfl), by rfl⟩, List.mem_filter.mpr ⟨List.mem_of_getElem? (i := 142) (by decide +kernel), by decide +kernel⟩, ⟨by decide +kernel, by decide +kernel, by decide +kernel⟩, by decide⟩
set_option maxRecDepth 100000 in
theorem mt_X12_sortOf : mt nX12_sortOf 0 := ⟨List.mem_filter.mpr ⟨List.mem_of_getElem? (i := 1559) (by rfl), by rfl⟩, List.mem_filter.mpr ⟨List.mem_of_getElem? (i := 142) (by decide +kernel), by decide +kernel⟩, ⟨by decide +kernel, by decide +kernel, by decide +kernel⟩, by decide⟩
set_option maxRecDepth 100000 in
theorem mt_X12_spread : mt nX12_spread 0 := ⟨List.mem_filter.mpr ⟨List.mem_of_getElem? (i := 1908) (by rfl), by rfl⟩, List.mem_filter.mpr ⟨List.mem_of_getElem? (i := 142) (by decide +kernel), by decide +kernel⟩, ⟨by decide +kernel, by decide +kernel, by decide +kernel⟩, by decide⟩
set_option maxRecDepth 100000 in
theorem mt_X12_standOf : mt nX12_standOf 0 := ⟨List.mem_filter.mpr ⟨List.mem_of_getElem? (i := 1920) (by rfl), by rfl⟩, List.mem_filter.mpr ⟨List.mem_of_getElem? (i := 142) (by decide +kernel), by decide +kernel⟩, ⟨by decide +kernel, by decide +kernel, by decide +kernel⟩, by decide⟩
set_option maxRecDepth 100000 in
theorem mt_X12_standSo : mt nX12_standSo 2 := ⟨List.mem_filter.mpr ⟨List.mem_of_getElem? (i := 1928) (by rfl), by rfl⟩, List.mem_filter.mpr ⟨List.mem_of_getElem? (i := 142) (by decide +kernel), by decide +kernel⟩, ⟨by decide +kernel, by decide +kernel, by decide +kernel⟩, by decide⟩
set_option maxRecDepth 100000 in
theorem mt_X12_stock : mt nX12_stock 1 := ⟨List.mem_filter.mpr ⟨List.mem_of_getElem? (i := 2016) (by rfl), by rfl⟩, List.mem_filter.mpr ⟨List.mem_of_getElem? (i := 142) (by decide +kernel), by decide +kernel⟩, ⟨by decide +kernel, by decide +kernel, by decide +kernel⟩, by decide⟩
set_option maxRecDepth 100000 in
theorem mt_X12_sumOf : mt nX12_sumOf 1 := ⟨List.mem_filter.mpr ⟨List.mem_of_getElem? (i := 2000) (by rfl), by rfl⟩, List.mem_filter.mpr ⟨List.mem_of_getElem? (i := 142) (by decide +kernel), by decide +kernel⟩, ⟨by decide +kernel, by decide +kernel, by decide +kernel⟩, by decide⟩
set_option maxRecDepth 100000 in
theorem mt_X12_summed : mt nX12_summed 0 := ⟨List.mem_filter.mpr ⟨List.mem_of_getElem? (i := 1605) (by rfl), by rfl⟩, List.mem_filter.mpr ⟨List.mem_of_getElem? (i := 142) (by decide +kernel), by decide +kernel⟩, ⟨by decide +kernel, by decide +kernel, by decide +kernel⟩, by decide⟩
set_option maxRecDepth 100000 in
theorem mt_X12_summedUp : mt nX12_summedUp 2 := ⟨List.mem_filter.mpr ⟨List.mem_of_getElem? (i := 1719) (by rfl), by rfl⟩, List.mem_filter.mpr ⟨List.mem_of_getElem? (i := 142) (by decide +kernel), by decide +kernel⟩, ⟨by decide +kernel, by decide +kernel, by decide +kernel⟩, by decide⟩
set_option maxRecDepth 100000 in
theorem mt_X12_takeFrom : mt nX12_takeFrom 1 := ⟨List.mem_filter.mpr ⟨List.mem_of_getElem? (i := 1912) (by rfl), by rfl⟩, List.mem_filter.mpr ⟨List.mem_of_getElem? (i := 142) (by decide +kernel), by decide +kernel⟩, ⟨by decide +kernel, by decide +kernel, by decide +kernel⟩, by decide⟩
set_option maxRecDepth 100000 in
theorem mt_X12_text : mt nX12_text 0 := ⟨List.mem_filter.mpr ⟨List.mem_of_getElem? (i := 1528) (by rfl), by rfl⟩, List.mem_filter.mpr ⟨List.mem_of_getElem? (i := 142) (by decide +kernel), by decide +kernel⟩, ⟨by decide +kernel, by decide +kernel, by decide +kernel⟩, by decide⟩
set_option maxRecDepth 100000 in
theorem mt_X12_times : mt nX12_times 3 := ⟨List.mem_filter.mpr ⟨List.mem_of_getElem? (i := 1508) (by rfl), by rfl⟩, List.mem_filter.mpr ⟨List.mem_of_getElem? (i := 142) (by decide +kernel), by decide +kernel⟩, ⟨by decide +kernel, by decide +kernel, by decide +kernel⟩, by decide⟩
set_option maxRecDepth 100000 in
theorem mt_X12_topLoad : mt nX12_topLoad 1 := ⟨List.mem_filter.mpr ⟨List.mem_of_getElem? (i := 1728) (by rfl), by rfl⟩, List.mem_filter.mpr ⟨List.mem_of_getElem? (i := 142) (by decide +kernel), by decide +kernel⟩, ⟨by decide +kernel, by decide +kernel, by decide +kernel⟩, by decide⟩
set_option maxRecDepth 100000 in
theorem mt_X12_track : mt nX12_track 2 := ⟨List.mem_filter.mpr ⟨List.mem_of_getElem? (i := 1842) (by rfl), by rfl⟩, List.mem_filter.mpr ⟨List.mem_of_getElem? (i := 142) (by decide +kernel), by decide +kernel⟩, ⟨by decide +kernel, by decide +kernel, by decide +kernel⟩, by decide⟩
set_option maxRecDepth 100000 in
theorem mt_X12_trackOf : mt nX12_trackOf 1 := ⟨List.mem_filter.mpr ⟨List.mem_of_getElem? (i := 1834) (by rfl), by rfl⟩, List.mem_filter.mpr ⟨List.mem_of_getElem? (i := 142) (by decide +kernel), by decide +kernel⟩, ⟨by decide +kernel, by decide +kernel, by decide +kernel⟩, by decide⟩
set_option maxRecDepth 100000 in
theorem mt_X12_trip : mt nX12_trip 3 := ⟨List.mem_filter.mpr ⟨List.mem_of_getElem? (i := 2012) (by rfl), by rfl⟩, List.mem_filter.mpr ⟨List.mem_of_getElem? (i := 142) (by decide +kernel), by decide +kernel⟩, ⟨by decide +kernel, by decide +kernel, by decide +kernel⟩, by decide⟩
set_option maxRecDepth 100000 in
theorem mt_X12_two : mt nX12_two 3 := ⟨List.mem_filter.mpr ⟨List.mem_of_getElem? (i := 1732) (by rfl), by rfl⟩, List.mem_filter.mpr ⟨List.mem_of_getElem? (i := 142) (by decide +kernel), by decide +kernel⟩, ⟨by decide +kernel, by decide +kernel, by decide +kernel⟩, by decide⟩
set_option maxRecDepth 100000 in
theorem mt_X12_undo : mt nX12_undo 0 := ⟨List.mem_filter.mpr ⟨List.mem_of_getElem? (i := 1676) (by rfl), by rfl⟩, List.mem_filter.mpr ⟨List.mem_of_getElem? (i := 142) (by decide +kernel), by decide +kernel⟩, ⟨by decide +kernel, by decide +kernel, by decide +kernel⟩, by decide⟩
set_option maxRecDepth 100000 in
theorem mt_X12_uppermost : mt nX12_uppermost 1 := ⟨List.mem_filter.mpr ⟨List.mem_of_getElem? (i := 1691) (by rfl), by rfl⟩, List.mem_filter.mpr ⟨List.mem_of_getElem? (i := 142) (by decide +kernel), by decide +kernel⟩, ⟨by decide +kernel, by decide +kernel, by decide +kernel⟩, by decide⟩
set_option maxRecDepth 100000 in
theorem mt_X12_w2 : mt nX12_w2 2 := ⟨List.mem_filter.mpr ⟨List.mem_of_getElem? (i := 1571) (by rfl), by rfl⟩, List.mem_filter.mpr ⟨List.mem_of_getElem? (i := 142) (by decide +kernel), by decide +kernel⟩, ⟨by decide +kernel, by decide +kernel, by decide +kernel⟩, by decide⟩
set_option maxRecDepth 100000 in
theorem mt_X12_w3 : mt nX12_w3 3 := ⟨List.mem_filter.mpr ⟨List.mem_of_getElem? (i := 1568) (by rfl), by rfl⟩, List.mem_filter.mpr ⟨List.mem_of_getElem? (i := 142) (by decide +kernel), by decide +kernel⟩, ⟨by decide +kernel, by decide +kernel, by decide +kernel⟩, by decide⟩
set_option maxRecDepth 100000 in
theorem mt_X12_w4 : mt nX12_w4 4 := ⟨List.mem_filter.mpr ⟨List.mem_of_getElem? (i := 1565) (by rfl), by rfl⟩, List.mem_filter.mpr ⟨List.mem_of_getElem? (i := 142) (by decide +kernel), by decide +kernel⟩, ⟨by decide +kernel, by decide +kernel, by decide +kernel⟩, by decide⟩
set_option maxRecDepth 100000 in
theorem mt_X12_w5 : mt nX12_w5 5 := ⟨List.mem_filter.mpr ⟨List.mem_of_getElem? (i := 1562) (by rfl), by rfl⟩, List.mem_filter.mpr ⟨List.mem_of_getElem? (i := 142) (by decide +kernel), by decide +kernel⟩, ⟨by decide +kernel, by decide +kernel, by decide +kernel⟩, by decide⟩
set_option maxRecDepth 100000 in
theorem mt_X12_w6 : mt nX12_w6 6 := ⟨List.mem_filter.mpr ⟨List.mem_of_getElem? (i := 1582) (by rfl), by rfl⟩, List.mem_filter.mpr ⟨List.mem_of_getElem? (i := 142) (by decide +kernel), by decide +kernel⟩, ⟨by decide +kernel, by decide +kernel, by decide +kernel⟩, by decide⟩
set_option maxRecDepth 100000 in
theorem mt_X12_want : mt nX12_want 1 := ⟨List.mem_filter.mpr ⟨List.mem_of_getElem? (i := 1900) (by rfl), by rfl⟩, List.mem_filter.mpr ⟨List.mem_of_getElem? (i := 142) (by decide +kernel), by decide +kernel⟩, ⟨by decide +kernel, by decide +kernel, by decide +kernel⟩, by decide⟩
set_option maxRecDepth 100000 in
theorem mt_X12_whose : mt nX12_whose 0 := ⟨List.mem_filter.mpr ⟨List.mem_of_getElem? (i := 2060) (by rfl), by rfl⟩, List.mem_filter.mpr ⟨List.mem_of_getElem? (i := 142) (by decide +kernel), by decide +kernel⟩, ⟨by decide +kernel, by decide +kernel, by decide +kernel⟩, by decide⟩
set_option maxRecDepth 100000 in
theorem mt_X12_worn : mt nX12_worn 0 := ⟨List.mem_filter.mpr ⟨List.mem_of_getElem? (i := 1874) (by rfl), by rfl⟩, List.mem_filter.mpr ⟨List.mem_of_getElem? (i := 142) (by decide +kernel), by decide +kernel⟩, ⟨by decide +kernel, by decide +kernel, by decide +kernel⟩, by decide⟩
set_option maxRecDepth 100000 in
theorem mt_X12_write : mt nX12_write 3 := ⟨List.mem_filter.mpr ⟨List.mem_of_getElem? (i := 1758) (by rfl), by rfl⟩, List.mem_filter.mpr ⟨List.mem_of_getElem? (i := 142) (by decide +kernel), by decide +kernel⟩, ⟨by decide +kernel, by decide +kernel, by decide +kernel⟩, by decide⟩
set_option maxRecDepth 100000 in
theorem mt_X12_years : mt nX12_years 2 := ⟨List.mem_filter.mpr ⟨List.mem_of_getElem? (i := 1822) (by rfl), by rfl⟩, List.mem_filter.mpr ⟨List.mem_of_getElem? (i := 142) (by decide +kernel), by decide +kernel⟩, ⟨by decide +kernel, by decide +kernel, by decide +kernel⟩, by decide⟩
set_option maxRecDepth 100000 in
theorem mt_X1_carBehind : mt nX1_carBehind 2 := ⟨List.mem_filter.mpr ⟨List.mem_of_getElem? (i := 1133) (by rfl), by rfl⟩, List.mem_filter.mpr ⟨List.mem_of_getElem? (i := 140) (by decide +kernel), by decide +kernel⟩, ⟨by decide +kernel, by decide +kernel, by decide +kernel⟩, by decide⟩
set_option maxRecDepth 100000 in
theorem mt_X1_countRows : mt nX1_countRows 1 := ⟨List.mem_filter.mpr ⟨List.mem_of_getElem? (i := 1170) (by rfl), by rfl⟩, List.mem_filter.mpr ⟨List.mem_of_getElem? (i := 140) (by decide +kernel), by decide +kernel⟩, ⟨by decide +kernel, by decide +kernel, by decide +kernel⟩, by decide⟩
set_option maxRecDepth 100000 in
theorem mt_X1_fillRow : mt nX1_fillRow 2 := ⟨List.mem_filter.mpr ⟨List.mem_of_getElem? (i := 1128) (by rfl), by rfl⟩, List.mem_filter.mpr ⟨List.mem_of_getElem? (i := 140) (by decide +kernel), by decide +kernel⟩, ⟨by decide +kernel, by decide +kernel, by decide +kernel⟩, by decide⟩
set_option maxRecDepth 100000 in
theorem mt_X1_init : mt nX1_init 0 := ⟨List.mem_filter.mpr ⟨List.mem_of_getElem? (i := 414) (by rfl), by rfl⟩, List.mem_filter.mpr ⟨List.mem_of_getElem? (i := 140) (by decide +kernel), by decide +kernel⟩, ⟨by decide +kernel, by decide +kernel, by decide +kernel⟩, by decide⟩
set_option maxRecDepth 100000 in
theorem mt_X1_mayStand : mt nX1_mayStand 3 := ⟨List.mem_filter.mpr ⟨List.mem_of_getElem? (i := 1166) (by rfl), by rfl⟩, List.mem_filter.mpr ⟨List.mem_of_getElem? (i := 140) (by decide +kernel), by decide +kernel⟩, ⟨by decide +kernel, by decide +kernel, by decide +kernel⟩, by decide⟩
set_option maxRecDepth 100000 in
theorem mt_X1_timeOf : mt nX1_timeOf 2 := ⟨List.mem_filter.mpr ⟨List.mem_of_getElem? (i := 1187) (by rfl), by rfl⟩, List.mem_filter.mpr ⟨List.mem_of_getElem? (i := 140) (by decide +kernel), by decide +kernel⟩, ⟨by decide +kernel, by decide +kernel, by decide +kernel⟩, by decide⟩
set_option maxRecDepth 100000 in
theorem mt_X2_addClause : mt nX2_addClause 3 := ⟨List.mem_filter.mpr ⟨List.mem_of_getElem? (i := 738) (by rfl), by rfl⟩, List.mem_filter.mpr ⟨List.mem_of_getElem? (i := 138) (by decide +kernel), by decide +kernel⟩, ⟨by decide +kernel, by decide +kernel, by decide +kernel⟩, by decide⟩
set_option maxRecDepth 100000 in
theorem mt_X2_behindNumber : mt nX2_behindNumber 1 := ⟨List.mem_filter.mpr ⟨List.mem_of_getElem? (i := 595) (by rfl), by rfl⟩, List.mem_filter.mpr ⟨List.mem_of_getElem? (i := 138) (by decide +kernel), by decide +kernel⟩, ⟨by decide +kernel, by decide +kernel, by decide +kernel⟩, by decide⟩
set_option maxRecDepth 100000 in
theorem mt_X2_behindWord : mt nX2_behindWord 1 := ⟨List.mem_filter.mpr ⟨List.mem_of_getElem? (i := 535) (by rfl), by rfl⟩, List.mem_filter.mpr ⟨List.mem_of_getElem? (i := 138) (by decide +kernel), by decide +kernel⟩, ⟨by decide +kernel, by decide +kernel, by decide +kernel⟩, by decide⟩
set_option maxRecDepth 100000 in
theorem mt_X2_emit : mt nX2_emit 1 := ⟨List.mem_filter.mpr ⟨List.mem_of_getElem? (i := 706) (by rfl), by rfl⟩, List.mem_filter.mpr ⟨List.mem_of_getElem? (i := 138) (by decide +kernel), by decide +kernel⟩, ⟨by decide +kernel, by decide +kernel, by decide +kernel⟩, by decide⟩
set_option maxRecDepth 100000 in
theorem mt_X2_expect : mt nX2_expect 1 := ⟨List.mem_filter.mpr ⟨List.mem_of_getElem? (i := 718) (by rfl), by rfl⟩, List.mem_filter.mpr ⟨List.mem_of_getElem? (i := 138) (by decide +kernel), by decide +kernel⟩, ⟨by decide +kernel, by decide +kernel, by decide +kernel⟩, by decide⟩
set_option maxRecDepth 100000 in
theorem mt_X2_expectNumber : mt nX2_expectNumber 2 := ⟨List.mem_filter.mpr ⟨List.mem_of_getElem? (i := 702) (by rfl), by rfl⟩, List.mem_filter.mpr ⟨List.mem_of_getElem? (i := 138) (by decide +kernel), by decide +kernel⟩, ⟨by decide +kernel, by decide +kernel, by decide +kernel⟩, by decide⟩
set_option maxRecDepth 100000 in
theorem mt_X2_fail : mt nX2_fail 1 := ⟨List.mem_filter.mpr ⟨List.mem_of_getElem? (i := 678) (by rfl), by rfl⟩, List.mem_filter.mpr ⟨List.mem_of_getElem? (i := 138) (by decide +kernel), by decide +kernel⟩, ⟨by decide +kernel, by decide +kernel, by decide +kernel⟩, by decide⟩
set_option maxRecDepth 100000 in
theorem mt_X2_init : mt nX2_init 0 := ⟨List.mem_filter.mpr ⟨List.mem_of_getElem? (i := 326) (by rfl), by rfl⟩, List.mem_filter.mpr ⟨List.mem_of_getElem? (i := 138) (by decide +kernel), by decide +kernel⟩, ⟨by decide +kernel, by decide +kernel, by decide +kernel⟩, by decide⟩
set_option maxRecDepth 100000 in
theorem mt_X2_isDigit : mt nX2_isDigit 1 := ⟨List.mem_filter.mpr ⟨List.mem_of_getElem? (i := 591) (by rfl), by rfl⟩, List.mem_filter.mpr ⟨List.mem_of_getElem? (i := 138) (by decide +kernel), by decide +kernel⟩, ⟨by decide +kernel, by decide +kernel, by decide +kernel⟩, by decide⟩
set_option maxRecDepth 100000 in
theorem mt_X2_isLetter : mt nX2_isLetter 1 := ⟨List.mem_filter.mpr ⟨List.mem_of_getElem? (i := 530) (by rfl), by rfl⟩, List.mem_filter.mpr ⟨List.mem_of_getElem? (i := 138) (by decide +kernel), by decide +kernel⟩, ⟨by decide +kernel, by decide +kernel, by decide +kernel⟩, by decide⟩
set_option maxRecDepth 100000 in
theorem mt_X2_nextToken : mt nX2_nextToken 0 := ⟨List.mem_filter.mpr ⟨List.mem_of_getElem? (i := 682) (by rfl), by rfl⟩, List.mem_filter.mpr ⟨List.mem_of_getElem? (i := 138) (by decide +kernel), by decide +kernel⟩, ⟨by decide +kernel, by decide +kernel, by decide +kernel⟩, by decide⟩
set_option maxRecDepth 100000 in
theorem mt_X2_numberAt : mt nX2_numberAt 2 := ⟨List.mem_filter.mpr ⟨List.mem_of_getElem? (i := 599) (by rfl), by rfl⟩, List.mem_filter.mpr ⟨List.mem_of_getElem? (i := 138) (by decide +kernel), by decide +kernel⟩, ⟨by decide +kernel, by decide +kernel, by decide +kernel⟩, by decide⟩
set_option maxRecDepth 100000 in
theorem mt_X2_opens : mt nX2_opens 0 := ⟨List.mem_filter.mpr ⟨List.mem_of_getElem? (i := 714) (by rfl), by rfl⟩, List.mem_filter.mpr ⟨List.mem_of_getElem? (i := 138) (by decide +kernel), by decide +kernel⟩, ⟨by decide +kernel, by decide +kernel, by decide +kernel⟩, by decide⟩
set_option maxRecDepth 100000 in
theorem mt_X2_readAsk : mt nX2_readAsk 0 := ⟨List.mem_filter.mpr ⟨List.mem_of_getElem? (i := 734) (by rfl), by rfl⟩, List.mem_filter.mpr ⟨List.mem_of_getElem? (i := 138) (by decide +kernel), by decide +kernel⟩, ⟨by decide +kernel, by decide +kernel, by decide +kernel⟩, by decide⟩
set_option maxRecDepth 100000 in
theorem mt_X2_readBoth : mt nX2_readBoth 0 := ⟨List.mem_filter.mpr ⟨List.mem_of_getElem? (i := 730) (by rfl), by rfl⟩, List.mem_filter.mpr ⟨List.mem_of_getElem? (i := 138) (by decide +kernel), by decide +kernel⟩, ⟨by decide +kernel, by decide +kernel, by decide +kernel⟩, by decide⟩
set_option maxRecDepth 100000 in
theorem mt_X2_readChoice : mt nX2_readChoice 0 := ⟨List.mem_filter.mpr ⟨List.mem_of_getElem? (i := 722) (by rfl), by rfl⟩, List.mem_filter.mpr ⟨List.mem_of_getElem? (i := 138) (by decide +kernel), by decide +kernel⟩, ⟨by decide +kernel, by decide +kernel, by decide +kernel⟩, by decide⟩
set_option maxRecDepth 100000 in
theorem mt_X2_readClause : mt nX2_readClause 0 := ⟨List.mem_filter.mpr ⟨List.mem_of_getElem? (i := 674) (by rfl), by rfl⟩, List.mem_filter.mpr ⟨List.mem_of_getElem? (i := 138) (by decide +kernel), by decide +kernel⟩, ⟨by decide +kernel, by decide +kernel, by decide +kernel⟩, by decide⟩
set_option maxRecDepth 100000 in
theorem mt_X2_readDeed : mt nX2_readDeed 1 := ⟨List.mem_filter.mpr ⟨List.mem_of_getElem? (i := 742) (by rfl), by rfl⟩, List.mem_filter.mpr ⟨List.mem_of_getElem? (i := 138) (by decide +kernel), by decide +kernel⟩, ⟨by decide +kernel, by decide +kernel, by decide +kernel⟩, by decide⟩
set_option maxRecDepth 100000 in
theorem mt_X2_readEither : mt nX2_readEither 0 := ⟨List.mem_filter.mpr ⟨List.mem_of_getElem? (i := 726) (by rfl), by rfl⟩, List.mem_filter.mpr ⟨List.mem_of_getElem? (i := 138) (by decide +kernel), by decide +kernel⟩, ⟨by decide +kernel, by decide +kernel, by decide +kernel⟩, by decide⟩
set_option maxRecDepth 100000 in
theorem mt_X2_readLaw : mt nX2_readLaw 1 := ⟨List.mem_filter.mpr ⟨List.mem_of_getElem? (i := 686) (by rfl), by rfl⟩, List.mem_filter.mpr ⟨List.mem_of_getElem? (i := 138) (by decide +kernel), by decide +kernel⟩, ⟨by decide +kernel, by decide +kernel, by decide +kernel⟩, by decide⟩
set_option maxRecDepth 100000 in
theorem mt_X2_readName : mt nX2_readName 1 := ⟨List.mem_filter.mpr ⟨List.mem_of_getElem? (i := 710) (by rfl), by rfl⟩, List.mem_filter.mpr ⟨List.mem_of_getElem? (i := 138) (by decide +kernel), by decide +kernel⟩, ⟨by decide +kernel, by decide +kernel, by decide +kernel⟩, by decide⟩
set_option maxRecDepth 100000 in
theorem mt_X2_readOne : mt nX2_readOne 0 := ⟨List.mem_filter.mpr ⟨List.mem_of_getElem? (i := 698) (by rfl), by rfl⟩, List.mem_filter.mpr ⟨List.mem_of_getElem? (i := 138) (by decide +kernel), by decide +kernel⟩, ⟨by decide +kernel, by decide +kernel, by decide +kernel⟩, by decide⟩
set_option maxRecDepth 100000 in
theorem mt_X2_readProduct : mt nX2_readProduct 0 := ⟨List.mem_filter.mpr ⟨List.mem_of_getElem? (i := 694) (by rfl), by rfl⟩, List.mem_filter.mpr ⟨List.mem_of_getElem? (i := 138) (by decide +kernel), by decide +kernel⟩, ⟨by decide +kernel, by decide +kernel, by decide +kernel⟩, by decide⟩
set_option maxRecDepth 100000 in
theorem mt_X2_readSum : mt nX2_readSum 0 := ⟨List.mem_filter.mpr ⟨List.mem_of_getElem? (i := 690) (by rfl), by rfl⟩, List.mem_filter.mpr ⟨List.mem_of_getElem? (i := 138) (by decide +kernel), by decide +kernel⟩, ⟨by decide +kernel, by decide +kernel, by decide +kernel⟩, by decide⟩
set_option maxRecDepth 100000 in
theorem mt_X2_readTape : mt nX2_readTape 0 := ⟨List.mem_filter.mpr ⟨List.mem_of_getElem? (i := 523) (by rfl), by rfl⟩, List.mem_filter.mpr ⟨List.mem_of_getElem? (i := 138) (by decide +kernel), by decide +kernel⟩, ⟨by decide +kernel, by decide +kernel, by decide +kernel⟩, by decide⟩
set_option maxRecDepth 100000 in
theorem mt_X2_signAt : mt nX2_signAt 1 := ⟨List.mem_filter.mpr ⟨List.mem_of_getElem? (i := 610) (by rfl), by rfl⟩, List.mem_filter.mpr ⟨List.mem_of_getElem? (i := 138) (by decide +kernel), by decide +kernel⟩, ⟨by decide +kernel, by decide +kernel, by decide +kernel⟩, by decide⟩
set_option maxRecDepth 100000 in
theorem mt_X2_splitTape : mt nX2_splitTape 0 := ⟨List.mem_filter.mpr ⟨List.mem_of_getElem? (i := 527) (by rfl), by rfl⟩, List.mem_filter.mpr ⟨List.mem_of_getElem? (i := 138) (by decide +kernel), by decide +kernel⟩, ⟨by decide +kernel, by decide +kernel, by decide +kernel⟩, by decide⟩
set_option maxRecDepth 100000 in
theorem mt_X2_startsDouble : mt nX2_startsDouble 1 := ⟨List.mem_filter.mpr ⟨List.mem_of_getElem? (i := 606) (by rfl), by rfl⟩, List.mem_filter.mpr ⟨List.mem_of_getElem? (i := 138) (by decide +kernel), by decide +kernel⟩, ⟨by decide +kernel, by decide +kernel, by decide +kernel⟩, by decide⟩
set_option maxRecDepth 100000 in
theorem mt_X2_takeFour : mt nX2_takeFour 1 := ⟨List.mem_filter.mpr ⟨List.mem_of_getElem? (i := 511) (by rfl), by rfl⟩, List.mem_filter.mpr ⟨List.mem_of_getElem? (i := 138) (by decide +kernel), by decide +kernel⟩, ⟨by decide +kernel, by decide +kernel, by decide +kernel⟩, by decide⟩
set_option maxRecDepth 100000 in
theorem mt_X2_wordAt : mt nX2_wordAt 2 := ⟨List.mem_filter.mpr ⟨List.mem_of_getElem? (i := 539) (by rfl), by rfl⟩, List.mem_filter.mpr ⟨List.mem_of_getElem? (i := 138) (by decide +kernel), by decide +kernel⟩, ⟨by decide +kernel, by decide +kernel, by decide +kernel⟩, by decide⟩
set_option maxRecDepth 100000 in
theorem mt_X3_init : mt nX3_init 0 := ⟨List.mem_filter.mpr ⟨List.mem_of_getElem? (i := 299) (by rfl), by rfl⟩, List.mem_filter.mpr ⟨List.mem_of_getElem? (i := 137) (by decide +kernel), by decide +kernel⟩, ⟨by decide +kernel, by decide +kernel, by decide +kernel⟩, by decide⟩
set_option maxRecDepth 100000 in
theorem mt_X3_operate : mt nX3_operate 1 := ⟨List.mem_filter.mpr ⟨List.mem_of_getElem? (i := 872) (by rfl), by rfl⟩, List.mem_filter.mpr ⟨List.mem_of_getElem? (i := 137) (by decide +kernel), by decide +kernel⟩, ⟨by decide +kernel, by decide +kernel, by decide +kernel⟩, by decide⟩
set_option maxRecDepth 100000 in
theorem mt_X3_operated : mt nX3_operated 3 := ⟨List.mem_filter.mpr ⟨List.mem_of_getElem? (i := 879) (by rfl), by rfl⟩, List.mem_filter.mpr ⟨List.mem_of_getElem? (i := 137) (by decide +kernel), by decide +kernel⟩, ⟨by decide +kernel, by decide +kernel, by decide +kernel⟩, by decide⟩
set_option maxRecDepth 100000 in
theorem mt_X3_pop : mt nX3_pop 0 := ⟨List.mem_filter.mpr ⟨List.mem_of_getElem? (i := 876) (by rfl), by rfl⟩, List.mem_filter.mpr ⟨List.mem_of_getElem? (i := 137) (by decide +kernel), by decide +kernel⟩, ⟨by decide +kernel, by decide +kernel, by decide +kernel⟩, by decide⟩
set_option maxRecDepth 100000 in
theorem mt_X3_push : mt nX3_push 1 := ⟨List.mem_filter.mpr ⟨List.mem_of_getElem? (i := 862) (by rfl), by rfl⟩, List.mem_filter.mpr ⟨List.mem_of_getElem? (i := 137) (by decide +kernel), by decide +kernel⟩, ⟨by decide +kernel, by decide +kernel, by decide +kernel⟩, by decide⟩
set_option maxRecDepth 100000 in
theorem mt_X3_valueOf : mt nX3_valueOf 1 := ⟨List.mem_filter.mpr ⟨List.mem_of_getElem? (i := 868) (by rfl), by rfl⟩, List.mem_filter.mpr ⟨List.mem_of_getElem? (i := 137) (by decide +kernel), by decide +kernel⟩, ⟨by decide +kernel, by decide +kernel, by decide +kernel⟩, by decide⟩
set_option maxRecDepth 100000 in
theorem mt_X3_weigh : mt nX3_weigh 2 := ⟨List.mem_filter.mpr ⟨List.mem_of_getElem? (i := 848) (by rfl), by rfl⟩, List.mem_filter.mpr ⟨List.mem_of_getElem? (i := 137) (by decide +kernel), by decide +kernel⟩, ⟨by decide +kernel, by decide +kernel, by decide +kernel⟩, by decide⟩
set_option maxRecDepth 100000 in
theorem mt_X4_belowOf : mt nX4_belowOf 2 := ⟨List.mem_filter.mpr ⟨List.mem_of_getElem? (i := 1112) (by rfl), by rfl⟩, List.mem_filter.mpr ⟨List.mem_of_getElem? (i := 139) (by decide +kernel), by decide +kernel⟩, ⟨by decide +kernel, by decide +kernel, by decide +kernel⟩, by decide⟩
set_option maxRecDepth 100000 in
theorem mt_X4_codeBehind : mt nX4_codeBehind 4 := ⟨List.mem_filter.mpr ⟨List.mem_of_getElem? (i := 1293) (by rfl), by rfl⟩, List.mem_filter.mpr ⟨List.mem_of_getElem? (i := 139) (by decide +kernel), by decide +kernel⟩, ⟨by decide +kernel, by decide +kernel, by decide +kernel⟩, by decide⟩
set_option maxRecDepth 100000 in
theorem mt_X4_codeOf : mt nX4_codeOf 1 := ⟨List.mem_filter.mpr ⟨List.mem_of_getElem? (i := 1088) (by rfl), by rfl⟩, List.mem_filter.mpr ⟨List.mem_of_getElem? (i := 139) (by decide +kernel), by decide +kernel⟩, ⟨by decide +kernel, by decide +kernel, by decide +kernel⟩, by decide⟩
set_option maxRecDepth 100000 in
theorem mt_X4_countMovesTo : mt nX4_countMovesTo 1 := ⟨List.mem_filter.mpr ⟨List.mem_of_getElem? (i := 1141) (by rfl), by rfl⟩, List.mem_filter.mpr ⟨List.mem_of_getElem? (i := 139) (by decide +kernel), by decide +kernel⟩, ⟨by decide +kernel, by decide +kernel, by decide +kernel⟩, by decide⟩
set_option maxRecDepth 100000 in
theorem mt_X4_explore : mt nX4_explore 3 := ⟨List.mem_filter.mpr ⟨List.mem_of_getElem? (i := 1100) (by rfl), by rfl⟩, List.mem_filter.mpr ⟨List.mem_of_getElem? (i := 139) (by decide +kernel), by decide +kernel⟩, ⟨by decide +kernel, by decide +kernel, by decide +kernel⟩, by decide⟩
set_option maxRecDepth 100000 in
theorem mt_X4_findTops : mt nX4_findTops 2 := ⟨List.mem_filter.mpr ⟨List.mem_of_getElem? (i := 1109) (by rfl), by rfl⟩, List.mem_filter.mpr ⟨List.mem_of_getElem? (i := 139) (by decide +kernel), by decide +kernel⟩, ⟨by decide +kernel, by decide +kernel, by decide +kernel⟩, by decide⟩
set_option maxRecDepth 100000 in
theorem mt_X4_init : mt nX4_init 0 := ⟨List.mem_filter.mpr ⟨List.mem_of_getElem? (i := 382) (by rfl), by rfl⟩, List.mem_filter.mpr ⟨List.mem_of_getElem? (i := 139) (by decide +kernel), by decide +kernel⟩, ⟨by decide +kernel, by decide +kernel, by decide +kernel⟩, by decide⟩
set_option maxRecDepth 100000 in
theorem mt_X4_moveOnWayTo : mt nX4_moveOnWayTo 2 := ⟨List.mem_filter.mpr ⟨List.mem_of_getElem? (i := 1145) (by rfl), by rfl⟩, List.mem_filter.mpr ⟨List.mem_of_getElem? (i := 139) (by decide +kernel), by decide +kernel⟩, ⟨by decide +kernel, by decide +kernel, by decide +kernel⟩, by decide⟩
set_option maxRecDepth 100000 in
theorem mt_X4_moved : mt nX4_moved 3 := ⟨List.mem_filter.mpr ⟨List.mem_of_getElem? (i := 1116) (by rfl), by rfl⟩, List.mem_filter.mpr ⟨List.mem_of_getElem? (i := 139) (by decide +kernel), by decide +kernel⟩, ⟨by decide +kernel, by decide +kernel, by decide +kernel⟩, by decide⟩
set_option maxRecDepth 100000 in
theorem mt_X4_note : mt nX4_note 2 := ⟨List.mem_filter.mpr ⟨List.mem_of_getElem? (i := 1105) (by rfl), by rfl⟩, List.mem_filter.mpr ⟨List.mem_of_getElem? (i := 139) (by decide +kernel), by decide +kernel⟩, ⟨by decide +kernel, by decide +kernel, by decide +kernel⟩, by decide⟩
set_option maxRecDepth 100000 in
theorem mt_X4_placeOfGoal : mt nX4_placeOfGoal 1 := ⟨List.mem_filter.mpr ⟨List.mem_of_getElem? (i := 1137) (by rfl), by rfl⟩, List.mem_filter.mpr ⟨List.mem_of_getElem? (i := 139) (by decide +kernel), by decide +kernel⟩, ⟨by decide +kernel, by decide +kernel, by decide +kernel⟩, by decide⟩
set_option maxRecDepth 100000 in
theorem mt_X4_trackIn : mt nX4_trackIn 2 := ⟨List.mem_filter.mpr ⟨List.mem_of_getElem? (i := 1289) (by rfl), by rfl⟩, List.mem_filter.mpr ⟨List.mem_of_getElem? (i := 139) (by decide +kernel), by decide +kernel⟩, ⟨by decide +kernel, by decide +kernel, by decide +kernel⟩, by decide⟩
set_option maxRecDepth 100000 in
theorem mt_X5_addCar : mt nX5_addCar 2 := ⟨List.mem_filter.mpr ⟨List.mem_of_getElem? (i := 471) (by rfl), by rfl⟩, List.mem_filter.mpr ⟨List.mem_of_getElem? (i := 132) (by decide +kernel), by decide +kernel⟩, ⟨by decide +kernel, by decide +kernel, by decide +kernel⟩, by decide⟩
set_option maxRecDepth 100000 in
theorem mt_X5_copyFrom : mt nX5_copyFrom 1 := ⟨List.mem_filter.mpr ⟨List.mem_of_getElem? (i := 1348) (by rfl), by rfl⟩, List.mem_filter.mpr ⟨List.mem_of_getElem? (i := 132) (by decide +kernel), by decide +kernel⟩, ⟨by decide +kernel, by decide +kernel, by decide +kernel⟩, by decide⟩
set_option maxRecDepth 100000 in
theorem mt_X5_init : mt nX5_init 0 := ⟨List.mem_filter.mpr ⟨List.mem_of_getElem? (i := 169) (by rfl), by rfl⟩, List.mem_filter.mpr ⟨List.mem_of_getElem? (i := 132) (by decide +kernel), by decide +kernel⟩, ⟨by decide +kernel, by decide +kernel, by decide +kernel⟩, by decide⟩
set_option maxRecDepth 100000 in
theorem mt_X5_loadOfUppermost : mt nX5_loadOfUppermost 1 := ⟨List.mem_filter.mpr ⟨List.mem_of_getElem? (i := 842) (by rfl), by rfl⟩, List.mem_filter.mpr ⟨List.mem_of_getElem? (i := 132) (by decide +kernel), by decide +kernel⟩, ⟨by decide +kernel, by decide +kernel, by decide +kernel⟩, by decide⟩
set_option maxRecDepth 100000 in
theorem mt_X5_loadOn : mt nX5_loadOn 1 := ⟨List.mem_filter.mpr ⟨List.mem_of_getElem? (i := 1325) (by rfl), by rfl⟩, List.mem_filter.mpr ⟨List.mem_of_getElem? (i := 132) (by decide +kernel), by decide +kernel⟩, ⟨by decide +kernel, by decide +kernel, by decide +kernel⟩, by decide⟩
set_option maxRecDepth 100000 in
theorem mt_X5_mayStandBeside : mt nX5_mayStandBeside 2 := ⟨List.mem_filter.mpr ⟨List.mem_of_getElem? (i := 814) (by rfl), by rfl⟩, List.mem_filter.mpr ⟨List.mem_of_getElem? (i := 132) (by decide +kernel), by decide +kernel⟩, ⟨by decide +kernel, by decide +kernel, by decide +kernel⟩, by decide⟩
set_option maxRecDepth 100000 in
theorem mt_X5_pairsThatMay : mt nX5_pairsThatMay 0 := ⟨List.mem_filter.mpr ⟨List.mem_of_getElem? (i := 1094) (by rfl), by rfl⟩, List.mem_filter.mpr ⟨List.mem_of_getElem? (i := 132) (by decide +kernel), by decide +kernel⟩, ⟨by decide +kernel, by decide +kernel, by decide +kernel⟩, by decide⟩
set_option maxRecDepth 100000 in
theorem mt_X5_rulingText : mt nX5_rulingText 0 := ⟨List.mem_filter.mpr ⟨List.mem_of_getElem? (i := 822) (by rfl), by rfl⟩, List.mem_filter.mpr ⟨List.mem_of_getElem? (i := 132) (by decide +kernel), by decide +kernel⟩, ⟨by decide +kernel, by decide +kernel, by decide +kernel⟩, by decide⟩
set_option maxRecDepth 100000 in
theorem mt_X5_setForbidden : mt nX5_setForbidden 3 := ⟨List.mem_filter.mpr ⟨List.mem_of_getElem? (i := 491) (by rfl), by rfl⟩, List.mem_filter.mpr ⟨List.mem_of_getElem? (i := 132) (by decide +kernel), by decide +kernel⟩, ⟨by decide +kernel, by decide +kernel, by decide +kernel⟩, by decide⟩
set_option maxRecDepth 100000 in
theorem mt_X6_copyFrom : mt nX6_copyFrom 1 := ⟨List.mem_filter.mpr ⟨List.mem_of_getElem? (i := 1353) (by rfl), by rfl⟩, List.mem_filter.mpr ⟨List.mem_of_getElem? (i := 134) (by decide +kernel), by decide +kernel⟩, ⟨by decide +kernel, by decide +kernel, by decide +kernel⟩, by decide⟩
set_option maxRecDepth 100000 in
theorem mt_X6_init : mt nX6_init 0 := ⟨List.mem_filter.mpr ⟨List.mem_of_getElem? (i := 189) (by rfl), by rfl⟩, List.mem_filter.mpr ⟨List.mem_of_getElem? (i := 134) (by decide +kernel), by decide +kernel⟩, ⟨by decide +kernel, by decide +kernel, by decide +kernel⟩, by decide⟩
set_option maxRecDepth 100000 in
theorem mt_X6_keep : mt nX6_keep 1 := ⟨List.mem_filter.mpr ⟨List.mem_of_getElem? (i := 883) (by rfl), by rfl⟩, List.mem_filter.mpr ⟨List.mem_of_getElem? (i := 134) (by decide +kernel), by decide +kernel⟩, ⟨by decide +kernel, by decide +kernel, by decide +kernel⟩, by decide⟩
set_option maxRecDepth 100000 in
theorem mt_X6_takeBack : mt nX6_takeBack 1 := ⟨List.mem_filter.mpr ⟨List.mem_of_getElem? (i := 1002) (by rfl), by rfl⟩, List.mem_filter.mpr ⟨List.mem_of_getElem? (i := 134) (by decide +kernel), by decide +kernel⟩, ⟨by decide +kernel, by decide +kernel, by decide +kernel⟩, by decide⟩
set_option maxRecDepth 100000 in
theorem mt_X7_add : mt nX7_add 3 := ⟨List.mem_filter.mpr ⟨List.mem_of_getElem? (i := 1253) (by rfl), by rfl⟩, List.mem_filter.mpr ⟨List.mem_of_getElem? (i := 135) (by decide +kernel), by decide +kernel⟩, ⟨by decide +kernel, by decide +kernel, by decide +kernel⟩, by decide⟩
set_option maxRecDepth 100000 in
theorem mt_X7_cell : mt nX7_cell 2 := ⟨List.mem_filter.mpr ⟨List.mem_of_getElem? (i := 1265) (by rfl), by rfl⟩, List.mem_filter.mpr ⟨List.mem_of_getElem? (i := 135) (by decide +kernel), by decide +kernel⟩, ⟨by decide +kernel, by decide +kernel, by decide +kernel⟩, by decide⟩
set_option maxRecDepth 100000 in
theorem mt_X7_copyFrom : mt nX7_copyFrom 1 := ⟨List.mem_filter.mpr ⟨List.mem_of_getElem? (i := 1358) (by rfl), by rfl⟩, List.mem_filter.mpr ⟨List.mem_of_getElem? (i := 135) (by decide +kernel), by decide +kernel⟩, ⟨by decide +kernel, by decide +kernel, by decide +kernel⟩, by decide⟩
set_option maxRecDepth 100000 in
theorem mt_X7_empty : mt nX7_empty 0 := ⟨List.mem_filter.mpr ⟨List.mem_of_getElem? (i := 1249) (by rfl), by rfl⟩, List.mem_filter.mpr ⟨List.mem_of_getElem? (i := 135) (by decide +kernel), by decide +kernel⟩, ⟨by decide +kernel, by decide +kernel, by decide +kernel⟩, by decide⟩
set_option maxRecDepth 100000 in
theorem mt_X7_init : mt nX7_init 1 := ⟨List.mem_filter.mpr ⟨List.mem_of_getElem? (i := 206) (by rfl), by rfl⟩, List.mem_filter.mpr ⟨List.mem_of_getElem? (i := 135) (by decide +kernel), by decide +kernel⟩, ⟨by decide +kernel, by decide +kernel, by decide +kernel⟩, by decide⟩
set_option maxRecDepth 100000 in
theorem mt_X8_clausePart : mt nX8_clausePart 2 := ⟨List.mem_filter.mpr ⟨List.mem_of_getElem? (i := 970) (by rfl), by rfl⟩, List.mem_filter.mpr ⟨List.mem_of_getElem? (i := 149) (by decide +kernel), by decide +kernel⟩, ⟨by decide +kernel, by decide +kernel, by decide +kernel⟩, by decide⟩
set_option maxRecDepth 100000 in
theorem mt_X8_codeBehind : mt nX8_codeBehind 1 := ⟨List.mem_filter.mpr ⟨List.mem_of_getElem? (i := 852) (by rfl), by rfl⟩, List.mem_filter.mpr ⟨List.mem_of_getElem? (i := 149) (by decide +kernel), by decide +kernel⟩, ⟨by decide +kernel, by decide +kernel, by decide +kernel⟩, by decide⟩
set_option maxRecDepth 100000 in
theorem mt_X8_codeFrom : mt nX8_codeFrom 1 := ⟨List.mem_filter.mpr ⟨List.mem_of_getElem? (i := 857) (by rfl), by rfl⟩, List.mem_filter.mpr ⟨List.mem_of_getElem? (i := 149) (by decide +kernel), by decide +kernel⟩, ⟨by decide +kernel, by decide +kernel, by decide +kernel⟩, by decide⟩
set_option maxRecDepth 100000 in
theorem mt_X8_countClauses : mt nX8_countClauses 0 := ⟨List.mem_filter.mpr ⟨List.mem_of_getElem? (i := 962) (by rfl), by rfl⟩, List.mem_filter.mpr ⟨List.mem_of_getElem? (i := 149) (by decide +kernel), by decide +kernel⟩, ⟨by decide +kernel, by decide +kernel, by decide +kernel⟩, by decide⟩
set_option maxRecDepth 100000 in
theorem mt_X8_hasLaw : mt nX8_hasLaw 1 := ⟨List.mem_filter.mpr ⟨List.mem_of_getElem? (i := 826) (by rfl), by rfl⟩, List.mem_filter.mpr ⟨List.mem_of_getElem? (i := 149) (by decide +kernel), by decide +kernel⟩, ⟨by decide +kernel, by decide +kernel, by decide +kernel⟩, by decide⟩
set_option maxRecDepth 100000 in
theorem mt_X8_init : mt nX8_init 3 := ⟨List.mem_filter.mpr ⟨List.mem_of_getElem? (i := 763) (by rfl), by rfl⟩, List.mem_filter.mpr ⟨List.mem_of_getElem? (i := 149) (by decide +kernel), by decide +kernel⟩, ⟨by decide +kernel, by decide +kernel, by decide +kernel⟩, by decide⟩
set_option maxRecDepth 100000 in
theorem mt_X9_beginYears : mt nX9_beginYears 1 := ⟨List.mem_filter.mpr ⟨List.mem_of_getElem? (i := 988) (by rfl), by rfl⟩, List.mem_filter.mpr ⟨List.mem_of_getElem? (i := 131) (by decide +kernel), by decide +kernel⟩, ⟨by decide +kernel, by decide +kernel, by decide +kernel⟩, by decide⟩
set_option maxRecDepth 100000 in
theorem mt_X9_changesSays : mt nX9_changesSays 2 := ⟨List.mem_filter.mpr ⟨List.mem_of_getElem? (i := 910) (by rfl), by rfl⟩, List.mem_filter.mpr ⟨List.mem_of_getElem? (i := 131) (by decide +kernel), by decide +kernel⟩, ⟨by decide +kernel, by decide +kernel, by decide +kernel⟩, by decide⟩
set_option maxRecDepth 100000 in
theorem mt_X9_feetFit : mt nX9_feetFit 2 := ⟨List.mem_filter.mpr ⟨List.mem_of_getElem? (i := 806) (by rfl), by rfl⟩, List.mem_filter.mpr ⟨List.mem_of_getElem? (i := 131) (by decide +kernel), by decide +kernel⟩, ⟨by decide +kernel, by decide +kernel, by decide +kernel⟩, by decide⟩
set_option maxRecDepth 100000 in
theorem mt_X9_init : mt nX9_init 0 := ⟨List.mem_filter.mpr ⟨List.mem_of_getElem? (i := 163) (by rfl), by rfl⟩, List.mem_filter.mpr ⟨List.mem_of_getElem? (i := 131) (by decide +kernel), by decide +kernel⟩, ⟨by decide +kernel, by decide +kernel, by decide +kernel⟩, by decide⟩
set_option maxRecDepth 100000 in
theorem mt_X9_lendWheels : mt nX9_lendWheels 2 := ⟨List.mem_filter.mpr ⟨List.mem_of_getElem? (i := 928) (by rfl), by rfl⟩, List.mem_filter.mpr ⟨List.mem_of_getElem? (i := 131) (by decide +kernel), by decide +kernel⟩, ⟨by decide +kernel, by decide +kernel, by decide +kernel⟩, by decide⟩
set_option maxRecDepth 100000 in
theorem mt_X9_movesSays : mt nX9_movesSays 3 := ⟨List.mem_filter.mpr ⟨List.mem_of_getElem? (i := 818) (by rfl), by rfl⟩, List.mem_filter.mpr ⟨List.mem_of_getElem? (i := 131) (by decide +kernel), by decide +kernel⟩, ⟨by decide +kernel, by decide +kernel, by decide +kernel⟩, by decide⟩
set_option maxRecDepth 100000 in
theorem mt_X9_nameCar : mt nX9_nameCar 1 := ⟨List.mem_filter.mpr ⟨List.mem_of_getElem? (i := 830) (by rfl), by rfl⟩, List.mem_filter.mpr ⟨List.mem_of_getElem? (i := 131) (by decide +kernel), by decide +kernel⟩, ⟨by decide +kernel, by decide +kernel, by decide +kernel⟩, by decide⟩
set_option maxRecDepth 100000 in
theorem mt_X9_passHours : mt nX9_passHours 1 := ⟨List.mem_filter.mpr ⟨List.mem_of_getElem? (i := 937) (by rfl), by rfl⟩, List.mem_filter.mpr ⟨List.mem_of_getElem? (i := 131) (by decide +kernel), by decide +kernel⟩, ⟨by decide +kernel, by decide +kernel, by decide +kernel⟩, by decide⟩
set_option maxRecDepth 100000 in
theorem mt_X9_passHoursThatCan : mt nX9_passHoursThatCan 1 := ⟨List.mem_filter.mpr ⟨List.mem_of_getElem? (i := 979) (by rfl), by rfl⟩, List.mem_filter.mpr ⟨List.mem_of_getElem? (i := 131) (by decide +kernel), by decide +kernel⟩, ⟨by decide +kernel, by decide +kernel, by decide +kernel⟩, by decide⟩
set_option maxRecDepth 100000 in
theorem mt_X9_passYear : mt nX9_passYear 0 := ⟨List.mem_filter.mpr ⟨List.mem_of_getElem? (i := 992) (by rfl), by rfl⟩, List.mem_filter.mpr ⟨List.mem_of_getElem? (i := 131) (by decide +kernel), by decide +kernel⟩, ⟨by decide +kernel, by decide +kernel, by decide +kernel⟩, by decide⟩
set_option maxRecDepth 100000 in
theorem mt_X9_playClause : mt nX9_playClause 2 := ⟨List.mem_filter.mpr ⟨List.mem_of_getElem? (i := 966) (by rfl), by rfl⟩, List.mem_filter.mpr ⟨List.mem_of_getElem? (i := 131) (by decide +kernel), by decide +kernel⟩, ⟨by decide +kernel, by decide +kernel, by decide +kernel⟩, by decide⟩
set_option maxRecDepth 100000 in
theorem mt_X9_shift : mt nX9_shift 3 := ⟨List.mem_filter.mpr ⟨List.mem_of_getElem? (i := 798) (by rfl), by rfl⟩, List.mem_filter.mpr ⟨List.mem_of_getElem? (i := 131) (by decide +kernel), by decide +kernel⟩, ⟨by decide +kernel, by decide +kernel, by decide +kernel⟩, by decide⟩
set_option maxRecDepth 100000 in
theorem mt_X9_swapFeet : mt nX9_swapFeet 1 := ⟨List.mem_filter.mpr ⟨List.mem_of_getElem? (i := 902) (by rfl), by rfl⟩, List.mem_filter.mpr ⟨List.mem_of_getElem? (i := 131) (by decide +kernel), by decide +kernel⟩, ⟨by decide +kernel, by decide +kernel, by decide +kernel⟩, by decide⟩
theorem qC_RJ7_317 : Cond.classLink RJ7 317 "[I" ∈ lw_g := List.mem_filter.mpr ⟨List.mem_of_getElem? (i := 754) (by decide +kernel), by decide +kernel⟩
theorem qC_RL_10 : Cond.classLink RL 10 RX12 ∈ lw_g := List.mem_filter.mpr ⟨List.mem_of_getElem? (i := 1369) (by decide +kernel), by decide +kernel⟩
theorem qC_RL_7 : Cond.classLink RL 7 RX11 ∈ lw_g := List.mem_filter.mpr ⟨List.mem_of_getElem? (i := 151) (by decide +kernel), by decide +kernel⟩
theorem qC_RX11_21 : Cond.classLink RX11 21 RX5 ∈ lw_g := List.mem_filter.mpr ⟨List.mem_of_getElem? (i := 320) (by decide +kernel), by decide +kernel⟩
theorem qC_RX11_27 : Cond.classLink RX11 27 RX2 ∈ lw_g := List.mem_filter.mpr ⟨List.mem_of_getElem? (i := 322) (by decide +kernel), by decide +kernel⟩
theorem qC_RX11_34 : Cond.classLink RX11 34 RX4 ∈ lw_g := List.mem_filter.mpr ⟨List.mem_of_getElem? (i := 378) (by decide +kernel), by decide +kernel⟩
theorem qC_RX11_41 : Cond.classLink RX11 41 RX1 ∈ lw_g := List.mem_filter.mpr ⟨List.mem_of_getElem? (i := 410) (by decide +kernel), by decide +kernel⟩
theorem qC_RX11_48 : Cond.classLink RX11 48 RX0 ∈ lw_g := List.mem_filter.mpr ⟨List.mem_of_getElem? (i := 421) (by decide +kernel), by decide +kernel⟩
theorem qC_RX11_55 : Cond.classLink RX11 55 RX10 ∈ lw_g := List.mem_filter.mpr ⟨List.mem_of_getElem? (i := 434) (by decide +kernel), by decide +kernel⟩
theorem qC_RX11_7 : Cond.classLink RX11 7 RX9 ∈ lw_g := List.mem_filter.mpr ⟨List.mem_of_getElem? (i := 159) (by decide +kernel), by decide +kernel⟩
theorem qC_RX2_68 : Cond.classLink RX2 68 RX8 ∈ lw_g := List.mem_filter.mpr ⟨List.mem_of_getElem? (i := 743) (by decide +kernel), by decide +kernel⟩
theorem qC_RX2_75 : Cond.classLink RX2 75 "[I" ∈ lw_g := List.mem_filter.mpr ⟨List.mem_of_getElem? (i := 760) (by decide +kernel), by decide +kernel⟩
theorem qC_RX5_18 : Cond.classLink RX5 18 RX6 ∈ lw_g := List.mem_filter.mpr ⟨List.mem_of_getElem? (i := 185) (by decide +kernel), by decide +kernel⟩
theorem qC_RX5_44 : Cond.classLink RX5 44 RX7 ∈ lw_g := List.mem_filter.mpr ⟨List.mem_of_getElem? (i := 202) (by decide +kernel), by decide +kernel⟩
theorem qC_RX5_59 : Cond.classLink RX5 59 "RailsGrowWider$Text" ∈ lw_g := List.mem_filter.mpr ⟨List.mem_of_getElem? (i := 222) (by decide +kernel), by decide +kernel⟩
theorem qC_RX5_9 : Cond.classLink RX5 9 RX10 ∈ lw_g := List.mem_filter.mpr ⟨List.mem_of_getElem? (i := 171) (by decide +kernel), by decide +kernel⟩
theorem qC_RX9_18 : Cond.classLink RX9 18 RX3 ∈ lw_g := List.mem_filter.mpr ⟨List.mem_of_getElem? (i := 295) (by decide +kernel), by decide +kernel⟩
theorem qC_RX9_9 : Cond.classLink RX9 9 RX5 ∈ lw_g := List.mem_filter.mpr ⟨List.mem_of_getElem? (i := 165) (by decide +kernel), by decide +kernel⟩
theorem qF_RJ0_1053 : Cond.fieldLink RJ0 1053 "jdk/internal/util/Preconditions" "SIOOBE_FORMATTER" "Ljava/util/function/BiFunction;" ∈ lw_g := List.mem_filter.mpr ⟨List.mem_of_getElem? (i := 565) (by decide +kernel), by decide +kernel⟩
theorem qF_RJ0_15 : Cond.fieldLink RJ0 15 "java/lang/String" "coder" "B" ∈ lw_g := List.mem_filter.mpr ⟨List.mem_of_getElem? (i := 2074) (by decide +kernel), by decide +kernel⟩
theorem qF_RJ0_38 : Cond.fieldLink RJ0 38 "java/lang/String" "COMPACT_STRINGS" "Z" ∈ lw_g := List.mem_filter.mpr ⟨List.mem_of_getElem? (i := 549) (by decide +kernel), by decide +kernel⟩
theorem qF_RJ0_9 : Cond.fieldLink RJ0 9 "java/lang/String" "value" "[B" ∈ lw_g := List.mem_filter.mpr ⟨List.mem_of_getElem? (i := 2073) (by decide +kernel), by decide +kernel⟩
theorem qF_RX0_11 : Cond.fieldLink RX0 11 "RailsGrowWider$Accounts" "sums" "[I" ∈ lw_g := List.mem_filter.mpr ⟨List.mem_of_getElem? (i := 427) (by decide +kernel), by decide +kernel⟩
theorem qF_RX0_15 : Cond.fieldLink RX0 15 "RailsGrowWider$Accounts" "most" "[I" ∈ lw_g := List.mem_filter.mpr ⟨List.mem_of_getElem? (i := 428) (by decide +kernel), by decide +kernel⟩
theorem qF_RX10_11 : Cond.fieldLink RX10 11 "RailsGrowWider$Yard" "cells" "[I" ∈ lw_g := List.mem_filter.mpr ⟨List.mem_of_getElem? (i := 177) (by decide +kernel), by decide +kernel⟩
theorem qF_RX11_10 : Cond.fieldLink RX11 10 "RailsGrowWider" "works" "LRailsGrowWider$Works;" ∈ lw_g := List.mem_filter.mpr ⟨List.mem_of_getElem? (i := 438) (by decide +kernel), by decide +kernel⟩
theorem qF_RX11_100 : Cond.fieldLink RX11 100 "RailsGrowWider$Reader" "length" "I" ∈ lw_g := List.mem_filter.mpr ⟨List.mem_of_getElem? (i := 335) (by decide +kernel), by decide +kernel⟩
theorem qF_RX11_111 : Cond.fieldLink RX11 111 "RailsGrowWider$Reader" "fault" "I" ∈ lw_g := List.mem_filter.mpr ⟨List.mem_of_getElem? (i := 337) (by decide +kernel), by decide +kernel⟩
theorem qF_RX11_114 : Cond.fieldLink RX11 114 "RailsGrowWider$Reader" "faultPlace" "I" ∈ lw_g := List.mem_filter.mpr ⟨List.mem_of_getElem? (i := 339) (by decide +kernel), by decide +kernel⟩
theorem qF_RX11_120 : Cond.fieldLink RX11 120 "RailsGrowWider$Station" "ruling" "I" ∈ lw_g := List.mem_filter.mpr ⟨List.mem_of_getElem? (i := 258) (by decide +kernel), by decide +kernel⟩
theorem qF_RX11_16 : Cond.fieldLink RX11 16 "RailsGrowWider$Works" "station" "LRailsGrowWider$Station;" ∈ lw_g := List.mem_filter.mpr ⟨List.mem_of_getElem? (i := 313) (by decide +kernel), by decide +kernel⟩
theorem qF_RX11_160 : Cond.fieldLink RX11 160 "RailsGrowWider$Station" "steps" "LRailsGrowWider$Steps;" ∈ lw_g := List.mem_filter.mpr ⟨List.mem_of_getElem? (i := 230) (by decide +kernel), by decide +kernel⟩
theorem qF_RX11_170 : Cond.fieldLink RX11 170 "RailsGrowWider$Steps" "count" "I" ∈ lw_g := List.mem_filter.mpr ⟨List.mem_of_getElem? (i := 194) (by decide +kernel), by decide +kernel⟩
theorem qF_RX11_173 : Cond.fieldLink RX11 173 "RailsGrowWider$Station" "kinds" "[I" ∈ lw_g := List.mem_filter.mpr ⟨List.mem_of_getElem? (i := 233) (by decide +kernel), by decide +kernel⟩
theorem qF_RX11_176 : Cond.fieldLink RX11 176 "RailsGrowWider$Station" "loads" "[I" ∈ lw_g := List.mem_filter.mpr ⟨List.mem_of_getElem? (i := 236) (by decide +kernel), by decide +kernel⟩
theorem qF_RX11_20 : Cond.fieldLink RX11 20 "RailsGrowWider" "station" "LRailsGrowWider$Station;" ∈ lw_g := List.mem_filter.mpr ⟨List.mem_of_getElem? (i := 436) (by decide +kernel), by decide +kernel⟩
theorem qF_RX11_211 : Cond.fieldLink RX11 211 "RailsGrowWider$Yard" "cells" "[I" ∈ lw_g := List.mem_filter.mpr ⟨List.mem_of_getElem? (i := 180) (by decide +kernel), by decide +kernel⟩
theorem qF_RX11_237 : Cond.fieldLink RX11 237 "RailsGrowWider$Station" "wanted" "I" ∈ lw_g := List.mem_filter.mpr ⟨List.mem_of_getElem? (i := 260) (by decide +kernel), by decide +kernel⟩
theorem qF_RX11_24 : Cond.fieldLink RX11 24 "RailsGrowWider" "image" "LRailsGrowWider$Station;" ∈ lw_g := List.mem_filter.mpr ⟨List.mem_of_getElem? (i := 437) (by decide +kernel), by decide +kernel⟩
theorem qF_RX11_255 : Cond.fieldLink RX11 255 "RailsGrowWider$Shunter" "found" "I" ∈ lw_g := List.mem_filter.mpr ⟨List.mem_of_getElem? (i := 390) (by decide +kernel), by decide +kernel⟩
theorem qF_RX11_275 : Cond.fieldLink RX11 275 "RailsGrowWider$Orders" "row" "[I" ∈ lw_g := List.mem_filter.mpr ⟨List.mem_of_getElem? (i := 417) (by decide +kernel), by decide +kernel⟩
theorem qF_RX11_30 : Cond.fieldLink RX11 30 "RailsGrowWider" "reader" "LRailsGrowWider$Reader;" ∈ lw_g := List.mem_filter.mpr ⟨List.mem_of_getElem? (i := 439) (by decide +kernel), by decide +kernel⟩
theorem qF_RX11_301 : Cond.fieldLink RX11 301 "RailsGrowWider$Station" "balances" "[I" ∈ lw_g := List.mem_filter.mpr ⟨List.mem_of_getElem? (i := 246) (by decide +kernel), by decide +kernel⟩
theorem qF_RX11_313 : Cond.fieldLink RX11 313 "RailsGrowWider$Station" "trips" "LRailsGrowWider$Table;" ∈ lw_g := List.mem_filter.mpr ⟨List.mem_of_getElem? (i := 248) (by decide +kernel), by decide +kernel⟩
theorem qF_RX11_328 : Cond.fieldLink RX11 328 "RailsGrowWider$Table" "size" "I" ∈ lw_g := List.mem_filter.mpr ⟨List.mem_of_getElem? (i := 214) (by decide +kernel), by decide +kernel⟩
theorem qF_RX11_334 : Cond.fieldLink RX11 334 "RailsGrowWider$Station" "sightings" "LRailsGrowWider$Table;" ∈ lw_g := List.mem_filter.mpr ⟨List.mem_of_getElem? (i := 250) (by decide +kernel), by decide +kernel⟩
theorem qF_RX11_359 : Cond.fieldLink RX11 359 "RailsGrowWider$Station" "odds" "[I" ∈ lw_g := List.mem_filter.mpr ⟨List.mem_of_getElem? (i := 244) (by decide +kernel), by decide +kernel⟩
theorem qF_RX11_368 : Cond.fieldLink RX11 368 "RailsGrowWider$Station" "sayings" "LRailsGrowWider$Table;" ∈ lw_g := List.mem_filter.mpr ⟨List.mem_of_getElem? (i := 252) (by decide +kernel), by decide +kernel⟩
theorem qF_RX11_37 : Cond.fieldLink RX11 37 "RailsGrowWider" "shunter" "LRailsGrowWider$Shunter;" ∈ lw_g := List.mem_filter.mpr ⟨List.mem_of_getElem? (i := 440) (by decide +kernel), by decide +kernel⟩
theorem qF_RX11_44 : Cond.fieldLink RX11 44 "RailsGrowWider" "orders" "LRailsGrowWider$Orders;" ∈ lw_g := List.mem_filter.mpr ⟨List.mem_of_getElem? (i := 441) (by decide +kernel), by decide +kernel⟩
theorem qF_RX11_51 : Cond.fieldLink RX11 51 "RailsGrowWider" "accounts" "LRailsGrowWider$Accounts;" ∈ lw_g := List.mem_filter.mpr ⟨List.mem_of_getElem? (i := 442) (by decide +kernel), by decide +kernel⟩
theorem qF_RX11_58 : Cond.fieldLink RX11 58 "RailsGrowWider" "spare" "LRailsGrowWider$Yard;" ∈ lw_g := List.mem_filter.mpr ⟨List.mem_of_getElem? (i := 443) (by decide +kernel), by decide +kernel⟩
theorem qF_RX11_66 : Cond.fieldLink RX11 66 "RailsGrowWider$Station" "yard" "LRailsGrowWider$Yard;" ∈ lw_g := List.mem_filter.mpr ⟨List.mem_of_getElem? (i := 226) (by decide +kernel), by decide +kernel⟩
theorem qF_RX11_73 : Cond.fieldLink RX11 73 "RailsGrowWider$Station" "textCount" "I" ∈ lw_g := List.mem_filter.mpr ⟨List.mem_of_getElem? (i := 256) (by decide +kernel), by decide +kernel⟩
theorem qF_RX11_77 : Cond.fieldLink RX11 77 "RailsGrowWider$Station" "texts" "[LRailsGrowWider$Text;" ∈ lw_g := List.mem_filter.mpr ⟨List.mem_of_getElem? (i := 254) (by decide +kernel), by decide +kernel⟩
theorem qF_RX11_93 : Cond.fieldLink RX11 93 "RailsGrowWider$Station" "lifts" "[I" ∈ lw_g := List.mem_filter.mpr ⟨List.mem_of_getElem? (i := 239) (by decide +kernel), by decide +kernel⟩
theorem qF_RX11_97 : Cond.fieldLink RX11 97 "RailsGrowWider$Station" "rolls" "[I" ∈ lw_g := List.mem_filter.mpr ⟨List.mem_of_getElem? (i := 242) (by decide +kernel), by decide +kernel⟩
theorem qF_RX12_106 : Cond.fieldLink RX12 106 "RailsGrowWiderModel" "taped" "I" ∈ lw_g := List.mem_filter.mpr ⟨List.mem_of_getElem? (i := 1382) (by decide +kernel), by decide +kernel⟩
theorem qF_RX12_113 : Cond.fieldLink RX12 113 "RailsGrowWiderModel" "at" "I" ∈ lw_g := List.mem_filter.mpr ⟨List.mem_of_getElem? (i := 1385) (by decide +kernel), by decide +kernel⟩
theorem qF_RX12_119 : Cond.fieldLink RX12 119 "RailsGrowWiderModel" "place" "I" ∈ lw_g := List.mem_filter.mpr ⟨List.mem_of_getElem? (i := 1386) (by decide +kernel), by decide +kernel⟩
theorem qF_RX12_122 : Cond.fieldLink RX12 122 "RailsGrowWiderModel" "token" "I" ∈ lw_g := List.mem_filter.mpr ⟨List.mem_of_getElem? (i := 1387) (by decide +kernel), by decide +kernel⟩
theorem qF_RX12_128 : Cond.fieldLink RX12 128 "RailsGrowWiderModel" "number" "I" ∈ lw_g := List.mem_filter.mpr ⟨List.mem_of_getElem? (i := 1388) (by decide +kernel), by decide +kernel⟩
theorem qF_RX12_13 : Cond.fieldLink RX12 13 "RailsGrowWiderModel" "image" "[I" ∈ lw_g := List.mem_filter.mpr ⟨List.mem_of_getElem? (i := 1379) (by decide +kernel), by decide +kernel⟩
theorem qF_RX12_135 : Cond.fieldLink RX12 135 "RailsGrowWiderModel" "word" "J" ∈ lw_g := List.mem_filter.mpr ⟨List.mem_of_getElem? (i := 1389) (by decide +kernel), by decide +kernel⟩
theorem qF_RX12_16 : Cond.fieldLink RX12 16 "RailsGrowWiderModel" "texts" "[I" ∈ lw_g := List.mem_filter.mpr ⟨List.mem_of_getElem? (i := 1380) (by decide +kernel), by decide +kernel⟩
theorem qF_RX12_160 : Cond.fieldLink RX12 160 "RailsGrowWiderModel" "text0" "I" ∈ lw_g := List.mem_filter.mpr ⟨List.mem_of_getElem? (i := 1390) (by decide +kernel), by decide +kernel⟩
theorem qF_RX12_163 : Cond.fieldLink RX12 163 "RailsGrowWiderModel" "written" "I" ∈ lw_g := List.mem_filter.mpr ⟨List.mem_of_getElem? (i := 1391) (by decide +kernel), by decide +kernel⟩
theorem qF_RX12_170 : Cond.fieldLink RX12 170 "RailsGrowWiderModel" "sort0" "I" ∈ lw_g := List.mem_filter.mpr ⟨List.mem_of_getElem? (i := 1392) (by decide +kernel), by decide +kernel⟩
theorem qF_RX12_173 : Cond.fieldLink RX12 173 "RailsGrowWiderModel" "piled" "I" ∈ lw_g := List.mem_filter.mpr ⟨List.mem_of_getElem? (i := 1394) (by decide +kernel), by decide +kernel⟩
theorem qF_RX12_182 : Cond.fieldLink RX12 182 "RailsGrowWiderModel" "opens" "I" ∈ lw_g := List.mem_filter.mpr ⟨List.mem_of_getElem? (i := 1395) (by decide +kernel), by decide +kernel⟩
theorem qF_RX12_19 : Cond.fieldLink RX12 19 "RailsGrowWiderModel" "tape" "[I" ∈ lw_g := List.mem_filter.mpr ⟨List.mem_of_getElem? (i := 1381) (by decide +kernel), by decide +kernel⟩
theorem qF_RX12_201 : Cond.fieldLink RX12 201 "RailsGrowWiderModel" "isWhole" "Z" ∈ lw_g := List.mem_filter.mpr ⟨List.mem_of_getElem? (i := 1396) (by decide +kernel), by decide +kernel⟩
theorem qF_RX12_22 : Cond.fieldLink RX12 22 "RailsGrowWiderModel" "fault" "I" ∈ lw_g := List.mem_filter.mpr ⟨List.mem_of_getElem? (i := 1383) (by decide +kernel), by decide +kernel⟩
theorem qF_RX12_256 : Cond.fieldLink RX12 256 "RailsGrowWiderModel" "once" "I" ∈ lw_g := List.mem_filter.mpr ⟨List.mem_of_getElem? (i := 1397) (by decide +kernel), by decide +kernel⟩
theorem qF_RX12_26 : Cond.fieldLink RX12 26 "RailsGrowWiderModel" "faultPlace" "I" ∈ lw_g := List.mem_filter.mpr ⟨List.mem_of_getElem? (i := 1384) (by decide +kernel), by decide +kernel⟩
theorem qF_RX12_29 : Cond.fieldLink RX12 29 "RailsGrowWiderModel" "pile" "[I" ∈ lw_g := List.mem_filter.mpr ⟨List.mem_of_getElem? (i := 1393) (by decide +kernel), by decide +kernel⟩
theorem qF_RX12_32 : Cond.fieldLink RX12 32 "RailsGrowWiderModel" "named" "[I" ∈ lw_g := List.mem_filter.mpr ⟨List.mem_of_getElem? (i := 1398) (by decide +kernel), by decide +kernel⟩
theorem qF_RX12_346 : Cond.fieldLink RX12 346 "RailsGrowWiderModel" "broke" "I" ∈ lw_g := List.mem_filter.mpr ⟨List.mem_of_getElem? (i := 1402) (by decide +kernel), by decide +kernel⟩
theorem qF_RX12_35 : Cond.fieldLink RX12 35 "RailsGrowWiderModel" "values" "[J" ∈ lw_g := List.mem_filter.mpr ⟨List.mem_of_getElem? (i := 1399) (by decide +kernel), by decide +kernel⟩
theorem qF_RX12_39 : Cond.fieldLink RX12 39 "RailsGrowWiderModel" "truth" "[Z" ∈ lw_g := List.mem_filter.mpr ⟨List.mem_of_getElem? (i := 1400) (by decide +kernel), by decide +kernel⟩
theorem qF_RX12_429 : Cond.fieldLink RX12 429 "RailsGrowWiderModel" "wantedAt" "I" ∈ lw_g := List.mem_filter.mpr ⟨List.mem_of_getElem? (i := 1410) (by decide +kernel), by decide +kernel⟩
theorem qF_RX12_43 : Cond.fieldLink RX12 43 "RailsGrowWiderModel" "isWritten" "Z" ∈ lw_g := List.mem_filter.mpr ⟨List.mem_of_getElem? (i := 1401) (by decide +kernel), by decide +kernel⟩
theorem qF_RX12_47 : Cond.fieldLink RX12 47 "RailsGrowWiderModel" "aside" "[I" ∈ lw_g := List.mem_filter.mpr ⟨List.mem_of_getElem? (i := 1403) (by decide +kernel), by decide +kernel⟩
theorem qF_RX12_50 : Cond.fieldLink RX12 50 "RailsGrowWiderModel" "row" "[I" ∈ lw_g := List.mem_filter.mpr ⟨List.mem_of_getElem? (i := 1404) (by decide +kernel), by decide +kernel⟩
theorem qF_RX12_53 : Cond.fieldLink RX12 53 "RailsGrowWiderModel" "slots" "[I" ∈ lw_g := List.mem_filter.mpr ⟨List.mem_of_getElem? (i := 1405) (by decide +kernel), by decide +kernel⟩
theorem qF_RX12_56 : Cond.fieldLink RX12 56 "RailsGrowWiderModel" "counts" "[I" ∈ lw_g := List.mem_filter.mpr ⟨List.mem_of_getElem? (i := 1406) (by decide +kernel), by decide +kernel⟩
theorem qF_RX12_59 : Cond.fieldLink RX12 59 "RailsGrowWiderModel" "ahead" "[I" ∈ lw_g := List.mem_filter.mpr ⟨List.mem_of_getElem? (i := 1407) (by decide +kernel), by decide +kernel⟩
theorem qF_RX12_62 : Cond.fieldLink RX12 62 "RailsGrowWiderModel" "shunted" "[I" ∈ lw_g := List.mem_filter.mpr ⟨List.mem_of_getElem? (i := 1408) (by decide +kernel), by decide +kernel⟩
theorem qF_RX12_65 : Cond.fieldLink RX12 65 "RailsGrowWiderModel" "queue" "[I" ∈ lw_g := List.mem_filter.mpr ⟨List.mem_of_getElem? (i := 1409) (by decide +kernel), by decide +kernel⟩
theorem qF_RX12_68 : Cond.fieldLink RX12 68 "RailsGrowWiderModel" "lowestRow" "[I" ∈ lw_g := List.mem_filter.mpr ⟨List.mem_of_getElem? (i := 1411) (by decide +kernel), by decide +kernel⟩
theorem qF_RX12_7 : Cond.fieldLink RX12 7 "RailsGrowWiderModel" "a" "[I" ∈ lw_g := List.mem_filter.mpr ⟨List.mem_of_getElem? (i := 1378) (by decide +kernel), by decide +kernel⟩
theorem qF_RX12_71 : Cond.fieldLink RX12 71 "RailsGrowWiderModel" "groups" "[I" ∈ lw_g := List.mem_filter.mpr ⟨List.mem_of_getElem? (i := 1412) (by decide +kernel), by decide +kernel⟩
theorem qF_RX1_15 : Cond.fieldLink RX1 15 RX1 "ROWS_BEHIND" "[I" ∈ lw_g := List.mem_filter.mpr ⟨List.mem_of_getElem? (i := 1129) (by decide +kernel), by decide +kernel⟩
theorem qF_RX1_25 : Cond.fieldLink RX1 25 "RailsGrowWider$Station" "yard" "LRailsGrowWider$Yard;" ∈ lw_g := List.mem_filter.mpr ⟨List.mem_of_getElem? (i := 227) (by decide +kernel), by decide +kernel⟩
theorem qF_RX1_37 : Cond.fieldLink RX1 37 "RailsGrowWider$Station" "lifts" "[I" ∈ lw_g := List.mem_filter.mpr ⟨List.mem_of_getElem? (i := 238) (by decide +kernel), by decide +kernel⟩
theorem qF_RX1_45 : Cond.fieldLink RX1 45 "RailsGrowWider$Station" "rolls" "[I" ∈ lw_g := List.mem_filter.mpr ⟨List.mem_of_getElem? (i := 241) (by decide +kernel), by decide +kernel⟩
theorem qF_RX1_9 : Cond.fieldLink RX1 9 "RailsGrowWider$Orders" "row" "[I" ∈ lw_g := List.mem_filter.mpr ⟨List.mem_of_getElem? (i := 416) (by decide +kernel), by decide +kernel⟩
theorem qF_RX2_15 : Cond.fieldLink RX2 15 "RailsGrowWider$Reader" "tokens" "[I" ∈ lw_g := List.mem_filter.mpr ⟨List.mem_of_getElem? (i := 329) (by decide +kernel), by decide +kernel⟩
theorem qF_RX2_153 : Cond.fieldLink RX2 153 "RailsGrowWider$Reader" "inMoves" "Z" ∈ lw_g := List.mem_filter.mpr ⟨List.mem_of_getElem? (i := 345) (by decide +kernel), by decide +kernel⟩
theorem qF_RX2_19 : Cond.fieldLink RX2 19 "RailsGrowWider$Reader" "places" "[I" ∈ lw_g := List.mem_filter.mpr ⟨List.mem_of_getElem? (i := 330) (by decide +kernel), by decide +kernel⟩
theorem qF_RX2_22 : Cond.fieldLink RX2 22 "RailsGrowWider$Reader" "code" "[I" ∈ lw_g := List.mem_filter.mpr ⟨List.mem_of_getElem? (i := 331) (by decide +kernel), by decide +kernel⟩
theorem qF_RX2_25 : Cond.fieldLink RX2 25 "RailsGrowWider$Reader" "clauses" "[I" ∈ lw_g := List.mem_filter.mpr ⟨List.mem_of_getElem? (i := 332) (by decide +kernel), by decide +kernel⟩
theorem qF_RX2_28 : Cond.fieldLink RX2 28 "RailsGrowWider$Reader" "bounds" "[I" ∈ lw_g := List.mem_filter.mpr ⟨List.mem_of_getElem? (i := 333) (by decide +kernel), by decide +kernel⟩
theorem qF_RX2_31 : Cond.fieldLink RX2 31 "RailsGrowWider$Reader" "fault" "I" ∈ lw_g := List.mem_filter.mpr ⟨List.mem_of_getElem? (i := 336) (by decide +kernel), by decide +kernel⟩
theorem qF_RX2_35 : Cond.fieldLink RX2 35 "RailsGrowWider$Reader" "faultPlace" "I" ∈ lw_g := List.mem_filter.mpr ⟨List.mem_of_getElem? (i := 338) (by decide +kernel), by decide +kernel⟩
theorem qF_RX2_38 : Cond.fieldLink RX2 38 "RailsGrowWider$Reader" "length" "I" ∈ lw_g := List.mem_filter.mpr ⟨List.mem_of_getElem? (i := 334) (by decide +kernel), by decide +kernel⟩
theorem qF_RX2_44 : Cond.fieldLink RX2 44 "RailsGrowWider$Reader" "at" "I" ∈ lw_g := List.mem_filter.mpr ⟨List.mem_of_getElem? (i := 340) (by decide +kernel), by decide +kernel⟩
theorem qF_RX2_47 : Cond.fieldLink RX2 47 "RailsGrowWider$Reader" "token" "I" ∈ lw_g := List.mem_filter.mpr ⟨List.mem_of_getElem? (i := 341) (by decide +kernel), by decide +kernel⟩
theorem qF_RX2_50 : Cond.fieldLink RX2 50 "RailsGrowWider$Reader" "open" "I" ∈ lw_g := List.mem_filter.mpr ⟨List.mem_of_getElem? (i := 342) (by decide +kernel), by decide +kernel⟩
theorem qF_RX2_53 : Cond.fieldLink RX2 53 "RailsGrowWider$Reader" "codeSize" "I" ∈ lw_g := List.mem_filter.mpr ⟨List.mem_of_getElem? (i := 343) (by decide +kernel), by decide +kernel⟩
theorem qF_RX2_56 : Cond.fieldLink RX2 56 "RailsGrowWider$Reader" "clauseCount" "I" ∈ lw_g := List.mem_filter.mpr ⟨List.mem_of_getElem? (i := 344) (by decide +kernel), by decide +kernel⟩
theorem qF_RX2_9 : Cond.fieldLink RX2 9 "RailsGrowWider$Reader" "tape" "[B" ∈ lw_g := List.mem_filter.mpr ⟨List.mem_of_getElem? (i := 328) (by decide +kernel), by decide +kernel⟩
theorem qF_RX3_15 : Cond.fieldLink RX3 15 "RailsGrowWider$Scale" "pile" "[I" ∈ lw_g := List.mem_filter.mpr ⟨List.mem_of_getElem? (i := 303) (by decide +kernel), by decide +kernel⟩
theorem qF_RX3_18 : Cond.fieldLink RX3 18 "RailsGrowWider$Scale" "height" "I" ∈ lw_g := List.mem_filter.mpr ⟨List.mem_of_getElem? (i := 304) (by decide +kernel), by decide +kernel⟩
theorem qF_RX3_28 : Cond.fieldLink RX3 28 "RailsGrowWider$Text" "code" "[I" ∈ lw_g := List.mem_filter.mpr ⟨List.mem_of_getElem? (i := 767) (by decide +kernel), by decide +kernel⟩
theorem qF_RX3_9 : Cond.fieldLink RX3 9 "RailsGrowWider$Scale" "names" "[I" ∈ lw_g := List.mem_filter.mpr ⟨List.mem_of_getElem? (i := 301) (by decide +kernel), by decide +kernel⟩
theorem qF_RX4_11 : Cond.fieldLink RX4 11 "RailsGrowWider$Shunter" "codes" "[I" ∈ lw_g := List.mem_filter.mpr ⟨List.mem_of_getElem? (i := 384) (by decide +kernel), by decide +kernel⟩
theorem qF_RX4_15 : Cond.fieldLink RX4 15 "RailsGrowWider$Shunter" "came" "[I" ∈ lw_g := List.mem_filter.mpr ⟨List.mem_of_getElem? (i := 385) (by decide +kernel), by decide +kernel⟩
theorem qF_RX4_18 : Cond.fieldLink RX4 18 "RailsGrowWider$Shunter" "known" "[I" ∈ lw_g := List.mem_filter.mpr ⟨List.mem_of_getElem? (i := 386) (by decide +kernel), by decide +kernel⟩
theorem qF_RX4_21 : Cond.fieldLink RX4 21 "RailsGrowWider$Shunter" "above" "[I" ∈ lw_g := List.mem_filter.mpr ⟨List.mem_of_getElem? (i := 387) (by decide +kernel), by decide +kernel⟩
theorem qF_RX4_24 : Cond.fieldLink RX4 24 "RailsGrowWider$Shunter" "tops" "[I" ∈ lw_g := List.mem_filter.mpr ⟨List.mem_of_getElem? (i := 388) (by decide +kernel), by decide +kernel⟩
theorem qF_RX4_40 : Cond.fieldLink RX4 40 "RailsGrowWider$Shunter" "found" "I" ∈ lw_g := List.mem_filter.mpr ⟨List.mem_of_getElem? (i := 389) (by decide +kernel), by decide +kernel⟩
theorem qF_RX4_44 : Cond.fieldLink RX4 44 "RailsGrowWider$Shunter" "exploredCars" "I" ∈ lw_g := List.mem_filter.mpr ⟨List.mem_of_getElem? (i := 391) (by decide +kernel), by decide +kernel⟩
theorem qF_RX4_47 : Cond.fieldLink RX4 47 "RailsGrowWider$Shunter" "exploredPairs" "I" ∈ lw_g := List.mem_filter.mpr ⟨List.mem_of_getElem? (i := 392) (by decide +kernel), by decide +kernel⟩
theorem qF_RX5_12 : Cond.fieldLink RX5 12 "RailsGrowWider$Station" "yard" "LRailsGrowWider$Yard;" ∈ lw_g := List.mem_filter.mpr ⟨List.mem_of_getElem? (i := 224) (by decide +kernel), by decide +kernel⟩
theorem qF_RX5_21 : Cond.fieldLink RX5 21 "RailsGrowWider$Station" "steps" "LRailsGrowWider$Steps;" ∈ lw_g := List.mem_filter.mpr ⟨List.mem_of_getElem? (i := 228) (by decide +kernel), by decide +kernel⟩
theorem qF_RX5_25 : Cond.fieldLink RX5 25 "RailsGrowWider$Station" "kinds" "[I" ∈ lw_g := List.mem_filter.mpr ⟨List.mem_of_getElem? (i := 231) (by decide +kernel), by decide +kernel⟩
theorem qF_RX5_29 : Cond.fieldLink RX5 29 "RailsGrowWider$Station" "loads" "[I" ∈ lw_g := List.mem_filter.mpr ⟨List.mem_of_getElem? (i := 234) (by decide +kernel), by decide +kernel⟩
theorem qF_RX5_32 : Cond.fieldLink RX5 32 "RailsGrowWider$Station" "lifts" "[I" ∈ lw_g := List.mem_filter.mpr ⟨List.mem_of_getElem? (i := 237) (by decide +kernel), by decide +kernel⟩
theorem qF_RX5_35 : Cond.fieldLink RX5 35 "RailsGrowWider$Station" "rolls" "[I" ∈ lw_g := List.mem_filter.mpr ⟨List.mem_of_getElem? (i := 240) (by decide +kernel), by decide +kernel⟩
theorem qF_RX5_38 : Cond.fieldLink RX5 38 "RailsGrowWider$Station" "odds" "[I" ∈ lw_g := List.mem_filter.mpr ⟨List.mem_of_getElem? (i := 243) (by decide +kernel), by decide +kernel⟩
theorem qF_RX5_41 : Cond.fieldLink RX5 41 "RailsGrowWider$Station" "balances" "[I" ∈ lw_g := List.mem_filter.mpr ⟨List.mem_of_getElem? (i := 245) (by decide +kernel), by decide +kernel⟩
theorem qF_RX5_49 : Cond.fieldLink RX5 49 "RailsGrowWider$Station" "trips" "LRailsGrowWider$Table;" ∈ lw_g := List.mem_filter.mpr ⟨List.mem_of_getElem? (i := 247) (by decide +kernel), by decide +kernel⟩
theorem qF_RX5_53 : Cond.fieldLink RX5 53 "RailsGrowWider$Station" "sightings" "LRailsGrowWider$Table;" ∈ lw_g := List.mem_filter.mpr ⟨List.mem_of_getElem? (i := 249) (by decide +kernel), by decide +kernel⟩
theorem qF_RX5_56 : Cond.fieldLink RX5 56 "RailsGrowWider$Station" "sayings" "LRailsGrowWider$Table;" ∈ lw_g := List.mem_filter.mpr ⟨List.mem_of_getElem? (i := 251) (by decide +kernel), by decide +kernel⟩
theorem qF_RX5_61 : Cond.fieldLink RX5 61 "RailsGrowWider$Station" "texts" "[LRailsGrowWider$Text;" ∈ lw_g := List.mem_filter.mpr ⟨List.mem_of_getElem? (i := 253) (by decide +kernel), by decide +kernel⟩
theorem qF_RX5_65 : Cond.fieldLink RX5 65 "RailsGrowWider$Station" "ruling" "I" ∈ lw_g := List.mem_filter.mpr ⟨List.mem_of_getElem? (i := 257) (by decide +kernel), by decide +kernel⟩
theorem qF_RX5_85 : Cond.fieldLink RX5 85 "RailsGrowWider$Station" "textCount" "I" ∈ lw_g := List.mem_filter.mpr ⟨List.mem_of_getElem? (i := 255) (by decide +kernel), by decide +kernel⟩
theorem qF_RX5_88 : Cond.fieldLink RX5 88 "RailsGrowWider$Station" "wanted" "I" ∈ lw_g := List.mem_filter.mpr ⟨List.mem_of_getElem? (i := 259) (by decide +kernel), by decide +kernel⟩
theorem qF_RX5_91 : Cond.fieldLink RX5 91 "RailsGrowWider$Station" "forbidden" "I" ∈ lw_g := List.mem_filter.mpr ⟨List.mem_of_getElem? (i := 261) (by decide +kernel), by decide +kernel⟩
theorem qF_RX6_11 : Cond.fieldLink RX6 11 "RailsGrowWider$Steps" "kept" "[I" ∈ lw_g := List.mem_filter.mpr ⟨List.mem_of_getElem? (i := 191) (by decide +kernel), by decide +kernel⟩
theorem qF_RX6_17 : Cond.fieldLink RX6 17 "RailsGrowWider$Steps" "eldest" "I" ∈ lw_g := List.mem_filter.mpr ⟨List.mem_of_getElem? (i := 192) (by decide +kernel), by decide +kernel⟩
theorem qF_RX6_21 : Cond.fieldLink RX6 21 "RailsGrowWider$Steps" "count" "I" ∈ lw_g := List.mem_filter.mpr ⟨List.mem_of_getElem? (i := 193) (by decide +kernel), by decide +kernel⟩
theorem qF_RX6_24 : Cond.fieldLink RX6 24 "RailsGrowWider$Yard" "cells" "[I" ∈ lw_g := List.mem_filter.mpr ⟨List.mem_of_getElem? (i := 178) (by decide +kernel), by decide +kernel⟩
theorem qF_RX7_15 : Cond.fieldLink RX7 15 "RailsGrowWider$Table" "most" "I" ∈ lw_g := List.mem_filter.mpr ⟨List.mem_of_getElem? (i := 212) (by decide +kernel), by decide +kernel⟩
theorem qF_RX7_21 : Cond.fieldLink RX7 21 "RailsGrowWider$Table" "cells" "[I" ∈ lw_g := List.mem_filter.mpr ⟨List.mem_of_getElem? (i := 211) (by decide +kernel), by decide +kernel⟩
theorem qF_RX7_25 : Cond.fieldLink RX7 25 "RailsGrowWider$Table" "size" "I" ∈ lw_g := List.mem_filter.mpr ⟨List.mem_of_getElem? (i := 213) (by decide +kernel), by decide +kernel⟩
theorem qF_RX8_15 : Cond.fieldLink RX8 15 "RailsGrowWider$Text" "code" "[I" ∈ lw_g := List.mem_filter.mpr ⟨List.mem_of_getElem? (i := 766) (by decide +kernel), by decide +kernel⟩
theorem qF_RX8_18 : Cond.fieldLink RX8 18 "RailsGrowWider$Text" "bounds" "[I" ∈ lw_g := List.mem_filter.mpr ⟨List.mem_of_getElem? (i := 768) (by decide +kernel), by decide +kernel⟩
theorem qF_RX8_9 : Cond.fieldLink RX8 9 "RailsGrowWider$Text" "clauses" "[I" ∈ lw_g := List.mem_filter.mpr ⟨List.mem_of_getElem? (i := 765) (by decide +kernel), by decide +kernel⟩
theorem qF_RX9_113 : Cond.fieldLink RX9 113 "RailsGrowWider$Yard" "cells" "[I" ∈ lw_g := List.mem_filter.mpr ⟨List.mem_of_getElem? (i := 179) (by decide +kernel), by decide +kernel⟩
theorem qF_RX9_12 : Cond.fieldLink RX9 12 "RailsGrowWider$Works" "station" "LRailsGrowWider$Station;" ∈ lw_g := List.mem_filter.mpr ⟨List.mem_of_getElem? (i := 312) (by decide +kernel), by decide +kernel⟩
theorem qF_RX9_21 : Cond.fieldLink RX9 21 "RailsGrowWider$Works" "scale" "LRailsGrowWider$Scale;" ∈ lw_g := List.mem_filter.mpr ⟨List.mem_of_getElem? (i := 314) (by decide +kernel), by decide +kernel⟩
theorem qF_RX9_39 : Cond.fieldLink RX9 39 "RailsGrowWider$Scale" "names" "[I" ∈ lw_g := List.mem_filter.mpr ⟨List.mem_of_getElem? (i := 302) (by decide +kernel), by decide +kernel⟩
theorem qF_RX9_43 : Cond.fieldLink RX9 43 "RailsGrowWider$Station" "yard" "LRailsGrowWider$Yard;" ∈ lw_g := List.mem_filter.mpr ⟨List.mem_of_getElem? (i := 225) (by decide +kernel), by decide +kernel⟩
theorem qF_RX9_64 : Cond.fieldLink RX9 64 "RailsGrowWider$Station" "loads" "[I" ∈ lw_g := List.mem_filter.mpr ⟨List.mem_of_getElem? (i := 235) (by decide +kernel), by decide +kernel⟩
theorem qF_RX9_67 : Cond.fieldLink RX9 67 "RailsGrowWider$Station" "kinds" "[I" ∈ lw_g := List.mem_filter.mpr ⟨List.mem_of_getElem? (i := 232) (by decide +kernel), by decide +kernel⟩
theorem qF_RX9_93 : Cond.fieldLink RX9 93 "RailsGrowWider$Station" "steps" "LRailsGrowWider$Steps;" ∈ lw_g := List.mem_filter.mpr ⟨List.mem_of_getElem? (i := 229) (by decide +kernel), by decide +kernel⟩
theorem qI_J0_charAt_5068e : Cond.instanceMethod yJ0_charAt_5068e ∈ lw_g := List.mem_filter.mpr ⟨List.mem_of_getElem? (i := 552) (by decide +kernel), by decide +kernel⟩
theorem qI_J0_coder_7d493 : Cond.instanceMethod yJ0_coder_7d493 ∈ lw_g := List.mem_filter.mpr ⟨List.mem_of_getElem? (i := 546) (by decide +kernel), by decide +kernel⟩
theorem qI_J0_indexOf_0f7a4 : Cond.instanceMethod yJ0_indexOf_0f7a4 ∈ lw_g := List.mem_filter.mpr ⟨List.mem_of_getElem? (i := 613) (by decide +kernel), by decide +kernel⟩
theorem qI_J0_indexOf_7cf53 : Cond.instanceMethod yJ0_indexOf_7cf53 ∈ lw_g := List.mem_filter.mpr ⟨List.mem_of_getElem? (i := 617) (by decide +kernel), by decide +kernel⟩
theorem qI_J0_isLatin1_aae02 : Cond.instanceMethod yJ0_isLatin1_aae02 ∈ lw_g := List.mem_filter.mpr ⟨List.mem_of_getElem? (i := 556) (by decide +kernel), by decide +kernel⟩
theorem qI_J0_length_8abf5 : Cond.instanceMethod yJ0_length_8abf5 ∈ lw_g := List.mem_filter.mpr ⟨List.mem_of_getElem? (i := 542) (by decide +kernel), by decide +kernel⟩
theorem qI_X0_groupOf : Cond.instanceMethod yX0_groupOf ∈ lw_g := List.mem_filter.mpr ⟨List.mem_of_getElem? (i := 1235) (by decide +kernel), by decide +kernel⟩
theorem qI_X0_init : Cond.instanceMethod yX0_init ∈ lw_g := List.mem_filter.mpr ⟨List.mem_of_getElem? (i := 424) (by decide +kernel), by decide +kernel⟩
theorem qI_X0_isGroupOf : Cond.instanceMethod yX0_isGroupOf ∈ lw_g := List.mem_filter.mpr ⟨List.mem_of_getElem? (i := 1227) (by decide +kernel), by decide +kernel⟩
theorem qI_X0_lowestGroup : Cond.instanceMethod yX0_lowestGroup ∈ lw_g := List.mem_filter.mpr ⟨List.mem_of_getElem? (i := 1240) (by decide +kernel), by decide +kernel⟩
theorem qI_X0_mostGroups : Cond.instanceMethod yX0_mostGroups ∈ lw_g := List.mem_filter.mpr ⟨List.mem_of_getElem? (i := 1211) (by decide +kernel), by decide +kernel⟩
theorem qI_X0_mostOf : Cond.instanceMethod yX0_mostOf ∈ lw_g := List.mem_filter.mpr ⟨List.mem_of_getElem? (i := 1223) (by decide +kernel), by decide +kernel⟩
theorem qI_X0_weighSets : Cond.instanceMethod yX0_weighSets ∈ lw_g := List.mem_filter.mpr ⟨List.mem_of_getElem? (i := 1216) (by decide +kernel), by decide +kernel⟩
theorem qI_X10_addCar : Cond.instanceMethod yX10_addCar ∈ lw_g := List.mem_filter.mpr ⟨List.mem_of_getElem? (i := 473) (by decide +kernel), by decide +kernel⟩
theorem qI_X10_carAt : Cond.instanceMethod yX10_carAt ∈ lw_g := List.mem_filter.mpr ⟨List.mem_of_getElem? (i := 1018) (by decide +kernel), by decide +kernel⟩
theorem qI_X10_carsOn : Cond.instanceMethod yX10_carsOn ∈ lw_g := List.mem_filter.mpr ⟨List.mem_of_getElem? (i := 1160) (by decide +kernel), by decide +kernel⟩
theorem qI_X10_changeFeet : Cond.instanceMethod yX10_changeFeet ∈ lw_g := List.mem_filter.mpr ⟨List.mem_of_getElem? (i := 912) (by decide +kernel), by decide +kernel⟩
theorem qI_X10_copyFrom : Cond.instanceMethod yX10_copyFrom ∈ lw_g := List.mem_filter.mpr ⟨List.mem_of_getElem? (i := 1064) (by decide +kernel), by decide +kernel⟩
theorem qI_X10_countCars : Cond.instanceMethod yX10_countCars ∈ lw_g := List.mem_filter.mpr ⟨List.mem_of_getElem? (i := 501) (by decide +kernel), by decide +kernel⟩
theorem qI_X10_countLines : Cond.instanceMethod yX10_countLines ∈ lw_g := List.mem_filter.mpr ⟨List.mem_of_getElem? (i := 1052) (by decide +kernel), by decide +kernel⟩
theorem qI_X10_countOn : Cond.instanceMethod yX10_countOn ∈ lw_g := List.mem_filter.mpr ⟨List.mem_of_getElem? (i := 481) (by decide +kernel), by decide +kernel⟩
theorem qI_X10_draw : Cond.instanceMethod yX10_draw ∈ lw_g := List.mem_filter.mpr ⟨List.mem_of_getElem? (i := 947) (by decide +kernel), by decide +kernel⟩
theorem qI_X10_drawnX : Cond.instanceMethod yX10_drawnX ∈ lw_g := List.mem_filter.mpr ⟨List.mem_of_getElem? (i := 951) (by decide +kernel), by decide +kernel⟩
theorem qI_X10_gainWheel : Cond.instanceMethod yX10_gainWheel ∈ lw_g := List.mem_filter.mpr ⟨List.mem_of_getElem? (i := 917) (by decide +kernel), by decide +kernel⟩
theorem qI_X10_hourCanPass : Cond.instanceMethod yX10_hourCanPass ∈ lw_g := List.mem_filter.mpr ⟨List.mem_of_getElem? (i := 939) (by decide +kernel), by decide +kernel⟩
theorem qI_X10_hourNow : Cond.instanceMethod yX10_hourNow ∈ lw_g := List.mem_filter.mpr ⟨List.mem_of_getElem? (i := 832) (by decide +kernel), by decide +kernel⟩
theorem qI_X10_init : Cond.instanceMethod yX10_init ∈ lw_g := List.mem_filter.mpr ⟨List.mem_of_getElem? (i := 174) (by decide +kernel), by decide +kernel⟩
theorem qI_X10_isWide : Cond.instanceMethod yX10_isWide ∈ lw_g := List.mem_filter.mpr ⟨List.mem_of_getElem? (i := 808) (by decide +kernel), by decide +kernel⟩
theorem qI_X10_lineTells : Cond.instanceMethod yX10_lineTells ∈ lw_g := List.mem_filter.mpr ⟨List.mem_of_getElem? (i := 1056) (by decide +kernel), by decide +kernel⟩
theorem qI_X10_moveUppermost : Cond.instanceMethod yX10_moveUppermost ∈ lw_g := List.mem_filter.mpr ⟨List.mem_of_getElem? (i := 886) (by decide +kernel), by decide +kernel⟩
theorem qI_X10_passHour : Cond.instanceMethod yX10_passHour ∈ lw_g := List.mem_filter.mpr ⟨List.mem_of_getElem? (i := 943) (by decide +kernel), by decide +kernel⟩
theorem qI_X10_placeOf : Cond.instanceMethod yX10_placeOf ∈ lw_g := List.mem_filter.mpr ⟨List.mem_of_getElem? (i := 1022) (by decide +kernel), by decide +kernel⟩
theorem qI_X10_placeOn : Cond.instanceMethod yX10_placeOn ∈ lw_g := List.mem_filter.mpr ⟨List.mem_of_getElem? (i := 1014) (by decide +kernel), by decide +kernel⟩
theorem qI_X10_putUppermost : Cond.instanceMethod yX10_putUppermost ∈ lw_g := List.mem_filter.mpr ⟨List.mem_of_getElem? (i := 478) (by decide +kernel), by decide +kernel⟩
theorem qI_X10_toldCars : Cond.instanceMethod yX10_toldCars ∈ lw_g := List.mem_filter.mpr ⟨List.mem_of_getElem? (i := 1122) (by decide +kernel), by decide +kernel⟩
theorem qI_X10_trackOf : Cond.instanceMethod yX10_trackOf ∈ lw_g := List.mem_filter.mpr ⟨List.mem_of_getElem? (i := 1010) (by decide +kernel), by decide +kernel⟩
theorem qI_X10_uppermost : Cond.instanceMethod yX10_uppermost ∈ lw_g := List.mem_filter.mpr ⟨List.mem_of_getElem? (i := 800) (by decide +kernel), by decide +kernel⟩
theorem qI_X10_wheelsOf : Cond.instanceMethod yX10_wheelsOf ∈ lw_g := List.mem_filter.mpr ⟨List.mem_of_getElem? (i := 904) (by decide +kernel), by decide +kernel⟩
theorem qI_X10_wornOf : Cond.instanceMethod yX10_wornOf ∈ lw_g := List.mem_filter.mpr ⟨List.mem_of_getElem? (i := 836) (by decide +kernel), by decide +kernel⟩
theorem qI_X10_wornTogether : Cond.instanceMethod yX10_wornTogether ∈ lw_g := List.mem_filter.mpr ⟨List.mem_of_getElem? (i := 1070) (by decide +kernel), by decide +kernel⟩
theorem qI_X10_write : Cond.instanceMethod yX10_write ∈ lw_g := List.mem_filter.mpr ⟨List.mem_of_getElem? (i := 892) (by decide +kernel), by decide +kernel⟩
theorem qI_X11_about : Cond.instanceMethod yX11_about ∈ lw_g := List.mem_filter.mpr ⟨List.mem_of_getElem? (i := 1366) (by decide +kernel), by decide +kernel⟩
theorem qI_X11_amiss : Cond.instanceMethod yX11_amiss ∈ lw_g := List.mem_filter.mpr ⟨List.mem_of_getElem? (i := 1333) (by decide +kernel), by decide +kernel⟩
theorem qI_X11_back : Cond.instanceMethod yX11_back ∈ lw_g := List.mem_filter.mpr ⟨List.mem_of_getElem? (i := 1362) (by decide +kernel), by decide +kernel⟩
theorem qI_X11_balance : Cond.instanceMethod yX11_balance ∈ lw_g := List.mem_filter.mpr ⟨List.mem_of_getElem? (i := 1202) (by decide +kernel), by decide +kernel⟩
theorem qI_X11_book : Cond.instanceMethod yX11_book ∈ lw_g := List.mem_filter.mpr ⟨List.mem_of_getElem? (i := 1048) (by decide +kernel), by decide +kernel⟩
theorem qI_X11_by : Cond.instanceMethod yX11_by ∈ lw_g := List.mem_filter.mpr ⟨List.mem_of_getElem? (i := 781) (by decide +kernel), by decide +kernel⟩
theorem qI_X11_car : Cond.instanceMethod yX11_car ∈ lw_g := List.mem_filter.mpr ⟨List.mem_of_getElem? (i := 462) (by decide +kernel), by decide +kernel⟩
theorem qI_X11_change : Cond.instanceMethod yX11_change ∈ lw_g := List.mem_filter.mpr ⟨List.mem_of_getElem? (i := 896) (by decide +kernel), by decide +kernel⟩
theorem qI_X11_crane : Cond.instanceMethod yX11_crane ∈ lw_g := List.mem_filter.mpr ⟨List.mem_of_getElem? (i := 1177) (by decide +kernel), by decide +kernel⟩
theorem qI_X11_end : Cond.instanceMethod yX11_end ∈ lw_g := List.mem_filter.mpr ⟨List.mem_of_getElem? (i := 513) (by decide +kernel), by decide +kernel⟩
theorem qI_X11_exploreFromNow : Cond.instanceMethod yX11_exploreFromNow ∈ lw_g := List.mem_filter.mpr ⟨List.mem_of_getElem? (i := 1084) (by decide +kernel), by decide +kernel⟩
theorem qI_X11_fastestOrder : Cond.instanceMethod yX11_fastestOrder ∈ lw_g := List.mem_filter.mpr ⟨List.mem_of_getElem? (i := 1182) (by decide +kernel), by decide +kernel⟩
theorem qI_X11_fault : Cond.instanceMethod yX11_fault ∈ lw_g := List.mem_filter.mpr ⟨List.mem_of_getElem? (i := 777) (by decide +kernel), by decide +kernel⟩
theorem qI_X11_feed : Cond.instanceMethod yX11_feed ∈ lw_g := List.mem_filter.mpr ⟨List.mem_of_getElem? (i := 505) (by decide +kernel), by decide +kernel⟩
theorem qI_X11_fitsAllSeen : Cond.instanceMethod yX11_fitsAllSeen ∈ lw_g := List.mem_filter.mpr ⟨List.mem_of_getElem? (i := 1281) (by decide +kernel), by decide +kernel⟩
theorem qI_X11_fitsSeen : Cond.instanceMethod yX11_fitsSeen ∈ lw_g := List.mem_filter.mpr ⟨List.mem_of_getElem? (i := 1285) (by decide +kernel), by decide +kernel⟩
theorem qI_X11_forbid : Cond.instanceMethod yX11_forbid ∈ lw_g := List.mem_filter.mpr ⟨List.mem_of_getElem? (i := 485) (by decide +kernel), by decide +kernel⟩
theorem qI_X11_foretold : Cond.instanceMethod yX11_foretold ∈ lw_g := List.mem_filter.mpr ⟨List.mem_of_getElem? (i := 1060) (by decide +kernel), by decide +kernel⟩
theorem qI_X11_group : Cond.instanceMethod yX11_group ∈ lw_g := List.mem_filter.mpr ⟨List.mem_of_getElem? (i := 1231) (by decide +kernel), by decide +kernel⟩
theorem qI_X11_heaviest : Cond.instanceMethod yX11_heaviest ∈ lw_g := List.mem_filter.mpr ⟨List.mem_of_getElem? (i := 1319) (by decide +kernel), by decide +kernel⟩
theorem qI_X11_histories : Cond.instanceMethod yX11_histories ∈ lw_g := List.mem_filter.mpr ⟨List.mem_of_getElem? (i := 1271) (by decide +kernel), by decide +kernel⟩
theorem qI_X11_hour : Cond.instanceMethod yX11_hour ∈ lw_g := List.mem_filter.mpr ⟨List.mem_of_getElem? (i := 930) (by decide +kernel), by decide +kernel⟩
theorem qI_X11_idle : Cond.instanceMethod yX11_idle ∈ lw_g := List.mem_filter.mpr ⟨List.mem_of_getElem? (i := 1191) (by decide +kernel), by decide +kernel⟩
theorem qI_X11_image : Cond.instanceMethod yX11_image ∈ lw_g := List.mem_filter.mpr ⟨List.mem_of_getElem? (i := 1342) (by decide +kernel), by decide +kernel⟩
theorem qI_X11_init : Cond.instanceMethod yX11_init ∈ lw_g := List.mem_filter.mpr ⟨List.mem_of_getElem? (i := 154) (by decide +kernel), by decide +kernel⟩
theorem qI_X11_is : Cond.instanceMethod yX11_is ∈ lw_g := List.mem_filter.mpr ⟨List.mem_of_getElem? (i := 1043) (by decide +kernel), by decide +kernel⟩
theorem qI_X11_isCar : Cond.instanceMethod yX11_isCar ∈ lw_g := List.mem_filter.mpr ⟨List.mem_of_getElem? (i := 498) (by decide +kernel), by decide +kernel⟩
theorem qI_X11_isText : Cond.instanceMethod yX11_isText ∈ lw_g := List.mem_filter.mpr ⟨List.mem_of_getElem? (i := 786) (by decide +kernel), by decide +kernel⟩
theorem qI_X11_lastMomentSeen : Cond.instanceMethod yX11_lastMomentSeen ∈ lw_g := List.mem_filter.mpr ⟨List.mem_of_getElem? (i := 1276) (by decide +kernel), by decide +kernel⟩
theorem qI_X11_late : Cond.instanceMethod yX11_late ∈ lw_g := List.mem_filter.mpr ⟨List.mem_of_getElem? (i := 1295) (by decide +kernel), by decide +kernel⟩
theorem qI_X11_law : Cond.instanceMethod yX11_law ∈ lw_g := List.mem_filter.mpr ⟨List.mem_of_getElem? (i := 1035) (by decide +kernel), by decide +kernel⟩
theorem qI_X11_ledger : Cond.instanceMethod yX11_ledger ∈ lw_g := List.mem_filter.mpr ⟨List.mem_of_getElem? (i := 1338) (by decide +kernel), by decide +kernel⟩
theorem qI_X11_lend : Cond.instanceMethod yX11_lend ∈ lw_g := List.mem_filter.mpr ⟨List.mem_of_getElem? (i := 922) (by decide +kernel), by decide +kernel⟩
theorem qI_X11_likely : Cond.instanceMethod yX11_likely ∈ lw_g := List.mem_filter.mpr ⟨List.mem_of_getElem? (i := 1299) (by decide +kernel), by decide +kernel⟩
theorem qI_X11_lowest : Cond.instanceMethod yX11_lowest ∈ lw_g := List.mem_filter.mpr ⟨List.mem_of_getElem? (i := 1173) (by decide +kernel), by decide +kernel⟩
theorem qI_X11_move : Cond.instanceMethod yX11_move ∈ lw_g := List.mem_filter.mpr ⟨List.mem_of_getElem? (i := 789) (by decide +kernel), by decide +kernel⟩
theorem qI_X11_of : Cond.instanceMethod yX11_of ∈ lw_g := List.mem_filter.mpr ⟨List.mem_of_getElem? (i := 1006) (by decide +kernel), by decide +kernel⟩
theorem qI_X11_order : Cond.instanceMethod yX11_order ∈ lw_g := List.mem_filter.mpr ⟨List.mem_of_getElem? (i := 1151) (by decide +kernel), by decide +kernel⟩
theorem qI_X11_owe : Cond.instanceMethod yX11_owe ∈ lw_g := List.mem_filter.mpr ⟨List.mem_of_getElem? (i := 1195) (by decide +kernel), by decide +kernel⟩
theorem qI_X11_played : Cond.instanceMethod yX11_played ∈ lw_g := List.mem_filter.mpr ⟨List.mem_of_getElem? (i := 956) (by decide +kernel), by decide +kernel⟩
theorem qI_X11_reach : Cond.instanceMethod yX11_reach ∈ lw_g := List.mem_filter.mpr ⟨List.mem_of_getElem? (i := 1147) (by decide +kernel), by decide +kernel⟩
theorem qI_X11_rows : Cond.instanceMethod yX11_rows ∈ lw_g := List.mem_filter.mpr ⟨List.mem_of_getElem? (i := 1155) (by decide +kernel), by decide +kernel⟩
theorem qI_X11_said : Cond.instanceMethod yX11_said ∈ lw_g := List.mem_filter.mpr ⟨List.mem_of_getElem? (i := 1307) (by decide +kernel), by decide +kernel⟩
theorem qI_X11_saysAllThatWasSaid : Cond.instanceMethod yX11_saysAllThatWasSaid ∈ lw_g := List.mem_filter.mpr ⟨List.mem_of_getElem? (i := 1316) (by decide +kernel), by decide +kernel⟩
theorem qI_X11_seen : Cond.instanceMethod yX11_seen ∈ lw_g := List.mem_filter.mpr ⟨List.mem_of_getElem? (i := 1267) (by decide +kernel), by decide +kernel⟩
theorem qI_X11_settled : Cond.instanceMethod yX11_settled ∈ lw_g := List.mem_filter.mpr ⟨List.mem_of_getElem? (i := 1207) (by decide +kernel), by decide +kernel⟩
theorem qI_X11_shunts : Cond.instanceMethod yX11_shunts ∈ lw_g := List.mem_filter.mpr ⟨List.mem_of_getElem? (i := 1079) (by decide +kernel), by decide +kernel⟩
theorem qI_X11_stock : Cond.instanceMethod yX11_stock ∈ lw_g := List.mem_filter.mpr ⟨List.mem_of_getElem? (i := 1255) (by decide +kernel), by decide +kernel⟩
theorem qI_X11_text : Cond.instanceMethod yX11_text ∈ lw_g := List.mem_filter.mpr ⟨List.mem_of_getElem? (i := 517) (by decide +kernel), by decide +kernel⟩
theorem qI_X11_times : Cond.instanceMethod yX11_times ∈ lw_g := List.mem_filter.mpr ⟨List.mem_of_getElem? (i := 493) (by decide +kernel), by decide +kernel⟩
theorem qI_X11_track : Cond.instanceMethod yX11_track ∈ lw_g := List.mem_filter.mpr ⟨List.mem_of_getElem? (i := 1029) (by decide +kernel), by decide +kernel⟩
theorem qI_X11_trip : Cond.instanceMethod yX11_trip ∈ lw_g := List.mem_filter.mpr ⟨List.mem_of_getElem? (i := 1243) (by decide +kernel), by decide +kernel⟩
theorem qI_X11_undo : Cond.instanceMethod yX11_undo ∈ lw_g := List.mem_filter.mpr ⟨List.mem_of_getElem? (i := 996) (by decide +kernel), by decide +kernel⟩
theorem qI_X11_want : Cond.instanceMethod yX11_want ∈ lw_g := List.mem_filter.mpr ⟨List.mem_of_getElem? (i := 1075) (by decide +kernel), by decide +kernel⟩
theorem qI_X11_wantedCode : Cond.instanceMethod yX11_wantedCode ∈ lw_g := List.mem_filter.mpr ⟨List.mem_of_getElem? (i := 1119) (by decide +kernel), by decide +kernel⟩
theorem qI_X11_wheelsOut : Cond.instanceMethod yX11_wheelsOut ∈ lw_g := List.mem_filter.mpr ⟨List.mem_of_getElem? (i := 1260) (by decide +kernel), by decide +kernel⟩
theorem qI_X11_whose : Cond.instanceMethod yX11_whose ∈ lw_g := List.mem_filter.mpr ⟨List.mem_of_getElem? (i := 1311) (by decide +kernel), by decide +kernel⟩
theorem qI_X11_worn : Cond.instanceMethod yX11_worn ∈ lw_g := List.mem_filter.mpr ⟨List.mem_of_getElem? (i := 1329) (by decide +kernel), by decide +kernel⟩
theorem qI_X11_years : Cond.instanceMethod yX11_years ∈ lw_g := List.mem_filter.mpr ⟨List.mem_of_getElem? (i := 982) (by decide +kernel), by decide +kernel⟩
theorem qI_X12_about : Cond.instanceMethod yX12_about ∈ lw_g := List.mem_filter.mpr ⟨List.mem_of_getElem? (i := 2070) (by decide +kernel), by decide +kernel⟩
theorem qI_X12_amiss : Cond.instanceMethod yX12_amiss ∈ lw_g := List.mem_filter.mpr ⟨List.mem_of_getElem? (i := 1876) (by decide +kernel), by decide +kernel⟩
theorem qI_X12_anew : Cond.instanceMethod yX12_anew ∈ lw_g := List.mem_filter.mpr ⟨List.mem_of_getElem? (i := 1801) (by decide +kernel), by decide +kernel⟩
theorem qI_X12_arePassed : Cond.instanceMethod yX12_arePassed ∈ lw_g := List.mem_filter.mpr ⟨List.mem_of_getElem? (i := 1789) (by decide +kernel), by decide +kernel⟩
theorem qI_X12_back : Cond.instanceMethod yX12_back ∈ lw_g := List.mem_filter.mpr ⟨List.mem_of_getElem? (i := 2066) (by decide +kernel), by decide +kernel⟩
theorem qI_X12_balance : Cond.instanceMethod yX12_balance ∈ lw_g := List.mem_filter.mpr ⟨List.mem_of_getElem? (i := 1982) (by decide +kernel), by decide +kernel⟩
theorem qI_X12_beginOne : Cond.instanceMethod yX12_beginOne ∈ lw_g := List.mem_filter.mpr ⟨List.mem_of_getElem? (i := 1647) (by decide +kernel), by decide +kernel⟩
theorem qI_X12_behindOne : Cond.instanceMethod yX12_behindOne ∈ lw_g := List.mem_filter.mpr ⟨List.mem_of_getElem? (i := 1608) (by decide +kernel), by decide +kernel⟩
theorem qI_X12_bestOrder : Cond.instanceMethod yX12_bestOrder ∈ lw_g := List.mem_filter.mpr ⟨List.mem_of_getElem? (i := 1964) (by decide +kernel), by decide +kernel⟩
theorem qI_X12_betweenOf : Cond.instanceMethod yX12_betweenOf ∈ lw_g := List.mem_filter.mpr ⟨List.mem_of_getElem? (i := 1612) (by decide +kernel), by decide +kernel⟩
theorem qI_X12_body : Cond.instanceMethod yX12_body ∈ lw_g := List.mem_filter.mpr ⟨List.mem_of_getElem? (i := 1588) (by decide +kernel), by decide +kernel⟩
theorem qI_X12_book : Cond.instanceMethod yX12_book ∈ lw_g := List.mem_filter.mpr ⟨List.mem_of_getElem? (i := 1852) (by decide +kernel), by decide +kernel⟩
theorem qI_X12_by : Cond.instanceMethod yX12_by ∈ lw_g := List.mem_filter.mpr ⟨List.mem_of_getElem? (i := 1670) (by decide +kernel), by decide +kernel⟩
theorem qI_X12_byteAt : Cond.instanceMethod yX12_byteAt ∈ lw_g := List.mem_filter.mpr ⟨List.mem_of_getElem? (i := 1539) (by decide +kernel), by decide +kernel⟩
theorem qI_X12_canChange : Cond.instanceMethod yX12_canChange ∈ lw_g := List.mem_filter.mpr ⟨List.mem_of_getElem? (i := 1765) (by decide +kernel), by decide +kernel⟩
theorem qI_X12_canLend : Cond.instanceMethod yX12_canLend ∈ lw_g := List.mem_filter.mpr ⟨List.mem_of_getElem? (i := 1781) (by decide +kernel), by decide +kernel⟩
theorem qI_X12_canMove : Cond.instanceMethod yX12_canMove ∈ lw_g := List.mem_filter.mpr ⟨List.mem_of_getElem? (i := 1683) (by decide +kernel), by decide +kernel⟩
theorem qI_X12_car : Cond.instanceMethod yX12_car ∈ lw_g := List.mem_filter.mpr ⟨List.mem_of_getElem? (i := 1487) (by decide +kernel), by decide +kernel⟩
theorem qI_X12_carOn : Cond.instanceMethod yX12_carOn ∈ lw_g := List.mem_filter.mpr ⟨List.mem_of_getElem? (i := 1694) (by decide +kernel), by decide +kernel⟩
theorem qI_X12_cars : Cond.instanceMethod yX12_cars ∈ lw_g := List.mem_filter.mpr ⟨List.mem_of_getElem? (i := 1915) (by decide +kernel), by decide +kernel⟩
theorem qI_X12_change : Cond.instanceMethod yX12_change ∈ lw_g := List.mem_filter.mpr ⟨List.mem_of_getElem? (i := 1760) (by decide +kernel), by decide +kernel⟩
theorem qI_X12_changeNow : Cond.instanceMethod yX12_changeNow ∈ lw_g := List.mem_filter.mpr ⟨List.mem_of_getElem? (i := 1773) (by decide +kernel), by decide +kernel⟩
theorem qI_X12_changesOf : Cond.instanceMethod yX12_changesOf ∈ lw_g := List.mem_filter.mpr ⟨List.mem_of_getElem? (i := 1769) (by decide +kernel), by decide +kernel⟩
theorem qI_X12_clause : Cond.instanceMethod yX12_clause ∈ lw_g := List.mem_filter.mpr ⟨List.mem_of_getElem? (i := 1554) (by decide +kernel), by decide +kernel⟩
theorem qI_X12_come : Cond.instanceMethod yX12_come ∈ lw_g := List.mem_filter.mpr ⟨List.mem_of_getElem? (i := 1495) (by decide +kernel), by decide +kernel⟩
theorem qI_X12_compareOf : Cond.instanceMethod yX12_compareOf ∈ lw_g := List.mem_filter.mpr ⟨List.mem_of_getElem? (i := 1631) (by decide +kernel), by decide +kernel⟩
theorem qI_X12_crane : Cond.instanceMethod yX12_crane ∈ lw_g := List.mem_filter.mpr ⟨List.mem_of_getElem? (i := 1959) (by decide +kernel), by decide +kernel⟩
theorem qI_X12_doneBy : Cond.instanceMethod yX12_doneBy ∈ lw_g := List.mem_filter.mpr ⟨List.mem_of_getElem? (i := 1968) (by decide +kernel), by decide +kernel⟩
theorem qI_X12_drawnBy : Cond.instanceMethod yX12_drawnBy ∈ lw_g := List.mem_filter.mpr ⟨List.mem_of_getElem? (i := 1797) (by decide +kernel), by decide +kernel⟩
theorem qI_X12_emit : Cond.instanceMethod yX12_emit ∈ lw_g := List.mem_filter.mpr ⟨List.mem_of_getElem? (i := 1639) (by decide +kernel), by decide +kernel⟩
theorem qI_X12_end : Cond.instanceMethod yX12_end ∈ lw_g := List.mem_filter.mpr ⟨List.mem_of_getElem? (i := 1522) (by decide +kernel), by decide +kernel⟩
theorem qI_X12_endOf : Cond.instanceMethod yX12_endOf ∈ lw_g := List.mem_filter.mpr ⟨List.mem_of_getElem? (i := 1935) (by decide +kernel), by decide +kernel⟩
theorem qI_X12_entry : Cond.instanceMethod yX12_entry ∈ lw_g := List.mem_filter.mpr ⟨List.mem_of_getElem? (i := 1857) (by decide +kernel), by decide +kernel⟩
theorem qI_X12_fault : Cond.instanceMethod yX12_fault ∈ lw_g := List.mem_filter.mpr ⟨List.mem_of_getElem? (i := 1666) (by decide +kernel), by decide +kernel⟩
theorem qI_X12_feed : Cond.instanceMethod yX12_feed ∈ lw_g := List.mem_filter.mpr ⟨List.mem_of_getElem? (i := 1514) (by decide +kernel), by decide +kernel⟩
theorem qI_X12_figure : Cond.instanceMethod yX12_figure ∈ lw_g := List.mem_filter.mpr ⟨List.mem_of_getElem? (i := 1596) (by decide +kernel), by decide +kernel⟩
theorem qI_X12_forbid : Cond.instanceMethod yX12_forbid ∈ lw_g := List.mem_filter.mpr ⟨List.mem_of_getElem? (i := 1498) (by decide +kernel), by decide +kernel⟩
theorem qI_X12_forbidOne : Cond.instanceMethod yX12_forbidOne ∈ lw_g := List.mem_filter.mpr ⟨List.mem_of_getElem? (i := 1503) (by decide +kernel), by decide +kernel⟩
theorem qI_X12_foretold : Cond.instanceMethod yX12_foretold ∈ lw_g := List.mem_filter.mpr ⟨List.mem_of_getElem? (i := 1880) (by decide +kernel), by decide +kernel⟩
theorem qI_X12_four : Cond.instanceMethod yX12_four ∈ lw_g := List.mem_filter.mpr ⟨List.mem_of_getElem? (i := 1519) (by decide +kernel), by decide +kernel⟩
theorem qI_X12_group : Cond.instanceMethod yX12_group ∈ lw_g := List.mem_filter.mpr ⟨List.mem_of_getElem? (i := 2002) (by decide +kernel), by decide +kernel⟩
theorem qI_X12_happens : Cond.instanceMethod yX12_happens ∈ lw_g := List.mem_filter.mpr ⟨List.mem_of_getElem? (i := 1825) (by decide +kernel), by decide +kernel⟩
theorem qI_X12_heaviest : Cond.instanceMethod yX12_heaviest ∈ lw_g := List.mem_filter.mpr ⟨List.mem_of_getElem? (i := 1864) (by decide +kernel), by decide +kernel⟩
theorem qI_X12_histories : Cond.instanceMethod yX12_histories ∈ lw_g := List.mem_filter.mpr ⟨List.mem_of_getElem? (i := 2026) (by decide +kernel), by decide +kernel⟩
theorem qI_X12_hour : Cond.instanceMethod yX12_hour ∈ lw_g := List.mem_filter.mpr ⟨List.mem_of_getElem? (i := 1784) (by decide +kernel), by decide +kernel⟩
theorem qI_X12_idle : Cond.instanceMethod yX12_idle ∈ lw_g := List.mem_filter.mpr ⟨List.mem_of_getElem? (i := 1971) (by decide +kernel), by decide +kernel⟩
theorem qI_X12_image : Cond.instanceMethod yX12_image ∈ lw_g := List.mem_filter.mpr ⟨List.mem_of_getElem? (i := 2062) (by decide +kernel), by decide +kernel⟩
theorem qI_X12_init : Cond.instanceMethod yX12_init ∈ lw_g := List.mem_filter.mpr ⟨List.mem_of_getElem? (i := 1372) (by decide +kernel), by decide +kernel⟩
theorem qI_X12_is : Cond.instanceMethod yX12_is ∈ lw_g := List.mem_filter.mpr ⟨List.mem_of_getElem? (i := 1848) (by decide +kernel), by decide +kernel⟩
theorem qI_X12_isAskAhead : Cond.instanceMethod yX12_isAskAhead ∈ lw_g := List.mem_filter.mpr ⟨List.mem_of_getElem? (i := 1663) (by decide +kernel), by decide +kernel⟩
theorem qI_X12_isCar : Cond.instanceMethod yX12_isCar ∈ lw_g := List.mem_filter.mpr ⟨List.mem_of_getElem? (i := 1511) (by decide +kernel), by decide +kernel⟩
theorem qI_X12_isChanges : Cond.instanceMethod yX12_isChanges ∈ lw_g := List.mem_filter.mpr ⟨List.mem_of_getElem? (i := 1578) (by decide +kernel), by decide +kernel⟩
theorem qI_X12_isCompared : Cond.instanceMethod yX12_isCompared ∈ lw_g := List.mem_filter.mpr ⟨List.mem_of_getElem? (i := 1624) (by decide +kernel), by decide +kernel⟩
theorem qI_X12_isForbidden : Cond.instanceMethod yX12_isForbidden ∈ lw_g := List.mem_filter.mpr ⟨List.mem_of_getElem? (i := 1698) (by decide +kernel), by decide +kernel⟩
theorem qI_X12_isHistory : Cond.instanceMethod yX12_isHistory ∈ lw_g := List.mem_filter.mpr ⟨List.mem_of_getElem? (i := 2031) (by decide +kernel), by decide +kernel⟩
theorem qI_X12_isOf : Cond.instanceMethod yX12_isOf ∈ lw_g := List.mem_filter.mpr ⟨List.mem_of_getElem? (i := 1655) (by decide +kernel), by decide +kernel⟩
theorem qI_X12_isOnTrack : Cond.instanceMethod yX12_isOnTrack ∈ lw_g := List.mem_filter.mpr ⟨List.mem_of_getElem? (i := 1951) (by decide +kernel), by decide +kernel⟩
theorem qI_X12_isPlayed : Cond.instanceMethod yX12_isPlayed ∈ lw_g := List.mem_filter.mpr ⟨List.mem_of_getElem? (i := 1812) (by decide +kernel), by decide +kernel⟩
theorem qI_X12_isSeenAt : Cond.instanceMethod yX12_isSeenAt ∈ lw_g := List.mem_filter.mpr ⟨List.mem_of_getElem? (i := 2035) (by decide +kernel), by decide +kernel⟩
theorem qI_X12_isShunted : Cond.instanceMethod yX12_isShunted ∈ lw_g := List.mem_filter.mpr ⟨List.mem_of_getElem? (i := 1931) (by decide +kernel), by decide +kernel⟩
theorem qI_X12_isThere : Cond.instanceMethod yX12_isThere ∈ lw_g := List.mem_filter.mpr ⟨List.mem_of_getElem? (i := 2039) (by decide +kernel), by decide +kernel⟩
theorem qI_X12_isWanted : Cond.instanceMethod yX12_isWanted ∈ lw_g := List.mem_filter.mpr ⟨List.mem_of_getElem? (i := 1923) (by decide +kernel), by decide +kernel⟩
theorem qI_X12_isWide : Cond.instanceMethod yX12_isWide ∈ lw_g := List.mem_filter.mpr ⟨List.mem_of_getElem? (i := 1702) (by decide +kernel), by decide +kernel⟩
theorem qI_X12_isWord : Cond.instanceMethod yX12_isWord ∈ lw_g := List.mem_filter.mpr ⟨List.mem_of_getElem? (i := 1574) (by decide +kernel), by decide +kernel⟩
theorem qI_X12_keep : Cond.instanceMethod yX12_keep ∈ lw_g := List.mem_filter.mpr ⟨List.mem_of_getElem? (i := 1749) (by decide +kernel), by decide +kernel⟩
theorem qI_X12_late : Cond.instanceMethod yX12_late ∈ lw_g := List.mem_filter.mpr ⟨List.mem_of_getElem? (i := 2042) (by decide +kernel), by decide +kernel⟩
theorem qI_X12_law : Cond.instanceMethod yX12_law ∈ lw_g := List.mem_filter.mpr ⟨List.mem_of_getElem? (i := 1844) (by decide +kernel), by decide +kernel⟩
theorem qI_X12_lawClause : Cond.instanceMethod yX12_lawClause ∈ lw_g := List.mem_filter.mpr ⟨List.mem_of_getElem? (i := 1600) (by decide +kernel), by decide +kernel⟩
theorem qI_X12_layGroups : Cond.instanceMethod yX12_layGroups ∈ lw_g := List.mem_filter.mpr ⟨List.mem_of_getElem? (i := 1992) (by decide +kernel), by decide +kernel⟩
theorem qI_X12_layRow : Cond.instanceMethod yX12_layRow ∈ lw_g := List.mem_filter.mpr ⟨List.mem_of_getElem? (i := 1892) (by decide +kernel), by decide +kernel⟩
theorem qI_X12_layRows : Cond.instanceMethod yX12_layRows ∈ lw_g := List.mem_filter.mpr ⟨List.mem_of_getElem? (i := 1947) (by decide +kernel), by decide +kernel⟩
theorem qI_X12_ledger : Cond.instanceMethod yX12_ledger ∈ lw_g := List.mem_filter.mpr ⟨List.mem_of_getElem? (i := 1860) (by decide +kernel), by decide +kernel⟩
theorem qI_X12_lend : Cond.instanceMethod yX12_lend ∈ lw_g := List.mem_filter.mpr ⟨List.mem_of_getElem? (i := 1776) (by decide +kernel), by decide +kernel⟩
theorem qI_X12_likely : Cond.instanceMethod yX12_likely ∈ lw_g := List.mem_filter.mpr ⟨List.mem_of_getElem? (i := 2046) (by decide +kernel), by decide +kernel⟩
theorem qI_X12_loadOf : Cond.instanceMethod yX12_loadOf ∈ lw_g := List.mem_filter.mpr ⟨List.mem_of_getElem? (i := 1869) (by decide +kernel), by decide +kernel⟩
theorem qI_X12_lowest : Cond.instanceMethod yX12_lowest ∈ lw_g := List.mem_filter.mpr ⟨List.mem_of_getElem? (i := 1955) (by decide +kernel), by decide +kernel⟩
theorem qI_X12_lowestGroup : Cond.instanceMethod yX12_lowestGroup ∈ lw_g := List.mem_filter.mpr ⟨List.mem_of_getElem? (i := 2007) (by decide +kernel), by decide +kernel⟩
theorem qI_X12_move : Cond.instanceMethod yX12_move ∈ lw_g := List.mem_filter.mpr ⟨List.mem_of_getElem? (i := 1678) (by decide +kernel), by decide +kernel⟩
theorem qI_X12_moveNow : Cond.instanceMethod yX12_moveNow ∈ lw_g := List.mem_filter.mpr ⟨List.mem_of_getElem? (i := 1753) (by decide +kernel), by decide +kernel⟩
theorem qI_X12_movesOf : Cond.instanceMethod yX12_movesOf ∈ lw_g := List.mem_filter.mpr ⟨List.mem_of_getElem? (i := 1706) (by decide +kernel), by decide +kernel⟩
theorem qI_X12_name : Cond.instanceMethod yX12_name ∈ lw_g := List.mem_filter.mpr ⟨List.mem_of_getElem? (i := 1710) (by decide +kernel), by decide +kernel⟩
theorem qI_X12_nameOf : Cond.instanceMethod yX12_nameOf ∈ lw_g := List.mem_filter.mpr ⟨List.mem_of_getElem? (i := 1651) (by decide +kernel), by decide +kernel⟩
theorem qI_X12_nextToken : Cond.instanceMethod yX12_nextToken ∈ lw_g := List.mem_filter.mpr ⟨List.mem_of_getElem? (i := 1535) (by decide +kernel), by decide +kernel⟩
theorem qI_X12_of : Cond.instanceMethod yX12_of ∈ lw_g := List.mem_filter.mpr ⟨List.mem_of_getElem? (i := 1828) (by decide +kernel), by decide +kernel⟩
theorem qI_X12_ofOne : Cond.instanceMethod yX12_ofOne ∈ lw_g := List.mem_filter.mpr ⟨List.mem_of_getElem? (i := 1722) (by decide +kernel), by decide +kernel⟩
theorem qI_X12_openAt : Cond.instanceMethod yX12_openAt ∈ lw_g := List.mem_filter.mpr ⟨List.mem_of_getElem? (i := 1620) (by decide +kernel), by decide +kernel⟩
theorem qI_X12_openNow : Cond.instanceMethod yX12_openNow ∈ lw_g := List.mem_filter.mpr ⟨List.mem_of_getElem? (i := 1616) (by decide +kernel), by decide +kernel⟩
theorem qI_X12_opened : Cond.instanceMethod yX12_opened ∈ lw_g := List.mem_filter.mpr ⟨List.mem_of_getElem? (i := 1659) (by decide +kernel), by decide +kernel⟩
theorem qI_X12_order : Cond.instanceMethod yX12_order ∈ lw_g := List.mem_filter.mpr ⟨List.mem_of_getElem? (i := 1884) (by decide +kernel), by decide +kernel⟩
theorem qI_X12_outOn : Cond.instanceMethod yX12_outOn ∈ lw_g := List.mem_filter.mpr ⟨List.mem_of_getElem? (i := 2019) (by decide +kernel), by decide +kernel⟩
theorem qI_X12_owe : Cond.instanceMethod yX12_owe ∈ lw_g := List.mem_filter.mpr ⟨List.mem_of_getElem? (i := 1975) (by decide +kernel), by decide +kernel⟩
theorem qI_X12_pair : Cond.instanceMethod yX12_pair ∈ lw_g := List.mem_filter.mpr ⟨List.mem_of_getElem? (i := 1592) (by decide +kernel), by decide +kernel⟩
theorem qI_X12_partOf : Cond.instanceMethod yX12_partOf ∈ lw_g := List.mem_filter.mpr ⟨List.mem_of_getElem? (i := 1643) (by decide +kernel), by decide +kernel⟩
theorem qI_X12_pass : Cond.instanceMethod yX12_pass ∈ lw_g := List.mem_filter.mpr ⟨List.mem_of_getElem? (i := 1793) (by decide +kernel), by decide +kernel⟩
theorem qI_X12_placeOf : Cond.instanceMethod yX12_placeOf ∈ lw_g := List.mem_filter.mpr ⟨List.mem_of_getElem? (i := 1837) (by decide +kernel), by decide +kernel⟩
theorem qI_X12_played : Cond.instanceMethod yX12_played ∈ lw_g := List.mem_filter.mpr ⟨List.mem_of_getElem? (i := 1807) (by decide +kernel), by decide +kernel⟩
theorem qI_X12_reach : Cond.instanceMethod yX12_reach ∈ lw_g := List.mem_filter.mpr ⟨List.mem_of_getElem? (i := 1902) (by decide +kernel), by decide +kernel⟩
theorem qI_X12_readText : Cond.instanceMethod yX12_readText ∈ lw_g := List.mem_filter.mpr ⟨List.mem_of_getElem? (i := 1531) (by decide +kernel), by decide +kernel⟩
theorem qI_X12_rows : Cond.instanceMethod yX12_rows ∈ lw_g := List.mem_filter.mpr ⟨List.mem_of_getElem? (i := 1942) (by decide +kernel), by decide +kernel⟩
theorem qI_X12_said : Cond.instanceMethod yX12_said ∈ lw_g := List.mem_filter.mpr ⟨List.mem_of_getElem? (i := 2054) (by decide +kernel), by decide +kernel⟩
theorem qI_X12_says : Cond.instanceMethod yX12_says ∈ lw_g := List.mem_filter.mpr ⟨List.mem_of_getElem? (i := 1714) (by decide +kernel), by decide +kernel⟩
theorem qI_X12_seen : Cond.instanceMethod yX12_seen ∈ lw_g := List.mem_filter.mpr ⟨List.mem_of_getElem? (i := 2022) (by decide +kernel), by decide +kernel⟩
theorem qI_X12_settle : Cond.instanceMethod yX12_settle ∈ lw_g := List.mem_filter.mpr ⟨List.mem_of_getElem? (i := 1635) (by decide +kernel), by decide +kernel⟩
theorem qI_X12_settled : Cond.instanceMethod yX12_settled ∈ lw_g := List.mem_filter.mpr ⟨List.mem_of_getElem? (i := 1987) (by decide +kernel), by decide +kernel⟩
theorem qI_X12_shunts : Cond.instanceMethod yX12_shunts ∈ lw_g := List.mem_filter.mpr ⟨List.mem_of_getElem? (i := 1938) (by decide +kernel), by decide +kernel⟩
theorem qI_X12_sortOf : Cond.instanceMethod yX12_sortOf ∈ lw_g := List.mem_filter.mpr ⟨List.mem_of_getElem? (i := 1558) (by decide +kernel), by decide +kernel⟩
theorem qI_X12_spread : Cond.instanceMethod yX12_spread ∈ lw_g := List.mem_filter.mpr ⟨List.mem_of_getElem? (i := 1907) (by decide +kernel), by decide +kernel⟩
theorem qI_X12_standOf : Cond.instanceMethod yX12_standOf ∈ lw_g := List.mem_filter.mpr ⟨List.mem_of_getElem? (i := 1919) (by decide +kernel), by decide +kernel⟩
theorem qI_X12_standSo : Cond.instanceMethod yX12_standSo ∈ lw_g := List.mem_filter.mpr ⟨List.mem_of_getElem? (i := 1927) (by decide +kernel), by decide +kernel⟩
theorem qI_X12_stock : Cond.instanceMethod yX12_stock ∈ lw_g := List.mem_filter.mpr ⟨List.mem_of_getElem? (i := 2014) (by decide +kernel), by decide +kernel⟩
theorem qI_X12_sumOf : Cond.instanceMethod yX12_sumOf ∈ lw_g := List.mem_filter.mpr ⟨List.mem_of_getElem? (i := 1999) (by decide +kernel), by decide +kernel⟩
theorem qI_X12_summed : Cond.instanceMethod yX12_summed ∈ lw_g := List.mem_filter.mpr ⟨List.mem_of_getElem? (i := 1604) (by decide +kernel), by decide +kernel⟩
theorem qI_X12_summedUp : Cond.instanceMethod yX12_summedUp ∈ lw_g := List.mem_filter.mpr ⟨List.mem_of_getElem? (i := 1718) (by decide +kernel), by decide +kernel⟩
theorem qI_X12_takeFrom : Cond.instanceMethod yX12_takeFrom ∈ lw_g := List.mem_filter.mpr ⟨List.mem_of_getElem? (i := 1911) (by decide +kernel), by decide +kernel⟩
theorem qI_X12_text : Cond.instanceMethod yX12_text ∈ lw_g := List.mem_filter.mpr ⟨List.mem_of_getElem? (i := 1526) (by decide +kernel), by decide +kernel⟩
theorem qI_X12_times : Cond.instanceMethod yX12_times ∈ lw_g := List.mem_filter.mpr ⟨List.mem_of_getElem? (i := 1506) (by decide +kernel), by decide +kernel⟩
theorem qI_X12_topLoad : Cond.instanceMethod yX12_topLoad ∈ lw_g := List.mem_filter.mpr ⟨List.mem_of_getElem? (i := 1727) (by decide +kernel), by decide +kernel⟩
theorem qI_X12_track : Cond.instanceMethod yX12_track ∈ lw_g := List.mem_filter.mpr ⟨List.mem_of_getElem? (i := 1840) (by decide +kernel), by decide +kernel⟩
theorem qI_X12_trackOf : Cond.instanceMethod yX12_trackOf ∈ lw_g := List.mem_filter.mpr ⟨List.mem_of_getElem? (i := 1833) (by decide +kernel), by decide +kernel⟩
theorem qI_X12_trip : Cond.instanceMethod yX12_trip ∈ lw_g := List.mem_filter.mpr ⟨List.mem_of_getElem? (i := 2010) (by decide +kernel), by decide +kernel⟩
theorem qI_X12_undo : Cond.instanceMethod yX12_undo ∈ lw_g := List.mem_filter.mpr ⟨List.mem_of_getElem? (i := 1674) (by decide +kernel), by decide +kernel⟩
theorem qI_X12_uppermost : Cond.instanceMethod yX12_uppermost ∈ lw_g := List.mem_filter.mpr ⟨List.mem_of_getElem? (i := 1690) (by decide +kernel), by decide +kernel⟩
theorem qI_X12_want : Cond.instanceMethod yX12_want ∈ lw_g := List.mem_filter.mpr ⟨List.mem_of_getElem? (i := 1898) (by decide +kernel), by decide +kernel⟩
theorem qI_X12_whose : Cond.instanceMethod yX12_whose ∈ lw_g := List.mem_filter.mpr ⟨List.mem_of_getElem? (i := 2058) (by decide +kernel), by decide +kernel⟩
theorem qI_X12_worn : Cond.instanceMethod yX12_worn ∈ lw_g := List.mem_filter.mpr ⟨List.mem_of_getElem? (i := 1872) (by decide +kernel), by decide +kernel⟩
theorem qI_X12_write : Cond.instanceMethod yX12_write ∈ lw_g := List.mem_filter.mpr ⟨List.mem_of_getElem? (i := 1757) (by decide +kernel), by decide +kernel⟩
theorem qI_X12_years : Cond.instanceMethod yX12_years ∈ lw_g := List.mem_filter.mpr ⟨List.mem_of_getElem? (i := 1820) (by decide +kernel), by decide +kernel⟩
theorem qI_X1_fillRow : Cond.instanceMethod yX1_fillRow ∈ lw_g := List.mem_filter.mpr ⟨List.mem_of_getElem? (i := 1126) (by decide +kernel), by decide +kernel⟩
theorem qI_X1_init : Cond.instanceMethod yX1_init ∈ lw_g := List.mem_filter.mpr ⟨List.mem_of_getElem? (i := 413) (by decide +kernel), by decide +kernel⟩
theorem qI_X1_mayStand : Cond.instanceMethod yX1_mayStand ∈ lw_g := List.mem_filter.mpr ⟨List.mem_of_getElem? (i := 1164) (by decide +kernel), by decide +kernel⟩
theorem qI_X1_timeOf : Cond.instanceMethod yX1_timeOf ∈ lw_g := List.mem_filter.mpr ⟨List.mem_of_getElem? (i := 1185) (by decide +kernel), by decide +kernel⟩
theorem qI_X2_addClause : Cond.instanceMethod yX2_addClause ∈ lw_g := List.mem_filter.mpr ⟨List.mem_of_getElem? (i := 737) (by decide +kernel), by decide +kernel⟩
theorem qI_X2_behindNumber : Cond.instanceMethod yX2_behindNumber ∈ lw_g := List.mem_filter.mpr ⟨List.mem_of_getElem? (i := 594) (by decide +kernel), by decide +kernel⟩
theorem qI_X2_behindWord : Cond.instanceMethod yX2_behindWord ∈ lw_g := List.mem_filter.mpr ⟨List.mem_of_getElem? (i := 534) (by decide +kernel), by decide +kernel⟩
theorem qI_X2_emit : Cond.instanceMethod yX2_emit ∈ lw_g := List.mem_filter.mpr ⟨List.mem_of_getElem? (i := 705) (by decide +kernel), by decide +kernel⟩
theorem qI_X2_expect : Cond.instanceMethod yX2_expect ∈ lw_g := List.mem_filter.mpr ⟨List.mem_of_getElem? (i := 717) (by decide +kernel), by decide +kernel⟩
theorem qI_X2_expectNumber : Cond.instanceMethod yX2_expectNumber ∈ lw_g := List.mem_filter.mpr ⟨List.mem_of_getElem? (i := 701) (by decide +kernel), by decide +kernel⟩
theorem qI_X2_fail : Cond.instanceMethod yX2_fail ∈ lw_g := List.mem_filter.mpr ⟨List.mem_of_getElem? (i := 677) (by decide +kernel), by decide +kernel⟩
theorem qI_X2_init : Cond.instanceMethod yX2_init ∈ lw_g := List.mem_filter.mpr ⟨List.mem_of_getElem? (i := 325) (by decide +kernel), by decide +kernel⟩
theorem qI_X2_nextToken : Cond.instanceMethod yX2_nextToken ∈ lw_g := List.mem_filter.mpr ⟨List.mem_of_getElem? (i := 681) (by decide +kernel), by decide +kernel⟩
theorem qI_X2_numberAt : Cond.instanceMethod yX2_numberAt ∈ lw_g := List.mem_filter.mpr ⟨List.mem_of_getElem? (i := 598) (by decide +kernel), by decide +kernel⟩
theorem qI_X2_opens : Cond.instanceMethod yX2_opens ∈ lw_g := List.mem_filter.mpr ⟨List.mem_of_getElem? (i := 713) (by decide +kernel), by decide +kernel⟩
theorem qI_X2_readAsk : Cond.instanceMethod yX2_readAsk ∈ lw_g := List.mem_filter.mpr ⟨List.mem_of_getElem? (i := 733) (by decide +kernel), by decide +kernel⟩
theorem qI_X2_readBoth : Cond.instanceMethod yX2_readBoth ∈ lw_g := List.mem_filter.mpr ⟨List.mem_of_getElem? (i := 729) (by decide +kernel), by decide +kernel⟩
theorem qI_X2_readChoice : Cond.instanceMethod yX2_readChoice ∈ lw_g := List.mem_filter.mpr ⟨List.mem_of_getElem? (i := 721) (by decide +kernel), by decide +kernel⟩
theorem qI_X2_readClause : Cond.instanceMethod yX2_readClause ∈ lw_g := List.mem_filter.mpr ⟨List.mem_of_getElem? (i := 673) (by decide +kernel), by decide +kernel⟩
theorem qI_X2_readDeed : Cond.instanceMethod yX2_readDeed ∈ lw_g := List.mem_filter.mpr ⟨List.mem_of_getElem? (i := 741) (by decide +kernel), by decide +kernel⟩
theorem qI_X2_readEither : Cond.instanceMethod yX2_readEither ∈ lw_g := List.mem_filter.mpr ⟨List.mem_of_getElem? (i := 725) (by decide +kernel), by decide +kernel⟩
theorem qI_X2_readLaw : Cond.instanceMethod yX2_readLaw ∈ lw_g := List.mem_filter.mpr ⟨List.mem_of_getElem? (i := 685) (by decide +kernel), by decide +kernel⟩
theorem qI_X2_readName : Cond.instanceMethod yX2_readName ∈ lw_g := List.mem_filter.mpr ⟨List.mem_of_getElem? (i := 709) (by decide +kernel), by decide +kernel⟩
theorem qI_X2_readOne : Cond.instanceMethod yX2_readOne ∈ lw_g := List.mem_filter.mpr ⟨List.mem_of_getElem? (i := 697) (by decide +kernel), by decide +kernel⟩
theorem qI_X2_readProduct : Cond.instanceMethod yX2_readProduct ∈ lw_g := List.mem_filter.mpr ⟨List.mem_of_getElem? (i := 693) (by decide +kernel), by decide +kernel⟩
theorem qI_X2_readSum : Cond.instanceMethod yX2_readSum ∈ lw_g := List.mem_filter.mpr ⟨List.mem_of_getElem? (i := 689) (by decide +kernel), by decide +kernel⟩
theorem qI_X2_readTape : Cond.instanceMethod yX2_readTape ∈ lw_g := List.mem_filter.mpr ⟨List.mem_of_getElem? (i := 521) (by decide +kernel), by decide +kernel⟩
theorem qI_X2_signAt : Cond.instanceMethod yX2_signAt ∈ lw_g := List.mem_filter.mpr ⟨List.mem_of_getElem? (i := 609) (by decide +kernel), by decide +kernel⟩
theorem qI_X2_splitTape : Cond.instanceMethod yX2_splitTape ∈ lw_g := List.mem_filter.mpr ⟨List.mem_of_getElem? (i := 526) (by decide +kernel), by decide +kernel⟩
theorem qI_X2_startsDouble : Cond.instanceMethod yX2_startsDouble ∈ lw_g := List.mem_filter.mpr ⟨List.mem_of_getElem? (i := 605) (by decide +kernel), by decide +kernel⟩
theorem qI_X2_takeFour : Cond.instanceMethod yX2_takeFour ∈ lw_g := List.mem_filter.mpr ⟨List.mem_of_getElem? (i := 509) (by decide +kernel), by decide +kernel⟩
theorem qI_X2_wordAt : Cond.instanceMethod yX2_wordAt ∈ lw_g := List.mem_filter.mpr ⟨List.mem_of_getElem? (i := 538) (by decide +kernel), by decide +kernel⟩
theorem qI_X3_init : Cond.instanceMethod yX3_init ∈ lw_g := List.mem_filter.mpr ⟨List.mem_of_getElem? (i := 298) (by decide +kernel), by decide +kernel⟩
theorem qI_X3_operate : Cond.instanceMethod yX3_operate ∈ lw_g := List.mem_filter.mpr ⟨List.mem_of_getElem? (i := 871) (by decide +kernel), by decide +kernel⟩
theorem qI_X3_pop : Cond.instanceMethod yX3_pop ∈ lw_g := List.mem_filter.mpr ⟨List.mem_of_getElem? (i := 875) (by decide +kernel), by decide +kernel⟩
theorem qI_X3_push : Cond.instanceMethod yX3_push ∈ lw_g := List.mem_filter.mpr ⟨List.mem_of_getElem? (i := 861) (by decide +kernel), by decide +kernel⟩
theorem qI_X3_valueOf : Cond.instanceMethod yX3_valueOf ∈ lw_g := List.mem_filter.mpr ⟨List.mem_of_getElem? (i := 867) (by decide +kernel), by decide +kernel⟩
theorem qI_X3_weigh : Cond.instanceMethod yX3_weigh ∈ lw_g := List.mem_filter.mpr ⟨List.mem_of_getElem? (i := 846) (by decide +kernel), by decide +kernel⟩
theorem qI_X4_codeBehind : Cond.instanceMethod yX4_codeBehind ∈ lw_g := List.mem_filter.mpr ⟨List.mem_of_getElem? (i := 1291) (by decide +kernel), by decide +kernel⟩
theorem qI_X4_countMovesTo : Cond.instanceMethod yX4_countMovesTo ∈ lw_g := List.mem_filter.mpr ⟨List.mem_of_getElem? (i := 1139) (by decide +kernel), by decide +kernel⟩
theorem qI_X4_explore : Cond.instanceMethod yX4_explore ∈ lw_g := List.mem_filter.mpr ⟨List.mem_of_getElem? (i := 1098) (by decide +kernel), by decide +kernel⟩
theorem qI_X4_findTops : Cond.instanceMethod yX4_findTops ∈ lw_g := List.mem_filter.mpr ⟨List.mem_of_getElem? (i := 1108) (by decide +kernel), by decide +kernel⟩
theorem qI_X4_init : Cond.instanceMethod yX4_init ∈ lw_g := List.mem_filter.mpr ⟨List.mem_of_getElem? (i := 381) (by decide +kernel), by decide +kernel⟩
theorem qI_X4_moveOnWayTo : Cond.instanceMethod yX4_moveOnWayTo ∈ lw_g := List.mem_filter.mpr ⟨List.mem_of_getElem? (i := 1143) (by decide +kernel), by decide +kernel⟩
theorem qI_X4_moved : Cond.instanceMethod yX4_moved ∈ lw_g := List.mem_filter.mpr ⟨List.mem_of_getElem? (i := 1115) (by decide +kernel), by decide +kernel⟩
theorem qI_X4_note : Cond.instanceMethod yX4_note ∈ lw_g := List.mem_filter.mpr ⟨List.mem_of_getElem? (i := 1104) (by decide +kernel), by decide +kernel⟩
theorem qI_X4_placeOfGoal : Cond.instanceMethod yX4_placeOfGoal ∈ lw_g := List.mem_filter.mpr ⟨List.mem_of_getElem? (i := 1135) (by decide +kernel), by decide +kernel⟩
theorem qI_X5_addCar : Cond.instanceMethod yX5_addCar ∈ lw_g := List.mem_filter.mpr ⟨List.mem_of_getElem? (i := 469) (by decide +kernel), by decide +kernel⟩
theorem qI_X5_copyFrom : Cond.instanceMethod yX5_copyFrom ∈ lw_g := List.mem_filter.mpr ⟨List.mem_of_getElem? (i := 1346) (by decide +kernel), by decide +kernel⟩
theorem qI_X5_init : Cond.instanceMethod yX5_init ∈ lw_g := List.mem_filter.mpr ⟨List.mem_of_getElem? (i := 168) (by decide +kernel), by decide +kernel⟩
theorem qI_X5_loadOfUppermost : Cond.instanceMethod yX5_loadOfUppermost ∈ lw_g := List.mem_filter.mpr ⟨List.mem_of_getElem? (i := 840) (by decide +kernel), by decide +kernel⟩
theorem qI_X5_loadOn : Cond.instanceMethod yX5_loadOn ∈ lw_g := List.mem_filter.mpr ⟨List.mem_of_getElem? (i := 1323) (by decide +kernel), by decide +kernel⟩
theorem qI_X5_mayStandBeside : Cond.instanceMethod yX5_mayStandBeside ∈ lw_g := List.mem_filter.mpr ⟨List.mem_of_getElem? (i := 812) (by decide +kernel), by decide +kernel⟩
theorem qI_X5_pairsThatMay : Cond.instanceMethod yX5_pairsThatMay ∈ lw_g := List.mem_filter.mpr ⟨List.mem_of_getElem? (i := 1092) (by decide +kernel), by decide +kernel⟩
theorem qI_X5_rulingText : Cond.instanceMethod yX5_rulingText ∈ lw_g := List.mem_filter.mpr ⟨List.mem_of_getElem? (i := 820) (by decide +kernel), by decide +kernel⟩
theorem qI_X5_setForbidden : Cond.instanceMethod yX5_setForbidden ∈ lw_g := List.mem_filter.mpr ⟨List.mem_of_getElem? (i := 489) (by decide +kernel), by decide +kernel⟩
theorem qI_X6_copyFrom : Cond.instanceMethod yX6_copyFrom ∈ lw_g := List.mem_filter.mpr ⟨List.mem_of_getElem? (i := 1351) (by decide +kernel), by decide +kernel⟩
theorem qI_X6_init : Cond.instanceMethod yX6_init ∈ lw_g := List.mem_filter.mpr ⟨List.mem_of_getElem? (i := 188) (by decide +kernel), by decide +kernel⟩
theorem qI_X6_keep : Cond.instanceMethod yX6_keep ∈ lw_g := List.mem_filter.mpr ⟨List.mem_of_getElem? (i := 881) (by decide +kernel), by decide +kernel⟩
theorem qI_X6_takeBack : Cond.instanceMethod yX6_takeBack ∈ lw_g := List.mem_filter.mpr ⟨List.mem_of_getElem? (i := 1000) (by decide +kernel), by decide +kernel⟩
theorem qI_X7_add : Cond.instanceMethod yX7_add ∈ lw_g := List.mem_filter.mpr ⟨List.mem_of_getElem? (i := 1251) (by decide +kernel), by decide +kernel⟩
theorem qI_X7_cell : Cond.instanceMethod yX7_cell ∈ lw_g := List.mem_filter.mpr ⟨List.mem_of_getElem? (i := 1263) (by decide +kernel), by decide +kernel⟩
theorem qI_X7_copyFrom : Cond.instanceMethod yX7_copyFrom ∈ lw_g := List.mem_filter.mpr ⟨List.mem_of_getElem? (i := 1356) (by decide +kernel), by decide +kernel⟩
theorem qI_X7_empty : Cond.instanceMethod yX7_empty ∈ lw_g := List.mem_filter.mpr ⟨List.mem_of_getElem? (i := 1247) (by decide +kernel), by decide +kernel⟩
theorem qI_X7_init : Cond.instanceMethod yX7_init ∈ lw_g := List.mem_filter.mpr ⟨List.mem_of_getElem? (i := 205) (by decide +kernel), by decide +kernel⟩
theorem qI_X8_clausePart : Cond.instanceMethod yX8_clausePart ∈ lw_g := List.mem_filter.mpr ⟨List.mem_of_getElem? (i := 968) (by decide +kernel), by decide +kernel⟩
theorem qI_X8_codeBehind : Cond.instanceMethod yX8_codeBehind ∈ lw_g := List.mem_filter.mpr ⟨List.mem_of_getElem? (i := 850) (by decide +kernel), by decide +kernel⟩
theorem qI_X8_codeFrom : Cond.instanceMethod yX8_codeFrom ∈ lw_g := List.mem_filter.mpr ⟨List.mem_of_getElem? (i := 855) (by decide +kernel), by decide +kernel⟩
theorem qI_X8_countClauses : Cond.instanceMethod yX8_countClauses ∈ lw_g := List.mem_filter.mpr ⟨List.mem_of_getElem? (i := 960) (by decide +kernel), by decide +kernel⟩
theorem qI_X8_hasLaw : Cond.instanceMethod yX8_hasLaw ∈ lw_g := List.mem_filter.mpr ⟨List.mem_of_getElem? (i := 824) (by decide +kernel), by decide +kernel⟩
theorem qI_X8_init : Cond.instanceMethod yX8_init ∈ lw_g := List.mem_filter.mpr ⟨List.mem_of_getElem? (i := 762) (by decide +kernel), by decide +kernel⟩
theorem qI_X9_beginYears : Cond.instanceMethod yX9_beginYears ∈ lw_g := List.mem_filter.mpr ⟨List.mem_of_getElem? (i := 986) (by decide +kernel), by decide +kernel⟩
theorem qI_X9_changesSays : Cond.instanceMethod yX9_changesSays ∈ lw_g := List.mem_filter.mpr ⟨List.mem_of_getElem? (i := 908) (by decide +kernel), by decide +kernel⟩
theorem qI_X9_feetFit : Cond.instanceMethod yX9_feetFit ∈ lw_g := List.mem_filter.mpr ⟨List.mem_of_getElem? (i := 805) (by decide +kernel), by decide +kernel⟩
theorem qI_X9_init : Cond.instanceMethod yX9_init ∈ lw_g := List.mem_filter.mpr ⟨List.mem_of_getElem? (i := 162) (by decide +kernel), by decide +kernel⟩
theorem qI_X9_lendWheels : Cond.instanceMethod yX9_lendWheels ∈ lw_g := List.mem_filter.mpr ⟨List.mem_of_getElem? (i := 926) (by decide +kernel), by decide +kernel⟩
theorem qI_X9_movesSays : Cond.instanceMethod yX9_movesSays ∈ lw_g := List.mem_filter.mpr ⟨List.mem_of_getElem? (i := 816) (by decide +kernel), by decide +kernel⟩
theorem qI_X9_nameCar : Cond.instanceMethod yX9_nameCar ∈ lw_g := List.mem_filter.mpr ⟨List.mem_of_getElem? (i := 829) (by decide +kernel), by decide +kernel⟩
theorem qI_X9_passHours : Cond.instanceMethod yX9_passHours ∈ lw_g := List.mem_filter.mpr ⟨List.mem_of_getElem? (i := 935) (by decide +kernel), by decide +kernel⟩
theorem qI_X9_passHoursThatCan : Cond.instanceMethod yX9_passHoursThatCan ∈ lw_g := List.mem_filter.mpr ⟨List.mem_of_getElem? (i := 978) (by decide +kernel), by decide +kernel⟩
theorem qI_X9_passYear : Cond.instanceMethod yX9_passYear ∈ lw_g := List.mem_filter.mpr ⟨List.mem_of_getElem? (i := 990) (by decide +kernel), by decide +kernel⟩
theorem qI_X9_playClause : Cond.instanceMethod yX9_playClause ∈ lw_g := List.mem_filter.mpr ⟨List.mem_of_getElem? (i := 964) (by decide +kernel), by decide +kernel⟩
theorem qI_X9_shift : Cond.instanceMethod yX9_shift ∈ lw_g := List.mem_filter.mpr ⟨List.mem_of_getElem? (i := 796) (by decide +kernel), by decide +kernel⟩
theorem qI_X9_swapFeet : Cond.instanceMethod yX9_swapFeet ∈ lw_g := List.mem_filter.mpr ⟨List.mem_of_getElem? (i := 900) (by decide +kernel), by decide +kernel⟩
theorem qK_RX11_278 : Cond.constantLong RX11 278 (Int64.ofInt (-1)) ∈ lw_g := List.mem_filter.mpr ⟨List.mem_of_getElem? (i := 1158) (by decide +kernel), by decide +kernel⟩
theorem qK_RX11_289 : Cond.constantLong RX11 289 (Int64.ofInt (120)) ∈ lw_g := List.mem_filter.mpr ⟨List.mem_of_getElem? (i := 1171) (by decide +kernel), by decide +kernel⟩
theorem qK_RX11_304 : Cond.constant RX11 304 (Int32.ofInt (-100000)) ∈ lw_g := List.mem_filter.mpr ⟨List.mem_of_getElem? (i := 1205) (by decide +kernel), by decide +kernel⟩
theorem qK_RX11_362 : Cond.constantLong RX11 362 (Int64.ofInt (10)) ∈ lw_g := List.mem_filter.mpr ⟨List.mem_of_getElem? (i := 1302) (by decide +kernel), by decide +kernel⟩
theorem qK_RX12_131 : Cond.constant RX12 131 (Int32.ofInt (99999)) ∈ lw_g := List.mem_filter.mpr ⟨List.mem_of_getElem? (i := 1544) (by decide +kernel), by decide +kernel⟩
theorem qK_RX12_139 : Cond.constantLong RX12 139 (Int64.ofInt (1152921504606846976)) ∈ lw_g := List.mem_filter.mpr ⟨List.mem_of_getElem? (i := 1548) (by decide +kernel), by decide +kernel⟩
theorem qK_RX12_268 : Cond.constantLong RX12 268 (Int64.ofInt (1000000)) ∈ lw_g := List.mem_filter.mpr ⟨List.mem_of_getElem? (i := 1736) (by decide +kernel), by decide +kernel⟩
theorem qK_RX12_270 : Cond.constantLong RX12 270 (Int64.ofInt (-1000000)) ∈ lw_g := List.mem_filter.mpr ⟨List.mem_of_getElem? (i := 1737) (by decide +kernel), by decide +kernel⟩
theorem qK_RX12_276 : Cond.constantLong RX12 276 (Int64.ofInt (3)) ∈ lw_g := List.mem_filter.mpr ⟨List.mem_of_getElem? (i := 1729) (by decide +kernel), by decide +kernel⟩
theorem qK_RX12_281 : Cond.constantLong RX12 281 (Int64.ofInt (2)) ∈ lw_g := List.mem_filter.mpr ⟨List.mem_of_getElem? (i := 1724) (by decide +kernel), by decide +kernel⟩
theorem qK_RX12_321 : Cond.constantLong RX12 321 (Int64.ofInt (607)) ∈ lw_g := List.mem_filter.mpr ⟨List.mem_of_getElem? (i := 1803) (by decide +kernel), by decide +kernel⟩
theorem qK_RX12_323 : Cond.constantLong RX12 323 (Int64.ofInt (479)) ∈ lw_g := List.mem_filter.mpr ⟨List.mem_of_getElem? (i := 1804) (by decide +kernel), by decide +kernel⟩
theorem qK_RX12_325 : Cond.constantLong RX12 325 (Int64.ofInt (30851)) ∈ lw_g := List.mem_filter.mpr ⟨List.mem_of_getElem? (i := 1805) (by decide +kernel), by decide +kernel⟩
theorem qK_RX12_447 : Cond.constantLong RX12 447 (Int64.ofInt (-1)) ∈ lw_g := List.mem_filter.mpr ⟨List.mem_of_getElem? (i := 1953) (by decide +kernel), by decide +kernel⟩
theorem qK_RX12_458 : Cond.constant RX12 458 (Int32.ofInt (-100000)) ∈ lw_g := List.mem_filter.mpr ⟨List.mem_of_getElem? (i := 1985) (by decide +kernel), by decide +kernel⟩
theorem qK_RX12_483 : Cond.constantLong RX12 483 (Int64.ofInt (10)) ∈ lw_g := List.mem_filter.mpr ⟨List.mem_of_getElem? (i := 2049) (by decide +kernel), by decide +kernel⟩
theorem qK_RX3_58 : Cond.constantLong RX3 58 (Int64.ofInt (1000000)) ∈ lw_g := List.mem_filter.mpr ⟨List.mem_of_getElem? (i := 863) (by decide +kernel), by decide +kernel⟩
theorem qK_RX3_60 : Cond.constantLong RX3 60 (Int64.ofInt (-1000000)) ∈ lw_g := List.mem_filter.mpr ⟨List.mem_of_getElem? (i := 864) (by decide +kernel), by decide +kernel⟩
theorem qM_RJ0_1059 : Cond.methodLink RJ0 1059 yJ3_checkIndex_8e157 ∈ lw_g := List.mem_filter.mpr ⟨List.mem_of_getElem? (i := 567) (by decide +kernel), by decide +kernel⟩
theorem qM_RJ0_335 : Cond.methodLink RJ0 335 yJ0_coder_7d493 ∈ lw_g := List.mem_filter.mpr ⟨List.mem_of_getElem? (i := 545) (by decide +kernel), by decide +kernel⟩
theorem qM_RJ0_492 : Cond.methodLink RJ0 492 yJ0_isLatin1_aae02 ∈ lw_g := List.mem_filter.mpr ⟨List.mem_of_getElem? (i := 555) (by decide +kernel), by decide +kernel⟩
theorem qM_RJ0_495 : Cond.methodLink RJ0 495 yJ1_charAt_3b067 ∈ lw_g := List.mem_filter.mpr ⟨List.mem_of_getElem? (i := 559) (by decide +kernel), by decide +kernel⟩
theorem qM_RJ0_505 : Cond.methodLink RJ0 505 yJ0_length_8abf5 ∈ lw_g := List.mem_filter.mpr ⟨List.mem_of_getElem? (i := 620) (by decide +kernel), by decide +kernel⟩
theorem qM_RJ0_633 : Cond.methodLink RJ0 633 yJ0_indexOf_7cf53 ∈ lw_g := List.mem_filter.mpr ⟨List.mem_of_getElem? (i := 616) (by decide +kernel), by decide +kernel⟩
theorem qM_RJ0_637 : Cond.methodLink RJ0 637 yJ1_indexOf_4cfef ∈ lw_g := List.mem_filter.mpr ⟨List.mem_of_getElem? (i := 621) (by decide +kernel), by decide +kernel⟩
theorem qM_RJ1_38 : Cond.methodLink RJ1 38 Lib.Math.min.name ∈ lw_g := List.mem_filter.mpr ⟨List.mem_of_getElem? (i := 628) (by decide +kernel), by decide +kernel⟩
theorem qM_RJ1_88 : Cond.methodLink RJ1 88 yJ1_canEncode_9a6ad ∈ lw_g := List.mem_filter.mpr ⟨List.mem_of_getElem? (i := 624) (by decide +kernel), by decide +kernel⟩
theorem qM_RJ1_9 : Cond.methodLink RJ1 9 yJ0_checkIndex_df160 ∈ lw_g := List.mem_filter.mpr ⟨List.mem_of_getElem? (i := 562) (by decide +kernel), by decide +kernel⟩
theorem qM_RJ1_92 : Cond.methodLink RJ1 92 Lib.Math.max.name ∈ lw_g := List.mem_filter.mpr ⟨List.mem_of_getElem? (i := 627) (by decide +kernel), by decide +kernel⟩
theorem qM_RJ1_95 : Cond.methodLink RJ1 95 yJ1_indexOfChar_4cfef ∈ lw_g := List.mem_filter.mpr ⟨List.mem_of_getElem? (i := 629) (by decide +kernel), by decide +kernel⟩
theorem qM_RJ7_150 : Cond.methodLink RJ7 150 arraycopyName ∈ lw_g := List.mem_filter.mpr ⟨List.mem_of_getElem? (i := 756) (by decide +kernel), by decide +kernel⟩
theorem qM_RJ7_304 : Cond.methodLink RJ7 304 Lib.Math.min.name ∈ lw_g := List.mem_filter.mpr ⟨List.mem_of_getElem? (i := 755) (by decide +kernel), by decide +kernel⟩
theorem qM_RJ7_316 : Cond.methodLink RJ7 316 ⟨"[I", "clone", "()Ljava/lang/Object;"⟩ ∈ lw_g := List.mem_filter.mpr ⟨List.mem_of_getElem? (i := 748) (by decide +kernel), by decide +kernel⟩
theorem qM_RL_100 : Cond.methodLink RL 100 yX12_book ∈ lw_g := List.mem_filter.mpr ⟨List.mem_of_getElem? (i := 1851) (by decide +kernel), by decide +kernel⟩
theorem qM_RL_101 : Cond.methodLink RL 101 yX11_foretold ∈ lw_g := List.mem_filter.mpr ⟨List.mem_of_getElem? (i := 1059) (by decide +kernel), by decide +kernel⟩
theorem qM_RL_104 : Cond.methodLink RL 104 yX12_foretold ∈ lw_g := List.mem_filter.mpr ⟨List.mem_of_getElem? (i := 1879) (by decide +kernel), by decide +kernel⟩
theorem qM_RL_105 : Cond.methodLink RL 105 yX11_want ∈ lw_g := List.mem_filter.mpr ⟨List.mem_of_getElem? (i := 1074) (by decide +kernel), by decide +kernel⟩
theorem qM_RL_108 : Cond.methodLink RL 108 yX12_want ∈ lw_g := List.mem_filter.mpr ⟨List.mem_of_getElem? (i := 1897) (by decide +kernel), by decide +kernel⟩
theorem qM_RL_109 : Cond.methodLink RL 109 yX11_shunts ∈ lw_g := List.mem_filter.mpr ⟨List.mem_of_getElem? (i := 1078) (by decide +kernel), by decide +kernel⟩
theorem qM_RL_112 : Cond.methodLink RL 112 yX12_shunts ∈ lw_g := List.mem_filter.mpr ⟨List.mem_of_getElem? (i := 1937) (by decide +kernel), by decide +kernel⟩
theorem qM_RL_113 : Cond.methodLink RL 113 yX11_reach ∈ lw_g := List.mem_filter.mpr ⟨List.mem_of_getElem? (i := 1146) (by decide +kernel), by decide +kernel⟩
theorem qM_RL_116 : Cond.methodLink RL 116 yX12_reach ∈ lw_g := List.mem_filter.mpr ⟨List.mem_of_getElem? (i := 1901) (by decide +kernel), by decide +kernel⟩
theorem qM_RL_117 : Cond.methodLink RL 117 yX11_order ∈ lw_g := List.mem_filter.mpr ⟨List.mem_of_getElem? (i := 1150) (by decide +kernel), by decide +kernel⟩
theorem qM_RL_12 : Cond.methodLink RL 12 yX12_init ∈ lw_g := List.mem_filter.mpr ⟨List.mem_of_getElem? (i := 1371) (by decide +kernel), by decide +kernel⟩
theorem qM_RL_120 : Cond.methodLink RL 120 yX12_order ∈ lw_g := List.mem_filter.mpr ⟨List.mem_of_getElem? (i := 1883) (by decide +kernel), by decide +kernel⟩
theorem qM_RL_121 : Cond.methodLink RL 121 yX11_rows ∈ lw_g := List.mem_filter.mpr ⟨List.mem_of_getElem? (i := 1154) (by decide +kernel), by decide +kernel⟩
theorem qM_RL_125 : Cond.methodLink RL 125 yX12_rows ∈ lw_g := List.mem_filter.mpr ⟨List.mem_of_getElem? (i := 1941) (by decide +kernel), by decide +kernel⟩
theorem qM_RL_126 : Cond.methodLink RL 126 yX11_lowest ∈ lw_g := List.mem_filter.mpr ⟨List.mem_of_getElem? (i := 1172) (by decide +kernel), by decide +kernel⟩
theorem qM_RL_129 : Cond.methodLink RL 129 yX12_lowest ∈ lw_g := List.mem_filter.mpr ⟨List.mem_of_getElem? (i := 1954) (by decide +kernel), by decide +kernel⟩
theorem qM_RL_13 : Cond.methodLink RL 13 yX11_car ∈ lw_g := List.mem_filter.mpr ⟨List.mem_of_getElem? (i := 461) (by decide +kernel), by decide +kernel⟩
theorem qM_RL_130 : Cond.methodLink RL 130 yX11_crane ∈ lw_g := List.mem_filter.mpr ⟨List.mem_of_getElem? (i := 1176) (by decide +kernel), by decide +kernel⟩
theorem qM_RL_134 : Cond.methodLink RL 134 yX12_crane ∈ lw_g := List.mem_filter.mpr ⟨List.mem_of_getElem? (i := 1958) (by decide +kernel), by decide +kernel⟩
theorem qM_RL_135 : Cond.methodLink RL 135 yX11_idle ∈ lw_g := List.mem_filter.mpr ⟨List.mem_of_getElem? (i := 1190) (by decide +kernel), by decide +kernel⟩
theorem qM_RL_138 : Cond.methodLink RL 138 yX12_idle ∈ lw_g := List.mem_filter.mpr ⟨List.mem_of_getElem? (i := 1970) (by decide +kernel), by decide +kernel⟩
theorem qM_RL_139 : Cond.methodLink RL 139 yX11_owe ∈ lw_g := List.mem_filter.mpr ⟨List.mem_of_getElem? (i := 1194) (by decide +kernel), by decide +kernel⟩
theorem qM_RL_142 : Cond.methodLink RL 142 yX12_owe ∈ lw_g := List.mem_filter.mpr ⟨List.mem_of_getElem? (i := 1974) (by decide +kernel), by decide +kernel⟩
theorem qM_RL_143 : Cond.methodLink RL 143 yX11_balance ∈ lw_g := List.mem_filter.mpr ⟨List.mem_of_getElem? (i := 1201) (by decide +kernel), by decide +kernel⟩
theorem qM_RL_146 : Cond.methodLink RL 146 yX12_balance ∈ lw_g := List.mem_filter.mpr ⟨List.mem_of_getElem? (i := 1981) (by decide +kernel), by decide +kernel⟩
theorem qM_RL_147 : Cond.methodLink RL 147 yX11_settled ∈ lw_g := List.mem_filter.mpr ⟨List.mem_of_getElem? (i := 1206) (by decide +kernel), by decide +kernel⟩
theorem qM_RL_150 : Cond.methodLink RL 150 yX12_settled ∈ lw_g := List.mem_filter.mpr ⟨List.mem_of_getElem? (i := 1986) (by decide +kernel), by decide +kernel⟩
theorem qM_RL_151 : Cond.methodLink RL 151 yX11_group ∈ lw_g := List.mem_filter.mpr ⟨List.mem_of_getElem? (i := 1230) (by decide +kernel), by decide +kernel⟩
theorem qM_RL_154 : Cond.methodLink RL 154 yX12_group ∈ lw_g := List.mem_filter.mpr ⟨List.mem_of_getElem? (i := 2001) (by decide +kernel), by decide +kernel⟩
theorem qM_RL_155 : Cond.methodLink RL 155 yX11_trip ∈ lw_g := List.mem_filter.mpr ⟨List.mem_of_getElem? (i := 1242) (by decide +kernel), by decide +kernel⟩
theorem qM_RL_159 : Cond.methodLink RL 159 yX12_trip ∈ lw_g := List.mem_filter.mpr ⟨List.mem_of_getElem? (i := 2009) (by decide +kernel), by decide +kernel⟩
theorem qM_RL_160 : Cond.methodLink RL 160 yX11_stock ∈ lw_g := List.mem_filter.mpr ⟨List.mem_of_getElem? (i := 1254) (by decide +kernel), by decide +kernel⟩
theorem qM_RL_163 : Cond.methodLink RL 163 yX12_stock ∈ lw_g := List.mem_filter.mpr ⟨List.mem_of_getElem? (i := 2013) (by decide +kernel), by decide +kernel⟩
theorem qM_RL_164 : Cond.methodLink RL 164 yX11_seen ∈ lw_g := List.mem_filter.mpr ⟨List.mem_of_getElem? (i := 1266) (by decide +kernel), by decide +kernel⟩
theorem qM_RL_167 : Cond.methodLink RL 167 yX12_seen ∈ lw_g := List.mem_filter.mpr ⟨List.mem_of_getElem? (i := 2021) (by decide +kernel), by decide +kernel⟩
theorem qM_RL_168 : Cond.methodLink RL 168 yX11_histories ∈ lw_g := List.mem_filter.mpr ⟨List.mem_of_getElem? (i := 1270) (by decide +kernel), by decide +kernel⟩
theorem qM_RL_17 : Cond.methodLink RL 17 yX12_car ∈ lw_g := List.mem_filter.mpr ⟨List.mem_of_getElem? (i := 1486) (by decide +kernel), by decide +kernel⟩
theorem qM_RL_171 : Cond.methodLink RL 171 yX12_histories ∈ lw_g := List.mem_filter.mpr ⟨List.mem_of_getElem? (i := 2025) (by decide +kernel), by decide +kernel⟩
theorem qM_RL_172 : Cond.methodLink RL 172 yX11_late ∈ lw_g := List.mem_filter.mpr ⟨List.mem_of_getElem? (i := 1294) (by decide +kernel), by decide +kernel⟩
theorem qM_RL_175 : Cond.methodLink RL 175 yX12_late ∈ lw_g := List.mem_filter.mpr ⟨List.mem_of_getElem? (i := 2041) (by decide +kernel), by decide +kernel⟩
theorem qM_RL_176 : Cond.methodLink RL 176 yX11_likely ∈ lw_g := List.mem_filter.mpr ⟨List.mem_of_getElem? (i := 1298) (by decide +kernel), by decide +kernel⟩
theorem qM_RL_18 : Cond.methodLink RL 18 yX11_forbid ∈ lw_g := List.mem_filter.mpr ⟨List.mem_of_getElem? (i := 484) (by decide +kernel), by decide +kernel⟩
theorem qM_RL_180 : Cond.methodLink RL 180 yX12_likely ∈ lw_g := List.mem_filter.mpr ⟨List.mem_of_getElem? (i := 2045) (by decide +kernel), by decide +kernel⟩
theorem qM_RL_181 : Cond.methodLink RL 181 yX11_said ∈ lw_g := List.mem_filter.mpr ⟨List.mem_of_getElem? (i := 1306) (by decide +kernel), by decide +kernel⟩
theorem qM_RL_184 : Cond.methodLink RL 184 yX12_said ∈ lw_g := List.mem_filter.mpr ⟨List.mem_of_getElem? (i := 2053) (by decide +kernel), by decide +kernel⟩
theorem qM_RL_185 : Cond.methodLink RL 185 yX11_whose ∈ lw_g := List.mem_filter.mpr ⟨List.mem_of_getElem? (i := 1310) (by decide +kernel), by decide +kernel⟩
theorem qM_RL_188 : Cond.methodLink RL 188 yX12_whose ∈ lw_g := List.mem_filter.mpr ⟨List.mem_of_getElem? (i := 2057) (by decide +kernel), by decide +kernel⟩
theorem qM_RL_189 : Cond.methodLink RL 189 yX11_heaviest ∈ lw_g := List.mem_filter.mpr ⟨List.mem_of_getElem? (i := 1318) (by decide +kernel), by decide +kernel⟩
theorem qM_RL_192 : Cond.methodLink RL 192 yX12_heaviest ∈ lw_g := List.mem_filter.mpr ⟨List.mem_of_getElem? (i := 1863) (by decide +kernel), by decide +kernel⟩
theorem qM_RL_193 : Cond.methodLink RL 193 yX11_worn ∈ lw_g := List.mem_filter.mpr ⟨List.mem_of_getElem? (i := 1328) (by decide +kernel), by decide +kernel⟩
theorem qM_RL_196 : Cond.methodLink RL 196 yX12_worn ∈ lw_g := List.mem_filter.mpr ⟨List.mem_of_getElem? (i := 1871) (by decide +kernel), by decide +kernel⟩
theorem qM_RL_197 : Cond.methodLink RL 197 yX11_amiss ∈ lw_g := List.mem_filter.mpr ⟨List.mem_of_getElem? (i := 1332) (by decide +kernel), by decide +kernel⟩
theorem qM_RL_200 : Cond.methodLink RL 200 yX12_amiss ∈ lw_g := List.mem_filter.mpr ⟨List.mem_of_getElem? (i := 1875) (by decide +kernel), by decide +kernel⟩
theorem qM_RL_201 : Cond.methodLink RL 201 yX11_ledger ∈ lw_g := List.mem_filter.mpr ⟨List.mem_of_getElem? (i := 1337) (by decide +kernel), by decide +kernel⟩
theorem qM_RL_204 : Cond.methodLink RL 204 yX12_ledger ∈ lw_g := List.mem_filter.mpr ⟨List.mem_of_getElem? (i := 1859) (by decide +kernel), by decide +kernel⟩
theorem qM_RL_205 : Cond.methodLink RL 205 yX11_image ∈ lw_g := List.mem_filter.mpr ⟨List.mem_of_getElem? (i := 1341) (by decide +kernel), by decide +kernel⟩
theorem qM_RL_208 : Cond.methodLink RL 208 yX12_image ∈ lw_g := List.mem_filter.mpr ⟨List.mem_of_getElem? (i := 2061) (by decide +kernel), by decide +kernel⟩
theorem qM_RL_209 : Cond.methodLink RL 209 yX11_back ∈ lw_g := List.mem_filter.mpr ⟨List.mem_of_getElem? (i := 1361) (by decide +kernel), by decide +kernel⟩
theorem qM_RL_212 : Cond.methodLink RL 212 yX12_back ∈ lw_g := List.mem_filter.mpr ⟨List.mem_of_getElem? (i := 2065) (by decide +kernel), by decide +kernel⟩
theorem qM_RL_213 : Cond.methodLink RL 213 yX11_about ∈ lw_g := List.mem_filter.mpr ⟨List.mem_of_getElem? (i := 1365) (by decide +kernel), by decide +kernel⟩
theorem qM_RL_216 : Cond.methodLink RL 216 yX12_about ∈ lw_g := List.mem_filter.mpr ⟨List.mem_of_getElem? (i := 2069) (by decide +kernel), by decide +kernel⟩
theorem qM_RL_22 : Cond.methodLink RL 22 yX12_forbid ∈ lw_g := List.mem_filter.mpr ⟨List.mem_of_getElem? (i := 1497) (by decide +kernel), by decide +kernel⟩
theorem qM_RL_23 : Cond.methodLink RL 23 yX11_times ∈ lw_g := List.mem_filter.mpr ⟨List.mem_of_getElem? (i := 492) (by decide +kernel), by decide +kernel⟩
theorem qM_RL_27 : Cond.methodLink RL 27 yX12_times ∈ lw_g := List.mem_filter.mpr ⟨List.mem_of_getElem? (i := 1505) (by decide +kernel), by decide +kernel⟩
theorem qM_RL_28 : Cond.methodLink RL 28 yX11_feed ∈ lw_g := List.mem_filter.mpr ⟨List.mem_of_getElem? (i := 504) (by decide +kernel), by decide +kernel⟩
theorem qM_RL_32 : Cond.methodLink RL 32 yX12_feed ∈ lw_g := List.mem_filter.mpr ⟨List.mem_of_getElem? (i := 1513) (by decide +kernel), by decide +kernel⟩
theorem qM_RL_33 : Cond.methodLink RL 33 yX11_end ∈ lw_g := List.mem_filter.mpr ⟨List.mem_of_getElem? (i := 512) (by decide +kernel), by decide +kernel⟩
theorem qM_RL_37 : Cond.methodLink RL 37 yX12_end ∈ lw_g := List.mem_filter.mpr ⟨List.mem_of_getElem? (i := 1521) (by decide +kernel), by decide +kernel⟩
theorem qM_RL_38 : Cond.methodLink RL 38 yX11_text ∈ lw_g := List.mem_filter.mpr ⟨List.mem_of_getElem? (i := 516) (by decide +kernel), by decide +kernel⟩
theorem qM_RL_42 : Cond.methodLink RL 42 yX12_text ∈ lw_g := List.mem_filter.mpr ⟨List.mem_of_getElem? (i := 1525) (by decide +kernel), by decide +kernel⟩
theorem qM_RL_43 : Cond.methodLink RL 43 yX11_fault ∈ lw_g := List.mem_filter.mpr ⟨List.mem_of_getElem? (i := 776) (by decide +kernel), by decide +kernel⟩
theorem qM_RL_46 : Cond.methodLink RL 46 yX12_fault ∈ lw_g := List.mem_filter.mpr ⟨List.mem_of_getElem? (i := 1665) (by decide +kernel), by decide +kernel⟩
theorem qM_RL_47 : Cond.methodLink RL 47 yX11_by ∈ lw_g := List.mem_filter.mpr ⟨List.mem_of_getElem? (i := 780) (by decide +kernel), by decide +kernel⟩
theorem qM_RL_51 : Cond.methodLink RL 51 yX12_by ∈ lw_g := List.mem_filter.mpr ⟨List.mem_of_getElem? (i := 1669) (by decide +kernel), by decide +kernel⟩
theorem qM_RL_52 : Cond.methodLink RL 52 yX11_move ∈ lw_g := List.mem_filter.mpr ⟨List.mem_of_getElem? (i := 788) (by decide +kernel), by decide +kernel⟩
theorem qM_RL_55 : Cond.methodLink RL 55 yX12_move ∈ lw_g := List.mem_filter.mpr ⟨List.mem_of_getElem? (i := 1677) (by decide +kernel), by decide +kernel⟩
theorem qM_RL_56 : Cond.methodLink RL 56 yX11_change ∈ lw_g := List.mem_filter.mpr ⟨List.mem_of_getElem? (i := 895) (by decide +kernel), by decide +kernel⟩
theorem qM_RL_59 : Cond.methodLink RL 59 yX12_change ∈ lw_g := List.mem_filter.mpr ⟨List.mem_of_getElem? (i := 1759) (by decide +kernel), by decide +kernel⟩
theorem qM_RL_60 : Cond.methodLink RL 60 yX11_lend ∈ lw_g := List.mem_filter.mpr ⟨List.mem_of_getElem? (i := 921) (by decide +kernel), by decide +kernel⟩
theorem qM_RL_64 : Cond.methodLink RL 64 yX12_lend ∈ lw_g := List.mem_filter.mpr ⟨List.mem_of_getElem? (i := 1775) (by decide +kernel), by decide +kernel⟩
theorem qM_RL_65 : Cond.methodLink RL 65 yX11_hour ∈ lw_g := List.mem_filter.mpr ⟨List.mem_of_getElem? (i := 929) (by decide +kernel), by decide +kernel⟩
theorem qM_RL_68 : Cond.methodLink RL 68 yX12_hour ∈ lw_g := List.mem_filter.mpr ⟨List.mem_of_getElem? (i := 1783) (by decide +kernel), by decide +kernel⟩
theorem qM_RL_69 : Cond.methodLink RL 69 yX11_played ∈ lw_g := List.mem_filter.mpr ⟨List.mem_of_getElem? (i := 955) (by decide +kernel), by decide +kernel⟩
theorem qM_RL_72 : Cond.methodLink RL 72 yX12_played ∈ lw_g := List.mem_filter.mpr ⟨List.mem_of_getElem? (i := 1806) (by decide +kernel), by decide +kernel⟩
theorem qM_RL_73 : Cond.methodLink RL 73 yX11_years ∈ lw_g := List.mem_filter.mpr ⟨List.mem_of_getElem? (i := 981) (by decide +kernel), by decide +kernel⟩
theorem qM_RL_76 : Cond.methodLink RL 76 yX12_years ∈ lw_g := List.mem_filter.mpr ⟨List.mem_of_getElem? (i := 1819) (by decide +kernel), by decide +kernel⟩
theorem qM_RL_77 : Cond.methodLink RL 77 yX11_undo ∈ lw_g := List.mem_filter.mpr ⟨List.mem_of_getElem? (i := 995) (by decide +kernel), by decide +kernel⟩
theorem qM_RL_80 : Cond.methodLink RL 80 yX12_undo ∈ lw_g := List.mem_filter.mpr ⟨List.mem_of_getElem? (i := 1673) (by decide +kernel), by decide +kernel⟩
theorem qM_RL_81 : Cond.methodLink RL 81 yX11_of ∈ lw_g := List.mem_filter.mpr ⟨List.mem_of_getElem? (i := 1005) (by decide +kernel), by decide +kernel⟩
theorem qM_RL_84 : Cond.methodLink RL 84 yX12_of ∈ lw_g := List.mem_filter.mpr ⟨List.mem_of_getElem? (i := 1827) (by decide +kernel), by decide +kernel⟩
theorem qM_RL_85 : Cond.methodLink RL 85 yX11_track ∈ lw_g := List.mem_filter.mpr ⟨List.mem_of_getElem? (i := 1028) (by decide +kernel), by decide +kernel⟩
theorem qM_RL_88 : Cond.methodLink RL 88 yX12_track ∈ lw_g := List.mem_filter.mpr ⟨List.mem_of_getElem? (i := 1839) (by decide +kernel), by decide +kernel⟩
theorem qM_RL_89 : Cond.methodLink RL 89 yX11_law ∈ lw_g := List.mem_filter.mpr ⟨List.mem_of_getElem? (i := 1034) (by decide +kernel), by decide +kernel⟩
theorem qM_RL_9 : Cond.methodLink RL 9 yX11_init ∈ lw_g := List.mem_filter.mpr ⟨List.mem_of_getElem? (i := 153) (by decide +kernel), by decide +kernel⟩
theorem qM_RL_92 : Cond.methodLink RL 92 yX12_law ∈ lw_g := List.mem_filter.mpr ⟨List.mem_of_getElem? (i := 1843) (by decide +kernel), by decide +kernel⟩
theorem qM_RL_93 : Cond.methodLink RL 93 yX11_is ∈ lw_g := List.mem_filter.mpr ⟨List.mem_of_getElem? (i := 1042) (by decide +kernel), by decide +kernel⟩
theorem qM_RL_96 : Cond.methodLink RL 96 yX12_is ∈ lw_g := List.mem_filter.mpr ⟨List.mem_of_getElem? (i := 1847) (by decide +kernel), by decide +kernel⟩
theorem qM_RL_97 : Cond.methodLink RL 97 yX11_book ∈ lw_g := List.mem_filter.mpr ⟨List.mem_of_getElem? (i := 1047) (by decide +kernel), by decide +kernel⟩
theorem qM_RX0_18 : Cond.methodLink RX0 18 yX0_weighSets ∈ lw_g := List.mem_filter.mpr ⟨List.mem_of_getElem? (i := 1214) (by decide +kernel), by decide +kernel⟩
theorem qM_RX0_22 : Cond.methodLink RX0 22 yX0_lowestGroup ∈ lw_g := List.mem_filter.mpr ⟨List.mem_of_getElem? (i := 1238) (by decide +kernel), by decide +kernel⟩
theorem qM_RX0_26 : Cond.methodLink RX0 26 yX0_sumOf ∈ lw_g := List.mem_filter.mpr ⟨List.mem_of_getElem? (i := 1218) (by decide +kernel), by decide +kernel⟩
theorem qM_RX0_3 : Cond.methodLink RX0 3 objectInit ∈ lw_g := List.mem_filter.mpr ⟨List.mem_of_getElem? (i := 426) (by decide +kernel), by decide +kernel⟩
theorem qM_RX0_30 : Cond.methodLink RX0 30 yX0_mostOf ∈ lw_g := List.mem_filter.mpr ⟨List.mem_of_getElem? (i := 1221) (by decide +kernel), by decide +kernel⟩
theorem qM_RX0_33 : Cond.methodLink RX0 33 yX0_isGroupOf ∈ lw_g := List.mem_filter.mpr ⟨List.mem_of_getElem? (i := 1225) (by decide +kernel), by decide +kernel⟩
theorem qM_RX0_37 : Cond.methodLink RX0 37 Lib.Math.max.name ∈ lw_g := List.mem_filter.mpr ⟨List.mem_of_getElem? (i := 1229) (by decide +kernel), by decide +kernel⟩
theorem qM_RX10_15 : Cond.methodLink RX10 15 arraycopyName ∈ lw_g := List.mem_filter.mpr ⟨List.mem_of_getElem? (i := 894) (by decide +kernel), by decide +kernel⟩
theorem qM_RX10_21 : Cond.methodLink RX10 21 yX10_wornOf ∈ lw_g := List.mem_filter.mpr ⟨List.mem_of_getElem? (i := 1073) (by decide +kernel), by decide +kernel⟩
theorem qM_RX10_25 : Cond.methodLink RX10 25 yX10_countOn ∈ lw_g := List.mem_filter.mpr ⟨List.mem_of_getElem? (i := 480) (by decide +kernel), by decide +kernel⟩
theorem qM_RX10_28 : Cond.methodLink RX10 28 yX10_carAt ∈ lw_g := List.mem_filter.mpr ⟨List.mem_of_getElem? (i := 1017) (by decide +kernel), by decide +kernel⟩
theorem qM_RX10_3 : Cond.methodLink RX10 3 objectInit ∈ lw_g := List.mem_filter.mpr ⟨List.mem_of_getElem? (i := 176) (by decide +kernel), by decide +kernel⟩
theorem qM_RX10_32 : Cond.methodLink RX10 32 yX10_placeOn ∈ lw_g := List.mem_filter.mpr ⟨List.mem_of_getElem? (i := 1013) (by decide +kernel), by decide +kernel⟩
theorem qM_RX10_35 : Cond.methodLink RX10 35 yX10_trackOf ∈ lw_g := List.mem_filter.mpr ⟨List.mem_of_getElem? (i := 1025) (by decide +kernel), by decide +kernel⟩
theorem qM_RX10_38 : Cond.methodLink RX10 38 yX10_putUppermost ∈ lw_g := List.mem_filter.mpr ⟨List.mem_of_getElem? (i := 476) (by decide +kernel), by decide +kernel⟩
theorem qM_RX10_42 : Cond.methodLink RX10 42 yX10_uppermost ∈ lw_g := List.mem_filter.mpr ⟨List.mem_of_getElem? (i := 889) (by decide +kernel), by decide +kernel⟩
theorem qM_RX10_45 : Cond.methodLink RX10 45 yX10_write ∈ lw_g := List.mem_filter.mpr ⟨List.mem_of_getElem? (i := 890) (by decide +kernel), by decide +kernel⟩
theorem qM_RX10_49 : Cond.methodLink RX10 49 yX10_isWide ∈ lw_g := List.mem_filter.mpr ⟨List.mem_of_getElem? (i := 915) (by decide +kernel), by decide +kernel⟩
theorem qM_RX10_53 : Cond.methodLink RX10 53 yX10_gainWheel ∈ lw_g := List.mem_filter.mpr ⟨List.mem_of_getElem? (i := 916) (by decide +kernel), by decide +kernel⟩
theorem qM_RX10_57 : Cond.methodLink RX10 57 Lib.Math.min.name ∈ lw_g := List.mem_filter.mpr ⟨List.mem_of_getElem? (i := 920) (by decide +kernel), by decide +kernel⟩
theorem qM_RX10_62 : Cond.methodLink RX10 62 yX10_drawnX ∈ lw_g := List.mem_filter.mpr ⟨List.mem_of_getElem? (i := 950) (by decide +kernel), by decide +kernel⟩
theorem qM_RX10_66 : Cond.methodLink RX10 66 yX10_draw ∈ lw_g := List.mem_filter.mpr ⟨List.mem_of_getElem? (i := 946) (by decide +kernel), by decide +kernel⟩
theorem qM_RX10_69 : Cond.methodLink RX10 69 yX10_countCars ∈ lw_g := List.mem_filter.mpr ⟨List.mem_of_getElem? (i := 954) (by decide +kernel), by decide +kernel⟩
theorem qM_RX11_1 : Cond.methodLink RX11 1 objectInit ∈ lw_g := List.mem_filter.mpr ⟨List.mem_of_getElem? (i := 156) (by decide +kernel), by decide +kernel⟩
theorem qM_RX11_103 : Cond.methodLink RX11 103 yX2_takeFour ∈ lw_g := List.mem_filter.mpr ⟨List.mem_of_getElem? (i := 508) (by decide +kernel), by decide +kernel⟩
theorem qM_RX11_107 : Cond.methodLink RX11 107 yX2_readTape ∈ lw_g := List.mem_filter.mpr ⟨List.mem_of_getElem? (i := 520) (by decide +kernel), by decide +kernel⟩
theorem qM_RX11_117 : Cond.methodLink RX11 117 yX11_isText ∈ lw_g := List.mem_filter.mpr ⟨List.mem_of_getElem? (i := 784) (by decide +kernel), by decide +kernel⟩
theorem qM_RX11_123 : Cond.methodLink RX11 123 yX11_isTrack ∈ lw_g := List.mem_filter.mpr ⟨List.mem_of_getElem? (i := 792) (by decide +kernel), by decide +kernel⟩
theorem qM_RX11_126 : Cond.methodLink RX11 126 yX9_shift ∈ lw_g := List.mem_filter.mpr ⟨List.mem_of_getElem? (i := 795) (by decide +kernel), by decide +kernel⟩
theorem qM_RX11_130 : Cond.methodLink RX11 130 yX9_swapFeet ∈ lw_g := List.mem_filter.mpr ⟨List.mem_of_getElem? (i := 899) (by decide +kernel), by decide +kernel⟩
theorem qM_RX11_134 : Cond.methodLink RX11 134 yX9_lendWheels ∈ lw_g := List.mem_filter.mpr ⟨List.mem_of_getElem? (i := 925) (by decide +kernel), by decide +kernel⟩
theorem qM_RX11_138 : Cond.methodLink RX11 138 yX10_hourNow ∈ lw_g := List.mem_filter.mpr ⟨List.mem_of_getElem? (i := 933) (by decide +kernel), by decide +kernel⟩
theorem qM_RX11_141 : Cond.methodLink RX11 141 yX9_passHours ∈ lw_g := List.mem_filter.mpr ⟨List.mem_of_getElem? (i := 934) (by decide +kernel), by decide +kernel⟩
theorem qM_RX11_145 : Cond.methodLink RX11 145 yX8_countClauses ∈ lw_g := List.mem_filter.mpr ⟨List.mem_of_getElem? (i := 959) (by decide +kernel), by decide +kernel⟩
theorem qM_RX11_150 : Cond.methodLink RX11 150 yX9_playClause ∈ lw_g := List.mem_filter.mpr ⟨List.mem_of_getElem? (i := 963) (by decide +kernel), by decide +kernel⟩
theorem qM_RX11_154 : Cond.methodLink RX11 154 yX9_beginYears ∈ lw_g := List.mem_filter.mpr ⟨List.mem_of_getElem? (i := 985) (by decide +kernel), by decide +kernel⟩
theorem qM_RX11_157 : Cond.methodLink RX11 157 yX9_passYear ∈ lw_g := List.mem_filter.mpr ⟨List.mem_of_getElem? (i := 989) (by decide +kernel), by decide +kernel⟩
theorem qM_RX11_164 : Cond.methodLink RX11 164 yX6_takeBack ∈ lw_g := List.mem_filter.mpr ⟨List.mem_of_getElem? (i := 999) (by decide +kernel), by decide +kernel⟩
theorem qM_RX11_179 : Cond.methodLink RX11 179 yX10_trackOf ∈ lw_g := List.mem_filter.mpr ⟨List.mem_of_getElem? (i := 1009) (by decide +kernel), by decide +kernel⟩
theorem qM_RX11_182 : Cond.methodLink RX11 182 yX10_placeOf ∈ lw_g := List.mem_filter.mpr ⟨List.mem_of_getElem? (i := 1021) (by decide +kernel), by decide +kernel⟩
theorem qM_RX11_185 : Cond.methodLink RX11 185 yX10_isWide ∈ lw_g := List.mem_filter.mpr ⟨List.mem_of_getElem? (i := 1026) (by decide +kernel), by decide +kernel⟩
theorem qM_RX11_188 : Cond.methodLink RX11 188 yX10_wornOf ∈ lw_g := List.mem_filter.mpr ⟨List.mem_of_getElem? (i := 1027) (by decide +kernel), by decide +kernel⟩
theorem qM_RX11_191 : Cond.methodLink RX11 191 yX10_countOn ∈ lw_g := List.mem_filter.mpr ⟨List.mem_of_getElem? (i := 1032) (by decide +kernel), by decide +kernel⟩
theorem qM_RX11_194 : Cond.methodLink RX11 194 yX10_carAt ∈ lw_g := List.mem_filter.mpr ⟨List.mem_of_getElem? (i := 1033) (by decide +kernel), by decide +kernel⟩
theorem qM_RX11_197 : Cond.methodLink RX11 197 yX10_uppermost ∈ lw_g := List.mem_filter.mpr ⟨List.mem_of_getElem? (i := 1038) (by decide +kernel), by decide +kernel⟩
theorem qM_RX11_200 : Cond.methodLink RX11 200 yX5_rulingText ∈ lw_g := List.mem_filter.mpr ⟨List.mem_of_getElem? (i := 1039) (by decide +kernel), by decide +kernel⟩
theorem qM_RX11_203 : Cond.methodLink RX11 203 yX9_changesSays ∈ lw_g := List.mem_filter.mpr ⟨List.mem_of_getElem? (i := 1040) (by decide +kernel), by decide +kernel⟩
theorem qM_RX11_207 : Cond.methodLink RX11 207 yX9_movesSays ∈ lw_g := List.mem_filter.mpr ⟨List.mem_of_getElem? (i := 1041) (by decide +kernel), by decide +kernel⟩
theorem qM_RX11_214 : Cond.methodLink RX11 214 yX10_wheelsOf ∈ lw_g := List.mem_filter.mpr ⟨List.mem_of_getElem? (i := 1046) (by decide +kernel), by decide +kernel⟩
theorem qM_RX11_217 : Cond.methodLink RX11 217 yX10_countLines ∈ lw_g := List.mem_filter.mpr ⟨List.mem_of_getElem? (i := 1051) (by decide +kernel), by decide +kernel⟩
theorem qM_RX11_220 : Cond.methodLink RX11 220 yX10_lineTells ∈ lw_g := List.mem_filter.mpr ⟨List.mem_of_getElem? (i := 1055) (by decide +kernel), by decide +kernel⟩
theorem qM_RX11_223 : Cond.methodLink RX11 223 yX10_copyFrom ∈ lw_g := List.mem_filter.mpr ⟨List.mem_of_getElem? (i := 1063) (by decide +kernel), by decide +kernel⟩
theorem qM_RX11_227 : Cond.methodLink RX11 227 yX10_hourCanPass ∈ lw_g := List.mem_filter.mpr ⟨List.mem_of_getElem? (i := 1067) (by decide +kernel), by decide +kernel⟩
theorem qM_RX11_231 : Cond.methodLink RX11 231 yX10_passHour ∈ lw_g := List.mem_filter.mpr ⟨List.mem_of_getElem? (i := 1068) (by decide +kernel), by decide +kernel⟩
theorem qM_RX11_234 : Cond.methodLink RX11 234 yX10_wornTogether ∈ lw_g := List.mem_filter.mpr ⟨List.mem_of_getElem? (i := 1069) (by decide +kernel), by decide +kernel⟩
theorem qM_RX11_240 : Cond.methodLink RX11 240 yX11_exploreFromNow ∈ lw_g := List.mem_filter.mpr ⟨List.mem_of_getElem? (i := 1082) (by decide +kernel), by decide +kernel⟩
theorem qM_RX11_243 : Cond.methodLink RX11 243 yX11_wantedCode ∈ lw_g := List.mem_filter.mpr ⟨List.mem_of_getElem? (i := 1117) (by decide +kernel), by decide +kernel⟩
theorem qM_RX11_246 : Cond.methodLink RX11 246 yX4_placeOfGoal ∈ lw_g := List.mem_filter.mpr ⟨List.mem_of_getElem? (i := 1134) (by decide +kernel), by decide +kernel⟩
theorem qM_RX11_249 : Cond.methodLink RX11 249 yX4_countMovesTo ∈ lw_g := List.mem_filter.mpr ⟨List.mem_of_getElem? (i := 1138) (by decide +kernel), by decide +kernel⟩
theorem qM_RX11_252 : Cond.methodLink RX11 252 yX4_moveOnWayTo ∈ lw_g := List.mem_filter.mpr ⟨List.mem_of_getElem? (i := 1142) (by decide +kernel), by decide +kernel⟩
theorem qM_RX11_258 : Cond.methodLink RX11 258 yX4_codeOf ∈ lw_g := List.mem_filter.mpr ⟨List.mem_of_getElem? (i := 1086) (by decide +kernel), by decide +kernel⟩
theorem qM_RX11_262 : Cond.methodLink RX11 262 yX5_pairsThatMay ∈ lw_g := List.mem_filter.mpr ⟨List.mem_of_getElem? (i := 1091) (by decide +kernel), by decide +kernel⟩
theorem qM_RX11_265 : Cond.methodLink RX11 265 yX4_explore ∈ lw_g := List.mem_filter.mpr ⟨List.mem_of_getElem? (i := 1097) (by decide +kernel), by decide +kernel⟩
theorem qM_RX11_269 : Cond.methodLink RX11 269 yX10_toldCars ∈ lw_g := List.mem_filter.mpr ⟨List.mem_of_getElem? (i := 1121) (by decide +kernel), by decide +kernel⟩
theorem qM_RX11_272 : Cond.methodLink RX11 272 yX1_fillRow ∈ lw_g := List.mem_filter.mpr ⟨List.mem_of_getElem? (i := 1125) (by decide +kernel), by decide +kernel⟩
theorem qM_RX11_280 : Cond.methodLink RX11 280 yX10_carsOn ∈ lw_g := List.mem_filter.mpr ⟨List.mem_of_getElem? (i := 1159) (by decide +kernel), by decide +kernel⟩
theorem qM_RX11_283 : Cond.methodLink RX11 283 yX1_mayStand ∈ lw_g := List.mem_filter.mpr ⟨List.mem_of_getElem? (i := 1163) (by decide +kernel), by decide +kernel⟩
theorem qM_RX11_286 : Cond.methodLink RX11 286 yX1_countRows ∈ lw_g := List.mem_filter.mpr ⟨List.mem_of_getElem? (i := 1168) (by decide +kernel), by decide +kernel⟩
theorem qM_RX11_291 : Cond.methodLink RX11 291 yX11_fastestOrder ∈ lw_g := List.mem_filter.mpr ⟨List.mem_of_getElem? (i := 1180) (by decide +kernel), by decide +kernel⟩
theorem qM_RX11_294 : Cond.methodLink RX11 294 yX1_timeOf ∈ lw_g := List.mem_filter.mpr ⟨List.mem_of_getElem? (i := 1184) (by decide +kernel), by decide +kernel⟩
theorem qM_RX11_298 : Cond.methodLink RX11 298 yX11_isRailway ∈ lw_g := List.mem_filter.mpr ⟨List.mem_of_getElem? (i := 1198) (by decide +kernel), by decide +kernel⟩
theorem qM_RX11_305 : Cond.methodLink RX11 305 yX0_mostGroups ∈ lw_g := List.mem_filter.mpr ⟨List.mem_of_getElem? (i := 1210) (by decide +kernel), by decide +kernel⟩
theorem qM_RX11_309 : Cond.methodLink RX11 309 yX0_groupOf ∈ lw_g := List.mem_filter.mpr ⟨List.mem_of_getElem? (i := 1234) (by decide +kernel), by decide +kernel⟩
theorem qM_RX11_317 : Cond.methodLink RX11 317 yX7_empty ∈ lw_g := List.mem_filter.mpr ⟨List.mem_of_getElem? (i := 1246) (by decide +kernel), by decide +kernel⟩
theorem qM_RX11_322 : Cond.methodLink RX11 322 yX7_add ∈ lw_g := List.mem_filter.mpr ⟨List.mem_of_getElem? (i := 1250) (by decide +kernel), by decide +kernel⟩
theorem qM_RX11_325 : Cond.methodLink RX11 325 yX11_wheelsOut ∈ lw_g := List.mem_filter.mpr ⟨List.mem_of_getElem? (i := 1258) (by decide +kernel), by decide +kernel⟩
theorem qM_RX11_331 : Cond.methodLink RX11 331 yX7_cell ∈ lw_g := List.mem_filter.mpr ⟨List.mem_of_getElem? (i := 1262) (by decide +kernel), by decide +kernel⟩
theorem qM_RX11_337 : Cond.methodLink RX11 337 yX11_lastMomentSeen ∈ lw_g := List.mem_filter.mpr ⟨List.mem_of_getElem? (i := 1274) (by decide +kernel), by decide +kernel⟩
theorem qM_RX11_340 : Cond.methodLink RX11 340 yX11_fitsAllSeen ∈ lw_g := List.mem_filter.mpr ⟨List.mem_of_getElem? (i := 1279) (by decide +kernel), by decide +kernel⟩
theorem qM_RX11_344 : Cond.methodLink RX11 344 Lib.Math.max.name ∈ lw_g := List.mem_filter.mpr ⟨List.mem_of_getElem? (i := 1278) (by decide +kernel), by decide +kernel⟩
theorem qM_RX11_349 : Cond.methodLink RX11 349 yX11_fitsSeen ∈ lw_g := List.mem_filter.mpr ⟨List.mem_of_getElem? (i := 1283) (by decide +kernel), by decide +kernel⟩
theorem qM_RX11_352 : Cond.methodLink RX11 352 yX4_codeBehind ∈ lw_g := List.mem_filter.mpr ⟨List.mem_of_getElem? (i := 1290) (by decide +kernel), by decide +kernel⟩
theorem qM_RX11_356 : Cond.methodLink RX11 356 yX4_trackIn ∈ lw_g := List.mem_filter.mpr ⟨List.mem_of_getElem? (i := 1287) (by decide +kernel), by decide +kernel⟩
theorem qM_RX11_364 : Cond.methodLink RX11 364 yX11_commonDivisor ∈ lw_g := List.mem_filter.mpr ⟨List.mem_of_getElem? (i := 1303) (by decide +kernel), by decide +kernel⟩
theorem qM_RX11_371 : Cond.methodLink RX11 371 yX11_saysAllThatWasSaid ∈ lw_g := List.mem_filter.mpr ⟨List.mem_of_getElem? (i := 1314) (by decide +kernel), by decide +kernel⟩
theorem qM_RX11_375 : Cond.methodLink RX11 375 yX5_loadOn ∈ lw_g := List.mem_filter.mpr ⟨List.mem_of_getElem? (i := 1322) (by decide +kernel), by decide +kernel⟩
theorem qM_RX11_378 : Cond.methodLink RX11 378 yX5_mayStandBeside ∈ lw_g := List.mem_filter.mpr ⟨List.mem_of_getElem? (i := 1336) (by decide +kernel), by decide +kernel⟩
theorem qM_RX11_381 : Cond.methodLink RX11 381 yX5_copyFrom ∈ lw_g := List.mem_filter.mpr ⟨List.mem_of_getElem? (i := 1345) (by decide +kernel), by decide +kernel⟩
theorem qM_RX11_57 : Cond.methodLink RX11 57 yX10_init ∈ lw_g := List.mem_filter.mpr ⟨List.mem_of_getElem? (i := 435) (by decide +kernel), by decide +kernel⟩
theorem qM_RX11_62 : Cond.methodLink RX11 62 yX11_within ∈ lw_g := List.mem_filter.mpr ⟨List.mem_of_getElem? (i := 465) (by decide +kernel), by decide +kernel⟩
theorem qM_RX11_69 : Cond.methodLink RX11 69 yX10_countCars ∈ lw_g := List.mem_filter.mpr ⟨List.mem_of_getElem? (i := 500) (by decide +kernel), by decide +kernel⟩
theorem qM_RX11_81 : Cond.methodLink RX11 81 yX5_addCar ∈ lw_g := List.mem_filter.mpr ⟨List.mem_of_getElem? (i := 468) (by decide +kernel), by decide +kernel⟩
theorem qM_RX11_85 : Cond.methodLink RX11 85 yX5_setForbidden ∈ lw_g := List.mem_filter.mpr ⟨List.mem_of_getElem? (i := 488) (by decide +kernel), by decide +kernel⟩
theorem qM_RX11_89 : Cond.methodLink RX11 89 yX11_isCar ∈ lw_g := List.mem_filter.mpr ⟨List.mem_of_getElem? (i := 496) (by decide +kernel), by decide +kernel⟩
theorem qM_RX12_1 : Cond.methodLink RX12 1 objectInit ∈ lw_g := List.mem_filter.mpr ⟨List.mem_of_getElem? (i := 1374) (by decide +kernel), by decide +kernel⟩
theorem qM_RX12_102 : Cond.methodLink RX12 102 yX12_isCar ∈ lw_g := List.mem_filter.mpr ⟨List.mem_of_getElem? (i := 1509) (by decide +kernel), by decide +kernel⟩
theorem qM_RX12_109 : Cond.methodLink RX12 109 yX12_four ∈ lw_g := List.mem_filter.mpr ⟨List.mem_of_getElem? (i := 1517) (by decide +kernel), by decide +kernel⟩
theorem qM_RX12_116 : Cond.methodLink RX12 116 yX12_byteAt ∈ lw_g := List.mem_filter.mpr ⟨List.mem_of_getElem? (i := 1537) (by decide +kernel), by decide +kernel⟩
theorem qM_RX12_125 : Cond.methodLink RX12 125 yX12_isFigure ∈ lw_g := List.mem_filter.mpr ⟨List.mem_of_getElem? (i := 1541) (by decide +kernel), by decide +kernel⟩
theorem qM_RX12_132 : Cond.methodLink RX12 132 yX12_isLetterByte ∈ lw_g := List.mem_filter.mpr ⟨List.mem_of_getElem? (i := 1545) (by decide +kernel), by decide +kernel⟩
theorem qM_RX12_141 : Cond.methodLink RX12 141 yX12_isSign ∈ lw_g := List.mem_filter.mpr ⟨List.mem_of_getElem? (i := 1549) (by decide +kernel), by decide +kernel⟩
theorem qM_RX12_144 : Cond.methodLink RX12 144 yX12_w2 ∈ lw_g := List.mem_filter.mpr ⟨List.mem_of_getElem? (i := 1569) (by decide +kernel), by decide +kernel⟩
theorem qM_RX12_148 : Cond.methodLink RX12 148 yX12_w3 ∈ lw_g := List.mem_filter.mpr ⟨List.mem_of_getElem? (i := 1566) (by decide +kernel), by decide +kernel⟩
theorem qM_RX12_152 : Cond.methodLink RX12 152 yX12_w4 ∈ lw_g := List.mem_filter.mpr ⟨List.mem_of_getElem? (i := 1563) (by decide +kernel), by decide +kernel⟩
theorem qM_RX12_156 : Cond.methodLink RX12 156 yX12_w5 ∈ lw_g := List.mem_filter.mpr ⟨List.mem_of_getElem? (i := 1560) (by decide +kernel), by decide +kernel⟩
theorem qM_RX12_166 : Cond.methodLink RX12 166 yX12_w6 ∈ lw_g := List.mem_filter.mpr ⟨List.mem_of_getElem? (i := 1580) (by decide +kernel), by decide +kernel⟩
theorem qM_RX12_176 : Cond.methodLink RX12 176 yX12_rank ∈ lw_g := List.mem_filter.mpr ⟨List.mem_of_getElem? (i := 1626) (by decide +kernel), by decide +kernel⟩
theorem qM_RX12_179 : Cond.methodLink RX12 179 yX12_emit ∈ lw_g := List.mem_filter.mpr ⟨List.mem_of_getElem? (i := 1637) (by decide +kernel), by decide +kernel⟩
theorem qM_RX12_185 : Cond.methodLink RX12 185 yX12_openAt ∈ lw_g := List.mem_filter.mpr ⟨List.mem_of_getElem? (i := 1618) (by decide +kernel), by decide +kernel⟩
theorem qM_RX12_189 : Cond.methodLink RX12 189 yX12_openNow ∈ lw_g := List.mem_filter.mpr ⟨List.mem_of_getElem? (i := 1614) (by decide +kernel), by decide +kernel⟩
theorem qM_RX12_192 : Cond.methodLink RX12 192 yX12_nextToken ∈ lw_g := List.mem_filter.mpr ⟨List.mem_of_getElem? (i := 1533) (by decide +kernel), by decide +kernel⟩
theorem qM_RX12_195 : Cond.methodLink RX12 195 yX12_nameOf ∈ lw_g := List.mem_filter.mpr ⟨List.mem_of_getElem? (i := 1649) (by decide +kernel), by decide +kernel⟩
theorem qM_RX12_198 : Cond.methodLink RX12 198 yX12_isOf ∈ lw_g := List.mem_filter.mpr ⟨List.mem_of_getElem? (i := 1653) (by decide +kernel), by decide +kernel⟩
theorem qM_RX12_204 : Cond.methodLink RX12 204 yX12_settle ∈ lw_g := List.mem_filter.mpr ⟨List.mem_of_getElem? (i := 1633) (by decide +kernel), by decide +kernel⟩
theorem qM_RX12_207 : Cond.methodLink RX12 207 yX12_opened ∈ lw_g := List.mem_filter.mpr ⟨List.mem_of_getElem? (i := 1657) (by decide +kernel), by decide +kernel⟩
theorem qM_RX12_210 : Cond.methodLink RX12 210 yX12_isWord ∈ lw_g := List.mem_filter.mpr ⟨List.mem_of_getElem? (i := 1572) (by decide +kernel), by decide +kernel⟩
theorem qM_RX12_214 : Cond.methodLink RX12 214 yX12_isAskAhead ∈ lw_g := List.mem_filter.mpr ⟨List.mem_of_getElem? (i := 1661) (by decide +kernel), by decide +kernel⟩
theorem qM_RX12_218 : Cond.methodLink RX12 218 yX12_isCompared ∈ lw_g := List.mem_filter.mpr ⟨List.mem_of_getElem? (i := 1622) (by decide +kernel), by decide +kernel⟩
theorem qM_RX12_221 : Cond.methodLink RX12 221 yX12_compareOf ∈ lw_g := List.mem_filter.mpr ⟨List.mem_of_getElem? (i := 1629) (by decide +kernel), by decide +kernel⟩
theorem qM_RX12_224 : Cond.methodLink RX12 224 yX12_betweenOf ∈ lw_g := List.mem_filter.mpr ⟨List.mem_of_getElem? (i := 1610) (by decide +kernel), by decide +kernel⟩
theorem qM_RX12_227 : Cond.methodLink RX12 227 yX12_partOf ∈ lw_g := List.mem_filter.mpr ⟨List.mem_of_getElem? (i := 1641) (by decide +kernel), by decide +kernel⟩
theorem qM_RX12_230 : Cond.methodLink RX12 230 yX12_behindOne ∈ lw_g := List.mem_filter.mpr ⟨List.mem_of_getElem? (i := 1606) (by decide +kernel), by decide +kernel⟩
theorem qM_RX12_233 : Cond.methodLink RX12 233 yX12_beginOne ∈ lw_g := List.mem_filter.mpr ⟨List.mem_of_getElem? (i := 1645) (by decide +kernel), by decide +kernel⟩
theorem qM_RX12_236 : Cond.methodLink RX12 236 yX12_summed ∈ lw_g := List.mem_filter.mpr ⟨List.mem_of_getElem? (i := 1602) (by decide +kernel), by decide +kernel⟩
theorem qM_RX12_239 : Cond.methodLink RX12 239 yX12_figure ∈ lw_g := List.mem_filter.mpr ⟨List.mem_of_getElem? (i := 1594) (by decide +kernel), by decide +kernel⟩
theorem qM_RX12_243 : Cond.methodLink RX12 243 yX12_pair ∈ lw_g := List.mem_filter.mpr ⟨List.mem_of_getElem? (i := 1590) (by decide +kernel), by decide +kernel⟩
theorem qM_RX12_247 : Cond.methodLink RX12 247 yX12_lawClause ∈ lw_g := List.mem_filter.mpr ⟨List.mem_of_getElem? (i := 1598) (by decide +kernel), by decide +kernel⟩
theorem qM_RX12_250 : Cond.methodLink RX12 250 yX12_isChanges ∈ lw_g := List.mem_filter.mpr ⟨List.mem_of_getElem? (i := 1576) (by decide +kernel), by decide +kernel⟩
theorem qM_RX12_253 : Cond.methodLink RX12 253 yX12_sortOf ∈ lw_g := List.mem_filter.mpr ⟨List.mem_of_getElem? (i := 1556) (by decide +kernel), by decide +kernel⟩
theorem qM_RX12_259 : Cond.methodLink RX12 259 yX12_body ∈ lw_g := List.mem_filter.mpr ⟨List.mem_of_getElem? (i := 1586) (by decide +kernel), by decide +kernel⟩
theorem qM_RX12_262 : Cond.methodLink RX12 262 yX12_clause ∈ lw_g := List.mem_filter.mpr ⟨List.mem_of_getElem? (i := 1552) (by decide +kernel), by decide +kernel⟩
theorem qM_RX12_265 : Cond.methodLink RX12 265 yX12_readText ∈ lw_g := List.mem_filter.mpr ⟨List.mem_of_getElem? (i := 1529) (by decide +kernel), by decide +kernel⟩
theorem qM_RX12_272 : Cond.methodLink RX12 272 yX12_clip ∈ lw_g := List.mem_filter.mpr ⟨List.mem_of_getElem? (i := 1733) (by decide +kernel), by decide +kernel⟩
theorem qM_RX12_278 : Cond.methodLink RX12 278 yX12_uppermost ∈ lw_g := List.mem_filter.mpr ⟨List.mem_of_getElem? (i := 1688) (by decide +kernel), by decide +kernel⟩
theorem qM_RX12_283 : Cond.methodLink RX12 283 yX12_topLoad ∈ lw_g := List.mem_filter.mpr ⟨List.mem_of_getElem? (i := 1725) (by decide +kernel), by decide +kernel⟩
theorem qM_RX12_286 : Cond.methodLink RX12 286 yX12_ofOne ∈ lw_g := List.mem_filter.mpr ⟨List.mem_of_getElem? (i := 1720) (by decide +kernel), by decide +kernel⟩
theorem qM_RX12_290 : Cond.methodLink RX12 290 yX12_two ∈ lw_g := List.mem_filter.mpr ⟨List.mem_of_getElem? (i := 1730) (by decide +kernel), by decide +kernel⟩
theorem qM_RX12_294 : Cond.methodLink RX12 294 yX12_isAsked ∈ lw_g := List.mem_filter.mpr ⟨List.mem_of_getElem? (i := 1738) (by decide +kernel), by decide +kernel⟩
theorem qM_RX12_298 : Cond.methodLink RX12 298 yX12_joined ∈ lw_g := List.mem_filter.mpr ⟨List.mem_of_getElem? (i := 1741) (by decide +kernel), by decide +kernel⟩
theorem qM_RX12_302 : Cond.methodLink RX12 302 yX12_summedUp ∈ lw_g := List.mem_filter.mpr ⟨List.mem_of_getElem? (i := 1716) (by decide +kernel), by decide +kernel⟩
theorem qM_RX12_305 : Cond.methodLink RX12 305 yX12_cut ∈ lw_g := List.mem_filter.mpr ⟨List.mem_of_getElem? (i := 1744) (by decide +kernel), by decide +kernel⟩
theorem qM_RX12_309 : Cond.methodLink RX12 309 yX12_isWide ∈ lw_g := List.mem_filter.mpr ⟨List.mem_of_getElem? (i := 1700) (by decide +kernel), by decide +kernel⟩
theorem qM_RX12_312 : Cond.methodLink RX12 312 yX12_name ∈ lw_g := List.mem_filter.mpr ⟨List.mem_of_getElem? (i := 1708) (by decide +kernel), by decide +kernel⟩
theorem qM_RX12_315 : Cond.methodLink RX12 315 yX12_says ∈ lw_g := List.mem_filter.mpr ⟨List.mem_of_getElem? (i := 1712) (by decide +kernel), by decide +kernel⟩
theorem qM_RX12_318 : Cond.methodLink RX12 318 yX12_anew ∈ lw_g := List.mem_filter.mpr ⟨List.mem_of_getElem? (i := 1799) (by decide +kernel), by decide +kernel⟩
theorem qM_RX12_327 : Cond.methodLink RX12 327 yX12_isTrack ∈ lw_g := List.mem_filter.mpr ⟨List.mem_of_getElem? (i := 1685) (by decide +kernel), by decide +kernel⟩
theorem qM_RX12_330 : Cond.methodLink RX12 330 yX12_isForbidden ∈ lw_g := List.mem_filter.mpr ⟨List.mem_of_getElem? (i := 1696) (by decide +kernel), by decide +kernel⟩
theorem qM_RX12_333 : Cond.methodLink RX12 333 yX12_movesOf ∈ lw_g := List.mem_filter.mpr ⟨List.mem_of_getElem? (i := 1704) (by decide +kernel), by decide +kernel⟩
theorem qM_RX12_336 : Cond.methodLink RX12 336 yX12_write ∈ lw_g := List.mem_filter.mpr ⟨List.mem_of_getElem? (i := 1755) (by decide +kernel), by decide +kernel⟩
theorem qM_RX12_340 : Cond.methodLink RX12 340 yX12_changesOf ∈ lw_g := List.mem_filter.mpr ⟨List.mem_of_getElem? (i := 1767) (by decide +kernel), by decide +kernel⟩
theorem qM_RX12_343 : Cond.methodLink RX12 343 yX12_drawnBy ∈ lw_g := List.mem_filter.mpr ⟨List.mem_of_getElem? (i := 1795) (by decide +kernel), by decide +kernel⟩
theorem qM_RX12_349 : Cond.methodLink RX12 349 yX12_canMove ∈ lw_g := List.mem_filter.mpr ⟨List.mem_of_getElem? (i := 1681) (by decide +kernel), by decide +kernel⟩
theorem qM_RX12_352 : Cond.methodLink RX12 352 yX12_keep ∈ lw_g := List.mem_filter.mpr ⟨List.mem_of_getElem? (i := 1747) (by decide +kernel), by decide +kernel⟩
theorem qM_RX12_355 : Cond.methodLink RX12 355 yX12_moveNow ∈ lw_g := List.mem_filter.mpr ⟨List.mem_of_getElem? (i := 1751) (by decide +kernel), by decide +kernel⟩
theorem qM_RX12_358 : Cond.methodLink RX12 358 yX12_canChange ∈ lw_g := List.mem_filter.mpr ⟨List.mem_of_getElem? (i := 1763) (by decide +kernel), by decide +kernel⟩
theorem qM_RX12_361 : Cond.methodLink RX12 361 yX12_changeNow ∈ lw_g := List.mem_filter.mpr ⟨List.mem_of_getElem? (i := 1771) (by decide +kernel), by decide +kernel⟩
theorem qM_RX12_364 : Cond.methodLink RX12 364 yX12_canLend ∈ lw_g := List.mem_filter.mpr ⟨List.mem_of_getElem? (i := 1779) (by decide +kernel), by decide +kernel⟩
theorem qM_RX12_367 : Cond.methodLink RX12 367 yX12_pass ∈ lw_g := List.mem_filter.mpr ⟨List.mem_of_getElem? (i := 1791) (by decide +kernel), by decide +kernel⟩
theorem qM_RX12_370 : Cond.methodLink RX12 370 yX12_arePassed ∈ lw_g := List.mem_filter.mpr ⟨List.mem_of_getElem? (i := 1787) (by decide +kernel), by decide +kernel⟩
theorem qM_RX12_373 : Cond.methodLink RX12 373 yX12_car ∈ lw_g := List.mem_filter.mpr ⟨List.mem_of_getElem? (i := 1814) (by decide +kernel), by decide +kernel⟩
theorem qM_RX12_376 : Cond.methodLink RX12 376 yX12_forbid ∈ lw_g := List.mem_filter.mpr ⟨List.mem_of_getElem? (i := 1815) (by decide +kernel), by decide +kernel⟩
theorem qM_RX12_380 : Cond.methodLink RX12 380 yX12_move ∈ lw_g := List.mem_filter.mpr ⟨List.mem_of_getElem? (i := 1816) (by decide +kernel), by decide +kernel⟩
theorem qM_RX12_383 : Cond.methodLink RX12 383 yX12_change ∈ lw_g := List.mem_filter.mpr ⟨List.mem_of_getElem? (i := 1817) (by decide +kernel), by decide +kernel⟩
theorem qM_RX12_386 : Cond.methodLink RX12 386 yX12_lend ∈ lw_g := List.mem_filter.mpr ⟨List.mem_of_getElem? (i := 1818) (by decide +kernel), by decide +kernel⟩
theorem qM_RX12_389 : Cond.methodLink RX12 389 yX12_isPlayed ∈ lw_g := List.mem_filter.mpr ⟨List.mem_of_getElem? (i := 1810) (by decide +kernel), by decide +kernel⟩
theorem qM_RX12_392 : Cond.methodLink RX12 392 yX12_happens ∈ lw_g := List.mem_filter.mpr ⟨List.mem_of_getElem? (i := 1823) (by decide +kernel), by decide +kernel⟩
theorem qM_RX12_395 : Cond.methodLink RX12 395 yX12_placeOf ∈ lw_g := List.mem_filter.mpr ⟨List.mem_of_getElem? (i := 1835) (by decide +kernel), by decide +kernel⟩
theorem qM_RX12_398 : Cond.methodLink RX12 398 yX12_entry ∈ lw_g := List.mem_filter.mpr ⟨List.mem_of_getElem? (i := 1855) (by decide +kernel), by decide +kernel⟩
theorem qM_RX12_401 : Cond.methodLink RX12 401 yX12_loadOf ∈ lw_g := List.mem_filter.mpr ⟨List.mem_of_getElem? (i := 1867) (by decide +kernel), by decide +kernel⟩
theorem qM_RX12_404 : Cond.methodLink RX12 404 yX12_factorial ∈ lw_g := List.mem_filter.mpr ⟨List.mem_of_getElem? (i := 1894) (by decide +kernel), by decide +kernel⟩
theorem qM_RX12_407 : Cond.methodLink RX12 407 yX12_isOrder ∈ lw_g := List.mem_filter.mpr ⟨List.mem_of_getElem? (i := 1887) (by decide +kernel), by decide +kernel⟩
theorem qM_RX12_410 : Cond.methodLink RX12 410 yX12_layRow ∈ lw_g := List.mem_filter.mpr ⟨List.mem_of_getElem? (i := 1890) (by decide +kernel), by decide +kernel⟩
theorem qM_RX12_413 : Cond.methodLink RX12 413 yX12_cars ∈ lw_g := List.mem_filter.mpr ⟨List.mem_of_getElem? (i := 1913) (by decide +kernel), by decide +kernel⟩
theorem qM_RX12_416 : Cond.methodLink RX12 416 yX12_endOf ∈ lw_g := List.mem_filter.mpr ⟨List.mem_of_getElem? (i := 1933) (by decide +kernel), by decide +kernel⟩
theorem qM_RX12_419 : Cond.methodLink RX12 419 yX12_takeFrom ∈ lw_g := List.mem_filter.mpr ⟨List.mem_of_getElem? (i := 1909) (by decide +kernel), by decide +kernel⟩
theorem qM_RX12_423 : Cond.methodLink RX12 423 yX12_standOf ∈ lw_g := List.mem_filter.mpr ⟨List.mem_of_getElem? (i := 1917) (by decide +kernel), by decide +kernel⟩
theorem qM_RX12_426 : Cond.methodLink RX12 426 yX12_isWanted ∈ lw_g := List.mem_filter.mpr ⟨List.mem_of_getElem? (i := 1921) (by decide +kernel), by decide +kernel⟩
theorem qM_RX12_432 : Cond.methodLink RX12 432 yX12_standSo ∈ lw_g := List.mem_filter.mpr ⟨List.mem_of_getElem? (i := 1925) (by decide +kernel), by decide +kernel⟩
theorem qM_RX12_435 : Cond.methodLink RX12 435 yX12_isShunted ∈ lw_g := List.mem_filter.mpr ⟨List.mem_of_getElem? (i := 1929) (by decide +kernel), by decide +kernel⟩
theorem qM_RX12_438 : Cond.methodLink RX12 438 yX12_spread ∈ lw_g := List.mem_filter.mpr ⟨List.mem_of_getElem? (i := 1905) (by decide +kernel), by decide +kernel⟩
theorem qM_RX12_441 : Cond.methodLink RX12 441 yX12_isOnTrack ∈ lw_g := List.mem_filter.mpr ⟨List.mem_of_getElem? (i := 1949) (by decide +kernel), by decide +kernel⟩
theorem qM_RX12_444 : Cond.methodLink RX12 444 yX12_layRows ∈ lw_g := List.mem_filter.mpr ⟨List.mem_of_getElem? (i := 1945) (by decide +kernel), by decide +kernel⟩
theorem qM_RX12_449 : Cond.methodLink RX12 449 yX12_doneBy ∈ lw_g := List.mem_filter.mpr ⟨List.mem_of_getElem? (i := 1966) (by decide +kernel), by decide +kernel⟩
theorem qM_RX12_452 : Cond.methodLink RX12 452 yX12_bestOrder ∈ lw_g := List.mem_filter.mpr ⟨List.mem_of_getElem? (i := 1962) (by decide +kernel), by decide +kernel⟩
theorem qM_RX12_455 : Cond.methodLink RX12 455 yX12_isRailway ∈ lw_g := List.mem_filter.mpr ⟨List.mem_of_getElem? (i := 1978) (by decide +kernel), by decide +kernel⟩
theorem qM_RX12_459 : Cond.methodLink RX12 459 yX12_lowBit ∈ lw_g := List.mem_filter.mpr ⟨List.mem_of_getElem? (i := 1994) (by decide +kernel), by decide +kernel⟩
theorem qM_RX12_462 : Cond.methodLink RX12 462 yX12_sumOf ∈ lw_g := List.mem_filter.mpr ⟨List.mem_of_getElem? (i := 1997) (by decide +kernel), by decide +kernel⟩
theorem qM_RX12_465 : Cond.methodLink RX12 465 yX12_layGroups ∈ lw_g := List.mem_filter.mpr ⟨List.mem_of_getElem? (i := 1990) (by decide +kernel), by decide +kernel⟩
theorem qM_RX12_468 : Cond.methodLink RX12 468 yX12_lowestGroup ∈ lw_g := List.mem_filter.mpr ⟨List.mem_of_getElem? (i := 2005) (by decide +kernel), by decide +kernel⟩
theorem qM_RX12_471 : Cond.methodLink RX12 471 yX12_outOn ∈ lw_g := List.mem_filter.mpr ⟨List.mem_of_getElem? (i := 2017) (by decide +kernel), by decide +kernel⟩
theorem qM_RX12_474 : Cond.methodLink RX12 474 yX12_isThere ∈ lw_g := List.mem_filter.mpr ⟨List.mem_of_getElem? (i := 2037) (by decide +kernel), by decide +kernel⟩
theorem qM_RX12_477 : Cond.methodLink RX12 477 yX12_isSeenAt ∈ lw_g := List.mem_filter.mpr ⟨List.mem_of_getElem? (i := 2033) (by decide +kernel), by decide +kernel⟩
theorem qM_RX12_480 : Cond.methodLink RX12 480 yX12_isHistory ∈ lw_g := List.mem_filter.mpr ⟨List.mem_of_getElem? (i := 2029) (by decide +kernel), by decide +kernel⟩
theorem qM_RX12_485 : Cond.methodLink RX12 485 yX12_divisor ∈ lw_g := List.mem_filter.mpr ⟨List.mem_of_getElem? (i := 2050) (by decide +kernel), by decide +kernel⟩
theorem qM_RX12_74 : Cond.methodLink RX12 74 yX12_copy ∈ lw_g := List.mem_filter.mpr ⟨List.mem_of_getElem? (i := 1375) (by decide +kernel), by decide +kernel⟩
theorem qM_RX12_78 : Cond.methodLink RX12 78 yX12_isIn ∈ lw_g := List.mem_filter.mpr ⟨List.mem_of_getElem? (i := 1490) (by decide +kernel), by decide +kernel⟩
theorem qM_RX12_82 : Cond.methodLink RX12 82 yX12_carOn ∈ lw_g := List.mem_filter.mpr ⟨List.mem_of_getElem? (i := 1692) (by decide +kernel), by decide +kernel⟩
theorem qM_RX12_86 : Cond.methodLink RX12 86 yX12_trackOf ∈ lw_g := List.mem_filter.mpr ⟨List.mem_of_getElem? (i := 1831) (by decide +kernel), by decide +kernel⟩
theorem qM_RX12_90 : Cond.methodLink RX12 90 yX12_has ∈ lw_g := List.mem_filter.mpr ⟨List.mem_of_getElem? (i := 1583) (by decide +kernel), by decide +kernel⟩
theorem qM_RX12_94 : Cond.methodLink RX12 94 yX12_come ∈ lw_g := List.mem_filter.mpr ⟨List.mem_of_getElem? (i := 1493) (by decide +kernel), by decide +kernel⟩
theorem qM_RX12_98 : Cond.methodLink RX12 98 yX12_forbidOne ∈ lw_g := List.mem_filter.mpr ⟨List.mem_of_getElem? (i := 1501) (by decide +kernel), by decide +kernel⟩
theorem qM_RX1_18 : Cond.methodLink RX1 18 yX1_carBehind ∈ lw_g := List.mem_filter.mpr ⟨List.mem_of_getElem? (i := 1131) (by decide +kernel), by decide +kernel⟩
theorem qM_RX1_22 : Cond.methodLink RX1 22 yX1_fillRow ∈ lw_g := List.mem_filter.mpr ⟨List.mem_of_getElem? (i := 1167) (by decide +kernel), by decide +kernel⟩
theorem qM_RX1_3 : Cond.methodLink RX1 3 objectInit ∈ lw_g := List.mem_filter.mpr ⟨List.mem_of_getElem? (i := 415) (by decide +kernel), by decide +kernel⟩
theorem qM_RX1_31 : Cond.methodLink RX1 31 yX10_toldCars ∈ lw_g := List.mem_filter.mpr ⟨List.mem_of_getElem? (i := 1188) (by decide +kernel), by decide +kernel⟩
theorem qM_RX1_40 : Cond.methodLink RX1 40 Lib.Math.max.name ∈ lw_g := List.mem_filter.mpr ⟨List.mem_of_getElem? (i := 1189) (by decide +kernel), by decide +kernel⟩
theorem qM_RX2_100 : Cond.methodLink RX2 100 yX2_numberAt ∈ lw_g := List.mem_filter.mpr ⟨List.mem_of_getElem? (i := 596) (by decide +kernel), by decide +kernel⟩
theorem qM_RX2_103 : Cond.methodLink RX2 103 yX2_startsDouble ∈ lw_g := List.mem_filter.mpr ⟨List.mem_of_getElem? (i := 603) (by decide +kernel), by decide +kernel⟩
theorem qM_RX2_106 : Cond.methodLink RX2 106 yX2_signAt ∈ lw_g := List.mem_filter.mpr ⟨List.mem_of_getElem? (i := 607) (by decide +kernel), by decide +kernel⟩
theorem qM_RX2_109 : Cond.methodLink RX2 109 Lib.Math.max.name ∈ lw_g := List.mem_filter.mpr ⟨List.mem_of_getElem? (i := 667) (by decide +kernel), by decide +kernel⟩
theorem qM_RX2_120 : Cond.methodLink RX2 120 yJ0_length_8abf5 ∈ lw_g := List.mem_filter.mpr ⟨List.mem_of_getElem? (i := 541) (by decide +kernel), by decide +kernel⟩
theorem qM_RX2_125 : Cond.methodLink RX2 125 yJ0_charAt_5068e ∈ lw_g := List.mem_filter.mpr ⟨List.mem_of_getElem? (i := 551) (by decide +kernel), by decide +kernel⟩
theorem qM_RX2_129 : Cond.methodLink RX2 129 Lib.Math.min.name ∈ lw_g := List.mem_filter.mpr ⟨List.mem_of_getElem? (i := 600) (by decide +kernel), by decide +kernel⟩
theorem qM_RX2_134 : Cond.methodLink RX2 134 yJ0_indexOf_0f7a4 ∈ lw_g := List.mem_filter.mpr ⟨List.mem_of_getElem? (i := 612) (by decide +kernel), by decide +kernel⟩
theorem qM_RX2_137 : Cond.methodLink RX2 137 yX2_nextToken ∈ lw_g := List.mem_filter.mpr ⟨List.mem_of_getElem? (i := 679) (by decide +kernel), by decide +kernel⟩
theorem qM_RX2_140 : Cond.methodLink RX2 140 yX2_fail ∈ lw_g := List.mem_filter.mpr ⟨List.mem_of_getElem? (i := 675) (by decide +kernel), by decide +kernel⟩
theorem qM_RX2_144 : Cond.methodLink RX2 144 yX2_readLaw ∈ lw_g := List.mem_filter.mpr ⟨List.mem_of_getElem? (i := 683) (by decide +kernel), by decide +kernel⟩
theorem qM_RX2_147 : Cond.methodLink RX2 147 yX2_readDeed ∈ lw_g := List.mem_filter.mpr ⟨List.mem_of_getElem? (i := 739) (by decide +kernel), by decide +kernel⟩
theorem qM_RX2_150 : Cond.methodLink RX2 150 yX2_expect ∈ lw_g := List.mem_filter.mpr ⟨List.mem_of_getElem? (i := 715) (by decide +kernel), by decide +kernel⟩
theorem qM_RX2_157 : Cond.methodLink RX2 157 yX2_readSum ∈ lw_g := List.mem_filter.mpr ⟨List.mem_of_getElem? (i := 687) (by decide +kernel), by decide +kernel⟩
theorem qM_RX2_160 : Cond.methodLink RX2 160 yX2_addClause ∈ lw_g := List.mem_filter.mpr ⟨List.mem_of_getElem? (i := 735) (by decide +kernel), by decide +kernel⟩
theorem qM_RX2_164 : Cond.methodLink RX2 164 yX2_expectNumber ∈ lw_g := List.mem_filter.mpr ⟨List.mem_of_getElem? (i := 699) (by decide +kernel), by decide +kernel⟩
theorem qM_RX2_167 : Cond.methodLink RX2 167 yX2_readProduct ∈ lw_g := List.mem_filter.mpr ⟨List.mem_of_getElem? (i := 691) (by decide +kernel), by decide +kernel⟩
theorem qM_RX2_170 : Cond.methodLink RX2 170 yX2_emit ∈ lw_g := List.mem_filter.mpr ⟨List.mem_of_getElem? (i := 703) (by decide +kernel), by decide +kernel⟩
theorem qM_RX2_173 : Cond.methodLink RX2 173 yX2_readOne ∈ lw_g := List.mem_filter.mpr ⟨List.mem_of_getElem? (i := 695) (by decide +kernel), by decide +kernel⟩
theorem qM_RX2_176 : Cond.methodLink RX2 176 yX2_readName ∈ lw_g := List.mem_filter.mpr ⟨List.mem_of_getElem? (i := 707) (by decide +kernel), by decide +kernel⟩
theorem qM_RX2_179 : Cond.methodLink RX2 179 yX2_opens ∈ lw_g := List.mem_filter.mpr ⟨List.mem_of_getElem? (i := 711) (by decide +kernel), by decide +kernel⟩
theorem qM_RX2_183 : Cond.methodLink RX2 183 yX2_readChoice ∈ lw_g := List.mem_filter.mpr ⟨List.mem_of_getElem? (i := 719) (by decide +kernel), by decide +kernel⟩
theorem qM_RX2_186 : Cond.methodLink RX2 186 yX2_readEither ∈ lw_g := List.mem_filter.mpr ⟨List.mem_of_getElem? (i := 723) (by decide +kernel), by decide +kernel⟩
theorem qM_RX2_189 : Cond.methodLink RX2 189 yX2_readBoth ∈ lw_g := List.mem_filter.mpr ⟨List.mem_of_getElem? (i := 727) (by decide +kernel), by decide +kernel⟩
theorem qM_RX2_192 : Cond.methodLink RX2 192 yX2_readAsk ∈ lw_g := List.mem_filter.mpr ⟨List.mem_of_getElem? (i := 731) (by decide +kernel), by decide +kernel⟩
theorem qM_RX2_3 : Cond.methodLink RX2 3 objectInit ∈ lw_g := List.mem_filter.mpr ⟨List.mem_of_getElem? (i := 327) (by decide +kernel), by decide +kernel⟩
theorem qM_RX2_41 : Cond.methodLink RX2 41 yX2_splitTape ∈ lw_g := List.mem_filter.mpr ⟨List.mem_of_getElem? (i := 524) (by decide +kernel), by decide +kernel⟩
theorem qM_RX2_59 : Cond.methodLink RX2 59 yJ7_fill_53178 ∈ lw_g := List.mem_filter.mpr ⟨List.mem_of_getElem? (i := 668) (by decide +kernel), by decide +kernel⟩
theorem qM_RX2_65 : Cond.methodLink RX2 65 yX2_readClause ∈ lw_g := List.mem_filter.mpr ⟨List.mem_of_getElem? (i := 671) (by decide +kernel), by decide +kernel⟩
theorem qM_RX2_70 : Cond.methodLink RX2 70 yJ7_copyOf_59c91 ∈ lw_g := List.mem_filter.mpr ⟨List.mem_of_getElem? (i := 745) (by decide +kernel), by decide +kernel⟩
theorem qM_RX2_74 : Cond.methodLink RX2 74 ⟨"[I", "clone", "()Ljava/lang/Object;"⟩ ∈ lw_g := List.mem_filter.mpr ⟨List.mem_of_getElem? (i := 759) (by decide +kernel), by decide +kernel⟩
theorem qM_RX2_79 : Cond.methodLink RX2 79 yX8_init ∈ lw_g := List.mem_filter.mpr ⟨List.mem_of_getElem? (i := 761) (by decide +kernel), by decide +kernel⟩
theorem qM_RX2_82 : Cond.methodLink RX2 82 yX2_isLetter ∈ lw_g := List.mem_filter.mpr ⟨List.mem_of_getElem? (i := 528) (by decide +kernel), by decide +kernel⟩
theorem qM_RX2_86 : Cond.methodLink RX2 86 yX2_behindWord ∈ lw_g := List.mem_filter.mpr ⟨List.mem_of_getElem? (i := 532) (by decide +kernel), by decide +kernel⟩
theorem qM_RX2_90 : Cond.methodLink RX2 90 yX2_wordAt ∈ lw_g := List.mem_filter.mpr ⟨List.mem_of_getElem? (i := 536) (by decide +kernel), by decide +kernel⟩
theorem qM_RX2_94 : Cond.methodLink RX2 94 yX2_isDigit ∈ lw_g := List.mem_filter.mpr ⟨List.mem_of_getElem? (i := 589) (by decide +kernel), by decide +kernel⟩
theorem qM_RX2_97 : Cond.methodLink RX2 97 yX2_behindNumber ∈ lw_g := List.mem_filter.mpr ⟨List.mem_of_getElem? (i := 592) (by decide +kernel), by decide +kernel⟩
theorem qM_RX3_22 : Cond.methodLink RX3 22 yX8_codeBehind ∈ lw_g := List.mem_filter.mpr ⟨List.mem_of_getElem? (i := 849) (by decide +kernel), by decide +kernel⟩
theorem qM_RX3_3 : Cond.methodLink RX3 3 objectInit ∈ lw_g := List.mem_filter.mpr ⟨List.mem_of_getElem? (i := 300) (by decide +kernel), by decide +kernel⟩
theorem qM_RX3_31 : Cond.methodLink RX3 31 Lib.Math.min.name ∈ lw_g := List.mem_filter.mpr ⟨List.mem_of_getElem? (i := 853) (by decide +kernel), by decide +kernel⟩
theorem qM_RX3_37 : Cond.methodLink RX3 37 yX8_codeFrom ∈ lw_g := List.mem_filter.mpr ⟨List.mem_of_getElem? (i := 854) (by decide +kernel), by decide +kernel⟩
theorem qM_RX3_40 : Cond.methodLink RX3 40 Lib.Math.max.name ∈ lw_g := List.mem_filter.mpr ⟨List.mem_of_getElem? (i := 858) (by decide +kernel), by decide +kernel⟩
theorem qM_RX3_43 : Cond.methodLink RX3 43 yX3_push ∈ lw_g := List.mem_filter.mpr ⟨List.mem_of_getElem? (i := 859) (by decide +kernel), by decide +kernel⟩
theorem qM_RX3_47 : Cond.methodLink RX3 47 yX3_valueOf ∈ lw_g := List.mem_filter.mpr ⟨List.mem_of_getElem? (i := 865) (by decide +kernel), by decide +kernel⟩
theorem qM_RX3_50 : Cond.methodLink RX3 50 yX3_operate ∈ lw_g := List.mem_filter.mpr ⟨List.mem_of_getElem? (i := 869) (by decide +kernel), by decide +kernel⟩
theorem qM_RX3_54 : Cond.methodLink RX3 54 yX3_pop ∈ lw_g := List.mem_filter.mpr ⟨List.mem_of_getElem? (i := 873) (by decide +kernel), by decide +kernel⟩
theorem qM_RX3_62 : Cond.methodLink RX3 62 yX3_operated ∈ lw_g := List.mem_filter.mpr ⟨List.mem_of_getElem? (i := 877) (by decide +kernel), by decide +kernel⟩
theorem qM_RX4_27 : Cond.methodLink RX4 27 yX10_countOn ∈ lw_g := List.mem_filter.mpr ⟨List.mem_of_getElem? (i := 1089) (by decide +kernel), by decide +kernel⟩
theorem qM_RX4_3 : Cond.methodLink RX4 3 objectInit ∈ lw_g := List.mem_filter.mpr ⟨List.mem_of_getElem? (i := 383) (by decide +kernel), by decide +kernel⟩
theorem qM_RX4_33 : Cond.methodLink RX4 33 yX10_carAt ∈ lw_g := List.mem_filter.mpr ⟨List.mem_of_getElem? (i := 1090) (by decide +kernel), by decide +kernel⟩
theorem qM_RX4_37 : Cond.methodLink RX4 37 yX4_belowOf ∈ lw_g := List.mem_filter.mpr ⟨List.mem_of_getElem? (i := 1110) (by decide +kernel), by decide +kernel⟩
theorem qM_RX4_50 : Cond.methodLink RX4 50 yJ7_fill_53178 ∈ lw_g := List.mem_filter.mpr ⟨List.mem_of_getElem? (i := 1101) (by decide +kernel), by decide +kernel⟩
theorem qM_RX4_56 : Cond.methodLink RX4 56 yX4_note ∈ lw_g := List.mem_filter.mpr ⟨List.mem_of_getElem? (i := 1102) (by decide +kernel), by decide +kernel⟩
theorem qM_RX4_60 : Cond.methodLink RX4 60 yX4_findTops ∈ lw_g := List.mem_filter.mpr ⟨List.mem_of_getElem? (i := 1106) (by decide +kernel), by decide +kernel⟩
theorem qM_RX4_63 : Cond.methodLink RX4 63 yX4_moved ∈ lw_g := List.mem_filter.mpr ⟨List.mem_of_getElem? (i := 1113) (by decide +kernel), by decide +kernel⟩
theorem qM_RX5_101 : Cond.methodLink RX5 101 yX5_mayStandBeside ∈ lw_g := List.mem_filter.mpr ⟨List.mem_of_getElem? (i := 1096) (by decide +kernel), by decide +kernel⟩
theorem qM_RX5_105 : Cond.methodLink RX5 105 yX10_uppermost ∈ lw_g := List.mem_filter.mpr ⟨List.mem_of_getElem? (i := 843) (by decide +kernel), by decide +kernel⟩
theorem qM_RX5_109 : Cond.methodLink RX5 109 yX10_countOn ∈ lw_g := List.mem_filter.mpr ⟨List.mem_of_getElem? (i := 1326) (by decide +kernel), by decide +kernel⟩
theorem qM_RX5_11 : Cond.methodLink RX5 11 yX10_init ∈ lw_g := List.mem_filter.mpr ⟨List.mem_of_getElem? (i := 173) (by decide +kernel), by decide +kernel⟩
theorem qM_RX5_112 : Cond.methodLink RX5 112 yX10_carAt ∈ lw_g := List.mem_filter.mpr ⟨List.mem_of_getElem? (i := 1327) (by decide +kernel), by decide +kernel⟩
theorem qM_RX5_3 : Cond.methodLink RX5 3 objectInit ∈ lw_g := List.mem_filter.mpr ⟨List.mem_of_getElem? (i := 170) (by decide +kernel), by decide +kernel⟩
theorem qM_RX5_46 : Cond.methodLink RX5 46 yX7_init ∈ lw_g := List.mem_filter.mpr ⟨List.mem_of_getElem? (i := 204) (by decide +kernel), by decide +kernel⟩
theorem qM_RX5_69 : Cond.methodLink RX5 69 yX10_copyFrom ∈ lw_g := List.mem_filter.mpr ⟨List.mem_of_getElem? (i := 1349) (by decide +kernel), by decide +kernel⟩
theorem qM_RX5_73 : Cond.methodLink RX5 73 yX6_copyFrom ∈ lw_g := List.mem_filter.mpr ⟨List.mem_of_getElem? (i := 1350) (by decide +kernel), by decide +kernel⟩
theorem qM_RX5_76 : Cond.methodLink RX5 76 arraycopyName ∈ lw_g := List.mem_filter.mpr ⟨List.mem_of_getElem? (i := 1354) (by decide +kernel), by decide +kernel⟩
theorem qM_RX5_82 : Cond.methodLink RX5 82 yX7_copyFrom ∈ lw_g := List.mem_filter.mpr ⟨List.mem_of_getElem? (i := 1355) (by decide +kernel), by decide +kernel⟩
theorem qM_RX5_94 : Cond.methodLink RX5 94 yX10_addCar ∈ lw_g := List.mem_filter.mpr ⟨List.mem_of_getElem? (i := 472) (by decide +kernel), by decide +kernel⟩
theorem qM_RX5_98 : Cond.methodLink RX5 98 yX10_countCars ∈ lw_g := List.mem_filter.mpr ⟨List.mem_of_getElem? (i := 1095) (by decide +kernel), by decide +kernel⟩
theorem qM_RX6_27 : Cond.methodLink RX6 27 arraycopyName ∈ lw_g := List.mem_filter.mpr ⟨List.mem_of_getElem? (i := 884) (by decide +kernel), by decide +kernel⟩
theorem qM_RX6_3 : Cond.methodLink RX6 3 objectInit ∈ lw_g := List.mem_filter.mpr ⟨List.mem_of_getElem? (i := 190) (by decide +kernel), by decide +kernel⟩
theorem qM_RX6_33 : Cond.methodLink RX6 33 yX10_countCars ∈ lw_g := List.mem_filter.mpr ⟨List.mem_of_getElem? (i := 1003) (by decide +kernel), by decide +kernel⟩
theorem qM_RX6_37 : Cond.methodLink RX6 37 yX10_addCar ∈ lw_g := List.mem_filter.mpr ⟨List.mem_of_getElem? (i := 1004) (by decide +kernel), by decide +kernel⟩
theorem qM_RX7_28 : Cond.methodLink RX7 28 Lib.Math.min.name ∈ lw_g := List.mem_filter.mpr ⟨List.mem_of_getElem? (i := 1359) (by decide +kernel), by decide +kernel⟩
theorem qM_RX7_3 : Cond.methodLink RX7 3 objectInit ∈ lw_g := List.mem_filter.mpr ⟨List.mem_of_getElem? (i := 207) (by decide +kernel), by decide +kernel⟩
theorem qM_RX7_31 : Cond.methodLink RX7 31 arraycopyName ∈ lw_g := List.mem_filter.mpr ⟨List.mem_of_getElem? (i := 1360) (by decide +kernel), by decide +kernel⟩
theorem qM_RX7_9 : Cond.methodLink RX7 9 Lib.Math.max.name ∈ lw_g := List.mem_filter.mpr ⟨List.mem_of_getElem? (i := 208) (by decide +kernel), by decide +kernel⟩
theorem qM_RX8_3 : Cond.methodLink RX8 3 objectInit ∈ lw_g := List.mem_filter.mpr ⟨List.mem_of_getElem? (i := 764) (by decide +kernel), by decide +kernel⟩
theorem qM_RX9_103 : Cond.methodLink RX9 103 yX10_moveUppermost ∈ lw_g := List.mem_filter.mpr ⟨List.mem_of_getElem? (i := 885) (by decide +kernel), by decide +kernel⟩
theorem qM_RX9_107 : Cond.methodLink RX9 107 yX9_changesSays ∈ lw_g := List.mem_filter.mpr ⟨List.mem_of_getElem? (i := 907) (by decide +kernel), by decide +kernel⟩
theorem qM_RX9_110 : Cond.methodLink RX9 110 yX10_changeFeet ∈ lw_g := List.mem_filter.mpr ⟨List.mem_of_getElem? (i := 911) (by decide +kernel), by decide +kernel⟩
theorem qM_RX9_116 : Cond.methodLink RX9 116 yX10_hourCanPass ∈ lw_g := List.mem_filter.mpr ⟨List.mem_of_getElem? (i := 938) (by decide +kernel), by decide +kernel⟩
theorem qM_RX9_120 : Cond.methodLink RX9 120 yX10_passHour ∈ lw_g := List.mem_filter.mpr ⟨List.mem_of_getElem? (i := 942) (by decide +kernel), by decide +kernel⟩
theorem qM_RX9_123 : Cond.methodLink RX9 123 yX8_clausePart ∈ lw_g := List.mem_filter.mpr ⟨List.mem_of_getElem? (i := 967) (by decide +kernel), by decide +kernel⟩
theorem qM_RX9_127 : Cond.methodLink RX9 127 yX5_addCar ∈ lw_g := List.mem_filter.mpr ⟨List.mem_of_getElem? (i := 971) (by decide +kernel), by decide +kernel⟩
theorem qM_RX9_130 : Cond.methodLink RX9 130 yX5_setForbidden ∈ lw_g := List.mem_filter.mpr ⟨List.mem_of_getElem? (i := 972) (by decide +kernel), by decide +kernel⟩
theorem qM_RX9_134 : Cond.methodLink RX9 134 yX9_shift ∈ lw_g := List.mem_filter.mpr ⟨List.mem_of_getElem? (i := 973) (by decide +kernel), by decide +kernel⟩
theorem qM_RX9_138 : Cond.methodLink RX9 138 yX9_swapFeet ∈ lw_g := List.mem_filter.mpr ⟨List.mem_of_getElem? (i := 974) (by decide +kernel), by decide +kernel⟩
theorem qM_RX9_142 : Cond.methodLink RX9 142 yX9_lendWheels ∈ lw_g := List.mem_filter.mpr ⟨List.mem_of_getElem? (i := 975) (by decide +kernel), by decide +kernel⟩
theorem qM_RX9_145 : Cond.methodLink RX9 145 yX9_passHoursThatCan ∈ lw_g := List.mem_filter.mpr ⟨List.mem_of_getElem? (i := 976) (by decide +kernel), by decide +kernel⟩
theorem qM_RX9_148 : Cond.methodLink RX9 148 yX9_passHours ∈ lw_g := List.mem_filter.mpr ⟨List.mem_of_getElem? (i := 980) (by decide +kernel), by decide +kernel⟩
theorem qM_RX9_151 : Cond.methodLink RX9 151 yX10_drawnX ∈ lw_g := List.mem_filter.mpr ⟨List.mem_of_getElem? (i := 993) (by decide +kernel), by decide +kernel⟩
theorem qM_RX9_154 : Cond.methodLink RX9 154 yX10_gainWheel ∈ lw_g := List.mem_filter.mpr ⟨List.mem_of_getElem? (i := 994) (by decide +kernel), by decide +kernel⟩
theorem qM_RX9_25 : Cond.methodLink RX9 25 yX5_rulingText ∈ lw_g := List.mem_filter.mpr ⟨List.mem_of_getElem? (i := 819) (by decide +kernel), by decide +kernel⟩
theorem qM_RX9_29 : Cond.methodLink RX9 29 yX8_hasLaw ∈ lw_g := List.mem_filter.mpr ⟨List.mem_of_getElem? (i := 823) (by decide +kernel), by decide +kernel⟩
theorem qM_RX9_3 : Cond.methodLink RX9 3 objectInit ∈ lw_g := List.mem_filter.mpr ⟨List.mem_of_getElem? (i := 164) (by decide +kernel), by decide +kernel⟩
theorem qM_RX9_35 : Cond.methodLink RX9 35 yX9_nameCar ∈ lw_g := List.mem_filter.mpr ⟨List.mem_of_getElem? (i := 827) (by decide +kernel), by decide +kernel⟩
theorem qM_RX9_47 : Cond.methodLink RX9 47 yX10_countOn ∈ lw_g := List.mem_filter.mpr ⟨List.mem_of_getElem? (i := 844) (by decide +kernel), by decide +kernel⟩
theorem qM_RX9_53 : Cond.methodLink RX9 53 yX3_weigh ∈ lw_g := List.mem_filter.mpr ⟨List.mem_of_getElem? (i := 845) (by decide +kernel), by decide +kernel⟩
theorem qM_RX9_57 : Cond.methodLink RX9 57 yX10_wheelsOf ∈ lw_g := List.mem_filter.mpr ⟨List.mem_of_getElem? (i := 903) (by decide +kernel), by decide +kernel⟩
theorem qM_RX9_60 : Cond.methodLink RX9 60 yX10_hourNow ∈ lw_g := List.mem_filter.mpr ⟨List.mem_of_getElem? (i := 831) (by decide +kernel), by decide +kernel⟩
theorem qM_RX9_70 : Cond.methodLink RX9 70 yX10_isWide ∈ lw_g := List.mem_filter.mpr ⟨List.mem_of_getElem? (i := 807) (by decide +kernel), by decide +kernel⟩
theorem qM_RX9_73 : Cond.methodLink RX9 73 yX10_wornOf ∈ lw_g := List.mem_filter.mpr ⟨List.mem_of_getElem? (i := 835) (by decide +kernel), by decide +kernel⟩
theorem qM_RX9_76 : Cond.methodLink RX9 76 yX5_loadOfUppermost ∈ lw_g := List.mem_filter.mpr ⟨List.mem_of_getElem? (i := 839) (by decide +kernel), by decide +kernel⟩
theorem qM_RX9_79 : Cond.methodLink RX9 79 yX10_uppermost ∈ lw_g := List.mem_filter.mpr ⟨List.mem_of_getElem? (i := 799) (by decide +kernel), by decide +kernel⟩
theorem qM_RX9_82 : Cond.methodLink RX9 82 yX9_feetFit ∈ lw_g := List.mem_filter.mpr ⟨List.mem_of_getElem? (i := 803) (by decide +kernel), by decide +kernel⟩
theorem qM_RX9_86 : Cond.methodLink RX9 86 yX5_mayStandBeside ∈ lw_g := List.mem_filter.mpr ⟨List.mem_of_getElem? (i := 811) (by decide +kernel), by decide +kernel⟩
theorem qM_RX9_89 : Cond.methodLink RX9 89 yX9_movesSays ∈ lw_g := List.mem_filter.mpr ⟨List.mem_of_getElem? (i := 815) (by decide +kernel), by decide +kernel⟩
theorem qM_RX9_97 : Cond.methodLink RX9 97 yX6_keep ∈ lw_g := List.mem_filter.mpr ⟨List.mem_of_getElem? (i := 880) (by decide +kernel), by decide +kernel⟩
theorem qN_RX11_23 : (RX11, 23, yX5_init, "RailsGrowWider") ∈ nestL := by decide +kernel
theorem qN_RX11_29 : (RX11, 29, yX2_init, "RailsGrowWider") ∈ nestL := by decide +kernel
theorem qN_RX11_36 : (RX11, 36, yX4_init, "RailsGrowWider") ∈ nestL := by decide +kernel
theorem qN_RX11_43 : (RX11, 43, yX1_init, "RailsGrowWider") ∈ nestL := by decide +kernel
theorem qN_RX11_50 : (RX11, 50, yX0_init, "RailsGrowWider") ∈ nestL := by decide +kernel
theorem qN_RX11_9 : (RX11, 9, yX9_init, "RailsGrowWider") ∈ nestL := by decide +kernel
theorem qN_RX2_114 : (RX2, 114, yX11_within, "RailsGrowWider") ∈ nestL := by decide +kernel
theorem qN_RX5_20 : (RX5, 20, yX6_init, "RailsGrowWider") ∈ nestL := by decide +kernel
theorem qN_RX9_11 : (RX9, 11, yX5_init, "RailsGrowWider") ∈ nestL := by decide +kernel
theorem qN_RX9_20 : (RX9, 20, yX3_init, "RailsGrowWider") ∈ nestL := by decide +kernel
theorem qS_J0_checkIndex_df160 : Cond.static yJ0_checkIndex_df160 ∈ lw_g := List.mem_filter.mpr ⟨List.mem_of_getElem? (i := 563) (by decide +kernel), by decide +kernel⟩
theorem qS_J1_canEncode_9a6ad : Cond.static yJ1_canEncode_9a6ad ∈ lw_g := List.mem_filter.mpr ⟨List.mem_of_getElem? (i := 625) (by decide +kernel), by decide +kernel⟩
theorem qS_J1_charAt_3b067 : Cond.static yJ1_charAt_3b067 ∈ lw_g := List.mem_filter.mpr ⟨List.mem_of_getElem? (i := 560) (by decide +kernel), by decide +kernel⟩
theorem qS_J1_indexOfChar_4cfef : Cond.static yJ1_indexOfChar_4cfef ∈ lw_g := List.mem_filter.mpr ⟨List.mem_of_getElem? (i := 630) (by decide +kernel), by decide +kernel⟩
theorem qS_J1_indexOf_4cfef : Cond.static yJ1_indexOf_4cfef ∈ lw_g := List.mem_filter.mpr ⟨List.mem_of_getElem? (i := 622) (by decide +kernel), by decide +kernel⟩
theorem qS_J3_checkIndex_8e157 : Cond.static yJ3_checkIndex_8e157 ∈ lw_g := List.mem_filter.mpr ⟨List.mem_of_getElem? (i := 568) (by decide +kernel), by decide +kernel⟩
theorem qS_J7_copyOf_59c91 : Cond.static yJ7_copyOf_59c91 ∈ lw_g := List.mem_filter.mpr ⟨List.mem_of_getElem? (i := 746) (by decide +kernel), by decide +kernel⟩
theorem qS_J7_fill_53178 : Cond.static yJ7_fill_53178 ∈ lw_g := List.mem_filter.mpr ⟨List.mem_of_getElem? (i := 669) (by decide +kernel), by decide +kernel⟩
theorem qS_X0_sumOf : Cond.static yX0_sumOf ∈ lw_g := List.mem_filter.mpr ⟨List.mem_of_getElem? (i := 1219) (by decide +kernel), by decide +kernel⟩
theorem qS_X11_commonDivisor : Cond.static yX11_commonDivisor ∈ lw_g := List.mem_filter.mpr ⟨List.mem_of_getElem? (i := 1304) (by decide +kernel), by decide +kernel⟩
theorem qS_X11_isRailway : Cond.static yX11_isRailway ∈ lw_g := List.mem_filter.mpr ⟨List.mem_of_getElem? (i := 1199) (by decide +kernel), by decide +kernel⟩
theorem qS_X11_isTrack : Cond.static yX11_isTrack ∈ lw_g := List.mem_filter.mpr ⟨List.mem_of_getElem? (i := 793) (by decide +kernel), by decide +kernel⟩
theorem qS_X11_within : Cond.static yX11_within ∈ lw_g := List.mem_filter.mpr ⟨List.mem_of_getElem? (i := 466) (by decide +kernel), by decide +kernel⟩
theorem qS_X12_clip : Cond.static yX12_clip ∈ lw_g := List.mem_filter.mpr ⟨List.mem_of_getElem? (i := 1734) (by decide +kernel), by decide +kernel⟩
theorem qS_X12_copy : Cond.static yX12_copy ∈ lw_g := List.mem_filter.mpr ⟨List.mem_of_getElem? (i := 1376) (by decide +kernel), by decide +kernel⟩
theorem qS_X12_cut : Cond.static yX12_cut ∈ lw_g := List.mem_filter.mpr ⟨List.mem_of_getElem? (i := 1745) (by decide +kernel), by decide +kernel⟩
theorem qS_X12_divisor : Cond.static yX12_divisor ∈ lw_g := List.mem_filter.mpr ⟨List.mem_of_getElem? (i := 2051) (by decide +kernel), by decide +kernel⟩
theorem qS_X12_factorial : Cond.static yX12_factorial ∈ lw_g := List.mem_filter.mpr ⟨List.mem_of_getElem? (i := 1895) (by decide +kernel), by decide +kernel⟩
theorem qS_X12_has : Cond.static yX12_has ∈ lw_g := List.mem_filter.mpr ⟨List.mem_of_getElem? (i := 1584) (by decide +kernel), by decide +kernel⟩
theorem qS_X12_isAsked : Cond.static yX12_isAsked ∈ lw_g := List.mem_filter.mpr ⟨List.mem_of_getElem? (i := 1739) (by decide +kernel), by decide +kernel⟩
theorem qS_X12_isFigure : Cond.static yX12_isFigure ∈ lw_g := List.mem_filter.mpr ⟨List.mem_of_getElem? (i := 1542) (by decide +kernel), by decide +kernel⟩
theorem qS_X12_isIn : Cond.static yX12_isIn ∈ lw_g := List.mem_filter.mpr ⟨List.mem_of_getElem? (i := 1491) (by decide +kernel), by decide +kernel⟩
theorem qS_X12_isLetterByte : Cond.static yX12_isLetterByte ∈ lw_g := List.mem_filter.mpr ⟨List.mem_of_getElem? (i := 1546) (by decide +kernel), by decide +kernel⟩
theorem qS_X12_isOrder : Cond.static yX12_isOrder ∈ lw_g := List.mem_filter.mpr ⟨List.mem_of_getElem? (i := 1888) (by decide +kernel), by decide +kernel⟩
theorem qS_X12_isRailway : Cond.static yX12_isRailway ∈ lw_g := List.mem_filter.mpr ⟨List.mem_of_getElem? (i := 1979) (by decide +kernel), by decide +kernel⟩
theorem qS_X12_isSign : Cond.static yX12_isSign ∈ lw_g := List.mem_filter.mpr ⟨List.mem_of_getElem? (i := 1550) (by decide +kernel), by decide +kernel⟩
theorem qS_X12_isTrack : Cond.static yX12_isTrack ∈ lw_g := List.mem_filter.mpr ⟨List.mem_of_getElem? (i := 1686) (by decide +kernel), by decide +kernel⟩
theorem qS_X12_joined : Cond.static yX12_joined ∈ lw_g := List.mem_filter.mpr ⟨List.mem_of_getElem? (i := 1742) (by decide +kernel), by decide +kernel⟩
theorem qS_X12_lowBit : Cond.static yX12_lowBit ∈ lw_g := List.mem_filter.mpr ⟨List.mem_of_getElem? (i := 1995) (by decide +kernel), by decide +kernel⟩
theorem qS_X12_rank : Cond.static yX12_rank ∈ lw_g := List.mem_filter.mpr ⟨List.mem_of_getElem? (i := 1627) (by decide +kernel), by decide +kernel⟩
theorem qS_X12_two : Cond.static yX12_two ∈ lw_g := List.mem_filter.mpr ⟨List.mem_of_getElem? (i := 1731) (by decide +kernel), by decide +kernel⟩
theorem qS_X12_w2 : Cond.static yX12_w2 ∈ lw_g := List.mem_filter.mpr ⟨List.mem_of_getElem? (i := 1570) (by decide +kernel), by decide +kernel⟩
theorem qS_X12_w3 : Cond.static yX12_w3 ∈ lw_g := List.mem_filter.mpr ⟨List.mem_of_getElem? (i := 1567) (by decide +kernel), by decide +kernel⟩
theorem qS_X12_w4 : Cond.static yX12_w4 ∈ lw_g := List.mem_filter.mpr ⟨List.mem_of_getElem? (i := 1564) (by decide +kernel), by decide +kernel⟩
theorem qS_X12_w5 : Cond.static yX12_w5 ∈ lw_g := List.mem_filter.mpr ⟨List.mem_of_getElem? (i := 1561) (by decide +kernel), by decide +kernel⟩
theorem qS_X12_w6 : Cond.static yX12_w6 ∈ lw_g := List.mem_filter.mpr ⟨List.mem_of_getElem? (i := 1581) (by decide +kernel), by decide +kernel⟩
theorem qS_X1_carBehind : Cond.static yX1_carBehind ∈ lw_g := List.mem_filter.mpr ⟨List.mem_of_getElem? (i := 1132) (by decide +kernel), by decide +kernel⟩
theorem qS_X1_countRows : Cond.static yX1_countRows ∈ lw_g := List.mem_filter.mpr ⟨List.mem_of_getElem? (i := 1169) (by decide +kernel), by decide +kernel⟩
theorem qS_X2_isDigit : Cond.static yX2_isDigit ∈ lw_g := List.mem_filter.mpr ⟨List.mem_of_getElem? (i := 590) (by decide +kernel), by decide +kernel⟩
theorem qS_X2_isLetter : Cond.static yX2_isLetter ∈ lw_g := List.mem_filter.mpr ⟨List.mem_of_getElem? (i := 529) (by decide +kernel), by decide +kernel⟩
theorem qS_X3_operated : Cond.static yX3_operated ∈ lw_g := List.mem_filter.mpr ⟨List.mem_of_getElem? (i := 878) (by decide +kernel), by decide +kernel⟩
theorem qS_X4_belowOf : Cond.static yX4_belowOf ∈ lw_g := List.mem_filter.mpr ⟨List.mem_of_getElem? (i := 1111) (by decide +kernel), by decide +kernel⟩
theorem qS_X4_codeOf : Cond.static yX4_codeOf ∈ lw_g := List.mem_filter.mpr ⟨List.mem_of_getElem? (i := 1087) (by decide +kernel), by decide +kernel⟩
theorem qS_X4_trackIn : Cond.static yX4_trackIn ∈ lw_g := List.mem_filter.mpr ⟨List.mem_of_getElem? (i := 1288) (by decide +kernel), by decide +kernel⟩
theorem qT_X0 : Cond.instantiable RX0 2 ∈ lw_g := List.mem_filter.mpr ⟨List.mem_of_getElem? (i := 422) (by decide +kernel), by decide +kernel⟩
theorem qT_X1 : Cond.instantiable RX1 1 ∈ lw_g := List.mem_filter.mpr ⟨List.mem_of_getElem? (i := 411) (by decide +kernel), by decide +kernel⟩
theorem qT_X10 : Cond.instantiable RX10 1 ∈ lw_g := List.mem_filter.mpr ⟨List.mem_of_getElem? (i := 172) (by decide +kernel), by decide +kernel⟩
theorem qT_X11 : Cond.instantiable RX11 8 ∈ lw_g := List.mem_filter.mpr ⟨List.mem_of_getElem? (i := 152) (by decide +kernel), by decide +kernel⟩
theorem qT_X12 : Cond.instantiable RX12 35 ∈ lw_g := List.mem_filter.mpr ⟨List.mem_of_getElem? (i := 1370) (by decide +kernel), by decide +kernel⟩
theorem qT_X2 : Cond.instantiable RX2 15 ∈ lw_g := List.mem_filter.mpr ⟨List.mem_of_getElem? (i := 323) (by decide +kernel), by decide +kernel⟩
theorem qT_X3 : Cond.instantiable RX3 3 ∈ lw_g := List.mem_filter.mpr ⟨List.mem_of_getElem? (i := 296) (by decide +kernel), by decide +kernel⟩
theorem qT_X4 : Cond.instantiable RX4 8 ∈ lw_g := List.mem_filter.mpr ⟨List.mem_of_getElem? (i := 379) (by decide +kernel), by decide +kernel⟩
theorem qT_X5 : Cond.instantiable RX5 16 ∈ lw_g := List.mem_filter.mpr ⟨List.mem_of_getElem? (i := 166) (by decide +kernel), by decide +kernel⟩
theorem qT_X6 : Cond.instantiable RX6 3 ∈ lw_g := List.mem_filter.mpr ⟨List.mem_of_getElem? (i := 186) (by decide +kernel), by decide +kernel⟩
theorem qT_X7 : Cond.instantiable RX7 3 ∈ lw_g := List.mem_filter.mpr ⟨List.mem_of_getElem? (i := 203) (by decide +kernel), by decide +kernel⟩
theorem qT_X8 : Cond.instantiable RX8 3 ∈ lw_g := List.mem_filter.mpr ⟨List.mem_of_getElem? (i := 744) (by decide +kernel), by decide +kernel⟩
theorem qT_X9 : Cond.instantiable RX9 2 ∈ lw_g := List.mem_filter.mpr ⟨List.mem_of_getElem? (i := 160) (by decide +kernel), by decide +kernel⟩
theorem qV_J0_charAt_5068e : Cond.selects RJ0 yJ0_charAt_5068e yJ0_charAt_5068e ∈ lw_g := List.mem_filter.mpr ⟨List.mem_of_getElem? (i := 553) (by decide +kernel), by decide +kernel⟩
theorem qV_J0_coder_7d493 : Cond.selects RJ0 yJ0_coder_7d493 yJ0_coder_7d493 ∈ lw_g := List.mem_filter.mpr ⟨List.mem_of_getElem? (i := 547) (by decide +kernel), by decide +kernel⟩
theorem qV_J0_indexOf_0f7a4 : Cond.selects RJ0 yJ0_indexOf_0f7a4 yJ0_indexOf_0f7a4 ∈ lw_g := List.mem_filter.mpr ⟨List.mem_of_getElem? (i := 614) (by decide +kernel), by decide +kernel⟩
theorem qV_J0_indexOf_7cf53 : Cond.selects RJ0 yJ0_indexOf_7cf53 yJ0_indexOf_7cf53 ∈ lw_g := List.mem_filter.mpr ⟨List.mem_of_getElem? (i := 618) (by decide +kernel), by decide +kernel⟩
theorem qV_J0_isLatin1_aae02 : Cond.selects RJ0 yJ0_isLatin1_aae02 yJ0_isLatin1_aae02 ∈ lw_g := List.mem_filter.mpr ⟨List.mem_of_getElem? (i := 557) (by decide +kernel), by decide +kernel⟩
theorem qV_J0_length_8abf5 : Cond.selects RJ0 yJ0_length_8abf5 yJ0_length_8abf5 ∈ lw_g := List.mem_filter.mpr ⟨List.mem_of_getElem? (i := 543) (by decide +kernel), by decide +kernel⟩
theorem qV_X0_groupOf : Cond.selects RX0 yX0_groupOf yX0_groupOf ∈ lw_g := List.mem_filter.mpr ⟨List.mem_of_getElem? (i := 1236) (by decide +kernel), by decide +kernel⟩
theorem qV_X0_isGroupOf : Cond.selects RX0 yX0_isGroupOf yX0_isGroupOf ∈ lw_g := List.mem_filter.mpr ⟨List.mem_of_getElem? (i := 44) (by decide +kernel), by decide +kernel⟩
theorem qV_X0_lowestGroup : Cond.selects RX0 yX0_lowestGroup yX0_lowestGroup ∈ lw_g := List.mem_filter.mpr ⟨List.mem_of_getElem? (i := 45) (by decide +kernel), by decide +kernel⟩
theorem qV_X0_mostGroups : Cond.selects RX0 yX0_mostGroups yX0_mostGroups ∈ lw_g := List.mem_filter.mpr ⟨List.mem_of_getElem? (i := 1212) (by decide +kernel), by decide +kernel⟩
theorem qV_X0_mostOf : Cond.selects RX0 yX0_mostOf yX0_mostOf ∈ lw_g := List.mem_filter.mpr ⟨List.mem_of_getElem? (i := 43) (by decide +kernel), by decide +kernel⟩
theorem qV_X0_weighSets : Cond.selects RX0 yX0_weighSets yX0_weighSets ∈ lw_g := List.mem_filter.mpr ⟨List.mem_of_getElem? (i := 42) (by decide +kernel), by decide +kernel⟩
theorem qV_X10_addCar : Cond.selects RX10 yX10_addCar yX10_addCar ∈ lw_g := List.mem_filter.mpr ⟨List.mem_of_getElem? (i := 474) (by decide +kernel), by decide +kernel⟩
theorem qV_X10_carAt : Cond.selects RX10 yX10_carAt yX10_carAt ∈ lw_g := List.mem_filter.mpr ⟨List.mem_of_getElem? (i := 1019) (by decide +kernel), by decide +kernel⟩
theorem qV_X10_carsOn : Cond.selects RX10 yX10_carsOn yX10_carsOn ∈ lw_g := List.mem_filter.mpr ⟨List.mem_of_getElem? (i := 1161) (by decide +kernel), by decide +kernel⟩
theorem qV_X10_changeFeet : Cond.selects RX10 yX10_changeFeet yX10_changeFeet ∈ lw_g := List.mem_filter.mpr ⟨List.mem_of_getElem? (i := 913) (by decide +kernel), by decide +kernel⟩
theorem qV_X10_copyFrom : Cond.selects RX10 yX10_copyFrom yX10_copyFrom ∈ lw_g := List.mem_filter.mpr ⟨List.mem_of_getElem? (i := 1065) (by decide +kernel), by decide +kernel⟩
theorem qV_X10_countCars : Cond.selects RX10 yX10_countCars yX10_countCars ∈ lw_g := List.mem_filter.mpr ⟨List.mem_of_getElem? (i := 502) (by decide +kernel), by decide +kernel⟩
theorem qV_X10_countLines : Cond.selects RX10 yX10_countLines yX10_countLines ∈ lw_g := List.mem_filter.mpr ⟨List.mem_of_getElem? (i := 1053) (by decide +kernel), by decide +kernel⟩
theorem qV_X10_countOn : Cond.selects RX10 yX10_countOn yX10_countOn ∈ lw_g := List.mem_filter.mpr ⟨List.mem_of_getElem? (i := 482) (by decide +kernel), by decide +kernel⟩
theorem qV_X10_draw : Cond.selects RX10 yX10_draw yX10_draw ∈ lw_g := List.mem_filter.mpr ⟨List.mem_of_getElem? (i := 948) (by decide +kernel), by decide +kernel⟩
theorem qV_X10_drawnX : Cond.selects RX10 yX10_drawnX yX10_drawnX ∈ lw_g := List.mem_filter.mpr ⟨List.mem_of_getElem? (i := 952) (by decide +kernel), by decide +kernel⟩
theorem qV_X10_gainWheel : Cond.selects RX10 yX10_gainWheel yX10_gainWheel ∈ lw_g := List.mem_filter.mpr ⟨List.mem_of_getElem? (i := 918) (by decide +kernel), by decide +kernel⟩
theorem qV_X10_hourCanPass : Cond.selects RX10 yX10_hourCanPass yX10_hourCanPass ∈ lw_g := List.mem_filter.mpr ⟨List.mem_of_getElem? (i := 940) (by decide +kernel), by decide +kernel⟩
theorem qV_X10_hourNow : Cond.selects RX10 yX10_hourNow yX10_hourNow ∈ lw_g := List.mem_filter.mpr ⟨List.mem_of_getElem? (i := 833) (by decide +kernel), by decide +kernel⟩
theorem qV_X10_isWide : Cond.selects RX10 yX10_isWide yX10_isWide ∈ lw_g := List.mem_filter.mpr ⟨List.mem_of_getElem? (i := 809) (by decide +kernel), by decide +kernel⟩
theorem qV_X10_lineTells : Cond.selects RX10 yX10_lineTells yX10_lineTells ∈ lw_g := List.mem_filter.mpr ⟨List.mem_of_getElem? (i := 1057) (by decide +kernel), by decide +kernel⟩
theorem qV_X10_moveUppermost : Cond.selects RX10 yX10_moveUppermost yX10_moveUppermost ∈ lw_g := List.mem_filter.mpr ⟨List.mem_of_getElem? (i := 887) (by decide +kernel), by decide +kernel⟩
theorem qV_X10_passHour : Cond.selects RX10 yX10_passHour yX10_passHour ∈ lw_g := List.mem_filter.mpr ⟨List.mem_of_getElem? (i := 944) (by decide +kernel), by decide +kernel⟩
theorem qV_X10_placeOf : Cond.selects RX10 yX10_placeOf yX10_placeOf ∈ lw_g := List.mem_filter.mpr ⟨List.mem_of_getElem? (i := 1023) (by decide +kernel), by decide +kernel⟩
theorem qV_X10_placeOn : Cond.selects RX10 yX10_placeOn yX10_placeOn ∈ lw_g := List.mem_filter.mpr ⟨List.mem_of_getElem? (i := 1015) (by decide +kernel), by decide +kernel⟩
theorem qV_X10_putUppermost : Cond.selects RX10 yX10_putUppermost yX10_putUppermost ∈ lw_g := List.mem_filter.mpr ⟨List.mem_of_getElem? (i := 0) (by decide +kernel), by decide +kernel⟩
theorem qV_X10_toldCars : Cond.selects RX10 yX10_toldCars yX10_toldCars ∈ lw_g := List.mem_filter.mpr ⟨List.mem_of_getElem? (i := 1123) (by decide +kernel), by decide +kernel⟩
theorem qV_X10_trackOf : Cond.selects RX10 yX10_trackOf yX10_trackOf ∈ lw_g := List.mem_filter.mpr ⟨List.mem_of_getElem? (i := 1011) (by decide +kernel), by decide +kernel⟩
theorem qV_X10_uppermost : Cond.selects RX10 yX10_uppermost yX10_uppermost ∈ lw_g := List.mem_filter.mpr ⟨List.mem_of_getElem? (i := 801) (by decide +kernel), by decide +kernel⟩
theorem qV_X10_wheelsOf : Cond.selects RX10 yX10_wheelsOf yX10_wheelsOf ∈ lw_g := List.mem_filter.mpr ⟨List.mem_of_getElem? (i := 905) (by decide +kernel), by decide +kernel⟩
theorem qV_X10_wornOf : Cond.selects RX10 yX10_wornOf yX10_wornOf ∈ lw_g := List.mem_filter.mpr ⟨List.mem_of_getElem? (i := 837) (by decide +kernel), by decide +kernel⟩
theorem qV_X10_wornTogether : Cond.selects RX10 yX10_wornTogether yX10_wornTogether ∈ lw_g := List.mem_filter.mpr ⟨List.mem_of_getElem? (i := 1071) (by decide +kernel), by decide +kernel⟩
theorem qV_X10_write : Cond.selects RX10 yX10_write yX10_write ∈ lw_g := List.mem_filter.mpr ⟨List.mem_of_getElem? (i := 34) (by decide +kernel), by decide +kernel⟩
theorem qV_X11_about : Cond.selects RX11 yX11_about yX11_about ∈ lw_g := List.mem_filter.mpr ⟨List.mem_of_getElem? (i := 1367) (by decide +kernel), by decide +kernel⟩
theorem qV_X11_amiss : Cond.selects RX11 yX11_amiss yX11_amiss ∈ lw_g := List.mem_filter.mpr ⟨List.mem_of_getElem? (i := 1334) (by decide +kernel), by decide +kernel⟩
theorem qV_X11_back : Cond.selects RX11 yX11_back yX11_back ∈ lw_g := List.mem_filter.mpr ⟨List.mem_of_getElem? (i := 1363) (by decide +kernel), by decide +kernel⟩
theorem qV_X11_balance : Cond.selects RX11 yX11_balance yX11_balance ∈ lw_g := List.mem_filter.mpr ⟨List.mem_of_getElem? (i := 1203) (by decide +kernel), by decide +kernel⟩
theorem qV_X11_book : Cond.selects RX11 yX11_book yX11_book ∈ lw_g := List.mem_filter.mpr ⟨List.mem_of_getElem? (i := 1049) (by decide +kernel), by decide +kernel⟩
theorem qV_X11_by : Cond.selects RX11 yX11_by yX11_by ∈ lw_g := List.mem_filter.mpr ⟨List.mem_of_getElem? (i := 782) (by decide +kernel), by decide +kernel⟩
theorem qV_X11_car : Cond.selects RX11 yX11_car yX11_car ∈ lw_g := List.mem_filter.mpr ⟨List.mem_of_getElem? (i := 463) (by decide +kernel), by decide +kernel⟩
theorem qV_X11_change : Cond.selects RX11 yX11_change yX11_change ∈ lw_g := List.mem_filter.mpr ⟨List.mem_of_getElem? (i := 897) (by decide +kernel), by decide +kernel⟩
theorem qV_X11_crane : Cond.selects RX11 yX11_crane yX11_crane ∈ lw_g := List.mem_filter.mpr ⟨List.mem_of_getElem? (i := 1178) (by decide +kernel), by decide +kernel⟩
theorem qV_X11_end : Cond.selects RX11 yX11_end yX11_end ∈ lw_g := List.mem_filter.mpr ⟨List.mem_of_getElem? (i := 514) (by decide +kernel), by decide +kernel⟩
theorem qV_X11_exploreFromNow : Cond.selects RX11 yX11_exploreFromNow yX11_exploreFromNow ∈ lw_g := List.mem_filter.mpr ⟨List.mem_of_getElem? (i := 36) (by decide +kernel), by decide +kernel⟩
theorem qV_X11_fastestOrder : Cond.selects RX11 yX11_fastestOrder yX11_fastestOrder ∈ lw_g := List.mem_filter.mpr ⟨List.mem_of_getElem? (i := 41) (by decide +kernel), by decide +kernel⟩
theorem qV_X11_fault : Cond.selects RX11 yX11_fault yX11_fault ∈ lw_g := List.mem_filter.mpr ⟨List.mem_of_getElem? (i := 778) (by decide +kernel), by decide +kernel⟩
theorem qV_X11_feed : Cond.selects RX11 yX11_feed yX11_feed ∈ lw_g := List.mem_filter.mpr ⟨List.mem_of_getElem? (i := 506) (by decide +kernel), by decide +kernel⟩
theorem qV_X11_fitsAllSeen : Cond.selects RX11 yX11_fitsAllSeen yX11_fitsAllSeen ∈ lw_g := List.mem_filter.mpr ⟨List.mem_of_getElem? (i := 48) (by decide +kernel), by decide +kernel⟩
theorem qV_X11_fitsSeen : Cond.selects RX11 yX11_fitsSeen yX11_fitsSeen ∈ lw_g := List.mem_filter.mpr ⟨List.mem_of_getElem? (i := 49) (by decide +kernel), by decide +kernel⟩
theorem qV_X11_forbid : Cond.selects RX11 yX11_forbid yX11_forbid ∈ lw_g := List.mem_filter.mpr ⟨List.mem_of_getElem? (i := 486) (by decide +kernel), by decide +kernel⟩
theorem qV_X11_foretold : Cond.selects RX11 yX11_foretold yX11_foretold ∈ lw_g := List.mem_filter.mpr ⟨List.mem_of_getElem? (i := 1061) (by decide +kernel), by decide +kernel⟩
theorem qV_X11_group : Cond.selects RX11 yX11_group yX11_group ∈ lw_g := List.mem_filter.mpr ⟨List.mem_of_getElem? (i := 1232) (by decide +kernel), by decide +kernel⟩
theorem qV_X11_heaviest : Cond.selects RX11 yX11_heaviest yX11_heaviest ∈ lw_g := List.mem_filter.mpr ⟨List.mem_of_getElem? (i := 1320) (by decide +kernel), by decide +kernel⟩
theorem qV_X11_histories : Cond.selects RX11 yX11_histories yX11_histories ∈ lw_g := List.mem_filter.mpr ⟨List.mem_of_getElem? (i := 1272) (by decide +kernel), by decide +kernel⟩
theorem qV_X11_hour : Cond.selects RX11 yX11_hour yX11_hour ∈ lw_g := List.mem_filter.mpr ⟨List.mem_of_getElem? (i := 931) (by decide +kernel), by decide +kernel⟩
theorem qV_X11_idle : Cond.selects RX11 yX11_idle yX11_idle ∈ lw_g := List.mem_filter.mpr ⟨List.mem_of_getElem? (i := 1192) (by decide +kernel), by decide +kernel⟩
theorem qV_X11_image : Cond.selects RX11 yX11_image yX11_image ∈ lw_g := List.mem_filter.mpr ⟨List.mem_of_getElem? (i := 1343) (by decide +kernel), by decide +kernel⟩
theorem qV_X11_is : Cond.selects RX11 yX11_is yX11_is ∈ lw_g := List.mem_filter.mpr ⟨List.mem_of_getElem? (i := 1044) (by decide +kernel), by decide +kernel⟩
theorem qV_X11_isCar : Cond.selects RX11 yX11_isCar yX11_isCar ∈ lw_g := List.mem_filter.mpr ⟨List.mem_of_getElem? (i := 1) (by decide +kernel), by decide +kernel⟩
theorem qV_X11_isText : Cond.selects RX11 yX11_isText yX11_isText ∈ lw_g := List.mem_filter.mpr ⟨List.mem_of_getElem? (i := 27) (by decide +kernel), by decide +kernel⟩
theorem qV_X11_lastMomentSeen : Cond.selects RX11 yX11_lastMomentSeen yX11_lastMomentSeen ∈ lw_g := List.mem_filter.mpr ⟨List.mem_of_getElem? (i := 47) (by decide +kernel), by decide +kernel⟩
theorem qV_X11_late : Cond.selects RX11 yX11_late yX11_late ∈ lw_g := List.mem_filter.mpr ⟨List.mem_of_getElem? (i := 1296) (by decide +kernel), by decide +kernel⟩
theorem qV_X11_law : Cond.selects RX11 yX11_law yX11_law ∈ lw_g := List.mem_filter.mpr ⟨List.mem_of_getElem? (i := 1036) (by decide +kernel), by decide +kernel⟩
theorem qV_X11_ledger : Cond.selects RX11 yX11_ledger yX11_ledger ∈ lw_g := List.mem_filter.mpr ⟨List.mem_of_getElem? (i := 1339) (by decide +kernel), by decide +kernel⟩
theorem qV_X11_lend : Cond.selects RX11 yX11_lend yX11_lend ∈ lw_g := List.mem_filter.mpr ⟨List.mem_of_getElem? (i := 923) (by decide +kernel), by decide +kernel⟩
theorem qV_X11_likely : Cond.selects RX11 yX11_likely yX11_likely ∈ lw_g := List.mem_filter.mpr ⟨List.mem_of_getElem? (i := 1300) (by decide +kernel), by decide +kernel⟩
theorem qV_X11_lowest : Cond.selects RX11 yX11_lowest yX11_lowest ∈ lw_g := List.mem_filter.mpr ⟨List.mem_of_getElem? (i := 1174) (by decide +kernel), by decide +kernel⟩
theorem qV_X11_move : Cond.selects RX11 yX11_move yX11_move ∈ lw_g := List.mem_filter.mpr ⟨List.mem_of_getElem? (i := 790) (by decide +kernel), by decide +kernel⟩
theorem qV_X11_of : Cond.selects RX11 yX11_of yX11_of ∈ lw_g := List.mem_filter.mpr ⟨List.mem_of_getElem? (i := 1007) (by decide +kernel), by decide +kernel⟩
theorem qV_X11_order : Cond.selects RX11 yX11_order yX11_order ∈ lw_g := List.mem_filter.mpr ⟨List.mem_of_getElem? (i := 1152) (by decide +kernel), by decide +kernel⟩
theorem qV_X11_owe : Cond.selects RX11 yX11_owe yX11_owe ∈ lw_g := List.mem_filter.mpr ⟨List.mem_of_getElem? (i := 1196) (by decide +kernel), by decide +kernel⟩
theorem qV_X11_played : Cond.selects RX11 yX11_played yX11_played ∈ lw_g := List.mem_filter.mpr ⟨List.mem_of_getElem? (i := 957) (by decide +kernel), by decide +kernel⟩
theorem qV_X11_reach : Cond.selects RX11 yX11_reach yX11_reach ∈ lw_g := List.mem_filter.mpr ⟨List.mem_of_getElem? (i := 1148) (by decide +kernel), by decide +kernel⟩
theorem qV_X11_rows : Cond.selects RX11 yX11_rows yX11_rows ∈ lw_g := List.mem_filter.mpr ⟨List.mem_of_getElem? (i := 1156) (by decide +kernel), by decide +kernel⟩
theorem qV_X11_said : Cond.selects RX11 yX11_said yX11_said ∈ lw_g := List.mem_filter.mpr ⟨List.mem_of_getElem? (i := 1308) (by decide +kernel), by decide +kernel⟩
theorem qV_X11_saysAllThatWasSaid : Cond.selects RX11 yX11_saysAllThatWasSaid yX11_saysAllThatWasSaid ∈ lw_g := List.mem_filter.mpr ⟨List.mem_of_getElem? (i := 50) (by decide +kernel), by decide +kernel⟩
theorem qV_X11_seen : Cond.selects RX11 yX11_seen yX11_seen ∈ lw_g := List.mem_filter.mpr ⟨List.mem_of_getElem? (i := 1268) (by decide +kernel), by decide +kernel⟩
theorem qV_X11_settled : Cond.selects RX11 yX11_settled yX11_settled ∈ lw_g := List.mem_filter.mpr ⟨List.mem_of_getElem? (i := 1208) (by decide +kernel), by decide +kernel⟩
theorem qV_X11_shunts : Cond.selects RX11 yX11_shunts yX11_shunts ∈ lw_g := List.mem_filter.mpr ⟨List.mem_of_getElem? (i := 1080) (by decide +kernel), by decide +kernel⟩
theorem qV_X11_stock : Cond.selects RX11 yX11_stock yX11_stock ∈ lw_g := List.mem_filter.mpr ⟨List.mem_of_getElem? (i := 1256) (by decide +kernel), by decide +kernel⟩
theorem qV_X11_text : Cond.selects RX11 yX11_text yX11_text ∈ lw_g := List.mem_filter.mpr ⟨List.mem_of_getElem? (i := 518) (by decide +kernel), by decide +kernel⟩
theorem qV_X11_times : Cond.selects RX11 yX11_times yX11_times ∈ lw_g := List.mem_filter.mpr ⟨List.mem_of_getElem? (i := 494) (by decide +kernel), by decide +kernel⟩
theorem qV_X11_track : Cond.selects RX11 yX11_track yX11_track ∈ lw_g := List.mem_filter.mpr ⟨List.mem_of_getElem? (i := 1030) (by decide +kernel), by decide +kernel⟩
theorem qV_X11_trip : Cond.selects RX11 yX11_trip yX11_trip ∈ lw_g := List.mem_filter.mpr ⟨List.mem_of_getElem? (i := 1244) (by decide +kernel), by decide +kernel⟩
theorem qV_X11_undo : Cond.selects RX11 yX11_undo yX11_undo ∈ lw_g := List.mem_filter.mpr ⟨List.mem_of_getElem? (i := 997) (by decide +kernel), by decide +kernel⟩
theorem qV_X11_want : Cond.selects RX11 yX11_want yX11_want ∈ lw_g := List.mem_filter.mpr ⟨List.mem_of_getElem? (i := 1076) (by decide +kernel), by decide +kernel⟩
theorem qV_X11_wantedCode : Cond.selects RX11 yX11_wantedCode yX11_wantedCode ∈ lw_g := List.mem_filter.mpr ⟨List.mem_of_getElem? (i := 40) (by decide +kernel), by decide +kernel⟩
theorem qV_X11_wheelsOut : Cond.selects RX11 yX11_wheelsOut yX11_wheelsOut ∈ lw_g := List.mem_filter.mpr ⟨List.mem_of_getElem? (i := 46) (by decide +kernel), by decide +kernel⟩
theorem qV_X11_whose : Cond.selects RX11 yX11_whose yX11_whose ∈ lw_g := List.mem_filter.mpr ⟨List.mem_of_getElem? (i := 1312) (by decide +kernel), by decide +kernel⟩
theorem qV_X11_worn : Cond.selects RX11 yX11_worn yX11_worn ∈ lw_g := List.mem_filter.mpr ⟨List.mem_of_getElem? (i := 1330) (by decide +kernel), by decide +kernel⟩
theorem qV_X11_years : Cond.selects RX11 yX11_years yX11_years ∈ lw_g := List.mem_filter.mpr ⟨List.mem_of_getElem? (i := 983) (by decide +kernel), by decide +kernel⟩
theorem qV_X12_about : Cond.selects RX12 yX12_about yX12_about ∈ lw_g := List.mem_filter.mpr ⟨List.mem_of_getElem? (i := 2071) (by decide +kernel), by decide +kernel⟩
theorem qV_X12_amiss : Cond.selects RX12 yX12_amiss yX12_amiss ∈ lw_g := List.mem_filter.mpr ⟨List.mem_of_getElem? (i := 1877) (by decide +kernel), by decide +kernel⟩
theorem qV_X12_anew : Cond.selects RX12 yX12_anew yX12_anew ∈ lw_g := List.mem_filter.mpr ⟨List.mem_of_getElem? (i := 102) (by decide +kernel), by decide +kernel⟩
theorem qV_X12_arePassed : Cond.selects RX12 yX12_arePassed yX12_arePassed ∈ lw_g := List.mem_filter.mpr ⟨List.mem_of_getElem? (i := 99) (by decide +kernel), by decide +kernel⟩
theorem qV_X12_back : Cond.selects RX12 yX12_back yX12_back ∈ lw_g := List.mem_filter.mpr ⟨List.mem_of_getElem? (i := 2067) (by decide +kernel), by decide +kernel⟩
theorem qV_X12_balance : Cond.selects RX12 yX12_balance yX12_balance ∈ lw_g := List.mem_filter.mpr ⟨List.mem_of_getElem? (i := 1983) (by decide +kernel), by decide +kernel⟩
theorem qV_X12_beginOne : Cond.selects RX12 yX12_beginOne yX12_beginOne ∈ lw_g := List.mem_filter.mpr ⟨List.mem_of_getElem? (i := 76) (by decide +kernel), by decide +kernel⟩
theorem qV_X12_behindOne : Cond.selects RX12 yX12_behindOne yX12_behindOne ∈ lw_g := List.mem_filter.mpr ⟨List.mem_of_getElem? (i := 67) (by decide +kernel), by decide +kernel⟩
theorem qV_X12_bestOrder : Cond.selects RX12 yX12_bestOrder yX12_bestOrder ∈ lw_g := List.mem_filter.mpr ⟨List.mem_of_getElem? (i := 120) (by decide +kernel), by decide +kernel⟩
theorem qV_X12_betweenOf : Cond.selects RX12 yX12_betweenOf yX12_betweenOf ∈ lw_g := List.mem_filter.mpr ⟨List.mem_of_getElem? (i := 68) (by decide +kernel), by decide +kernel⟩
theorem qV_X12_body : Cond.selects RX12 yX12_body yX12_body ∈ lw_g := List.mem_filter.mpr ⟨List.mem_of_getElem? (i := 62) (by decide +kernel), by decide +kernel⟩
theorem qV_X12_book : Cond.selects RX12 yX12_book yX12_book ∈ lw_g := List.mem_filter.mpr ⟨List.mem_of_getElem? (i := 1853) (by decide +kernel), by decide +kernel⟩
theorem qV_X12_by : Cond.selects RX12 yX12_by yX12_by ∈ lw_g := List.mem_filter.mpr ⟨List.mem_of_getElem? (i := 1671) (by decide +kernel), by decide +kernel⟩
theorem qV_X12_byteAt : Cond.selects RX12 yX12_byteAt yX12_byteAt ∈ lw_g := List.mem_filter.mpr ⟨List.mem_of_getElem? (i := 57) (by decide +kernel), by decide +kernel⟩
theorem qV_X12_canChange : Cond.selects RX12 yX12_canChange yX12_canChange ∈ lw_g := List.mem_filter.mpr ⟨List.mem_of_getElem? (i := 95) (by decide +kernel), by decide +kernel⟩
theorem qV_X12_canLend : Cond.selects RX12 yX12_canLend yX12_canLend ∈ lw_g := List.mem_filter.mpr ⟨List.mem_of_getElem? (i := 98) (by decide +kernel), by decide +kernel⟩
theorem qV_X12_canMove : Cond.selects RX12 yX12_canMove yX12_canMove ∈ lw_g := List.mem_filter.mpr ⟨List.mem_of_getElem? (i := 81) (by decide +kernel), by decide +kernel⟩
theorem qV_X12_car : Cond.selects RX12 yX12_car yX12_car ∈ lw_g := List.mem_filter.mpr ⟨List.mem_of_getElem? (i := 1488) (by decide +kernel), by decide +kernel⟩
theorem qV_X12_carOn : Cond.selects RX12 yX12_carOn yX12_carOn ∈ lw_g := List.mem_filter.mpr ⟨List.mem_of_getElem? (i := 83) (by decide +kernel), by decide +kernel⟩
theorem qV_X12_cars : Cond.selects RX12 yX12_cars yX12_cars ∈ lw_g := List.mem_filter.mpr ⟨List.mem_of_getElem? (i := 112) (by decide +kernel), by decide +kernel⟩
theorem qV_X12_change : Cond.selects RX12 yX12_change yX12_change ∈ lw_g := List.mem_filter.mpr ⟨List.mem_of_getElem? (i := 1761) (by decide +kernel), by decide +kernel⟩
theorem qV_X12_changeNow : Cond.selects RX12 yX12_changeNow yX12_changeNow ∈ lw_g := List.mem_filter.mpr ⟨List.mem_of_getElem? (i := 97) (by decide +kernel), by decide +kernel⟩
theorem qV_X12_changesOf : Cond.selects RX12 yX12_changesOf yX12_changesOf ∈ lw_g := List.mem_filter.mpr ⟨List.mem_of_getElem? (i := 96) (by decide +kernel), by decide +kernel⟩
theorem qV_X12_clause : Cond.selects RX12 yX12_clause yX12_clause ∈ lw_g := List.mem_filter.mpr ⟨List.mem_of_getElem? (i := 58) (by decide +kernel), by decide +kernel⟩
theorem qV_X12_come : Cond.selects RX12 yX12_come yX12_come ∈ lw_g := List.mem_filter.mpr ⟨List.mem_of_getElem? (i := 51) (by decide +kernel), by decide +kernel⟩
theorem qV_X12_compareOf : Cond.selects RX12 yX12_compareOf yX12_compareOf ∈ lw_g := List.mem_filter.mpr ⟨List.mem_of_getElem? (i := 72) (by decide +kernel), by decide +kernel⟩
theorem qV_X12_crane : Cond.selects RX12 yX12_crane yX12_crane ∈ lw_g := List.mem_filter.mpr ⟨List.mem_of_getElem? (i := 1960) (by decide +kernel), by decide +kernel⟩
theorem qV_X12_doneBy : Cond.selects RX12 yX12_doneBy yX12_doneBy ∈ lw_g := List.mem_filter.mpr ⟨List.mem_of_getElem? (i := 121) (by decide +kernel), by decide +kernel⟩
theorem qV_X12_drawnBy : Cond.selects RX12 yX12_drawnBy yX12_drawnBy ∈ lw_g := List.mem_filter.mpr ⟨List.mem_of_getElem? (i := 101) (by decide +kernel), by decide +kernel⟩
theorem qV_X12_emit : Cond.selects RX12 yX12_emit yX12_emit ∈ lw_g := List.mem_filter.mpr ⟨List.mem_of_getElem? (i := 74) (by decide +kernel), by decide +kernel⟩
theorem qV_X12_end : Cond.selects RX12 yX12_end yX12_end ∈ lw_g := List.mem_filter.mpr ⟨List.mem_of_getElem? (i := 1523) (by decide +kernel), by decide +kernel⟩
theorem qV_X12_endOf : Cond.selects RX12 yX12_endOf yX12_endOf ∈ lw_g := List.mem_filter.mpr ⟨List.mem_of_getElem? (i := 117) (by decide +kernel), by decide +kernel⟩
theorem qV_X12_entry : Cond.selects RX12 yX12_entry yX12_entry ∈ lw_g := List.mem_filter.mpr ⟨List.mem_of_getElem? (i := 107) (by decide +kernel), by decide +kernel⟩
theorem qV_X12_fault : Cond.selects RX12 yX12_fault yX12_fault ∈ lw_g := List.mem_filter.mpr ⟨List.mem_of_getElem? (i := 1667) (by decide +kernel), by decide +kernel⟩
theorem qV_X12_feed : Cond.selects RX12 yX12_feed yX12_feed ∈ lw_g := List.mem_filter.mpr ⟨List.mem_of_getElem? (i := 1515) (by decide +kernel), by decide +kernel⟩
theorem qV_X12_figure : Cond.selects RX12 yX12_figure yX12_figure ∈ lw_g := List.mem_filter.mpr ⟨List.mem_of_getElem? (i := 64) (by decide +kernel), by decide +kernel⟩
theorem qV_X12_forbid : Cond.selects RX12 yX12_forbid yX12_forbid ∈ lw_g := List.mem_filter.mpr ⟨List.mem_of_getElem? (i := 1499) (by decide +kernel), by decide +kernel⟩
theorem qV_X12_forbidOne : Cond.selects RX12 yX12_forbidOne yX12_forbidOne ∈ lw_g := List.mem_filter.mpr ⟨List.mem_of_getElem? (i := 52) (by decide +kernel), by decide +kernel⟩
theorem qV_X12_foretold : Cond.selects RX12 yX12_foretold yX12_foretold ∈ lw_g := List.mem_filter.mpr ⟨List.mem_of_getElem? (i := 1881) (by decide +kernel), by decide +kernel⟩
theorem qV_X12_four : Cond.selects RX12 yX12_four yX12_four ∈ lw_g := List.mem_filter.mpr ⟨List.mem_of_getElem? (i := 54) (by decide +kernel), by decide +kernel⟩
theorem qV_X12_group : Cond.selects RX12 yX12_group yX12_group ∈ lw_g := List.mem_filter.mpr ⟨List.mem_of_getElem? (i := 2003) (by decide +kernel), by decide +kernel⟩
theorem qV_X12_happens : Cond.selects RX12 yX12_happens yX12_happens ∈ lw_g := List.mem_filter.mpr ⟨List.mem_of_getElem? (i := 104) (by decide +kernel), by decide +kernel⟩
theorem qV_X12_heaviest : Cond.selects RX12 yX12_heaviest yX12_heaviest ∈ lw_g := List.mem_filter.mpr ⟨List.mem_of_getElem? (i := 1865) (by decide +kernel), by decide +kernel⟩
theorem qV_X12_histories : Cond.selects RX12 yX12_histories yX12_histories ∈ lw_g := List.mem_filter.mpr ⟨List.mem_of_getElem? (i := 2027) (by decide +kernel), by decide +kernel⟩
theorem qV_X12_hour : Cond.selects RX12 yX12_hour yX12_hour ∈ lw_g := List.mem_filter.mpr ⟨List.mem_of_getElem? (i := 1785) (by decide +kernel), by decide +kernel⟩
theorem qV_X12_idle : Cond.selects RX12 yX12_idle yX12_idle ∈ lw_g := List.mem_filter.mpr ⟨List.mem_of_getElem? (i := 1972) (by decide +kernel), by decide +kernel⟩
theorem qV_X12_image : Cond.selects RX12 yX12_image yX12_image ∈ lw_g := List.mem_filter.mpr ⟨List.mem_of_getElem? (i := 2063) (by decide +kernel), by decide +kernel⟩
theorem qV_X12_is : Cond.selects RX12 yX12_is yX12_is ∈ lw_g := List.mem_filter.mpr ⟨List.mem_of_getElem? (i := 1849) (by decide +kernel), by decide +kernel⟩
theorem qV_X12_isAskAhead : Cond.selects RX12 yX12_isAskAhead yX12_isAskAhead ∈ lw_g := List.mem_filter.mpr ⟨List.mem_of_getElem? (i := 80) (by decide +kernel), by decide +kernel⟩
theorem qV_X12_isCar : Cond.selects RX12 yX12_isCar yX12_isCar ∈ lw_g := List.mem_filter.mpr ⟨List.mem_of_getElem? (i := 53) (by decide +kernel), by decide +kernel⟩
theorem qV_X12_isChanges : Cond.selects RX12 yX12_isChanges yX12_isChanges ∈ lw_g := List.mem_filter.mpr ⟨List.mem_of_getElem? (i := 61) (by decide +kernel), by decide +kernel⟩
theorem qV_X12_isCompared : Cond.selects RX12 yX12_isCompared yX12_isCompared ∈ lw_g := List.mem_filter.mpr ⟨List.mem_of_getElem? (i := 71) (by decide +kernel), by decide +kernel⟩
theorem qV_X12_isForbidden : Cond.selects RX12 yX12_isForbidden yX12_isForbidden ∈ lw_g := List.mem_filter.mpr ⟨List.mem_of_getElem? (i := 84) (by decide +kernel), by decide +kernel⟩
theorem qV_X12_isHistory : Cond.selects RX12 yX12_isHistory yX12_isHistory ∈ lw_g := List.mem_filter.mpr ⟨List.mem_of_getElem? (i := 126) (by decide +kernel), by decide +kernel⟩
theorem qV_X12_isOf : Cond.selects RX12 yX12_isOf yX12_isOf ∈ lw_g := List.mem_filter.mpr ⟨List.mem_of_getElem? (i := 78) (by decide +kernel), by decide +kernel⟩
theorem qV_X12_isOnTrack : Cond.selects RX12 yX12_isOnTrack yX12_isOnTrack ∈ lw_g := List.mem_filter.mpr ⟨List.mem_of_getElem? (i := 119) (by decide +kernel), by decide +kernel⟩
theorem qV_X12_isPlayed : Cond.selects RX12 yX12_isPlayed yX12_isPlayed ∈ lw_g := List.mem_filter.mpr ⟨List.mem_of_getElem? (i := 103) (by decide +kernel), by decide +kernel⟩
theorem qV_X12_isSeenAt : Cond.selects RX12 yX12_isSeenAt yX12_isSeenAt ∈ lw_g := List.mem_filter.mpr ⟨List.mem_of_getElem? (i := 127) (by decide +kernel), by decide +kernel⟩
theorem qV_X12_isShunted : Cond.selects RX12 yX12_isShunted yX12_isShunted ∈ lw_g := List.mem_filter.mpr ⟨List.mem_of_getElem? (i := 116) (by decide +kernel), by decide +kernel⟩
theorem qV_X12_isThere : Cond.selects RX12 yX12_isThere yX12_isThere ∈ lw_g := List.mem_filter.mpr ⟨List.mem_of_getElem? (i := 128) (by decide +kernel), by decide +kernel⟩
theorem qV_X12_isWanted : Cond.selects RX12 yX12_isWanted yX12_isWanted ∈ lw_g := List.mem_filter.mpr ⟨List.mem_of_getElem? (i := 114) (by decide +kernel), by decide +kernel⟩
theorem qV_X12_isWide : Cond.selects RX12 yX12_isWide yX12_isWide ∈ lw_g := List.mem_filter.mpr ⟨List.mem_of_getElem? (i := 85) (by decide +kernel), by decide +kernel⟩
theorem qV_X12_isWord : Cond.selects RX12 yX12_isWord yX12_isWord ∈ lw_g := List.mem_filter.mpr ⟨List.mem_of_getElem? (i := 60) (by decide +kernel), by decide +kernel⟩
theorem qV_X12_keep : Cond.selects RX12 yX12_keep yX12_keep ∈ lw_g := List.mem_filter.mpr ⟨List.mem_of_getElem? (i := 92) (by decide +kernel), by decide +kernel⟩
theorem qV_X12_late : Cond.selects RX12 yX12_late yX12_late ∈ lw_g := List.mem_filter.mpr ⟨List.mem_of_getElem? (i := 2043) (by decide +kernel), by decide +kernel⟩
theorem qV_X12_law : Cond.selects RX12 yX12_law yX12_law ∈ lw_g := List.mem_filter.mpr ⟨List.mem_of_getElem? (i := 1845) (by decide +kernel), by decide +kernel⟩
theorem qV_X12_lawClause : Cond.selects RX12 yX12_lawClause yX12_lawClause ∈ lw_g := List.mem_filter.mpr ⟨List.mem_of_getElem? (i := 65) (by decide +kernel), by decide +kernel⟩
theorem qV_X12_layGroups : Cond.selects RX12 yX12_layGroups yX12_layGroups ∈ lw_g := List.mem_filter.mpr ⟨List.mem_of_getElem? (i := 122) (by decide +kernel), by decide +kernel⟩
theorem qV_X12_layRow : Cond.selects RX12 yX12_layRow yX12_layRow ∈ lw_g := List.mem_filter.mpr ⟨List.mem_of_getElem? (i := 109) (by decide +kernel), by decide +kernel⟩
theorem qV_X12_layRows : Cond.selects RX12 yX12_layRows yX12_layRows ∈ lw_g := List.mem_filter.mpr ⟨List.mem_of_getElem? (i := 118) (by decide +kernel), by decide +kernel⟩
theorem qV_X12_ledger : Cond.selects RX12 yX12_ledger yX12_ledger ∈ lw_g := List.mem_filter.mpr ⟨List.mem_of_getElem? (i := 1861) (by decide +kernel), by decide +kernel⟩
theorem qV_X12_lend : Cond.selects RX12 yX12_lend yX12_lend ∈ lw_g := List.mem_filter.mpr ⟨List.mem_of_getElem? (i := 1777) (by decide +kernel), by decide +kernel⟩
theorem qV_X12_likely : Cond.selects RX12 yX12_likely yX12_likely ∈ lw_g := List.mem_filter.mpr ⟨List.mem_of_getElem? (i := 2047) (by decide +kernel), by decide +kernel⟩
theorem qV_X12_loadOf : Cond.selects RX12 yX12_loadOf yX12_loadOf ∈ lw_g := List.mem_filter.mpr ⟨List.mem_of_getElem? (i := 108) (by decide +kernel), by decide +kernel⟩
theorem qV_X12_lowest : Cond.selects RX12 yX12_lowest yX12_lowest ∈ lw_g := List.mem_filter.mpr ⟨List.mem_of_getElem? (i := 1956) (by decide +kernel), by decide +kernel⟩
theorem qV_X12_lowestGroup : Cond.selects RX12 yX12_lowestGroup yX12_lowestGroup ∈ lw_g := List.mem_filter.mpr ⟨List.mem_of_getElem? (i := 124) (by decide +kernel), by decide +kernel⟩
theorem qV_X12_move : Cond.selects RX12 yX12_move yX12_move ∈ lw_g := List.mem_filter.mpr ⟨List.mem_of_getElem? (i := 1679) (by decide +kernel), by decide +kernel⟩
theorem qV_X12_moveNow : Cond.selects RX12 yX12_moveNow yX12_moveNow ∈ lw_g := List.mem_filter.mpr ⟨List.mem_of_getElem? (i := 93) (by decide +kernel), by decide +kernel⟩
theorem qV_X12_movesOf : Cond.selects RX12 yX12_movesOf yX12_movesOf ∈ lw_g := List.mem_filter.mpr ⟨List.mem_of_getElem? (i := 86) (by decide +kernel), by decide +kernel⟩
theorem qV_X12_name : Cond.selects RX12 yX12_name yX12_name ∈ lw_g := List.mem_filter.mpr ⟨List.mem_of_getElem? (i := 87) (by decide +kernel), by decide +kernel⟩
theorem qV_X12_nameOf : Cond.selects RX12 yX12_nameOf yX12_nameOf ∈ lw_g := List.mem_filter.mpr ⟨List.mem_of_getElem? (i := 77) (by decide +kernel), by decide +kernel⟩
theorem qV_X12_nextToken : Cond.selects RX12 yX12_nextToken yX12_nextToken ∈ lw_g := List.mem_filter.mpr ⟨List.mem_of_getElem? (i := 56) (by decide +kernel), by decide +kernel⟩
theorem qV_X12_of : Cond.selects RX12 yX12_of yX12_of ∈ lw_g := List.mem_filter.mpr ⟨List.mem_of_getElem? (i := 1829) (by decide +kernel), by decide +kernel⟩
theorem qV_X12_ofOne : Cond.selects RX12 yX12_ofOne yX12_ofOne ∈ lw_g := List.mem_filter.mpr ⟨List.mem_of_getElem? (i := 90) (by decide +kernel), by decide +kernel⟩
theorem qV_X12_openAt : Cond.selects RX12 yX12_openAt yX12_openAt ∈ lw_g := List.mem_filter.mpr ⟨List.mem_of_getElem? (i := 70) (by decide +kernel), by decide +kernel⟩
theorem qV_X12_openNow : Cond.selects RX12 yX12_openNow yX12_openNow ∈ lw_g := List.mem_filter.mpr ⟨List.mem_of_getElem? (i := 69) (by decide +kernel), by decide +kernel⟩
theorem qV_X12_opened : Cond.selects RX12 yX12_opened yX12_opened ∈ lw_g := List.mem_filter.mpr ⟨List.mem_of_getElem? (i := 79) (by decide +kernel), by decide +kernel⟩
theorem qV_X12_order : Cond.selects RX12 yX12_order yX12_order ∈ lw_g := List.mem_filter.mpr ⟨List.mem_of_getElem? (i := 1885) (by decide +kernel), by decide +kernel⟩
theorem qV_X12_outOn : Cond.selects RX12 yX12_outOn yX12_outOn ∈ lw_g := List.mem_filter.mpr ⟨List.mem_of_getElem? (i := 125) (by decide +kernel), by decide +kernel⟩
theorem qV_X12_owe : Cond.selects RX12 yX12_owe yX12_owe ∈ lw_g := List.mem_filter.mpr ⟨List.mem_of_getElem? (i := 1976) (by decide +kernel), by decide +kernel⟩
theorem qV_X12_pair : Cond.selects RX12 yX12_pair yX12_pair ∈ lw_g := List.mem_filter.mpr ⟨List.mem_of_getElem? (i := 63) (by decide +kernel), by decide +kernel⟩
theorem qV_X12_partOf : Cond.selects RX12 yX12_partOf yX12_partOf ∈ lw_g := List.mem_filter.mpr ⟨List.mem_of_getElem? (i := 75) (by decide +kernel), by decide +kernel⟩
theorem qV_X12_pass : Cond.selects RX12 yX12_pass yX12_pass ∈ lw_g := List.mem_filter.mpr ⟨List.mem_of_getElem? (i := 100) (by decide +kernel), by decide +kernel⟩
theorem qV_X12_placeOf : Cond.selects RX12 yX12_placeOf yX12_placeOf ∈ lw_g := List.mem_filter.mpr ⟨List.mem_of_getElem? (i := 106) (by decide +kernel), by decide +kernel⟩
theorem qV_X12_played : Cond.selects RX12 yX12_played yX12_played ∈ lw_g := List.mem_filter.mpr ⟨List.mem_of_getElem? (i := 1808) (by decide +kernel), by decide +kernel⟩
theorem qV_X12_reach : Cond.selects RX12 yX12_reach yX12_reach ∈ lw_g := List.mem_filter.mpr ⟨List.mem_of_getElem? (i := 1903) (by decide +kernel), by decide +kernel⟩
theorem qV_X12_readText : Cond.selects RX12 yX12_readText yX12_readText ∈ lw_g := List.mem_filter.mpr ⟨List.mem_of_getElem? (i := 55) (by decide +kernel), by decide +kernel⟩
theorem qV_X12_rows : Cond.selects RX12 yX12_rows yX12_rows ∈ lw_g := List.mem_filter.mpr ⟨List.mem_of_getElem? (i := 1943) (by decide +kernel), by decide +kernel⟩
theorem qV_X12_said : Cond.selects RX12 yX12_said yX12_said ∈ lw_g := List.mem_filter.mpr ⟨List.mem_of_getElem? (i := 2055) (by decide +kernel), by decide +kernel⟩
theorem qV_X12_says : Cond.selects RX12 yX12_says yX12_says ∈ lw_g := List.mem_filter.mpr ⟨List.mem_of_getElem? (i := 88) (by decide +kernel), by decide +kernel⟩
theorem qV_X12_seen : Cond.selects RX12 yX12_seen yX12_seen ∈ lw_g := List.mem_filter.mpr ⟨List.mem_of_getElem? (i := 2023) (by decide +kernel), by decide +kernel⟩
theorem qV_X12_settle : Cond.selects RX12 yX12_settle yX12_settle ∈ lw_g := List.mem_filter.mpr ⟨List.mem_of_getElem? (i := 73) (by decide +kernel), by decide +kernel⟩
theorem qV_X12_settled : Cond.selects RX12 yX12_settled yX12_settled ∈ lw_g := List.mem_filter.mpr ⟨List.mem_of_getElem? (i := 1988) (by decide +kernel), by decide +kernel⟩
theorem qV_X12_shunts : Cond.selects RX12 yX12_shunts yX12_shunts ∈ lw_g := List.mem_filter.mpr ⟨List.mem_of_getElem? (i := 1939) (by decide +kernel), by decide +kernel⟩
theorem qV_X12_sortOf : Cond.selects RX12 yX12_sortOf yX12_sortOf ∈ lw_g := List.mem_filter.mpr ⟨List.mem_of_getElem? (i := 59) (by decide +kernel), by decide +kernel⟩
theorem qV_X12_spread : Cond.selects RX12 yX12_spread yX12_spread ∈ lw_g := List.mem_filter.mpr ⟨List.mem_of_getElem? (i := 110) (by decide +kernel), by decide +kernel⟩
theorem qV_X12_standOf : Cond.selects RX12 yX12_standOf yX12_standOf ∈ lw_g := List.mem_filter.mpr ⟨List.mem_of_getElem? (i := 113) (by decide +kernel), by decide +kernel⟩
theorem qV_X12_standSo : Cond.selects RX12 yX12_standSo yX12_standSo ∈ lw_g := List.mem_filter.mpr ⟨List.mem_of_getElem? (i := 115) (by decide +kernel), by decide +kernel⟩
theorem qV_X12_stock : Cond.selects RX12 yX12_stock yX12_stock ∈ lw_g := List.mem_filter.mpr ⟨List.mem_of_getElem? (i := 2015) (by decide +kernel), by decide +kernel⟩
theorem qV_X12_sumOf : Cond.selects RX12 yX12_sumOf yX12_sumOf ∈ lw_g := List.mem_filter.mpr ⟨List.mem_of_getElem? (i := 123) (by decide +kernel), by decide +kernel⟩
theorem qV_X12_summed : Cond.selects RX12 yX12_summed yX12_summed ∈ lw_g := List.mem_filter.mpr ⟨List.mem_of_getElem? (i := 66) (by decide +kernel), by decide +kernel⟩
theorem qV_X12_summedUp : Cond.selects RX12 yX12_summedUp yX12_summedUp ∈ lw_g := List.mem_filter.mpr ⟨List.mem_of_getElem? (i := 89) (by decide +kernel), by decide +kernel⟩
theorem qV_X12_takeFrom : Cond.selects RX12 yX12_takeFrom yX12_takeFrom ∈ lw_g := List.mem_filter.mpr ⟨List.mem_of_getElem? (i := 111) (by decide +kernel), by decide +kernel⟩
theorem qV_X12_text : Cond.selects RX12 yX12_text yX12_text ∈ lw_g := List.mem_filter.mpr ⟨List.mem_of_getElem? (i := 1527) (by decide +kernel), by decide +kernel⟩
theorem qV_X12_times : Cond.selects RX12 yX12_times yX12_times ∈ lw_g := List.mem_filter.mpr ⟨List.mem_of_getElem? (i := 1507) (by decide +kernel), by decide +kernel⟩
theorem qV_X12_topLoad : Cond.selects RX12 yX12_topLoad yX12_topLoad ∈ lw_g := List.mem_filter.mpr ⟨List.mem_of_getElem? (i := 91) (by decide +kernel), by decide +kernel⟩
theorem qV_X12_track : Cond.selects RX12 yX12_track yX12_track ∈ lw_g := List.mem_filter.mpr ⟨List.mem_of_getElem? (i := 1841) (by decide +kernel), by decide +kernel⟩
theorem qV_X12_trackOf : Cond.selects RX12 yX12_trackOf yX12_trackOf ∈ lw_g := List.mem_filter.mpr ⟨List.mem_of_getElem? (i := 105) (by decide +kernel), by decide +kernel⟩
theorem qV_X12_trip : Cond.selects RX12 yX12_trip yX12_trip ∈ lw_g := List.mem_filter.mpr ⟨List.mem_of_getElem? (i := 2011) (by decide +kernel), by decide +kernel⟩
theorem qV_X12_undo : Cond.selects RX12 yX12_undo yX12_undo ∈ lw_g := List.mem_filter.mpr ⟨List.mem_of_getElem? (i := 1675) (by decide +kernel), by decide +kernel⟩
theorem qV_X12_uppermost : Cond.selects RX12 yX12_uppermost yX12_uppermost ∈ lw_g := List.mem_filter.mpr ⟨List.mem_of_getElem? (i := 82) (by decide +kernel), by decide +kernel⟩
theorem qV_X12_want : Cond.selects RX12 yX12_want yX12_want ∈ lw_g := List.mem_filter.mpr ⟨List.mem_of_getElem? (i := 1899) (by decide +kernel), by decide +kernel⟩
theorem qV_X12_whose : Cond.selects RX12 yX12_whose yX12_whose ∈ lw_g := List.mem_filter.mpr ⟨List.mem_of_getElem? (i := 2059) (by decide +kernel), by decide +kernel⟩
theorem qV_X12_worn : Cond.selects RX12 yX12_worn yX12_worn ∈ lw_g := List.mem_filter.mpr ⟨List.mem_of_getElem? (i := 1873) (by decide +kernel), by decide +kernel⟩
theorem qV_X12_write : Cond.selects RX12 yX12_write yX12_write ∈ lw_g := List.mem_filter.mpr ⟨List.mem_of_getElem? (i := 94) (by decide +kernel), by decide +kernel⟩
theorem qV_X12_years : Cond.selects RX12 yX12_years yX12_years ∈ lw_g := List.mem_filter.mpr ⟨List.mem_of_getElem? (i := 1821) (by decide +kernel), by decide +kernel⟩
theorem qV_X1_fillRow : Cond.selects RX1 yX1_fillRow yX1_fillRow ∈ lw_g := List.mem_filter.mpr ⟨List.mem_of_getElem? (i := 1127) (by decide +kernel), by decide +kernel⟩
theorem qV_X1_mayStand : Cond.selects RX1 yX1_mayStand yX1_mayStand ∈ lw_g := List.mem_filter.mpr ⟨List.mem_of_getElem? (i := 1165) (by decide +kernel), by decide +kernel⟩
theorem qV_X1_timeOf : Cond.selects RX1 yX1_timeOf yX1_timeOf ∈ lw_g := List.mem_filter.mpr ⟨List.mem_of_getElem? (i := 1186) (by decide +kernel), by decide +kernel⟩
theorem qV_X2_addClause : Cond.selects RX2 yX2_addClause yX2_addClause ∈ lw_g := List.mem_filter.mpr ⟨List.mem_of_getElem? (i := 25) (by decide +kernel), by decide +kernel⟩
theorem qV_X2_behindNumber : Cond.selects RX2 yX2_behindNumber yX2_behindNumber ∈ lw_g := List.mem_filter.mpr ⟨List.mem_of_getElem? (i := 5) (by decide +kernel), by decide +kernel⟩
theorem qV_X2_behindWord : Cond.selects RX2 yX2_behindWord yX2_behindWord ∈ lw_g := List.mem_filter.mpr ⟨List.mem_of_getElem? (i := 3) (by decide +kernel), by decide +kernel⟩
theorem qV_X2_emit : Cond.selects RX2 yX2_emit yX2_emit ∈ lw_g := List.mem_filter.mpr ⟨List.mem_of_getElem? (i := 17) (by decide +kernel), by decide +kernel⟩
theorem qV_X2_expect : Cond.selects RX2 yX2_expect yX2_expect ∈ lw_g := List.mem_filter.mpr ⟨List.mem_of_getElem? (i := 20) (by decide +kernel), by decide +kernel⟩
theorem qV_X2_expectNumber : Cond.selects RX2 yX2_expectNumber yX2_expectNumber ∈ lw_g := List.mem_filter.mpr ⟨List.mem_of_getElem? (i := 16) (by decide +kernel), by decide +kernel⟩
theorem qV_X2_fail : Cond.selects RX2 yX2_fail yX2_fail ∈ lw_g := List.mem_filter.mpr ⟨List.mem_of_getElem? (i := 10) (by decide +kernel), by decide +kernel⟩
theorem qV_X2_nextToken : Cond.selects RX2 yX2_nextToken yX2_nextToken ∈ lw_g := List.mem_filter.mpr ⟨List.mem_of_getElem? (i := 11) (by decide +kernel), by decide +kernel⟩
theorem qV_X2_numberAt : Cond.selects RX2 yX2_numberAt yX2_numberAt ∈ lw_g := List.mem_filter.mpr ⟨List.mem_of_getElem? (i := 6) (by decide +kernel), by decide +kernel⟩
theorem qV_X2_opens : Cond.selects RX2 yX2_opens yX2_opens ∈ lw_g := List.mem_filter.mpr ⟨List.mem_of_getElem? (i := 19) (by decide +kernel), by decide +kernel⟩
theorem qV_X2_readAsk : Cond.selects RX2 yX2_readAsk yX2_readAsk ∈ lw_g := List.mem_filter.mpr ⟨List.mem_of_getElem? (i := 24) (by decide +kernel), by decide +kernel⟩
theorem qV_X2_readBoth : Cond.selects RX2 yX2_readBoth yX2_readBoth ∈ lw_g := List.mem_filter.mpr ⟨List.mem_of_getElem? (i := 23) (by decide +kernel), by decide +kernel⟩
theorem qV_X2_readChoice : Cond.selects RX2 yX2_readChoice yX2_readChoice ∈ lw_g := List.mem_filter.mpr ⟨List.mem_of_getElem? (i := 21) (by decide +kernel), by decide +kernel⟩
theorem qV_X2_readClause : Cond.selects RX2 yX2_readClause yX2_readClause ∈ lw_g := List.mem_filter.mpr ⟨List.mem_of_getElem? (i := 9) (by decide +kernel), by decide +kernel⟩
theorem qV_X2_readDeed : Cond.selects RX2 yX2_readDeed yX2_readDeed ∈ lw_g := List.mem_filter.mpr ⟨List.mem_of_getElem? (i := 26) (by decide +kernel), by decide +kernel⟩
theorem qV_X2_readEither : Cond.selects RX2 yX2_readEither yX2_readEither ∈ lw_g := List.mem_filter.mpr ⟨List.mem_of_getElem? (i := 22) (by decide +kernel), by decide +kernel⟩
theorem qV_X2_readLaw : Cond.selects RX2 yX2_readLaw yX2_readLaw ∈ lw_g := List.mem_filter.mpr ⟨List.mem_of_getElem? (i := 12) (by decide +kernel), by decide +kernel⟩
theorem qV_X2_readName : Cond.selects RX2 yX2_readName yX2_readName ∈ lw_g := List.mem_filter.mpr ⟨List.mem_of_getElem? (i := 18) (by decide +kernel), by decide +kernel⟩
theorem qV_X2_readOne : Cond.selects RX2 yX2_readOne yX2_readOne ∈ lw_g := List.mem_filter.mpr ⟨List.mem_of_getElem? (i := 15) (by decide +kernel), by decide +kernel⟩
theorem qV_X2_readProduct : Cond.selects RX2 yX2_readProduct yX2_readProduct ∈ lw_g := List.mem_filter.mpr ⟨List.mem_of_getElem? (i := 14) (by decide +kernel), by decide +kernel⟩
theorem qV_X2_readSum : Cond.selects RX2 yX2_readSum yX2_readSum ∈ lw_g := List.mem_filter.mpr ⟨List.mem_of_getElem? (i := 13) (by decide +kernel), by decide +kernel⟩
theorem qV_X2_readTape : Cond.selects RX2 yX2_readTape yX2_readTape ∈ lw_g := List.mem_filter.mpr ⟨List.mem_of_getElem? (i := 522) (by decide +kernel), by decide +kernel⟩
theorem qV_X2_signAt : Cond.selects RX2 yX2_signAt yX2_signAt ∈ lw_g := List.mem_filter.mpr ⟨List.mem_of_getElem? (i := 8) (by decide +kernel), by decide +kernel⟩
theorem qV_X2_splitTape : Cond.selects RX2 yX2_splitTape yX2_splitTape ∈ lw_g := List.mem_filter.mpr ⟨List.mem_of_getElem? (i := 2) (by decide +kernel), by decide +kernel⟩
theorem qV_X2_startsDouble : Cond.selects RX2 yX2_startsDouble yX2_startsDouble ∈ lw_g := List.mem_filter.mpr ⟨List.mem_of_getElem? (i := 7) (by decide +kernel), by decide +kernel⟩
theorem qV_X2_takeFour : Cond.selects RX2 yX2_takeFour yX2_takeFour ∈ lw_g := List.mem_filter.mpr ⟨List.mem_of_getElem? (i := 510) (by decide +kernel), by decide +kernel⟩
theorem qV_X2_wordAt : Cond.selects RX2 yX2_wordAt yX2_wordAt ∈ lw_g := List.mem_filter.mpr ⟨List.mem_of_getElem? (i := 4) (by decide +kernel), by decide +kernel⟩
theorem qV_X3_operate : Cond.selects RX3 yX3_operate yX3_operate ∈ lw_g := List.mem_filter.mpr ⟨List.mem_of_getElem? (i := 32) (by decide +kernel), by decide +kernel⟩
theorem qV_X3_pop : Cond.selects RX3 yX3_pop yX3_pop ∈ lw_g := List.mem_filter.mpr ⟨List.mem_of_getElem? (i := 33) (by decide +kernel), by decide +kernel⟩
theorem qV_X3_push : Cond.selects RX3 yX3_push yX3_push ∈ lw_g := List.mem_filter.mpr ⟨List.mem_of_getElem? (i := 30) (by decide +kernel), by decide +kernel⟩
theorem qV_X3_valueOf : Cond.selects RX3 yX3_valueOf yX3_valueOf ∈ lw_g := List.mem_filter.mpr ⟨List.mem_of_getElem? (i := 31) (by decide +kernel), by decide +kernel⟩
theorem qV_X3_weigh : Cond.selects RX3 yX3_weigh yX3_weigh ∈ lw_g := List.mem_filter.mpr ⟨List.mem_of_getElem? (i := 847) (by decide +kernel), by decide +kernel⟩
theorem qV_X4_codeBehind : Cond.selects RX4 yX4_codeBehind yX4_codeBehind ∈ lw_g := List.mem_filter.mpr ⟨List.mem_of_getElem? (i := 1292) (by decide +kernel), by decide +kernel⟩
theorem qV_X4_countMovesTo : Cond.selects RX4 yX4_countMovesTo yX4_countMovesTo ∈ lw_g := List.mem_filter.mpr ⟨List.mem_of_getElem? (i := 1140) (by decide +kernel), by decide +kernel⟩
theorem qV_X4_explore : Cond.selects RX4 yX4_explore yX4_explore ∈ lw_g := List.mem_filter.mpr ⟨List.mem_of_getElem? (i := 1099) (by decide +kernel), by decide +kernel⟩
theorem qV_X4_findTops : Cond.selects RX4 yX4_findTops yX4_findTops ∈ lw_g := List.mem_filter.mpr ⟨List.mem_of_getElem? (i := 38) (by decide +kernel), by decide +kernel⟩
theorem qV_X4_moveOnWayTo : Cond.selects RX4 yX4_moveOnWayTo yX4_moveOnWayTo ∈ lw_g := List.mem_filter.mpr ⟨List.mem_of_getElem? (i := 1144) (by decide +kernel), by decide +kernel⟩
theorem qV_X4_moved : Cond.selects RX4 yX4_moved yX4_moved ∈ lw_g := List.mem_filter.mpr ⟨List.mem_of_getElem? (i := 39) (by decide +kernel), by decide +kernel⟩
theorem qV_X4_note : Cond.selects RX4 yX4_note yX4_note ∈ lw_g := List.mem_filter.mpr ⟨List.mem_of_getElem? (i := 37) (by decide +kernel), by decide +kernel⟩
theorem qV_X4_placeOfGoal : Cond.selects RX4 yX4_placeOfGoal yX4_placeOfGoal ∈ lw_g := List.mem_filter.mpr ⟨List.mem_of_getElem? (i := 1136) (by decide +kernel), by decide +kernel⟩
theorem qV_X5_addCar : Cond.selects RX5 yX5_addCar yX5_addCar ∈ lw_g := List.mem_filter.mpr ⟨List.mem_of_getElem? (i := 470) (by decide +kernel), by decide +kernel⟩
theorem qV_X5_copyFrom : Cond.selects RX5 yX5_copyFrom yX5_copyFrom ∈ lw_g := List.mem_filter.mpr ⟨List.mem_of_getElem? (i := 1347) (by decide +kernel), by decide +kernel⟩
theorem qV_X5_loadOfUppermost : Cond.selects RX5 yX5_loadOfUppermost yX5_loadOfUppermost ∈ lw_g := List.mem_filter.mpr ⟨List.mem_of_getElem? (i := 841) (by decide +kernel), by decide +kernel⟩
theorem qV_X5_loadOn : Cond.selects RX5 yX5_loadOn yX5_loadOn ∈ lw_g := List.mem_filter.mpr ⟨List.mem_of_getElem? (i := 1324) (by decide +kernel), by decide +kernel⟩
theorem qV_X5_mayStandBeside : Cond.selects RX5 yX5_mayStandBeside yX5_mayStandBeside ∈ lw_g := List.mem_filter.mpr ⟨List.mem_of_getElem? (i := 813) (by decide +kernel), by decide +kernel⟩
theorem qV_X5_pairsThatMay : Cond.selects RX5 yX5_pairsThatMay yX5_pairsThatMay ∈ lw_g := List.mem_filter.mpr ⟨List.mem_of_getElem? (i := 1093) (by decide +kernel), by decide +kernel⟩
theorem qV_X5_rulingText : Cond.selects RX5 yX5_rulingText yX5_rulingText ∈ lw_g := List.mem_filter.mpr ⟨List.mem_of_getElem? (i := 821) (by decide +kernel), by decide +kernel⟩
theorem qV_X5_setForbidden : Cond.selects RX5 yX5_setForbidden yX5_setForbidden ∈ lw_g := List.mem_filter.mpr ⟨List.mem_of_getElem? (i := 490) (by decide +kernel), by decide +kernel⟩
theorem qV_X6_copyFrom : Cond.selects RX6 yX6_copyFrom yX6_copyFrom ∈ lw_g := List.mem_filter.mpr ⟨List.mem_of_getElem? (i := 1352) (by decide +kernel), by decide +kernel⟩
theorem qV_X6_keep : Cond.selects RX6 yX6_keep yX6_keep ∈ lw_g := List.mem_filter.mpr ⟨List.mem_of_getElem? (i := 882) (by decide +kernel), by decide +kernel⟩
theorem qV_X6_takeBack : Cond.selects RX6 yX6_takeBack yX6_takeBack ∈ lw_g := List.mem_filter.mpr ⟨List.mem_of_getElem? (i := 1001) (by decide +kernel), by decide +kernel⟩
theorem qV_X7_add : Cond.selects RX7 yX7_add yX7_add ∈ lw_g := List.mem_filter.mpr ⟨List.mem_of_getElem? (i := 1252) (by decide +kernel), by decide +kernel⟩
theorem qV_X7_cell : Cond.selects RX7 yX7_cell yX7_cell ∈ lw_g := List.mem_filter.mpr ⟨List.mem_of_getElem? (i := 1264) (by decide +kernel), by decide +kernel⟩
theorem qV_X7_copyFrom : Cond.selects RX7 yX7_copyFrom yX7_copyFrom ∈ lw_g := List.mem_filter.mpr ⟨List.mem_of_getElem? (i := 1357) (by decide +kernel), by decide +kernel⟩
theorem qV_X7_empty : Cond.selects RX7 yX7_empty yX7_empty ∈ lw_g := List.mem_filter.mpr ⟨List.mem_of_getElem? (i := 1248) (by decide +kernel), by decide +kernel⟩
theorem qV_X8_clausePart : Cond.selects RX8 yX8_clausePart yX8_clausePart ∈ lw_g := List.mem_filter.mpr ⟨List.mem_of_getElem? (i := 969) (by decide +kernel), by decide +kernel⟩
theorem qV_X8_codeBehind : Cond.selects RX8 yX8_codeBehind yX8_codeBehind ∈ lw_g := List.mem_filter.mpr ⟨List.mem_of_getElem? (i := 851) (by decide +kernel), by decide +kernel⟩
theorem qV_X8_codeFrom : Cond.selects RX8 yX8_codeFrom yX8_codeFrom ∈ lw_g := List.mem_filter.mpr ⟨List.mem_of_getElem? (i := 856) (by decide +kernel), by decide +kernel⟩
theorem qV_X8_countClauses : Cond.selects RX8 yX8_countClauses yX8_countClauses ∈ lw_g := List.mem_filter.mpr ⟨List.mem_of_getElem? (i := 961) (by decide +kernel), by decide +kernel⟩
theorem qV_X8_hasLaw : Cond.selects RX8 yX8_hasLaw yX8_hasLaw ∈ lw_g := List.mem_filter.mpr ⟨List.mem_of_getElem? (i := 825) (by decide +kernel), by decide +kernel⟩
theorem qV_X9_beginYears : Cond.selects RX9 yX9_beginYears yX9_beginYears ∈ lw_g := List.mem_filter.mpr ⟨List.mem_of_getElem? (i := 987) (by decide +kernel), by decide +kernel⟩
theorem qV_X9_changesSays : Cond.selects RX9 yX9_changesSays yX9_changesSays ∈ lw_g := List.mem_filter.mpr ⟨List.mem_of_getElem? (i := 909) (by decide +kernel), by decide +kernel⟩
theorem qV_X9_feetFit : Cond.selects RX9 yX9_feetFit yX9_feetFit ∈ lw_g := List.mem_filter.mpr ⟨List.mem_of_getElem? (i := 28) (by decide +kernel), by decide +kernel⟩
theorem qV_X9_lendWheels : Cond.selects RX9 yX9_lendWheels yX9_lendWheels ∈ lw_g := List.mem_filter.mpr ⟨List.mem_of_getElem? (i := 927) (by decide +kernel), by decide +kernel⟩
theorem qV_X9_movesSays : Cond.selects RX9 yX9_movesSays yX9_movesSays ∈ lw_g := List.mem_filter.mpr ⟨List.mem_of_getElem? (i := 817) (by decide +kernel), by decide +kernel⟩
theorem qV_X9_nameCar : Cond.selects RX9 yX9_nameCar yX9_nameCar ∈ lw_g := List.mem_filter.mpr ⟨List.mem_of_getElem? (i := 29) (by decide +kernel), by decide +kernel⟩
theorem qV_X9_passHours : Cond.selects RX9 yX9_passHours yX9_passHours ∈ lw_g := List.mem_filter.mpr ⟨List.mem_of_getElem? (i := 936) (by decide +kernel), by decide +kernel⟩
theorem qV_X9_passHoursThatCan : Cond.selects RX9 yX9_passHoursThatCan yX9_passHoursThatCan ∈ lw_g := List.mem_filter.mpr ⟨List.mem_of_getElem? (i := 35) (by decide +kernel), by decide +kernel⟩
theorem qV_X9_passYear : Cond.selects RX9 yX9_passYear yX9_passYear ∈ lw_g := List.mem_filter.mpr ⟨List.mem_of_getElem? (i := 991) (by decide +kernel), by decide +kernel⟩
theorem qV_X9_playClause : Cond.selects RX9 yX9_playClause yX9_playClause ∈ lw_g := List.mem_filter.mpr ⟨List.mem_of_getElem? (i := 965) (by decide +kernel), by decide +kernel⟩
theorem qV_X9_shift : Cond.selects RX9 yX9_shift yX9_shift ∈ lw_g := List.mem_filter.mpr ⟨List.mem_of_getElem? (i := 797) (by decide +kernel), by decide +kernel⟩
theorem qV_X9_swapFeet : Cond.selects RX9 yX9_swapFeet yX9_swapFeet ∈ lw_g := List.mem_filter.mpr ⟨List.mem_of_getElem? (i := 901) (by decide +kernel), by decide +kernel⟩
theorem qY_boolean : Cond.arrayClass .boolean ∈ lw_g := List.mem_filter.mpr ⟨List.mem_of_getElem? (i := 1485) (by decide +kernel), by decide +kernel⟩
theorem qY_byte : Cond.arrayClass .byte ∈ lw_g := List.mem_filter.mpr ⟨List.mem_of_getElem? (i := 377) (by decide +kernel), by decide +kernel⟩
theorem qY_int : Cond.arrayClass .int ∈ lw_g := List.mem_filter.mpr ⟨List.mem_of_getElem? (i := 184) (by decide +kernel), by decide +kernel⟩
theorem qY_long : Cond.arrayClass .long ∈ lw_g := List.mem_filter.mpr ⟨List.mem_of_getElem? (i := 1484) (by decide +kernel), by decide +kernel⟩
theorem qZ_X0 : Cond.initialized RX0 ∈ lw_g := List.mem_filter.mpr ⟨List.mem_of_getElem? (i := 141) (by decide +kernel), by decide +kernel⟩
theorem qZ_X1 : Cond.initialized RX1 ∈ lw_g := List.mem_filter.mpr ⟨List.mem_of_getElem? (i := 140) (by decide +kernel), by decide +kernel⟩
theorem qZ_X10 : Cond.initialized RX10 ∈ lw_g := List.mem_filter.mpr ⟨List.mem_of_getElem? (i := 133) (by decide +kernel), by decide +kernel⟩
theorem qZ_X11 : Cond.initialized RX11 ∈ lw_g := List.mem_filter.mpr ⟨List.mem_of_getElem? (i := 130) (by decide +kernel), by decide +kernel⟩
theorem qZ_X12 : Cond.initialized RX12 ∈ lw_g := List.mem_filter.mpr ⟨List.mem_of_getElem? (i := 142) (by decide +kernel), by decide +kernel⟩
theorem qZ_X2 : Cond.initialized RX2 ∈ lw_g := List.mem_filter.mpr ⟨List.mem_of_getElem? (i := 138) (by decide +kernel), by decide +kernel⟩
theorem qZ_X3 : Cond.initialized RX3 ∈ lw_g := List.mem_filter.mpr ⟨List.mem_of_getElem? (i := 137) (by decide +kernel), by decide +kernel⟩
theorem qZ_X4 : Cond.initialized RX4 ∈ lw_g := List.mem_filter.mpr ⟨List.mem_of_getElem? (i := 139) (by decide +kernel), by decide +kernel⟩
theorem qZ_X5 : Cond.initialized RX5 ∈ lw_g := List.mem_filter.mpr ⟨List.mem_of_getElem? (i := 132) (by decide +kernel), by decide +kernel⟩
theorem qZ_X6 : Cond.initialized RX6 ∈ lw_g := List.mem_filter.mpr ⟨List.mem_of_getElem? (i := 134) (by decide +kernel), by decide +kernel⟩
theorem qZ_X7 : Cond.initialized RX7 ∈ lw_g := List.mem_filter.mpr ⟨List.mem_of_getElem? (i := 135) (by decide +kernel), by decide +kernel⟩
theorem qZ_X8 : Cond.initialized RX8 ∈ lw_g := List.mem_filter.mpr ⟨List.mem_of_getElem? (i := 149) (by decide +kernel), by decide +kernel⟩
theorem qZ_X9 : Cond.initialized RX9 ∈ lw_g := List.mem_filter.mpr ⟨List.mem_of_getElem? (i := 131) (by decide +kernel), by decide +kernel⟩
theorem us_X0 : ∀ w ∈ u_ws RX0 TX0 2, w ∈ lw_g := by decide +kernel
theorem us_X1 : ∀ w ∈ u_ws RX1 TX1 1, w ∈ lw_g := by decide +kernel
theorem us_X10 : ∀ w ∈ u_ws RX10 TX10 1, w ∈ lw_g := by decide +kernel
theorem us_X11 : ∀ w ∈ u_ws RX11 TX11 8, w ∈ lw_g := by decide +kernel
theorem us_X12 : ∀ w ∈ u_ws RX12 TX12 35, w ∈ lw_g := by decide +kernel
theorem us_X2 : ∀ w ∈ u_ws RX2 TX2 15, w ∈ lw_g := by decide +kernel
theorem us_X3 : ∀ w ∈ u_ws RX3 TX3 3, w ∈ lw_g := by decide +kernel
theorem us_X4 : ∀ w ∈ u_ws RX4 TX4 8, w ∈ lw_g := by decide +kernel
theorem us_X5 : ∀ w ∈ u_ws RX5 TX5 16, w ∈ lw_g := by decide +kernel
theorem us_X6 : ∀ w ∈ u_ws RX6 TX6 3, w ∈ lw_g := by decide +kernel
theorem us_X7 : ∀ w ∈ u_ws RX7 TX7 3, w ∈ lw_g := by decide +kernel
theorem us_X8 : ∀ w ∈ u_ws RX8 TX8 3, w ∈ lw_g := by decide +kernel
theorem us_X9 : ∀ w ∈ u_ws RX9 TX9 2, w ∈ lw_g := by decide +kernel
theorem fl_RX0_11 : fl RX0 11 0 0 := ⟨RX0, TX0, 2, rfl, by decide, us_X0, qF_RX0_11⟩
theorem fl_RX0_15 : fl RX0 15 0 1 := ⟨RX0, TX0, 2, rfl, by decide, us_X0, qF_RX0_15⟩
theorem fl_RX10_11 : fl RX10 11 10 0 := ⟨RX10, TX10, 1, rfl, by decide, us_X10, qF_RX10_11⟩
theorem fl_RX11_10 : fl RX11 10 11 2 := ⟨RX11, TX11, 8, rfl, by decide, us_X11, qF_RX11_10⟩
theorem fl_RX11_100 : fl RX11 100 2 6 := ⟨RX2, TX2, 15, rfl, by decide, us_X2, qF_RX11_100⟩
theorem fl_RX11_111 : fl RX11 111 2 7 := ⟨RX2, TX2, 15, rfl, by decide, us_X2, qF_RX11_111⟩
theorem fl_RX11_114 : fl RX11 114 2 8 := ⟨RX2, TX2, 15, rfl, by decide, us_X2, qF_RX11_114⟩
theorem fl_RX11_120 : fl RX11 120 5 13 := ⟨RX5, TX5, 16, rfl, by decide, us_X5, qF_RX11_120⟩
theorem fl_RX11_16 : fl RX11 16 9 0 := ⟨RX9, TX9, 2, rfl, by decide, us_X9, qF_RX11_16⟩
theorem fl_RX11_160 : fl RX11 160 5 1 := ⟨RX5, TX5, 16, rfl, by decide, us_X5, qF_RX11_160⟩
theorem fl_RX11_170 : fl RX11 170 6 2 := ⟨RX6, TX6, 3, rfl, by decide, us_X6, qF_RX11_170⟩
theorem fl_RX11_173 : fl RX11 173 5 2 := ⟨RX5, TX5, 16, rfl, by decide, us_X5, qF_RX11_173⟩
theorem fl_RX11_176 : fl RX11 176 5 3 := ⟨RX5, TX5, 16, rfl, by decide, us_X5, qF_RX11_176⟩
theorem fl_RX11_20 : fl RX11 20 11 0 := ⟨RX11, TX11, 8, rfl, by decide, us_X11, qF_RX11_20⟩
theorem fl_RX11_211 : fl RX11 211 10 0 := ⟨RX10, TX10, 1, rfl, by decide, us_X10, qF_RX11_211⟩
theorem fl_RX11_237 : fl RX11 237 5 14 := ⟨RX5, TX5, 16, rfl, by decide, us_X5, qF_RX11_237⟩
theorem fl_RX11_24 : fl RX11 24 11 1 := ⟨RX11, TX11, 8, rfl, by decide, us_X11, qF_RX11_24⟩
theorem fl_RX11_255 : fl RX11 255 4 5 := ⟨RX4, TX4, 8, rfl, by decide, us_X4, qF_RX11_255⟩
theorem fl_RX11_275 : fl RX11 275 1 0 := ⟨RX1, TX1, 1, rfl, by decide, us_X1, qF_RX11_275⟩
theorem fl_RX11_30 : fl RX11 30 11 3 := ⟨RX11, TX11, 8, rfl, by decide, us_X11, qF_RX11_30⟩
theorem fl_RX11_301 : fl RX11 301 5 7 := ⟨RX5, TX5, 16, rfl, by decide, us_X5, qF_RX11_301⟩
theorem fl_RX11_313 : fl RX11 313 5 8 := ⟨RX5, TX5, 16, rfl, by decide, us_X5, qF_RX11_313⟩
theorem fl_RX11_328 : fl RX11 328 7 2 := ⟨RX7, TX7, 3, rfl, by decide, us_X7, qF_RX11_328⟩
theorem fl_RX11_334 : fl RX11 334 5 9 := ⟨RX5, TX5, 16, rfl, by decide, us_X5, qF_RX11_334⟩
theorem fl_RX11_359 : fl RX11 359 5 6 := ⟨RX5, TX5, 16, rfl, by decide, us_X5, qF_RX11_359⟩
theorem fl_RX11_368 : fl RX11 368 5 10 := ⟨RX5, TX5, 16, rfl, by decide, us_X5, qF_RX11_368⟩
theorem fl_RX11_37 : fl RX11 37 11 4 := ⟨RX11, TX11, 8, rfl, by decide, us_X11, qF_RX11_37⟩
theorem fl_RX11_44 : fl RX11 44 11 5 := ⟨RX11, TX11, 8, rfl, by decide, us_X11, qF_RX11_44⟩
theorem fl_RX11_51 : fl RX11 51 11 6 := ⟨RX11, TX11, 8, rfl, by decide, us_X11, qF_RX11_51⟩
theorem fl_RX11_58 : fl RX11 58 11 7 := ⟨RX11, TX11, 8, rfl, by decide, us_X11, qF_RX11_58⟩
theorem fl_RX11_66 : fl RX11 66 5 0 := ⟨RX5, TX5, 16, rfl, by decide, us_X5, qF_RX11_66⟩
theorem fl_RX11_73 : fl RX11 73 5 12 := ⟨RX5, TX5, 16, rfl, by decide, us_X5, qF_RX11_73⟩
theorem fl_RX11_77 : fl RX11 77 5 11 := ⟨RX5, TX5, 16, rfl, by decide, us_X5, qF_RX11_77⟩
theorem fl_RX11_93 : fl RX11 93 5 4 := ⟨RX5, TX5, 16, rfl, by decide, us_X5, qF_RX11_93⟩
theorem fl_RX11_97 : fl RX11 97 5 5 := ⟨RX5, TX5, 16, rfl, by decide, us_X5, qF_RX11_97⟩
theorem fl_RX12_106 : fl RX12 106 12 4 := ⟨RX12, TX12, 35, rfl, by decide, us_X12, qF_RX12_106⟩
theorem fl_RX12_113 : fl RX12 113 12 7 := ⟨RX12, TX12, 35, rfl, by decide, us_X12, qF_RX12_113⟩
theorem fl_RX12_119 : fl RX12 119 12 8 := ⟨RX12, TX12, 35, rfl, by decide, us_X12, qF_RX12_119⟩
theorem fl_RX12_122 : fl RX12 122 12 9 := ⟨RX12, TX12, 35, rfl, by decide, us_X12, qF_RX12_122⟩
theorem fl_RX12_128 : fl RX12 128 12 10 := ⟨RX12, TX12, 35, rfl, by decide, us_X12, qF_RX12_128⟩
theorem fl_RX12_13 : fl RX12 13 12 1 := ⟨RX12, TX12, 35, rfl, by decide, us_X12, qF_RX12_13⟩
theorem fl_RX12_135 : fl RX12 135 12 11 := ⟨RX12, TX12, 35, rfl, by decide, us_X12, qF_RX12_135⟩
theorem fl_RX12_16 : fl RX12 16 12 2 := ⟨RX12, TX12, 35, rfl, by decide, us_X12, qF_RX12_16⟩
theorem fl_RX12_160 : fl RX12 160 12 12 := ⟨RX12, TX12, 35, rfl, by decide, us_X12, qF_RX12_160⟩
theorem fl_RX12_163 : fl RX12 163 12 13 := ⟨RX12, TX12, 35, rfl, by decide, us_X12, qF_RX12_163⟩
theorem fl_RX12_170 : fl RX12 170 12 14 := ⟨RX12, TX12, 35, rfl, by decide, us_X12, qF_RX12_170⟩
theorem fl_RX12_173 : fl RX12 173 12 16 := ⟨RX12, TX12, 35, rfl, by decide, us_X12, qF_RX12_173⟩
theorem fl_RX12_182 : fl RX12 182 12 17 := ⟨RX12, TX12, 35, rfl, by decide, us_X12, qF_RX12_182⟩
theorem fl_RX12_19 : fl RX12 19 12 3 := ⟨RX12, TX12, 35, rfl, by decide, us_X12, qF_RX12_19⟩
theorem fl_RX12_201 : fl RX12 201 12 18 := ⟨RX12, TX12, 35, rfl, by decide, us_X12, qF_RX12_201⟩
theorem fl_RX12_22 : fl RX12 22 12 5 := ⟨RX12, TX12, 35, rfl, by decide, us_X12, qF_RX12_22⟩
theorem fl_RX12_256 : fl RX12 256 12 19 := ⟨RX12, TX12, 35, rfl, by decide, us_X12, qF_RX12_256⟩
theorem fl_RX12_26 : fl RX12 26 12 6 := ⟨RX12, TX12, 35, rfl, by decide, us_X12, qF_RX12_26⟩
theorem fl_RX12_29 : fl RX12 29 12 15 := ⟨RX12, TX12, 35, rfl, by decide, us_X12, qF_RX12_29⟩
theorem fl_RX12_32 : fl RX12 32 12 20 := ⟨RX12, TX12, 35, rfl, by decide, us_X12, qF_RX12_32⟩
theorem fl_RX12_346 : fl RX12 346 12 24 := ⟨RX12, TX12, 35, rfl, by decide, us_X12, qF_RX12_346⟩
theorem fl_RX12_35 : fl RX12 35 12 21 := ⟨RX12, TX12, 35, rfl, by decide, us_X12, qF_RX12_35⟩
theorem fl_RX12_39 : fl RX12 39 12 22 := ⟨RX12, TX12, 35, rfl, by decide, us_X12, qF_RX12_39⟩
theorem fl_RX12_429 : fl RX12 429 12 32 := ⟨RX12, TX12, 35, rfl, by decide, us_X12, qF_RX12_429⟩
theorem fl_RX12_43 : fl RX12 43 12 23 := ⟨RX12, TX12, 35, rfl, by decide, us_X12, qF_RX12_43⟩
theorem fl_RX12_47 : fl RX12 47 12 25 := ⟨RX12, TX12, 35, rfl, by decide, us_X12, qF_RX12_47⟩
theorem fl_RX12_50 : fl RX12 50 12 26 := ⟨RX12, TX12, 35, rfl, by decide, us_X12, qF_RX12_50⟩
theorem fl_RX12_53 : fl RX12 53 12 27 := ⟨RX12, TX12, 35, rfl, by decide, us_X12, qF_RX12_53⟩
theorem fl_RX12_56 : fl RX12 56 12 28 := ⟨RX12, TX12, 35, rfl, by decide, us_X12, qF_RX12_56⟩
theorem fl_RX12_59 : fl RX12 59 12 29 := ⟨RX12, TX12, 35, rfl, by decide, us_X12, qF_RX12_59⟩
theorem fl_RX12_62 : fl RX12 62 12 30 := ⟨RX12, TX12, 35, rfl, by decide, us_X12, qF_RX12_62⟩
theorem fl_RX12_65 : fl RX12 65 12 31 := ⟨RX12, TX12, 35, rfl, by decide, us_X12, qF_RX12_65⟩
theorem fl_RX12_68 : fl RX12 68 12 33 := ⟨RX12, TX12, 35, rfl, by decide, us_X12, qF_RX12_68⟩
theorem fl_RX12_7 : fl RX12 7 12 0 := ⟨RX12, TX12, 35, rfl, by decide, us_X12, qF_RX12_7⟩
theorem fl_RX12_71 : fl RX12 71 12 34 := ⟨RX12, TX12, 35, rfl, by decide, us_X12, qF_RX12_71⟩
theorem fl_RX1_25 : fl RX1 25 5 0 := ⟨RX5, TX5, 16, rfl, by decide, us_X5, qF_RX1_25⟩
theorem fl_RX1_37 : fl RX1 37 5 4 := ⟨RX5, TX5, 16, rfl, by decide, us_X5, qF_RX1_37⟩
theorem fl_RX1_45 : fl RX1 45 5 5 := ⟨RX5, TX5, 16, rfl, by decide, us_X5, qF_RX1_45⟩
theorem fl_RX1_9 : fl RX1 9 1 0 := ⟨RX1, TX1, 1, rfl, by decide, us_X1, qF_RX1_9⟩
theorem fl_RX2_15 : fl RX2 15 2 1 := ⟨RX2, TX2, 15, rfl, by decide, us_X2, qF_RX2_15⟩
theorem fl_RX2_153 : fl RX2 153 2 14 := ⟨RX2, TX2, 15, rfl, by decide, us_X2, qF_RX2_153⟩
theorem fl_RX2_19 : fl RX2 19 2 2 := ⟨RX2, TX2, 15, rfl, by decide, us_X2, qF_RX2_19⟩
theorem fl_RX2_22 : fl RX2 22 2 3 := ⟨RX2, TX2, 15, rfl, by decide, us_X2, qF_RX2_22⟩
theorem fl_RX2_25 : fl RX2 25 2 4 := ⟨RX2, TX2, 15, rfl, by decide, us_X2, qF_RX2_25⟩
theorem fl_RX2_28 : fl RX2 28 2 5 := ⟨RX2, TX2, 15, rfl, by decide, us_X2, qF_RX2_28⟩
theorem fl_RX2_31 : fl RX2 31 2 7 := ⟨RX2, TX2, 15, rfl, by decide, us_X2, qF_RX2_31⟩
theorem fl_RX2_35 : fl RX2 35 2 8 := ⟨RX2, TX2, 15, rfl, by decide, us_X2, qF_RX2_35⟩
theorem fl_RX2_38 : fl RX2 38 2 6 := ⟨RX2, TX2, 15, rfl, by decide, us_X2, qF_RX2_38⟩
theorem fl_RX2_44 : fl RX2 44 2 9 := ⟨RX2, TX2, 15, rfl, by decide, us_X2, qF_RX2_44⟩
theorem fl_RX2_47 : fl RX2 47 2 10 := ⟨RX2, TX2, 15, rfl, by decide, us_X2, qF_RX2_47⟩
theorem fl_RX2_50 : fl RX2 50 2 11 := ⟨RX2, TX2, 15, rfl, by decide, us_X2, qF_RX2_50⟩
theorem fl_RX2_53 : fl RX2 53 2 12 := ⟨RX2, TX2, 15, rfl, by decide, us_X2, qF_RX2_53⟩
theorem fl_RX2_56 : fl RX2 56 2 13 := ⟨RX2, TX2, 15, rfl, by decide, us_X2, qF_RX2_56⟩
theorem fl_RX2_9 : fl RX2 9 2 0 := ⟨RX2, TX2, 15, rfl, by decide, us_X2, qF_RX2_9⟩
theorem fl_RX3_15 : fl RX3 15 3 1 := ⟨RX3, TX3, 3, rfl, by decide, us_X3, qF_RX3_15⟩
theorem fl_RX3_18 : fl RX3 18 3 2 := ⟨RX3, TX3, 3, rfl, by decide, us_X3, qF_RX3_18⟩
theorem fl_RX3_28 : fl RX3 28 8 1 := ⟨RX8, TX8, 3, rfl, by decide, us_X8, qF_RX3_28⟩
theorem fl_RX3_9 : fl RX3 9 3 0 := ⟨RX3, TX3, 3, rfl, by decide, us_X3, qF_RX3_9⟩
theorem fl_RX4_11 : fl RX4 11 4 0 := ⟨RX4, TX4, 8, rfl, by decide, us_X4, qF_RX4_11⟩
theorem fl_RX4_15 : fl RX4 15 4 1 := ⟨RX4, TX4, 8, rfl, by decide, us_X4, qF_RX4_15⟩
theorem fl_RX4_18 : fl RX4 18 4 2 := ⟨RX4, TX4, 8, rfl, by decide, us_X4, qF_RX4_18⟩
theorem fl_RX4_21 : fl RX4 21 4 3 := ⟨RX4, TX4, 8, rfl, by decide, us_X4, qF_RX4_21⟩
theorem fl_RX4_24 : fl RX4 24 4 4 := ⟨RX4, TX4, 8, rfl, by decide, us_X4, qF_RX4_24⟩
theorem fl_RX4_40 : fl RX4 40 4 5 := ⟨RX4, TX4, 8, rfl, by decide, us_X4, qF_RX4_40⟩
theorem fl_RX4_44 : fl RX4 44 4 6 := ⟨RX4, TX4, 8, rfl, by decide, us_X4, qF_RX4_44⟩
theorem fl_RX4_47 : fl RX4 47 4 7 := ⟨RX4, TX4, 8, rfl, by decide, us_X4, qF_RX4_47⟩
theorem fl_RX5_12 : fl RX5 12 5 0 := ⟨RX5, TX5, 16, rfl, by decide, us_X5, qF_RX5_12⟩
theorem fl_RX5_21 : fl RX5 21 5 1 := ⟨RX5, TX5, 16, rfl, by decide, us_X5, qF_RX5_21⟩
theorem fl_RX5_25 : fl RX5 25 5 2 := ⟨RX5, TX5, 16, rfl, by decide, us_X5, qF_RX5_25⟩
theorem fl_RX5_29 : fl RX5 29 5 3 := ⟨RX5, TX5, 16, rfl, by decide, us_X5, qF_RX5_29⟩
theorem fl_RX5_32 : fl RX5 32 5 4 := ⟨RX5, TX5, 16, rfl, by decide, us_X5, qF_RX5_32⟩
theorem fl_RX5_35 : fl RX5 35 5 5 := ⟨RX5, TX5, 16, rfl, by decide, us_X5, qF_RX5_35⟩
theorem fl_RX5_38 : fl RX5 38 5 6 := ⟨RX5, TX5, 16, rfl, by decide, us_X5, qF_RX5_38⟩
theorem fl_RX5_41 : fl RX5 41 5 7 := ⟨RX5, TX5, 16, rfl, by decide, us_X5, qF_RX5_41⟩
theorem fl_RX5_49 : fl RX5 49 5 8 := ⟨RX5, TX5, 16, rfl, by decide, us_X5, qF_RX5_49⟩
theorem fl_RX5_53 : fl RX5 53 5 9 := ⟨RX5, TX5, 16, rfl, by decide, us_X5, qF_RX5_53⟩
theorem fl_RX5_56 : fl RX5 56 5 10 := ⟨RX5, TX5, 16, rfl, by decide, us_X5, qF_RX5_56⟩
theorem fl_RX5_61 : fl RX5 61 5 11 := ⟨RX5, TX5, 16, rfl, by decide, us_X5, qF_RX5_61⟩
theorem fl_RX5_65 : fl RX5 65 5 13 := ⟨RX5, TX5, 16, rfl, by decide, us_X5, qF_RX5_65⟩
theorem fl_RX5_85 : fl RX5 85 5 12 := ⟨RX5, TX5, 16, rfl, by decide, us_X5, qF_RX5_85⟩
theorem fl_RX5_88 : fl RX5 88 5 14 := ⟨RX5, TX5, 16, rfl, by decide, us_X5, qF_RX5_88⟩
theorem fl_RX5_91 : fl RX5 91 5 15 := ⟨RX5, TX5, 16, rfl, by decide, us_X5, qF_RX5_91⟩
theorem fl_RX6_11 : fl RX6 11 6 0 := ⟨RX6, TX6, 3, rfl, by decide, us_X6, qF_RX6_11⟩
theorem fl_RX6_17 : fl RX6 17 6 1 := ⟨RX6, TX6, 3, rfl, by decide, us_X6, qF_RX6_17⟩
theorem fl_RX6_21 : fl RX6 21 6 2 := ⟨RX6, TX6, 3, rfl, by decide, us_X6, qF_RX6_21⟩
theorem fl_RX6_24 : fl RX6 24 10 0 := ⟨RX10, TX10, 1, rfl, by decide, us_X10, qF_RX6_24⟩
theorem fl_RX7_15 : fl RX7 15 7 1 := ⟨RX7, TX7, 3, rfl, by decide, us_X7, qF_RX7_15⟩
theorem fl_RX7_21 : fl RX7 21 7 0 := ⟨RX7, TX7, 3, rfl, by decide, us_X7, qF_RX7_21⟩
theorem fl_RX7_25 : fl RX7 25 7 2 := ⟨RX7, TX7, 3, rfl, by decide, us_X7, qF_RX7_25⟩
theorem fl_RX8_15 : fl RX8 15 8 1 := ⟨RX8, TX8, 3, rfl, by decide, us_X8, qF_RX8_15⟩
theorem fl_RX8_18 : fl RX8 18 8 2 := ⟨RX8, TX8, 3, rfl, by decide, us_X8, qF_RX8_18⟩
theorem fl_RX8_9 : fl RX8 9 8 0 := ⟨RX8, TX8, 3, rfl, by decide, us_X8, qF_RX8_9⟩
theorem fl_RX9_113 : fl RX9 113 10 0 := ⟨RX10, TX10, 1, rfl, by decide, us_X10, qF_RX9_113⟩
theorem fl_RX9_12 : fl RX9 12 9 0 := ⟨RX9, TX9, 2, rfl, by decide, us_X9, qF_RX9_12⟩
theorem fl_RX9_21 : fl RX9 21 9 1 := ⟨RX9, TX9, 2, rfl, by decide, us_X9, qF_RX9_21⟩
theorem fl_RX9_39 : fl RX9 39 3 0 := ⟨RX3, TX3, 3, rfl, by decide, us_X3, qF_RX9_39⟩
theorem fl_RX9_43 : fl RX9 43 5 0 := ⟨RX5, TX5, 16, rfl, by decide, us_X5, qF_RX9_43⟩
theorem fl_RX9_64 : fl RX9 64 5 3 := ⟨RX5, TX5, 16, rfl, by decide, us_X5, qF_RX9_64⟩
theorem fl_RX9_67 : fl RX9 67 5 2 := ⟨RX5, TX5, 16, rfl, by decide, us_X5, qF_RX9_67⟩
theorem fl_RX9_93 : fl RX9 93 5 1 := ⟨RX5, TX5, 16, rfl, by decide, us_X5, qF_RX9_93⟩
theorem nl_RL_10 : nl RL 10 12 [vr none, vr none, vr none, vr none, vi 0, vi 0, vi 0, vi 0, vi 0, vi 0, vi 0, vl 0, vi 0, vi 0, vi 0, vr none, vi 0, vi 0, vi 0, vi 0, vr none, vr none, vr none, vi 0, vi 0, vr none, vr none, vr none, vr none, vr none, vr none, vr none, vi 0, vr none, vr none] := ⟨RX12, TX12, 35, tyX12, rfl, us_X12, tyX12_ok, qC_RL_10, qT_X12, qZ_X12, rfl, fun g j hj => by
  have hh : j = 0 ∨ j = 1 ∨ j = 2 ∨ j = 3 ∨ j = 4 ∨ j = 5 ∨ j = 6 ∨ j = 7 ∨ j = 8 ∨ j = 9 ∨ j = 10 ∨ j = 11 ∨ j = 12 ∨ j = 13 ∨ j = 14 ∨ j = 15 ∨ j = 16 ∨ j = 17 ∨ j = 18 ∨ j = 19 ∨ j = 20 ∨ j = 21 ∨ j = 22 ∨ j = 23 ∨ j = 24 ∨ j = 25 ∨ j = 26 ∨ j = 27 ∨ j = 28 ∨ j = 29 ∨ j = 30 ∨ j = 31 ∨ j = 32 ∨ j = 33 ∨ j = 34 := by omega
  rcases hh with rfl | rfl | rfl | rfl | rfl | rfl | rfl | rfl | rfl | rfl | rfl | rfl | rfl | rfl | rfl | rfl | rfl | rfl | rfl | rfl | rfl | rfl | rfl | rfl | rfl | rfl | rfl | rfl | rfl | rfl | rfl | rfl | rfl | rfl | rfl <;> rfl⟩
theorem nl_RL_7 : nl RL 7 11 [vr none, vr none, vr none, vr none, vr none, vr none, vr none, vr none] := ⟨RX11, TX11, 8, tyX11, rfl, us_X11, tyX11_ok, qC_RL_7, qT_X11, qZ_X11, rfl, fun g j hj => by
  have hh : j = 0 ∨ j = 1 ∨ j = 2 ∨ j = 3 ∨ j = 4 ∨ j = 5 ∨ j = 6 ∨ j = 7 := by omega
  rcases hh with rfl | rfl | rfl | rfl | rfl | rfl | rfl | rfl <;> rfl⟩
theorem nl_RX11_21 : nl RX11 21 5 [vr none, vr none, vr none, vr none, vr none, vr none, vr none, vr none, vr none, vr none, vr none, vr none, vi 0, vi 0, vi 0, vi 0] := ⟨RX5, TX5, 16, tyX5, rfl, us_X5, tyX5_ok, qC_RX11_21, qT_X5, qZ_X5, rfl, fun g j hj => by
  have hh : j = 0 ∨ j = 1 ∨ j = 2 ∨ j = 3 ∨ j = 4 ∨ j = 5 ∨ j = 6 ∨ j = 7 ∨ j = 8 ∨ j = 9 ∨ j = 10 ∨ j = 11 ∨ j = 12 ∨ j = 13 ∨ j = 14 ∨ j = 15 := by omega
  rcases hh with rfl | rfl | rfl | rfl | rfl | rfl | rfl | rfl | rfl | rfl | rfl | rfl | rfl | rfl | rfl | rfl <;> rfl⟩
theorem nl_RX11_27 : nl RX11 27 2 [vr none, vr none, vr none, vr none, vr none, vr none, vi 0, vi 0, vi 0, vi 0, vi 0, vi 0, vi 0, vi 0, vi 0] := ⟨RX2, TX2, 15, tyX2, rfl, us_X2, tyX2_ok, qC_RX11_27, qT_X2, qZ_X2, rfl, fun g j hj => by
  have hh : j = 0 ∨ j = 1 ∨ j = 2 ∨ j = 3 ∨ j = 4 ∨ j = 5 ∨ j = 6 ∨ j = 7 ∨ j = 8 ∨ j = 9 ∨ j = 10 ∨ j = 11 ∨ j = 12 ∨ j = 13 ∨ j = 14 := by omega
  rcases hh with rfl | rfl | rfl | rfl | rfl | rfl | rfl | rfl | rfl | rfl | rfl | rfl | rfl | rfl | rfl <;> rfl⟩
theorem nl_RX11_34 : nl RX11 34 4 [vr none, vr none, vr none, vr none, vr none, vi 0, vi 0, vi 0] := ⟨RX4, TX4, 8, tyX4, rfl, us_X4, tyX4_ok, qC_RX11_34, qT_X4, qZ_X4, rfl, fun g j hj => by
  have hh : j = 0 ∨ j = 1 ∨ j = 2 ∨ j = 3 ∨ j = 4 ∨ j = 5 ∨ j = 6 ∨ j = 7 := by omega
  rcases hh with rfl | rfl | rfl | rfl | rfl | rfl | rfl | rfl <;> rfl⟩
theorem nl_RX11_41 : nl RX11 41 1 [vr none] := ⟨RX1, TX1, 1, tyX1, rfl, us_X1, tyX1_ok, qC_RX11_41, qT_X1, qZ_X1, rfl, fun g j hj => by
  have hh : j = 0 := by omega
  rcases hh with rfl <;> rfl⟩
theorem nl_RX11_48 : nl RX11 48 0 [vr none, vr none] := ⟨RX0, TX0, 2, tyX0, rfl, us_X0, tyX0_ok, qC_RX11_48, qT_X0, qZ_X0, rfl, fun g j hj => by
  have hh : j = 0 ∨ j = 1 := by omega
  rcases hh with rfl | rfl <;> rfl⟩
theorem nl_RX11_55 : nl RX11 55 10 [vr none] := ⟨RX10, TX10, 1, tyX10, rfl, us_X10, tyX10_ok, qC_RX11_55, qT_X10, qZ_X10, rfl, fun g j hj => by
  have hh : j = 0 := by omega
  rcases hh with rfl <;> rfl⟩
theorem nl_RX11_7 : nl RX11 7 9 [vr none, vr none] := ⟨RX9, TX9, 2, tyX9, rfl, us_X9, tyX9_ok, qC_RX11_7, qT_X9, qZ_X9, rfl, fun g j hj => by
  have hh : j = 0 ∨ j = 1 := by omega
  rcases hh with rfl | rfl <;> rfl⟩
theorem nl_RX2_68 : nl RX2 68 8 [vr none, vr none, vr none] := ⟨RX8, TX8, 3, tyX8, rfl, us_X8, tyX8_ok, qC_RX2_68, qT_X8, qZ_X8, rfl, fun g j hj => by
  have hh : j = 0 ∨ j = 1 ∨ j = 2 := by omega
  rcases hh with rfl | rfl | rfl <;> rfl⟩
theorem nl_RX5_18 : nl RX5 18 6 [vr none, vi 0, vi 0] := ⟨RX6, TX6, 3, tyX6, rfl, us_X6, tyX6_ok, qC_RX5_18, qT_X6, qZ_X6, rfl, fun g j hj => by
  have hh : j = 0 ∨ j = 1 ∨ j = 2 := by omega
  rcases hh with rfl | rfl | rfl <;> rfl⟩
theorem nl_RX5_44 : nl RX5 44 7 [vr none, vi 0, vi 0] := ⟨RX7, TX7, 3, tyX7, rfl, us_X7, tyX7_ok, qC_RX5_44, qT_X7, qZ_X7, rfl, fun g j hj => by
  have hh : j = 0 ∨ j = 1 ∨ j = 2 := by omega
  rcases hh with rfl | rfl | rfl <;> rfl⟩
theorem nl_RX5_9 : nl RX5 9 10 [vr none] := ⟨RX10, TX10, 1, tyX10, rfl, us_X10, tyX10_ok, qC_RX5_9, qT_X10, qZ_X10, rfl, fun g j hj => by
  have hh : j = 0 := by omega
  rcases hh with rfl <;> rfl⟩
theorem nl_RX9_18 : nl RX9 18 3 [vr none, vr none, vi 0] := ⟨RX3, TX3, 3, tyX3, rfl, us_X3, tyX3_ok, qC_RX9_18, qT_X3, qZ_X3, rfl, fun g j hj => by
  have hh : j = 0 ∨ j = 1 ∨ j = 2 := by omega
  rcases hh with rfl | rfl | rfl <;> rfl⟩
theorem nl_RX9_9 : nl RX9 9 5 [vr none, vr none, vr none, vr none, vr none, vr none, vr none, vr none, vr none, vr none, vr none, vr none, vi 0, vi 0, vi 0, vi 0] := ⟨RX5, TX5, 16, tyX5, rfl, us_X5, tyX5_ok, qC_RX9_9, qT_X5, qZ_X5, rfl, fun g j hj => by
  have hh : j = 0 ∨ j = 1 ∨ j = 2 ∨ j = 3 ∨ j = 4 ∨ j = 5 ∨ j = 6 ∨ j = 7 ∨ j = 8 ∨ j = 9 ∨ j = 10 ∨ j = 11 ∨ j = 12 ∨ j = 13 ∨ j = 14 ∨ j = 15 := by omega
  rcases hh with rfl | rfl | rfl | rfl | rfl | rfl | rfl | rfl | rfl | rfl | rfl | rfl | rfl | rfl | rfl | rfl <;> rfl⟩
