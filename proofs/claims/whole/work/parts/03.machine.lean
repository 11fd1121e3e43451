-- THE SMALL MACHINE: values, a heap of rows, one step, runs; written out by gen03.py
abbrev Mth : Type := Nat × Bool × MethodName × ByteArray × Nat × Option FieldType
abbrev Hp : Type := (Nat → Nat → Int32) × (Nat → Nat → Int64) × (Nat → Nat → Option Nat) × List (Nat × Nat)
def clsN (k : Nat) : String := [RX0, RX1, RX2, RX3, RX4, RX5, RX6, RX7, RX8, RX9, RX10, RX11, RL, RJ6, RJ7].getD k ""
def MX0_earliest : Mth := (0, false, yX0_earliest, cX0_earliest, 7, (some .int))
def MX0_init : Mth := (0, true, yX0_init, cX0_init, 1, none)
def MX0_needed : Mth := (0, false, yX0_needed, cX0_needed, 6, (some .int))
def MX1_copy : Mth := (1, false, yX1_copy, cX1_copy, 2, none)
def MX1_countOver : Mth := (1, false, yX1_countOver, cX1_countOver, 7, none)
def MX1_draw : Mth := (1, false, yX1_draw, cX1_draw, 2, (some .int))
def MX1_init : Mth := (1, true, yX1_init, cX1_init, 1, none)
def MX1_isCovered : Mth := (1, false, yX1_isCovered, cX1_isCovered, 5, (some .boolean))
def MX1_isOverLike : Mth := (1, false, yX1_isOverLike, cX1_isOverLike, 3, (some .boolean))
def MX1_leastFree : Mth := (1, false, yX1_leastFree, cX1_leastFree, 4, (some .int))
def MX1_make : Mth := (1, false, yX1_make, cX1_make, 6, (some .boolean))
def MX1_singInThought : Mth := (1, false, yX1_singInThought, cX1_singInThought, 6, none)
def MX1_startAnew : Mth := (1, false, yX1_startAnew, cX1_startAnew, 2, none)
def MX1_timesOver : Mth := (1, false, yX1_timesOver, cX1_timesOver, 3, (some .int))
def MX2_forget : Mth := (2, false, yX2_forget, cX2_forget, 1, none)
def MX2_goBack : Mth := (2, false, yX2_goBack, cX2_goBack, 2, (some .boolean))
def MX2_init : Mth := (2, true, yX2_init, cX2_init, 2, none)
def MX2_remember : Mth := (2, false, yX2_remember, cX2_remember, 2, none)
def MX3_countOf : Mth := (3, false, yX3_countOf, cX3_countOf, 6, (some .int))
def MX3_firstOf : Mth := (3, false, yX3_firstOf, cX3_firstOf, 9, (some .int))
def MX3_init : Mth := (3, true, yX3_init, cX3_init, 1, none)
def MX3_isSameColours : Mth := (3, false, yX3_isSameColours, cX3_isSameColours, 6, (some .boolean))
def MX3_longestCommon : Mth := (3, false, yX3_longestCommon, cX3_longestCommon, 9, (some .int))
def MX3_needed : Mth := (3, false, yX3_needed, cX3_needed, 6, (some .int))
def MX4_asked : Mth := (4, false, yX4_asked, cX4_asked, 1, (some .int))
def MX4_cross : Mth := (4, false, yX4_cross, cX4_cross, 6, (some .boolean))
def MX4_findsColour : Mth := (4, false, yX4_findsColour, cX4_findsColour, 6, (some .boolean))
def MX4_from : Mth := (4, false, yX4_from, cX4_from, 1, (some .int))
def MX4_isBetween : Mth := (4, false, yX4_isBetween, cX4_isBetween, 3, (some .boolean))
def MX4_isTurn : Mth := (4, false, yX4_isTurn, cX4_isTurn, 1, (some .boolean))
def MX4_kind : Mth := (4, false, yX4_kind, cX4_kind, 1, (some .int))
def MX4_madeOn : Mth := (4, false, yX4_madeOn, cX4_madeOn, 8, (some .long))
def MX4_mirrored : Mth := (4, false, yX4_mirrored, cX4_mirrored, 4, (some .int))
def MX4_packed : Mth := (4, false, yX4_packed, cX4_packed, 4, (some .int))
def MX4_to : Mth := (4, false, yX4_to, cX4_to, 1, (some .int))
def MX4_withoutAsking : Mth := (4, false, yX4_withoutAsking, cX4_withoutAsking, 1, (some .int))
def MX5_append : Mth := (5, false, yX5_append, cX5_append, 2, none)
def MX5_fail : Mth := (5, false, yX5_fail, cX5_fail, 2, (some .boolean))
def MX5_forgetFault : Mth := (5, false, yX5_forgetFault, cX5_forgetFault, 1, none)
def MX5_init : Mth := (5, true, yX5_init, cX5_init, 1, none)
def MX5_read : Mth := (5, false, yX5_read, cX5_read, 4, (some .boolean))
def MX5_readAsked : Mth := (5, false, yX5_readAsked, cX5_readAsked, 5, (some .boolean))
def MX5_readClosing : Mth := (5, false, yX5_readClosing, cX5_readClosing, 4, (some .boolean))
def MX5_readEnd : Mth := (5, false, yX5_readEnd, cX5_readEnd, 1, (some .boolean))
def MX5_readLift : Mth := (5, false, yX5_readLift, cX5_readLift, 2, (some .boolean))
def MX5_readNumber : Mth := (5, false, yX5_readNumber, cX5_readNumber, 3, (some .boolean))
def MX5_readSwap : Mth := (5, false, yX5_readSwap, cX5_readSwap, 2, (some .boolean))
def MX5_readTimes : Mth := (5, false, yX5_readTimes, cX5_readTimes, 1, (some .boolean))
def MX5_readToken : Mth := (5, false, yX5_readToken, cX5_readToken, 2, (some .boolean))
def MX5_readTurn : Mth := (5, false, yX5_readTurn, cX5_readTurn, 2, (some .boolean))
def MX5_take : Mth := (5, false, yX5_take, cX5_take, 1, none)
def MX6_get : Mth := (6, false, yX6_get, cX6_get, 3, (some .int))
def MX6_home : Mth := (6, false, yX6_home, cX6_home, 1, (some .long))
def MX6_lifted : Mth := (6, false, yX6_lifted, cX6_lifted, 14, (some .long))
def MX6_lowest : Mth := (6, false, yX6_lowest, cX6_lowest, 1, (some .long))
def MX6_slotWith : Mth := (6, false, yX6_slotWith, cX6_slotWith, 5, (some .int))
def MX6_swapped : Mth := (6, false, yX6_swapped, cX6_swapped, 4, (some .long))
def MX6_turned : Mth := (6, false, yX6_turned, cX6_turned, 5, (some .long))
def MX6_with : Mth := (6, false, yX6_with, cX6_with, 6, (some .long))
def MX7_add : Mth := (7, false, yX7_add, cX7_add, 2, (some .boolean))
def MX7_copy : Mth := (7, false, yX7_copy, cX7_copy, 2, none)
def MX7_init : Mth := (7, true, yX7_init, cX7_init, 1, none)
def MX7_mirroredFrom : Mth := (7, false, yX7_mirroredFrom, cX7_mirroredFrom, 9, (some .long))
def MX7_singingsBack : Mth := (7, false, yX7_singingsBack, cX7_singingsBack, 11, (some .int))
def MX7_sungFrom : Mth := (7, false, yX7_sungFrom, cX7_sungFrom, 11, (some .long))
def MX8_addRow : Mth := (8, false, yX8_addRow, cX8_addRow, 2, none)
def MX8_copy : Mth := (8, false, yX8_copy, cX8_copy, 3, none)
def MX8_countUnlike : Mth := (8, false, yX8_countUnlike, cX8_countUnlike, 5, (some .int))
def MX8_init : Mth := (8, true, yX8_init, cX8_init, 2, none)
def MX8_layRows : Mth := (8, false, yX8_layRows, cX8_layRows, 8, (some .int))
def MX8_rowPart : Mth := (8, false, yX8_rowPart, cX8_rowPart, 3, (some .int))
def MX8_rowsComeAgain : Mth := (8, false, yX8_rowsComeAgain, cX8_rowsComeAgain, 4, (some .boolean))
def MX8_seen : Mth := (8, false, yX8_seen, cX8_seen, 6, (some .long))
def MX8_singOnce : Mth := (8, false, yX8_singOnce, cX8_singOnce, 7, (some .int))
def MX8_startAnew : Mth := (8, false, yX8_startAnew, cX8_startAnew, 3, none)
def MX8_strandsToDye : Mth := (8, false, yX8_strandsToDye, cX8_strandsToDye, 10, (some .int))
def MX9_add : Mth := (9, false, yX9_add, cX9_add, 3, none)
def MX9_addToken : Mth := (9, false, yX9_addToken, cX9_addToken, 4, none)
def MX9_endOfRun : Mth := (9, false, yX9_endOfRun, cX9_endOfRun, 3, (some .int))
def MX9_findTokens : Mth := (9, false, yX9_findTokens, cX9_findTokens, 3, none)
def MX9_init : Mth := (9, true, yX9_init, cX9_init, 1, none)
def MX9_isBlank : Mth := (9, false, yX9_isBlank, cX9_isBlank, 1, (some .boolean))
def MX9_isDigit : Mth := (9, false, yX9_isDigit, cX9_isDigit, 1, (some .boolean))
def MX9_isLetter : Mth := (9, false, yX9_isLetter, cX9_isLetter, 1, (some .boolean))
def MX9_isWord : Mth := (9, false, yX9_isWord, cX9_isWord, 5, (some .boolean))
def MX9_kindOfRun : Mth := (9, false, yX9_kindOfRun, cX9_kindOfRun, 3, (some .int))
def MX9_kindOfWord : Mth := (9, false, yX9_kindOfWord, cX9_kindOfWord, 3, (some .int))
def MX9_numberOfRun : Mth := (9, false, yX9_numberOfRun, cX9_numberOfRun, 5, (some .int))
def MX10_alike : Mth := (10, false, yX10_alike, cX10_alike, 3, (some .int))
def MX10_at : Mth := (10, false, yX10_at, cX10_at, 4, (some .int))
def MX10_back : Mth := (10, false, yX10_back, cX10_back, 3, (some .int))
def MX10_beats : Mth := (10, false, yX10_beats, cX10_beats, 3, (some .int))
def MX10_colour : Mth := (10, false, yX10_colour, cX10_colour, 3, (some .boolean))
def MX10_countRings : Mth := (10, false, yX10_countRings, cX10_countRings, 4, (some .int))
def MX10_cut : Mth := (10, false, yX10_cut, cX10_cut, 9, (some .int))
def MX10_dropped : Mth := (10, false, yX10_dropped, cX10_dropped, 12, (some .int))
def MX10_end : Mth := (10, false, yX10_end, cX10_end, 2, (some .boolean))
def MX10_fault : Mth := (10, false, yX10_fault, cX10_fault, 2, (some .int))
def MX10_feed : Mth := (10, false, yX10_feed, cX10_feed, 7, (some .int))
def MX10_fewest : Mth := (10, false, yX10_fewest, cX10_fewest, 6, (some .int))
def MX10_fitsWithout : Mth := (10, false, yX10_fitsWithout, cX10_fitsWithout, 9, (some .boolean))
def MX10_image : Mth := (10, false, yX10_image, cX10_image, 2, (some .boolean))
def MX10_init : Mth := (10, true, yX10_init, cX10_init, 1, none)
def MX10_isColour : Mth := (10, false, yX10_isColour, cX10_isColour, 1, (some .boolean))
def MX10_isSlot : Mth := (10, false, yX10_isSlot, cX10_isSlot, 2, (some .boolean))
def MX10_isSong : Mth := (10, false, yX10_isSong, cX10_isSong, 1, (some .boolean))
def MX10_lay : Mth := (10, false, yX10_lay, cX10_lay, 2, (some .int))
def MX10_look : Mth := (10, false, yX10_look, cX10_look, 2, (some .int))
def MX10_loops : Mth := (10, false, yX10_loops, cX10_loops, 2, (some .int))
def MX10_name : Mth := (10, false, yX10_name, cX10_name, 3, (some .boolean))
def MX10_of : Mth := (10, false, yX10_of, cX10_of, 3, (some .int))
def MX10_oneOfThree : Mth := (10, false, yX10_oneOfThree, cX10_oneOfThree, 4, (some .int))
def MX10_outside : Mth := (10, false, yX10_outside, cX10_outside, 3, (some .int))
def MX10_over : Mth := (10, false, yX10_over, cX10_over, 3, (some .int))
def MX10_period : Mth := (10, false, yX10_period, cX10_period, 3, (some .int))
def MX10_pulled : Mth := (10, false, yX10_pulled, cX10_pulled, 6, (some .int))
def MX10_ringOf : Mth := (10, false, yX10_ringOf, cX10_ringOf, 5, (some .int))
def MX10_sing : Mth := (10, false, yX10_sing, cX10_sing, 5, (some .int))
def MX10_slip : Mth := (10, false, yX10_slip, cX10_slip, 2, (some .boolean))
def MX10_state : Mth := (10, false, yX10_state, cX10_state, 3, (some .int))
def MX10_stool : Mth := (10, false, yX10_stool, cX10_stool, 2, (some .boolean))
def MX10_text : Mth := (10, false, yX10_text, cX10_text, 3, (some .int))
def MX10_undo : Mth := (10, false, yX10_undo, cX10_undo, 1, (some .boolean))
def MX10_want : Mth := (10, false, yX10_want, cX10_want, 3, (some .boolean))
def MX10_where : Mth := (10, false, yX10_where, cX10_where, 9, (some .int))
def MX11_aMove : Mth := (11, false, yX11_aMove, cX11_aMove, 5, (some .boolean))
def MX11_aTurn : Mth := (11, false, yX11_aTurn, cX11_aTurn, 2, (some .boolean))
def MX11_alike : Mth := (11, false, yX11_alike, cX11_alike, 6, (some .int))
def MX11_at : Mth := (11, false, yX11_at, cX11_at, 3, (some .int))
def MX11_back : Mth := (11, false, yX11_back, cX11_back, 4, (some .int))
def MX11_bad : Mth := (11, false, yX11_bad, cX11_bad, 2, (some .boolean))
def MX11_beats : Mth := (11, false, yX11_beats, cX11_beats, 7, (some .int))
def MX11_begins : Mth := (11, false, yX11_begins, cX11_begins, 4, none)
def MX11_colour : Mth := (11, false, yX11_colour, cX11_colour, 3, (some .boolean))
def MX11_comes : Mth := (11, false, yX11_comes, cX11_comes, 4, none)
def MX11_comesAgain : Mth := (11, false, yX11_comesAgain, cX11_comesAgain, 4, (some .boolean))
def MX11_cut : Mth := (11, false, yX11_cut, cX11_cut, 7, (some .int))
def MX11_doCross : Mth := (11, false, yX11_doCross, cX11_doCross, 8, (some .boolean))
def MX11_draw : Mth := (11, false, yX11_draw, cX11_draw, 2, (some .int))
def MX11_dropped : Mth := (11, false, yX11_dropped, cX11_dropped, 9, (some .int))
def MX11_end : Mth := (11, false, yX11_end, cX11_end, 2, (some .boolean))
def MX11_farOf : Mth := (11, false, yX11_farOf, cX11_farOf, 3, (some .int))
def MX11_fault : Mth := (11, false, yX11_fault, cX11_fault, 2, (some .int))
def MX11_feed : Mth := (11, false, yX11_feed, cX11_feed, 8, (some .int))
def MX11_fewest : Mth := (11, false, yX11_fewest, cX11_fewest, 7, (some .int))
def MX11_goesOver : Mth := (11, false, yX11_goesOver, cX11_goesOver, 4, none)
def MX11_image : Mth := (11, false, yX11_image, cX11_image, 3, (some .boolean))
def MX11_init : Mth := (11, true, yX11_init, cX11_init, 1, none)
def MX11_is : Mth := (11, false, yX11_is, cX11_is, 4, (some .boolean))
def MX11_isAsNow : Mth := (11, false, yX11_isAsNow, cX11_isAsNow, 4, (some .boolean))
def MX11_isDigit : Mth := (11, false, yX11_isDigit, cX11_isDigit, 1, (some .boolean))
def MX11_isFree : Mth := (11, false, yX11_isFree, cX11_isFree, 4, (some .boolean))
def MX11_isIn : Mth := (11, false, yX11_isIn, cX11_isIn, 3, (some .boolean))
def MX11_isLeast : Mth := (11, false, yX11_isLeast, cX11_isLeast, 3, (some .boolean))
def MX11_isLetter : Mth := (11, false, yX11_isLetter, cX11_isLetter, 1, (some .boolean))
def MX11_isSlot : Mth := (11, false, yX11_isSlot, cX11_isSlot, 2, (some .boolean))
def MX11_isSong : Mth := (11, false, yX11_isSong, cX11_isSong, 1, (some .boolean))
def MX11_isWanted : Mth := (11, false, yX11_isWanted, cX11_isWanted, 2, (some .boolean))
def MX11_isWantedBehind : Mth := (11, false, yX11_isWantedBehind, cX11_isWantedBehind, 6, (some .boolean))
def MX11_isWithin : Mth := (11, false, yX11_isWithin, cX11_isWithin, 3, (some .boolean))
def MX11_keeps : Mth := (11, false, yX11_keeps, cX11_keeps, 2, none)
def MX11_lay : Mth := (11, false, yX11_lay, cX11_lay, 8, (some .int))
def MX11_laysFar : Mth := (11, false, yX11_laysFar, cX11_laysFar, 7, none)
def MX11_liftedOf : Mth := (11, false, yX11_liftedOf, cX11_liftedOf, 10, (some .int))
def MX11_lifts : Mth := (11, false, yX11_lifts, cX11_lifts, 7, none)
def MX11_look : Mth := (11, false, yX11_look, cX11_look, 2, (some .int))
def MX11_loops : Mth := (11, false, yX11_loops, cX11_loops, 4, (some .int))
def MX11_moves : Mth := (11, false, yX11_moves, cX11_moves, 12, (some .int))
def MX11_name : Mth := (11, false, yX11_name, cX11_name, 3, (some .boolean))
def MX11_need : Mth := (11, false, yX11_need, cX11_need, 2, (some .boolean))
def MX11_next0 : Mth := (11, false, yX11_next0, cX11_next0, 3, none)
def MX11_number : Mth := (11, false, yX11_number, cX11_number, 3, (some .boolean))
def MX11_of : Mth := (11, false, yX11_of, cX11_of, 3, (some .int))
def MX11_ofMove : Mth := (11, false, yX11_ofMove, cX11_ofMove, 4, (some .int))
def MX11_outside : Mth := (11, false, yX11_outside, cX11_outside, 3, (some .int))
def MX11_over : Mth := (11, false, yX11_over, cX11_over, 3, (some .int))
def MX11_period : Mth := (11, false, yX11_period, cX11_period, 3, (some .int))
def MX11_placeOf : Mth := (11, false, yX11_placeOf, cX11_placeOf, 3, (some .int))
def MX11_pulled : Mth := (11, false, yX11_pulled, cX11_pulled, 5, (some .int))
def MX11_puts : Mth := (11, false, yX11_puts, cX11_puts, 5, none)
def MX11_ring : Mth := (11, false, yX11_ring, cX11_ring, 4, (some .int))
def MX11_see : Mth := (11, false, yX11_see, cX11_see, 2, (some .int))
def MX11_sing : Mth := (11, false, yX11_sing, cX11_sing, 5, (some .int))
def MX11_sings : Mth := (11, false, yX11_sings, cX11_sings, 5, none)
def MX11_singsAlone : Mth := (11, false, yX11_singsAlone, cX11_singsAlone, 3, none)
def MX11_singsTruly : Mth := (11, false, yX11_singsTruly, cX11_singsTruly, 6, (some .int))
def MX11_sitsAtFirst : Mth := (11, false, yX11_sitsAtFirst, cX11_sitsAtFirst, 2, none)
def MX11_sitsNow : Mth := (11, false, yX11_sitsNow, cX11_sitsNow, 2, none)
def MX11_slip : Mth := (11, false, yX11_slip, cX11_slip, 2, (some .boolean))
def MX11_slotOf : Mth := (11, false, yX11_slotOf, cX11_slotOf, 3, (some .int))
def MX11_someSteps : Mth := (11, false, yX11_someSteps, cX11_someSteps, 3, (some .boolean))
def MX11_someTimes : Mth := (11, false, yX11_someTimes, cX11_someTimes, 7, (some .boolean))
def MX11_state : Mth := (11, false, yX11_state, cX11_state, 3, (some .int))
def MX11_stool : Mth := (11, false, yX11_stool, cX11_stool, 2, (some .boolean))
def MX11_swaps : Mth := (11, false, yX11_swaps, cX11_swaps, 5, none)
def MX11_text : Mth := (11, false, yX11_text, cX11_text, 4, (some .int))
def MX11_turns : Mth := (11, false, yX11_turns, cX11_turns, 4, none)
def MX11_undo : Mth := (11, false, yX11_undo, cX11_undo, 2, (some .boolean))
def MX11_want : Mth := (11, false, yX11_want, cX11_want, 3, (some .boolean))
def MX11_where : Mth := (11, false, yX11_where, cX11_where, 6, (some .int))
def MX11_word : Mth := (11, false, yX11_word, cX11_word, 1, (some .int))
def MX11_writes : Mth := (11, false, yX11_writes, cX11_writes, 2, none)
def ML_law : Mth := (12, false, yL_law, cL_law, 4, (some .boolean))
def MJ6_bitCount_0f7a4 : Mth := (13, false, yJ6_bitCount_0f7a4, cJ6_bitCount_0f7a4, 1, (some .int))
def MJ7_fill_53178 : Mth := (14, false, yJ7_fill_53178, cJ7_fill_53178, 4, none)
def mlT : List ((Nat × Nat) × (Nat × Nat × Nat × Mth)) := [
  ((0, 3), (10, 0, 0, MX6_get)),
  ((0, 18), (0, 2, 0, MJ7_fill_53178)),
  ((0, 33), (0, 1, 0, MX4_isTurn)),
  ((0, 39), (1, 3, 10, MX0_earliest)),
  ((0, 43), (11, 2, 0, MX6_get)),
  ((0, 49), (0, 2, 0, MX4_cross)),
  ((1, 3), (10, 0, 0, MX6_get)),
  ((1, 9), (0, 1, 0, MX6_home)),
  ((1, 38), (0, 2, 0, MJ7_fill_53178)),
  ((1, 44), (13, 5, 0, MX6_get)),
  ((1, 60), (1, 3, 11, MX1_make)),
  ((1, 64), (0, 1, 0, MX4_isTurn)),
  ((1, 70), (0, 3, 0, MX4_findsColour)),
  ((1, 74), (1, 1, 11, MX1_countOver)),
  ((1, 78), (0, 1, 0, MX4_from)),
  ((1, 82), (0, 2, 0, MX6_get)),
  ((1, 86), (0, 4, 0, MX4_madeOn)),
  ((1, 90), (0, 1, 0, MX4_to)),
  ((1, 93), (0, 1, 0, MX4_kind)),
  ((1, 96), (12, 2, 0, MX6_get)),
  ((1, 102), (11, 2, 0, MX6_get)),
  ((1, 105), (1, 3, 11, MX1_isCovered)),
  ((1, 109), (1, 2, 11, MX1_timesOver)),
  ((2, 3), (10, 0, 0, MX6_get)),
  ((2, 24), (3, 0, 0, MX1_init)),
  ((2, 25), (1, 1, 11, MX1_copy)),
  ((2, 29), (12, 2, 0, MX6_get)),
  ((3, 3), (10, 0, 0, MX6_get)),
  ((3, 15), (0, 3, 0, MX3_isSameColours)),
  ((3, 19), (1, 3, 13, MX3_longestCommon)),
  ((3, 23), (0, 3, 0, MX6_lifted)),
  ((3, 29), (1, 3, 13, MX3_needed)),
  ((3, 34), (0, 4, 0, MX4_packed)),
  ((3, 38), (0, 3, 0, MX3_countOf)),
  ((3, 42), (0, 2, 0, MX6_get)),
  ((3, 46), (11, 2, 0, MX6_get)),
  ((4, 11), (0, 1, 0, MX4_from)),
  ((4, 15), (0, 1, 0, MX4_kind)),
  ((4, 18), (0, 4, 0, MX4_packed)),
  ((4, 22), (0, 1, 0, MX4_to)),
  ((4, 25), (0, 1, 0, MX4_asked)),
  ((4, 28), (0, 2, 0, MX6_get)),
  ((4, 34), (0, 1, 0, MX4_isTurn)),
  ((4, 38), (0, 3, 0, MX6_turned)),
  ((4, 42), (0, 3, 0, MX4_findsColour)),
  ((4, 46), (0, 3, 0, MX6_lifted)),
  ((4, 49), (0, 3, 0, MX6_swapped)),
  ((4, 52), (0, 3, 0, MX4_isBetween)),
  ((4, 56), (12, 2, 0, MX6_get)),
  ((4, 62), (11, 2, 0, MX6_get)),
  ((5, 3), (10, 0, 0, MX6_get)),
  ((5, 20), (3, 0, 0, MX9_init)),
  ((5, 27), (3, 0, 0, MX7_init)),
  ((5, 58), (1, 0, 17, MX9_findTokens)),
  ((5, 67), (1, 0, 14, MX5_take)),
  ((5, 70), (1, 0, 14, MX5_readEnd)),
  ((5, 74), (1, 0, 14, MX5_readLift)),
  ((5, 77), (1, 0, 14, MX5_readSwap)),
  ((5, 80), (1, 0, 14, MX5_readTurn)),
  ((5, 83), (1, 0, 14, MX5_readTimes)),
  ((5, 86), (1, 0, 14, MX5_readClosing)),
  ((5, 89), (1, 1, 14, MX5_fail)),
  ((5, 102), (1, 1, 14, MX5_readToken)),
  ((5, 105), (1, 2, 14, MX5_readNumber)),
  ((5, 111), (1, 3, 14, MX5_readAsked)),
  ((5, 115), (0, 4, 0, MX4_packed)),
  ((5, 119), (1, 1, 14, MX5_append)),
  ((5, 126), (1, 1, 15, MX7_add)),
  ((6, 13), (0, 1, 0, MX6_lowest)),
  ((6, 21), (0, 2, 0, MX6_get)),
  ((6, 25), (0, 3, 0, MX6_with)),
  ((7, 3), (10, 0, 0, MX6_get)),
  ((7, 19), (13, 5, 0, MX6_get)),
  ((7, 25), (0, 1, 0, MX4_isTurn)),
  ((7, 31), (0, 1, 0, MX4_from)),
  ((7, 35), (0, 2, 0, MX6_get)),
  ((7, 41), (0, 4, 0, MX4_madeOn)),
  ((7, 45), (0, 2, 0, MX4_mirrored)),
  ((7, 49), (1, 4, 15, MX7_sungFrom)),
  ((7, 53), (0, 1, 0, MJ6_bitCount_0f7a4)),
  ((8, 3), (10, 0, 0, MX6_get)),
  ((8, 37), (3, 0, 0, MX1_init)),
  ((8, 48), (0, 2, 0, MJ7_fill_53178)),
  ((8, 54), (3, 0, 0, MX7_init)),
  ((8, 58), (1, 1, 11, MX1_startAnew)),
  ((8, 62), (13, 5, 0, MX6_get)),
  ((8, 68), (1, 1, 15, MX7_copy)),
  ((8, 72), (1, 1, 11, MX1_copy)),
  ((8, 75), (0, 2, 0, MX6_get)),
  ((8, 81), (0, 3, 0, MX6_with)),
  ((8, 91), (0, 1, 0, MX4_from)),
  ((8, 97), (0, 1, 0, MX4_isTurn)),
  ((8, 101), (1, 1, 11, MX1_draw)),
  ((8, 104), (1, 3, 11, MX1_make)),
  ((8, 108), (1, 1, 16, MX8_addRow)),
  ((8, 114), (1, 2, 16, MX8_rowPart)),
  ((8, 118), (1, 1, 16, MX8_layRows)),
  ((8, 122), (1, 1, 16, MX8_countUnlike)),
  ((8, 126), (0, 1, 0, MX6_home)),
  ((8, 130), (0, 1, 0, MX4_withoutAsking)),
  ((8, 133), (0, 4, 0, MX4_madeOn)),
  ((9, 3), (10, 0, 0, MX6_get)),
  ((9, 32), (1, 1, 17, MX9_endOfRun)),
  ((9, 36), (0, 1, 0, MX9_isBlank)),
  ((9, 40), (1, 2, 17, MX9_kindOfRun)),
  ((9, 44), (1, 2, 17, MX9_numberOfRun)),
  ((9, 47), (1, 3, 17, MX9_addToken)),
  ((9, 51), (0, 1, 0, MX9_isLetter)),
  ((9, 54), (0, 1, 0, MX9_isDigit)),
  ((9, 57), (1, 2, 17, MX9_kindOfWord)),
  ((9, 62), (1, 3, 17, MX9_isWord)),
  ((9, 76), (14, 0, 0, MX6_get)),
  ((9, 81), (15, 1, 0, MX6_get)),
  ((10, 1), (10, 0, 0, MX6_get)),
  ((10, 9), (3, 0, 0, MX5_init)),
  ((10, 18), (2, 0, 0, MX8_init)),
  ((10, 25), (2, 0, 0, MX2_init)),
  ((10, 32), (3, 0, 0, MX3_init)),
  ((10, 39), (3, 0, 0, MX0_init)),
  ((10, 46), (3, 0, 0, MX1_init)),
  ((10, 64), (1, 0, 12, MX2_forget)),
  ((10, 67), (1, 1, 16, MX8_startAnew)),
  ((10, 71), (1, 1, 18, MX10_isSlot)),
  ((10, 75), (0, 1, 0, MX10_isColour)),
  ((10, 82), (0, 3, 0, MX6_with)),
  ((10, 100), (1, 1, 17, MX9_add)),
  ((10, 103), (1, 0, 14, MX5_forgetFault)),
  ((10, 106), (0, 1, 0, MX10_isSong)),
  ((10, 112), (1, 1, 14, MX5_read)),
  ((10, 123), (1, 1, 15, MX7_copy)),
  ((10, 138), (1, 1, 12, MX2_remember)),
  ((10, 142), (1, 1, 16, MX8_singOnce)),
  ((10, 149), (0, 2, 0, MX6_get)),
  ((10, 153), (0, 3, 0, MX6_slotWith)),
  ((10, 161), (1, 2, 11, MX1_timesOver)),
  ((10, 168), (1, 2, 16, MX8_rowPart)),
  ((10, 171), (1, 3, 15, MX7_singingsBack)),
  ((10, 175), (1, 1, 16, MX8_seen)),
  ((10, 181), (1, 3, 15, MX7_mirroredFrom)),
  ((10, 185), (1, 4, 15, MX7_sungFrom)),
  ((10, 192), (1, 3, 13, MX3_needed)),
  ((10, 195), (1, 4, 13, MX3_firstOf)),
  ((10, 199), (0, 1, 0, MX4_from)),
  ((10, 205), (0, 1, 0, MX4_to)),
  ((10, 208), (0, 4, 0, MX10_oneOfThree)),
  ((10, 212), (0, 1, 0, MX6_home)),
  ((10, 216), (1, 4, 18, MX10_fitsWithout)),
  ((10, 220), (1, 2, 10, MX0_needed)),
  ((10, 226), (1, 1, 16, MX8_strandsToDye)),
  ((10, 229), (1, 2, 11, MX1_leastFree)),
  ((10, 232), (1, 0, 18, MX10_countRings)),
  ((10, 236), (1, 1, 18, MX10_ringOf)),
  ((10, 239), (0, 1, 0, MJ6_bitCount_0f7a4)),
  ((10, 244), (1, 1, 11, MX1_startAnew)),
  ((10, 245), (1, 3, 11, MX1_singInThought)),
  ((10, 249), (1, 1, 11, MX1_isOverLike)),
  ((10, 253), (1, 2, 16, MX8_rowsComeAgain)),
  ((10, 257), (1, 1, 12, MX2_goBack)),
  ((10, 260), (1, 1, 16, MX8_copy)),
  ((11, 1), (10, 0, 0, MX6_get)),
  ((11, 65), (1, 1, 19, MX11_begins)),
  ((11, 72), (0, 3, 0, MX11_isIn)),
  ((11, 78), (1, 1, 19, MX11_isSlot)),
  ((11, 91), (14, 0, 0, MX6_get)),
  ((11, 97), (15, 1, 0, MX6_get)),
  ((11, 103), (1, 1, 19, MX11_is)),
  ((11, 117), (1, 1, 19, MX11_see)),
  ((11, 124), (0, 1, 0, MX11_isLetter)),
  ((11, 127), (1, 0, 19, MX11_word)),
  ((11, 130), (0, 1, 0, MX11_isDigit)),
  ((11, 142), (1, 1, 19, MX11_bad)),
  ((11, 145), (1, 0, 19, MX11_next0)),
  ((11, 151), (1, 2, 19, MX11_number)),
  ((11, 155), (1, 1, 19, MX11_need)),
  ((11, 158), (1, 4, 19, MX11_puts)),
  ((11, 162), (1, 1, 19, MX11_someSteps)),
  ((11, 165), (1, 1, 19, MX11_someTimes)),
  ((11, 168), (1, 0, 19, MX11_aTurn)),
  ((11, 172), (1, 1, 19, MX11_aMove)),
  ((11, 178), (0, 1, 0, MX11_isSong)),
  ((11, 181), (1, 3, 19, MX11_goesOver)),
  ((11, 185), (1, 3, 19, MX11_ofMove)),
  ((11, 189), (1, 1, 19, MX11_turns)),
  ((11, 192), (1, 3, 19, MX11_lifts)),
  ((11, 195), (1, 3, 19, MX11_swaps)),
  ((11, 198), (1, 6, 19, MX11_moves)),
  ((11, 202), (1, 0, 19, MX11_sitsNow)),
  ((11, 205), (1, 1, 19, MX11_draw)),
  ((11, 208), (1, 1, 19, MX11_writes)),
  ((11, 211), (1, 0, 19, MX11_keeps)),
  ((11, 214), (1, 1, 19, MX11_singsTruly)),
  ((11, 217), (1, 1, 19, MX11_slotOf)),
  ((11, 220), (1, 3, 19, MX11_sings)),
  ((11, 224), (1, 1, 19, MX11_isAsNow)),
  ((11, 229), (1, 1, 19, MX11_placeOf)),
  ((11, 235), (1, 2, 19, MX11_comes)),
  ((11, 239), (1, 3, 19, MX11_liftedOf)),
  ((11, 242), (1, 0, 19, MX11_laysFar)),
  ((11, 245), (1, 1, 19, MX11_farOf)),
  ((11, 248), (1, 0, 19, MX11_sitsAtFirst)),
  ((11, 251), (1, 0, 19, MX11_isWanted)),
  ((11, 254), (1, 4, 19, MX11_isWantedBehind)),
  ((11, 258), (1, 1, 19, MX11_singsAlone)),
  ((11, 261), (1, 2, 19, MX11_comesAgain)),
  ((11, 264), (0, 3, 0, MX11_isWithin)),
  ((11, 267), (1, 3, 19, MX11_doCross)),
  ((11, 270), (1, 2, 19, MX11_isFree)),
  ((11, 273), (1, 1, 19, MX11_ring)),
  ((11, 276), (1, 1, 19, MX11_isLeast)),
  ((12, 9), (2, 0, 0, MX10_init)),
  ((12, 12), (2, 0, 0, MX11_init)),
  ((12, 13), (1, 1, 18, MX10_state)),
  ((12, 17), (1, 1, 19, MX11_state)),
  ((12, 18), (1, 1, 18, MX10_stool)),
  ((12, 22), (1, 1, 19, MX11_stool)),
  ((12, 23), (1, 2, 18, MX10_colour)),
  ((12, 27), (1, 2, 19, MX11_colour)),
  ((12, 28), (1, 1, 18, MX10_slip)),
  ((12, 31), (1, 1, 19, MX11_slip)),
  ((12, 32), (1, 5, 18, MX10_feed)),
  ((12, 36), (1, 5, 19, MX11_feed)),
  ((12, 37), (1, 1, 18, MX10_end)),
  ((12, 40), (1, 1, 19, MX11_end)),
  ((12, 41), (1, 1, 18, MX10_text)),
  ((12, 44), (1, 1, 19, MX11_text)),
  ((12, 45), (1, 1, 18, MX10_fault)),
  ((12, 48), (1, 1, 19, MX11_fault)),
  ((12, 49), (1, 2, 18, MX10_sing)),
  ((12, 53), (1, 2, 19, MX11_sing)),
  ((12, 54), (1, 2, 18, MX10_at)),
  ((12, 57), (1, 2, 19, MX11_at)),
  ((12, 58), (1, 2, 18, MX10_of)),
  ((12, 61), (1, 2, 19, MX11_of)),
  ((12, 62), (1, 2, 18, MX10_over)),
  ((12, 65), (1, 2, 19, MX11_over)),
  ((12, 66), (1, 2, 18, MX10_outside)),
  ((12, 69), (1, 2, 19, MX11_outside)),
  ((12, 70), (1, 2, 18, MX10_back)),
  ((12, 73), (1, 2, 19, MX11_back)),
  ((12, 74), (1, 4, 18, MX10_where)),
  ((12, 78), (1, 4, 19, MX11_where)),
  ((12, 79), (1, 2, 18, MX10_want)),
  ((12, 82), (1, 2, 19, MX11_want)),
  ((12, 83), (1, 1, 18, MX10_fewest)),
  ((12, 86), (1, 1, 19, MX11_fewest)),
  ((12, 87), (1, 1, 18, MX10_cut)),
  ((12, 90), (1, 1, 19, MX11_cut)),
  ((12, 91), (1, 3, 18, MX10_dropped)),
  ((12, 95), (1, 3, 19, MX11_dropped)),
  ((12, 96), (1, 2, 18, MX10_beats)),
  ((12, 99), (1, 2, 19, MX11_beats)),
  ((12, 100), (1, 2, 18, MX10_name)),
  ((12, 103), (1, 2, 19, MX11_name)),
  ((12, 104), (1, 1, 18, MX10_lay)),
  ((12, 107), (1, 1, 19, MX11_lay)),
  ((12, 108), (1, 1, 18, MX10_pulled)),
  ((12, 111), (1, 1, 19, MX11_pulled)),
  ((12, 112), (1, 1, 18, MX10_loops)),
  ((12, 115), (1, 1, 19, MX11_loops)),
  ((12, 116), (1, 2, 18, MX10_alike)),
  ((12, 119), (1, 2, 19, MX11_alike)),
  ((12, 120), (1, 1, 18, MX10_period)),
  ((12, 123), (1, 1, 19, MX11_period)),
  ((12, 124), (1, 0, 18, MX10_undo)),
  ((12, 128), (1, 0, 19, MX11_undo)),
  ((12, 129), (1, 1, 18, MX10_image)),
  ((12, 133), (1, 1, 19, MX11_image)),
  ((12, 134), (1, 1, 18, MX10_look)),
  ((12, 137), (1, 1, 19, MX11_look))]
def flT : List ((Nat × Nat) × (Nat × Nat)) := [((0, 9), (0, 0)), ((0, 15), (0, 1)), ((0, 24), (5, 0)), ((0, 30), (5, 1)), ((1, 15), (1, 0)), ((1, 21), (1, 1)), ((1, 25), (1, 2)), ((1, 28), (1, 3)), ((1, 31), (1, 4)), ((1, 35), (1, 5)), ((1, 52), (5, 0)), ((1, 57), (5, 1)), ((2, 9), (2, 0)), ((2, 15), (2, 1)), ((2, 20), (2, 2)), ((3, 11), (3, 0)), ((5, 9), (4, 0)), ((5, 15), (4, 1)), ((5, 21), (4, 2)), ((5, 28), (4, 3)), ((5, 32), (4, 4)), ((5, 35), (4, 5)), ((5, 38), (4, 6)), ((5, 41), (4, 7)), ((5, 44), (4, 8)), ((5, 48), (4, 9)), ((5, 51), (4, 10)), ((5, 55), (4, 11)), ((5, 61), (5, 0)), ((5, 64), (7, 1)), ((5, 93), (7, 3)), ((5, 96), (7, 2)), ((5, 99), (7, 4)), ((5, 123), (5, 1)), ((7, 9), (5, 0)), ((7, 15), (5, 1)), ((8, 9), (6, 0)), ((8, 15), (6, 1)), ((8, 18), (6, 2)), ((8, 22), (6, 3)), ((8, 25), (6, 4)), ((8, 31), (6, 5)), ((8, 38), (6, 6)), ((8, 42), (6, 7)), ((8, 45), (6, 8)), ((8, 55), (5, 0)), ((8, 85), (5, 1)), ((8, 88), (1, 0)), ((8, 111), (1, 3)), ((9, 9), (7, 0)), ((9, 15), (7, 1)), ((9, 18), (7, 2)), ((9, 22), (7, 3)), ((9, 25), (7, 4)), ((9, 28), (7, 5)), ((10, 10), (8, 0)), ((10, 19), (8, 1)), ((10, 26), (8, 2)), ((10, 33), (8, 3)), ((10, 40), (8, 4)), ((10, 47), (8, 5)), ((10, 51), (8, 6)), ((10, 54), (8, 7)), ((10, 57), (6, 6)), ((10, 60), (1, 1)), ((10, 78), (6, 2)), ((10, 88), (6, 1)), ((10, 91), (4, 2)), ((10, 95), (7, 0)), ((10, 109), (6, 0)), ((10, 115), (6, 5)), ((10, 119), (4, 3)), ((10, 129), (5, 0)), ((10, 132), (4, 0)), ((10, 135), (4, 1)), ((10, 146), (1, 0)), ((10, 157), (1, 4)), ((10, 165), (1, 3)), ((10, 189), (6, 3)), ((10, 223), (6, 4)), ((10, 263), (1, 2)), ((10, 266), (2, 0)), ((11, 7), (9, 0)), ((11, 13), (9, 1)), ((11, 16), (9, 2)), ((11, 19), (9, 5)), ((11, 22), (9, 6)), ((11, 25), (9, 16)), ((11, 29), (9, 17)), ((11, 32), (9, 18)), ((11, 35), (9, 19)), ((11, 38), (9, 20)), ((11, 41), (9, 21)), ((11, 44), (9, 22)), ((11, 47), (9, 24)), ((11, 50), (9, 25)), ((11, 53), (9, 26)), ((11, 56), (9, 27)), ((11, 59), (9, 28)), ((11, 62), (9, 29)), ((11, 69), (9, 3)), ((11, 82), (9, 8)), ((11, 85), (9, 9)), ((11, 88), (9, 11)), ((11, 121), (9, 10)), ((11, 133), (9, 12)), ((11, 136), (9, 13)), ((11, 139), (9, 14)), ((11, 148), (9, 7)), ((11, 175), (9, 15)), ((11, 232), (9, 23)), ((11, 279), (9, 4))]
def newT : List ((Nat × Nat) × Nat) := [((2, 18), 1), ((5, 18), 7), ((5, 25), 5), ((8, 29), 5), ((8, 35), 1), ((10, 7), 4), ((10, 16), 6), ((10, 23), 2), ((10, 30), 3), ((10, 37), 0), ((10, 44), 1), ((12, 7), 8), ((12, 10), 9)]
def anewT : List ((Nat × Nat) × Nat) := [((2, 18), 4), ((8, 29), 3)]
def icT : List ((Nat × Nat) × Int32) := [((1, 50), 1664525), ((1, 51), 1013904223), ((11, 76), 1664525), ((11, 77), 1013904223), ((11, 227), 40503), ((11, 228), 2147483647), ((13, 265), 1431655765), ((13, 266), 858993459), ((13, 267), 252645135)]
def lcT : List ((Nat × Nat) × Int64) := [((6, 11), -81985529216486896), ((6, 17), 15), ((6, 19), -1), ((10, 179), -81985529216486896)]
def slT : List ((Nat × Nat) × Nat) := [((9, 60), 0), ((9, 66), 1), ((9, 68), 2), ((9, 70), 3), ((9, 72), 4), ((9, 74), 5), ((11, 101), 0), ((11, 107), 1), ((11, 109), 2), ((11, 111), 3), ((11, 113), 4), ((11, 115), 5)]
def lkp {α : Type} (t : List ((Nat × Nat) × α)) (c i : Nat) : Option α := (t.find? (fun e => e.1.1 == c && e.1.2 == i)).map (fun e => e.2)
def fkT : List (List (Nat × Bool)) := [[(2, true), (2, true)], [(1, false), (0, false), (0, false), (0, false), (2, true), (2, true)], [(0, false), (0, false), (2, true)], [(2, true)], [(0, false), (0, false), (2, true), (2, true), (0, false), (0, false), (0, false), (0, false), (3, false), (0, false), (2, true), (2, true)], [(0, false), (2, true)], [(0, false), (0, false), (1, false), (1, false), (2, true), (2, true), (2, true), (2, true), (2, true)], [(0, false), (0, false), (2, true), (2, true), (2, true), (2, true)], [(2, true), (2, true), (2, true), (2, true), (2, true), (2, true), (2, true), (2, false)], [(2, true), (2, true), (2, true), (0, false), (3, false), (2, true), (2, true), (0, false), (0, false), (0, false), (0, false), (0, false), (0, false), (0, false), (0, false), (0, false), (0, false), (2, true), (2, true), (2, true), (2, true), (2, true), (2, true), (0, false), (2, true), (2, true), (2, true), (2, true), (2, true), (2, true)]]
def fkind (c k : Nat) : Nat × Bool := (fkT.getD c []).getD k (9, false)
def cnum (c : Nat) : Nat := [0, 1, 2, 3, 5, 7, 8, 9, 10, 11].getD c 99
def csize (c : Nat) : Nat := (fkT.getD c []).length
def strT : List (List Int32) := [[108, 105, 102, 116], [116, 111], [105, 102], [115, 119, 97, 112], [116, 117, 114, 110], [116, 105, 109, 101, 115]]
def gI (h : Hp) (a k : Nat) : Int32 := h.1 a k
def gJ (h : Hp) (a k : Nat) : Int64 := h.2.1 a k
def gR (h : Hp) (a k : Nat) : Option Nat := h.2.2.1 a k
def shp (h : Hp) (a : Nat) : Nat × Nat := h.2.2.2.getD a (99, 0)
def sI (h : Hp) (a k : Nat) (v : Int32) : Hp := (fun b j => if b = a ∧ j = k then v else h.1 b j, h.2)
def sJ (h : Hp) (a k : Nat) (v : Int64) : Hp := (h.1, fun b j => if b = a ∧ j = k then v else h.2.1 b j, h.2.2)
def sR (h : Hp) (a k : Nat) (v : Option Nat) : Hp := (h.1, h.2.1, fun b j => if b = a ∧ j = k then v else h.2.2.1 b j, h.2.2.2)
def cpI (h : Hp) (a sp b dp n : Nat) : Hp := (fun x j => if x = b ∧ dp ≤ j ∧ j < dp + n then h.1 a (sp + (j - dp)) else h.1 x j, h.2)
def nxt (h : Hp) : Nat := h.2.2.2.length
def newO (h : Hp) (kd n : Nat) : Hp := (fun b j => if b = nxt h then 0 else h.1 b j, fun b j => if b = nxt h then 0 else h.2.1 b j, fun b j => if b = nxt h then none else h.2.2.1 b j, h.2.2.2 ++ [(kd, n)])
abbrev un : Value := .retAddr 0
def vr (r : Option Nat) : Value := match r with
  | none => .null
  | some a => .ref a
def ldL (L : List Value) (i : Nat) : Value := L.getD i un
def stL (L : List Value) (i : Nat) (v : Value) : List Value := match L, i with
  | [], _ => []
  | _ :: L, 0 => v :: L
  | a :: L, i + 1 => (if i = 0 ∧ a.category = 2 then un else a) :: stL L i v
def stL2 (L : List Value) (i : Nat) (v : Value) : List Value := stL (stL L (i + 1) un) i v
def spread (vs : List Value) : List Value := vs.flatMap (fun v => if v.category = 2 then [v, un] else [v])
def ent (vs : List Value) (n : Nat) : List Value := spread vs ++ List.replicate (n - (spread vs).length) un
abbrev Act : Type := (List Value × List Value × Hp) ⊕ ((Int × List Value) ⊕ (Option Value ⊕ (Mth × List Value × List Value)))
abbrev aF (L S : List Value) (h : Hp) : Option Act := some (.inl (L, S, h))
abbrev aJ (o : Int) (S : List Value) : Option Act := some (.inr (.inl (o, S)))
abbrev aR (v : Option Value) : Option Act := some (.inr (.inr (.inl v)))
abbrev aC (y : Mth) (as S : List Value) : Option Act := some (.inr (.inr (.inr (y, as, S))))
def fval (h : Hp) (a : Nat) (t k : Nat) : Value := if t = 1 then .long (gJ h a k) else if t = 2 then vr (gR h a k) else .int (gI h a k)
def cats (S : List Value) : Nat := (S.map fun v => v.category).sum
def cmpB (c : ClassFile.Cond) (x y : Int32) : Bool := match c with
  | .eq => decide (x = y)
  | .ne => decide (¬ x = y)
  | .lt => decide (x < y)
  | .ge => decide (y ≤ x)
  | .gt => decide (y < x)
  | .le => decide (x ≤ y)
def actLd (i : Instr) (L S : List Value) (h : Hp) : Option Act := match i with
  | .iload k => match ldL L k with
    | .int x => aF L (.int x :: S) h
    | _ => none
  | .iload_n k => match ldL L k.val with
    | .int x => aF L (.int x :: S) h
    | _ => none
  | .lload k => match ldL L k with
    | .long x => aF L (.long x :: S) h
    | _ => none
  | .lload_n k => match ldL L k.val with
    | .long x => aF L (.long x :: S) h
    | _ => none
  | .aload k => match ldL L k with
    | .ref x => aF L (.ref x :: S) h
    | _ => none
  | .aload_n k => match ldL L k.val with
    | .ref x => aF L (.ref x :: S) h
    | _ => none
  | .istore k => match S with
    | .int x :: S' => if k < L.length then aF (stL L k (.int x)) S' h else none
    | _ => none
  | .istore_n k => match S with
    | .int x :: S' => if k.val < L.length then aF (stL L k.val (.int x)) S' h else none
    | _ => none
  | .lstore k => match S with
    | .long x :: S' => if k + 1 < L.length then aF (stL2 L k (.long x)) S' h else none
    | _ => none
  | .lstore_n k => match S with
    | .long x :: S' => if k.val + 1 < L.length then aF (stL2 L k.val (.long x)) S' h else none
    | _ => none
  | .astore k => match S with
    | .ref x :: S' => if k < L.length then aF (stL L k (.ref x)) S' h else none
    | _ => none
  | .astore_n k => match S with
    | .ref x :: S' => if k.val < L.length then aF (stL L k.val (.ref x)) S' h else none
    | _ => none
  | .iinc k n => match ldL L k with
    | .int x => if k < L.length then aF (stL L k (.int (x + Int32.ofInt n))) S h else none
    | _ => none
  | _ => none
def actOp (i : Instr) (L S : List Value) (h : Hp) : Option Act := match i, S with
  | .iadd, .int y :: .int x :: S => aF L (.int (x + y) :: S) h
  | .isub, .int y :: .int x :: S => aF L (.int (x - y) :: S) h
  | .imul, .int y :: .int x :: S => aF L (.int (x * y) :: S) h
  | .iand, .int y :: .int x :: S => aF L (.int (x &&& y) :: S) h
  | .ior, .int y :: .int x :: S => aF L (.int (x ||| y) :: S) h
  | .ixor, .int y :: .int x :: S => aF L (.int (x ^^^ y) :: S) h
  | .ishl, .int y :: .int x :: S => aF L (.int (x <<< (y &&& 31)) :: S) h
  | .ishr, .int y :: .int x :: S => aF L (.int (x >>> (y &&& 31)) :: S) h
  | .iushr, .int y :: .int x :: S => aF L (.int (x.toUInt32 >>> (y.toUInt32 &&& Int32.toUInt32 31)).toInt32 :: S) h
  | .idiv, .int y :: .int x :: S => if y = 0 then none else aF L (.int (x / y) :: S) h
  | .irem, .int y :: .int x :: S => if y = 0 then none else aF L (.int (x - x / y * y) :: S) h
  | .lsub, .long y :: .long x :: S => aF L (.long (x - y) :: S) h
  | .land, .long y :: .long x :: S => aF L (.long (x &&& y) :: S) h
  | .lor, .long y :: .long x :: S => aF L (.long (x ||| y) :: S) h
  | .lxor, .long y :: .long x :: S => aF L (.long (x ^^^ y) :: S) h
  | .lshl, .int y :: .long x :: S => aF L (.long (x <<< (y.toInt64 &&& 63)) :: S) h
  | .lushr, .int y :: .long x :: S => aF L (.long (x.toUInt64 >>> (y.toInt64.toUInt64 &&& Int64.toUInt64 63)).toInt64 :: S) h
  | .lcmp, .long y :: .long x :: S => aF L (.int (lg_cmp x y) :: S) h
  | .i2l, .int x :: S => aF L (.long x.toInt64 :: S) h
  | .l2i, .long x :: S => aF L (.int x.toInt32 :: S) h
  | .i2b, .int x :: S => aF L (.int x.toInt8.toInt32 :: S) h
  | .dup, a :: S => if a.category = 1 then aF L (a :: a :: S) h else none
  | .pop, a :: S => if a.category = 1 then aF L S h else none
  | .dup2, a :: b :: S => if a.category = 1 ∧ b.category = 1 then aF L (a :: b :: a :: b :: S) h else none
  | _, _ => none
def actCn (c : Nat) (i : Instr) (L S : List Value) (h : Hp) : Option Act := match i with
  | .iconst n => aF L (.int (Int32.ofInt n) :: S) h
  | .bipush n => aF L (.int (Int8.ofInt n).toInt32 :: S) h
  | .sipush n => aF L (.int (Int16.ofInt n).toInt32 :: S) h
  | .lconst n => aF L (.long (Int64.ofNat n.val) :: S) h
  | .aconst_null => aF L (.null :: S) h
  | .ldc k => match lkp icT c k with
    | some v => aF L (.int v :: S) h
    | none => match lkp slT c k with
      | some v => aF L (.ref (1000000 + v) :: S) h
      | none => none
  | .ldc_w k => match lkp icT c k with
    | some v => aF L (.int v :: S) h
    | none => none
  | .ldc2_w k => match lkp lcT c k with
    | some v => aF L (.long v :: S) h
    | none => none
  | _ => none
def actBr (i : Instr) (L S : List Value) (h : Hp) : Option Act := match i, S with
  | .goto o, S => aJ o S
  | .if_icmp c o, .int y :: .int x :: S => if cmpB c x y = true then aJ o S else aF L S h
  | .ifCond c o, .int x :: S => if cmpB c x 0 = true then aJ o S else aF L S h
  | .ifnonnull o, .ref _ :: S => aJ o S
  | .ifnonnull _, .null :: S => aF L S h
  | .tableswitch df lo hi os, .int x :: S => if x.toInt < lo ∨ hi < x.toInt then aJ df S else match os[(x.toInt - lo).toNat]? with
    | some o => aJ o S
    | none => none
  | .lookupswitch df ps, .int x :: S => if (ps.toList.zip (ps.toList.drop 1)).all (fun (a, next) => a.1 < next.1) = true then aJ (Op.lookupswitch.offset ps.toList df x.toInt) S else none
  | _, _ => none
def inB (j : Int32) (n : Nat) : Bool := decide (¬ (j < 0 ∨ n ≤ j.toNatClampNeg))
def actHp (y : Mth) (i : Instr) (L S : List Value) (h : Hp) : Option Act := match i, S with
  | .getfield k, .ref a :: S => match lkp flT y.1 k with
    | some (c, f) => if (shp h a).1 = 10 + c then aF L (fval h a (fkind c f).1 f :: S) h else none
    | none => none
  | .putfield k, v :: .ref a :: S => match lkp flT y.1 k with
    | some (c, f) => if (shp h a).1 = 10 + c ∧ ((fkind c f).2 = false ∨ (y.2.1 = true ∧ y.1 = cnum c)) then
        (match (fkind c f).1, v with
        | 0, .int x => aF L S (sI h a f x)
        | 3, .int x => if x = 0 ∨ x = 1 then aF L S (sI h a f x) else none
        | 1, .long x => aF L S (sJ h a f x)
        | 2, .ref b => if b < nxt h then aF L S (sR h a f (some b)) else none
        | 2, .null => aF L S (sR h a f none)
        | _, _ => none) else none
    | none => none
  | .iaload, .int j :: .ref a :: S => if ((shp h a).1 = 0 ∨ (shp h a).1 = 1) ∧ inB j (shp h a).2 = true then aF L (.int (gI h a j.toNatClampNeg) :: S) h else none
  | .baload, .int j :: .ref a :: S => if (shp h a).1 = 2 ∧ inB j (shp h a).2 = true then aF L (.int (gI h a j.toNatClampNeg) :: S) h else none
  | .aaload, .int j :: .ref a :: S => if ((shp h a).1 = 3 ∨ (shp h a).1 = 4) ∧ inB j (shp h a).2 = true then aF L (vr (gR h a j.toNatClampNeg) :: S) h else none
  | .iastore, .int x :: .int j :: .ref a :: S => if (shp h a).1 = 1 ∧ inB j (shp h a).2 = true then aF L S (sI h a j.toNatClampNeg x) else none
  | .bastore, .int x :: .int j :: .ref a :: S => if (shp h a).1 = 2 ∧ inB j (shp h a).2 = true then aF L S (sI h a j.toNatClampNeg (vp_nar .byte x)) else none
  | .aastore, .ref v :: .int j :: .ref a :: S => if inB j (shp h a).2 = true ∧ (((shp h a).1 = 3 ∧ (shp h v).1 = 15) ∨ ((shp h a).1 = 4 ∧ (shp h v).1 = 11)) then aF L S (sR h a j.toNatClampNeg (some v)) else none
  | .arraylength, .ref a :: S => if (shp h a).1 ≤ 4 then aF L (.int (Int32.ofNat (shp h a).2) :: S) h else none
  | .newarray .int, .int n :: S => if ¬ n < 0 ∧ n.toNatClampNeg ≤ 100000 ∧ nxt h < 900000 then aF L (.ref (nxt h) :: S) (newO h 1 n.toNatClampNeg) else none
  | .newarray .byte, .int n :: S => if ¬ n < 0 ∧ n.toNatClampNeg ≤ 100000 ∧ nxt h < 900000 then aF L (.ref (nxt h) :: S) (newO h 2 n.toNatClampNeg) else none
  | .anewarray k, .int n :: S => match lkp anewT y.1 k with
    | some kd => if ¬ n < 0 ∧ n.toNatClampNeg ≤ 100000 ∧ nxt h < 900000 then aF L (.ref (nxt h) :: S) (newO h kd n.toNatClampNeg) else none
    | none => none
  | .new k, S => match lkp newT y.1 k with
    | some c => if nxt h < 900000 then aF L (.ref (nxt h) :: S) (newO h (10 + c) (csize c)) else none
    | none => none
  | _, _ => none
def actRt (y : Mth) (i : Instr) (S : List Value) : Option Act := match i, S with
  | .ireturn, [.int v] => if y.2.2.2.2.2 = some .int ∨ (y.2.2.2.2.2 = some .boolean ∧ (v = 0 ∨ v = 1)) then aR (some (.int v)) else none
  | .lreturn, [.long v] => if y.2.2.2.2.2 = some .long then aR (some (.long v)) else none
  | .return_, [] => if y.2.2.2.2.2 = none then aR none else none
  | _, _ => none
def actIv (y : Mth) (i : Instr) (L S : List Value) (h : Hp) : Option Act := match i with
  | .invokestatic k => match lkp mlT y.1 k with
    | some (0, np, _, y') => if np ≤ S.length ∧ cats (S.drop np) ≤ 8 ∧ (spread (S.take np).reverse).length ≤ y'.2.2.2.2.1 then aC y' (S.take np).reverse (S.drop np) else none
    | some (11, _) => match S with
      | .int b :: .int a :: S => if cats S ≤ 8 then aF L (.int (if a < b then b else a) :: S) h else none
      | _ => none
    | some (12, _) => match S with
      | .int b :: .int a :: S => if cats S ≤ 8 then aF L (.int (if b < a then b else a) :: S) h else none
      | _ => none
    | some (13, _) => match S with
      | .int n :: .int dp :: .ref b :: .int sp :: .ref a :: S => if cats S ≤ 8 ∧ (shp h a).1 = 1 ∧ (shp h b).1 = 1 ∧ ¬ sp < 0 ∧ ¬ dp < 0 ∧ ¬ n < 0 ∧ sp.toNatClampNeg + n.toNatClampNeg ≤ (shp h a).2 ∧ dp.toNatClampNeg + n.toNatClampNeg ≤ (shp h b).2 then aF L S (cpI h a sp.toNatClampNeg b dp.toNatClampNeg n.toNatClampNeg) else none
      | _ => none
    | _ => none
  | .invokevirtual k => match lkp mlT y.1 k with
    | some (1, np, rc, y') => match S.drop np with
      | .ref a :: S' => if (shp h a).1 = rc ∧ cats S' ≤ 8 ∧ (spread (.ref a :: (S.take np).reverse)).length ≤ y'.2.2.2.2.1 then aC y' (.ref a :: (S.take np).reverse) S' else none
      | _ => none
    | some (14, _) => match S with
      | .ref q :: S => if 1000000 ≤ q ∧ q < 1000006 ∧ cats S ≤ 8 then aF L (.int (Int32.ofNat (strT.getD (q - 1000000) []).length) :: S) h else none
      | _ => none
    | some (15, _) => match S with
      | .int j :: .ref q :: S => if 1000000 ≤ q ∧ q < 1000006 ∧ cats S ≤ 8 ∧ inB j (strT.getD (q - 1000000) []).length = true then aF L (.int ((strT.getD (q - 1000000) []).getD j.toNatClampNeg 0) :: S) h else none
      | _ => none
    | _ => none
  | .invokespecial k => match lkp mlT y.1 k with
    | some (2, np, _, y') => match S.drop np with
      | .ref a :: S' => if cats S' ≤ 8 ∧ (spread (.ref a :: (S.take np).reverse)).length ≤ y'.2.2.2.2.1 then aC y' (.ref a :: (S.take np).reverse) S' else none
      | _ => none
    | some (3, np, _, y') => match S.drop np with
      | .ref a :: S' => if cats S' ≤ 8 ∧ (spread (.ref a :: (S.take np).reverse)).length ≤ y'.2.2.2.2.1 then aC y' (.ref a :: (S.take np).reverse) S' else none
      | _ => none
    | some (10, _) => match S with
      | .ref _ :: S => if cats S ≤ 8 then aF L S h else none
      | _ => none
    | _ => none
  | _ => none
def grp (i : Instr) : Nat := match i with
  | .iload _ | .iload_n _ | .lload _ | .lload_n _ | .aload _ | .aload_n _ | .istore _ | .istore_n _ | .lstore _ | .lstore_n _ | .astore _ | .astore_n _ | .iinc _ _ => 0
  | .iconst _ | .bipush _ | .sipush _ | .lconst _ | .aconst_null | .ldc _ | .ldc_w _ | .ldc2_w _ => 1
  | .goto _ | .if_icmp _ _ | .ifCond _ _ | .ifnonnull _ | .tableswitch _ _ _ _ | .lookupswitch _ _ => 2
  | .getfield _ | .putfield _ | .iaload | .baload | .aaload | .iastore | .bastore | .aastore | .arraylength | .newarray _ | .anewarray _ | .new _ => 3
  | .ireturn | .lreturn | .return_ => 4
  | .invokestatic _ | .invokevirtual _ | .invokespecial _ => 5
  | _ => 6
def act (y : Mth) (i : Instr) (L S : List Value) (h : Hp) : Option Act := match grp i with
  | 0 => actLd i L S h
  | 1 => actCn y.1 i L S h
  | 2 => actBr i L S h
  | 3 => actHp y i L S h
  | 4 => actRt y i S
  | 5 => actIv y i L S h
  | _ => actOp i L S h
def ilen (i : Instr) : Nat := match i with
  | .iload _ | .lload _ | .aload _ | .istore _ | .lstore _ | .astore _ | .bipush _ | .ldc _ | .newarray _ => 2
  | .iinc _ _ | .sipush _ | .ldc_w _ | .ldc2_w _ | .goto _ | .if_icmp _ _ | .ifCond _ _ | .ifnonnull _ | .getfield _ | .putfield _ | .invokestatic _ | .invokevirtual _ | .invokespecial _ | .new _ | .anewarray _ => 3
  | .tableswitch _ _ _ _ | .lookupswitch _ _ => 0
  | _ => 1
def ins (y : Mth) (pc : Nat) : Option (Instr × Nat) := match decode y.2.2.2.1 pc with
  | .ok (i, len) => if ilen i = 0 ∨ len = ilen i then some (i, len) else none
  | .error _ => none
theorem ins_dec {y : Mth} {pc len : Nat} {i : Instr} (h : ins y pc = some (i, len)) : decode y.2.2.2.1 pc = .ok (i, len) ∧ (ilen i = 0 ∨ len = ilen i) := by
  unfold ins at h
  split at h
  · rename_i i' len' hd
    split at h
    · rename_i hl
      cases h
      exact ⟨hd, hl⟩
    · cases h
  · cases h
def psh (v : Option Value) (S : List Value) : List Value := v.toList ++ S
def run : Nat → Nat → Mth → Nat → List Value → List Value → Hp → Option (Option Value × Hp)
  | 0, _, _, _, _, _, _ => none
  | n + 1, d, y, pc, L, S, h => match ins y pc with
    | some (i, len) => match act y i L S h with
      | some (.inl (L', S', h')) => run n d y (pc + len) L' S' h'
      | some (.inr (.inl (o, S'))) => if 0 ≤ (pc : Int) + o then run n d y ((pc : Int) + o).toNat L S' h else none
      | some (.inr (.inr (.inl v))) => some (v, h)
      | some (.inr (.inr (.inr (y', as, S')))) => match d with
        | 0 => none
        | d' + 1 => match run n d' y' 0 (ent as y'.2.2.2.2.1) [] h with
          | some (v, h') => run n (d' + 1) y (pc + len) L (psh v S') h'
          | none => none
      | none => none
    | none => none
def At (d : Nat) (y : Mth) (pc : Nat) (L S : List Value) (h : Hp) (Q : Option Value → Hp → Prop) : Prop := ∃ n v h', run n d y pc L S h = some (v, h') ∧ Q v h'
def Call (d : Nat) (y : Mth) (as : List Value) (h : Hp) (Q : Option Value → Hp → Prop) : Prop := At d y 0 (ent as y.2.2.2.2.1) [] h Q
theorem run_mono : ∀ (n : Nat) (d : Nat) (y : Mth) (pc : Nat) (L S : List Value) (h : Hp) (r : Option Value × Hp), run n d y pc L S h = some r → run (n + 1) d y pc L S h = some r := by
  intro n
  induction n with
  | zero => intro d y pc L S h r hr; simp [run] at hr
  | succ n ih =>
    intro d y pc L S h r hr
    rw [run] at hr ⊢
    split at hr
    · rename_i i len hd
      split at hr
      · exact ih _ _ _ _ _ _ _ hr
      · split at hr
        · rename_i hc
          rw [if_pos hc]
          exact ih _ _ _ _ _ _ _ hr
        · cases hr
      · exact hr
      · split at hr
        · cases hr
        · split at hr
          · rename_i v h' hc
            rw [ih _ _ _ _ _ _ _ hc]
            exact ih _ _ _ _ _ _ _ hr
          · cases hr
      · cases hr
    · cases hr
theorem run_le {n n' : Nat} (hn : n ≤ n') {d : Nat} {y : Mth} {pc : Nat} {L S : List Value} {h : Hp} {r : Option Value × Hp} (hr : run n d y pc L S h = some r) : run n' d y pc L S h = some r := by
  induction hn with
  | refl => exact hr
  | step _ ih => exact run_mono _ _ _ _ _ _ _ _ ih
theorem At_ft {d : Nat} {y : Mth} {pc len : Nat} {i : Instr} {L S L' S' : List Value} {h h' : Hp} {Q : Option Value → Hp → Prop} (hd : ins y pc = some (i, len)) (ha : act y i L S h = some (.inl (L', S', h'))) (k : At d y (pc + len) L' S' h' Q) : At d y pc L S h Q := by
  obtain ⟨n, v, h1, hr, hq⟩ := k
  refine ⟨n + 1, v, h1, ?_, hq⟩
  rw [run, hd]
  dsimp only
  rw [ha]
  exact hr
theorem At_jp {d : Nat} {y : Mth} {pc tgt len : Nat} {i : Instr} {o : Int} {L S S' : List Value} {h : Hp} {Q : Option Value → Hp → Prop} (hd : ins y pc = some (i, len)) (ha : act y i L S h = some (.inr (.inl (o, S')))) (ht : (pc : Int) + o = (tgt : Int)) (k : At d y tgt L S' h Q) : At d y pc L S h Q := by
  obtain ⟨n, v, h1, hr, hq⟩ := k
  refine ⟨n + 1, v, h1, ?_, hq⟩
  rw [run, hd]
  dsimp only
  rw [ha]
  dsimp only
  rw [ht, if_pos (Int.natCast_nonneg tgt), Int.toNat_natCast]
  exact hr
theorem At_rt {d : Nat} {y : Mth} {pc len : Nat} {i : Instr} {L S : List Value} {v : Option Value} {h : Hp} {Q : Option Value → Hp → Prop} (hd : ins y pc = some (i, len)) (ha : act y i L S h = some (.inr (.inr (.inl v)))) (k : Q v h) : At d y pc L S h Q := by
  refine ⟨1, v, h, ?_, k⟩
  rw [run, hd]
  dsimp only
  rw [ha]
theorem At_cl {d : Nat} {y y' : Mth} {pc len : Nat} {i : Instr} {L S S' as : List Value} {h : Hp} {Q : Option Value → Hp → Prop} (hd : ins y pc = some (i, len)) (ha : act y i L S h = some (.inr (.inr (.inr (y', as, S'))))) (k : Call d y' as h (fun v h' => At (d + 1) y (pc + len) L (psh v S') h' Q)) : At (d + 1) y pc L S h Q := by
  obtain ⟨n, v, h1, hr, n2, v2, h2, hr2, hq⟩ := k
  refine ⟨(n + n2) + 1, v2, h2, ?_, hq⟩
  rw [run, hd]
  dsimp only
  rw [ha]
  dsimp only
  rw [run_le (Nat.le_add_right n n2) hr]
  exact run_le (Nat.le_add_left n2 n) hr2
theorem At.mono {d : Nat} {y : Mth} {pc : Nat} {L S : List Value} {h : Hp} {Q Q' : Option Value → Hp → Prop} (k : At d y pc L S h Q) (hq : ∀ v h', Q v h' → Q' v h') : At d y pc L S h Q' := by
  obtain ⟨n, v, h1, hr, h2⟩ := k
  exact ⟨n, v, h1, hr, hq v h1 h2⟩
