/-! printed by wip/whole/gen_tables.py: the methods, the pools, and the words that say so -/
def pm_tb : List Cond := lw_tbl.filter goodWord
theorem pm_in {w : Cond} (i : Nat) (h : lw_tbl[i]? = some w) (hg : goodWord w = true) : w ∈ pm_tb := List.mem_filter.mpr ⟨List.mem_of_getElem? h, hg⟩
def pt_cn (o : Nat) : String := ([RX0, RX1, RX2, RX3, RX4, RX5, RX6, "java/lang/Math"] : List String).getD o ""
def pt_tab : List (MethodName × ByteArray × Nat × Option FieldType × Nat × Nat × Nat × Nat) := [
  (yX0_judge, cX0_judge, 5, none, 0, 5, 124, 4),
  (yX0_gather, cX0_gather, 6, none, 0, 4, 99, 4),
  (yX0_placeByHarm, cX0_placeByHarm, 3, none, 0, 1, 22, 1),
  (yX0_harmsLess, cX0_harmsLess, 3, some .boolean, 0, 0, 0, 2),
  (yX0_settle, cX0_settle, 7, none, 0, 1, 30, 2),
  (yX0_takeIn, cX0_takeIn, 11, none, 0, 0, 0, 0),
  (yX0_aShareWith, cX0_aShareWith, 9, some .int, 0, 1, 25, 2),
  (yX0_diluted, cX0_diluted, 1, some .int, 0, 2, 53, 0),
  (yX0_rankedSet, cX0_rankedSet, 3, some .int, 0, 0, 0, 0),
  (yX1_keep, cX1_keep, 4, none, 1, 1, 21, 3),
  (yX1_forgetOldest, cX1_forgetOldest, 2, none, 1, 0, 0, 0),
  (yX1_takeBack, cX1_takeBack, 2, none, 1, 1, 20, 1),
  (yX2_read, cX2_read, 4, some .int, 2, 10, 251, 1),
  (yX2_step, cX2_step, 2, none, 2, 1, 24, 0),
  (yX2_stepLettersAndDigits, cX2_stepLettersAndDigits, 5, none, 2, 0, 0, 0),
  (yX2_atEnd, cX2_atEnd, 2, some .int, 2, 1, 21, 1),
  (yX2_fail, cX2_fail, 2, some .boolean, 2, 0, 0, 1),
  (yX2_readShares, cX2_readShares, 2, some .boolean, 2, 7, 183, 1),
  (yX2_isWord, cX2_isWord, 3, some .boolean, 2, 6, 161, 1),
  (yX2_number, cX2_number, 3, some .boolean, 2, 2, 45, 2),
  (yX2_semicolon, cX2_semicolon, 1, some .boolean, 2, 2, 45, 0),
  (yX2_readQuarter, cX2_readQuarter, 4, some .boolean, 2, 8, 204, 2),
  (yX2_word, cX2_word, 2, some .boolean, 2, 7, 183, 1),
  (yX2_readOthers, cX2_readOthers, 3, some .int, 2, 9, 229, 1),
  (yX2_readOther, cX2_readOther, 2, some .boolean, 2, 8, 208, 1),
  (yX2_readEvent, cX2_readEvent, 4, some .boolean, 2, 3, 67, 2),
  (yX2_readInstrument, cX2_readInstrument, 6, some .boolean, 2, 7, 183, 2),
  (yX3_hasRoom, cX3_hasRoom, 1, some .boolean, 3, 0, 0, 0),
  (yX3_put, cX3_put, 3, none, 3, 0, 0, 1),
  (yX4_reset, cX4_reset, 2, none, 4, 0, 0, 0),
  (yX4_hasRoomForEvent, cX4_hasRoomForEvent, 2, some .boolean, 4, 1, 22, 1),
  (yX4_splitCount, cX4_splitCount, 3, some .int, 4, 0, 0, 0),
  (yX4_earliestDay, cX4_earliestDay, 1, some .int, 4, 1, 21, 0),
  (yX4_latestDay, cX4_latestDay, 1, some .int, 4, 0, 0, 0),
  (yX4_leastOfEvent, cX4_leastOfEvent, 2, some .int, 4, 0, 0, 1),
  (yX4_mostOfEvent, cX4_mostOfEvent, 2, some .int, 4, 1, 24, 1),
  (yX4_sharesOn, cX4_sharesOn, 5, some .int, 4, 0, 0, 1),
  (yX4_addEvent, cX4_addEvent, 4, none, 4, 0, 0, 3),
  (yX4_hasRoomForInstrument, cX4_hasRoomForInstrument, 1, some .boolean, 4, 0, 0, 0),
  (yX4_addInstrument, cX4_addInstrument, 5, none, 4, 0, 0, 4),
  (yX4_restatedOn, cX4_restatedOn, 2, some .int, 4, 1, 24, 1),
  (yX4_splitsBehind, cX4_splitsBehind, 5, some .int, 4, 0, 0, 2),
  (yX4_hasInstrument, cX4_hasInstrument, 2, some .boolean, 4, 0, 0, 1),
  (yX4_oldShares, cX4_oldShares, 2, some .int, 4, 1, 24, 1),
  (yX4_dropEvent, cX4_dropEvent, 1, none, 4, 0, 0, 0),
  (yX4_dropInstrument, cX4_dropInstrument, 1, none, 4, 0, 0, 0),
  (yX4_weightOf, cX4_weightOf, 9, some .long, 4, 2, 45, 2),
  (yX4_dayBehind, cX4_dayBehind, 1, some .int, 4, 0, 0, 1),
  (yX4_addedToEarnings, cX4_addedToEarnings, 4, some .long, 4, 2, 45, 3),
  (yX4_daysCounted, cX4_daysCounted, 5, some .int, 4, 1, 21, 3),
  (yX4_profitFloor, cX4_profitFloor, 2, some .long, 4, 0, 0, 1),
  (yX4_earningsOf, cX4_earningsOf, 6, some .long, 4, 0, 0, 2),
  (yX4_addedToWeight, cX4_addedToWeight, 8, some .long, 4, 3, 72, 3),
  (yX4_addedByOption, cX4_addedByOption, 7, some .long, 4, 2, 46, 2),
  (yX4_scaledPrice, cX4_scaledPrice, 3, some .int, 4, 1, 24, 2),
  (yX5_feed, cX5_feed, 6, some .int, 5, 1, 22, 5),
  (yX5_end, cX5_end, 2, some .boolean, 5, 0, 0, 1),
  (yX5_text, cX5_text, 3, some .int, 5, 11, 274, 0),
  (yX5_leastTerm, cX5_leastTerm, 1, some .int, 5, 0, 0, 1),
  (yX5_mostTerm, cX5_mostTerm, 1, some .int, 5, 0, 0, 1),
  (yX5_fault, cX5_fault, 1, some .int, 5, 0, 0, 0),
  (yX5_now, cX5_now, 2, some .int, 5, 1, 24, 1),
  (yX5_shares, cX5_shares, 3, some .int, 5, 2, 45, 2),
  (yX5_isDay, cX5_isDay, 1, some .boolean, 5, 0, 0, 1),
  (yX5_event, cX5_event, 3, some .int, 5, 0, 0, 2),
  (yX5_instrument, cX5_instrument, 3, some .int, 5, 2, 45, 2),
  (yX5_tells, cX5_tells, 4, some .int, 5, 2, 45, 3),
  (yX5_grants, cX5_grants, 5, some .int, 5, 2, 44, 4),
  (yX5_earns, cX5_earns, 4, some .int, 5, 2, 44, 2),
  (yX5_isQuarter, cX5_isQuarter, 1, some .boolean, 5, 0, 0, 1),
  (yX5_prices, cX5_prices, 4, some .int, 5, 2, 44, 2),
  (yX5_isPrice, cX5_isPrice, 1, some .boolean, 5, 0, 0, 1),
  (yX5_undo, cX5_undo, 1, some .int, 5, 2, 41, 0),
  (yX5_quarter, cX5_quarter, 3, some .int, 5, 1, 20, 2),
  (yX5_weight, cX5_weight, 3, some .long, 5, 3, 73, 2),
  (yX5_requireRun, cX5_requireRun, 2, none, 5, 0, 0, 2),
  (yX5_adds, cX5_adds, 5, some .long, 5, 4, 99, 4),
  (yX5_run, cX5_run, 4, some .int, 5, 6, 148, 3),
  (yX5_rank, cX5_rank, 4, some .int, 5, 6, 148, 3),
  (yX5_without, cX5_without, 4, some .int, 5, 7, 171, 3),
  (yX5_dilutedLeavingOut, cX5_dilutedLeavingOut, 4, some .int, 5, 6, 148, 3),
  (yX5_with, cX5_with, 4, some .int, 5, 6, 148, 3),
  (yX5_priced, cX5_priced, 7, some .int, 5, 7, 171, 4),
  (yX5_profit, cX5_profit, 5, some .int, 5, 6, 156, 4),
  (yX5_leastProfitThatTakesIn, cX5_leastProfitThatTakesIn, 13, some .int, 5, 5, 124, 4),
  (yX5_ifSplit, cX5_ifSplit, 5, some .int, 5, 7, 171, 3),
  (yX6_thrown, cX6_thrown, 1, some .int, 6, 0, 0, 0),
  (yX6_feed, cX6_feed, 6, some .int, 6, 1, 22, 5),
  (yX6_lays, cX6_lays, 3, none, 6, 0, 0, 1),
  (yX6_end, cX6_end, 2, some .boolean, 6, 0, 0, 1),
  (yX6_clears, cX6_clears, 2, none, 6, 0, 0, 1),
  (yX6_text, cX6_text, 3, some .int, 6, 6, 133, 0),
  (yX6_go, cX6_go, 5, none, 6, 1, 21, 0),
  (yX6_isLetter, cX6_isLetter, 1, some .boolean, 6, 0, 0, 1),
  (yX6_isDigit, cX6_isDigit, 1, some .boolean, 6, 0, 0, 1),
  (yX6_tapeAt, cX6_tapeAt, 2, some .int, 6, 0, 0, 1),
  (yX6_isIn, cX6_isIn, 3, some .boolean, 6, 0, 0, 3),
  (yX6_readLine, cX6_readLine, 2, some .boolean, 6, 5, 112, 1),
  (yX6_readShares, cX6_readShares, 1, some .boolean, 6, 3, 68, 0),
  (yX6_six, cX6_six, 6, some .long, 6, 1, 22, 6),
  (yX6_three, cX6_three, 3, some .long, 6, 0, 0, 3),
  (yX6_isWord, cX6_isWord, 3, some .boolean, 6, 0, 0, 1),
  (yX6_bad, cX6_bad, 2, some .boolean, 6, 0, 0, 1),
  (yX6_told, cX6_told, 4, some .boolean, 6, 2, 45, 3),
  (yX6_readQuarter, cX6_readQuarter, 3, some .boolean, 6, 3, 68, 1),
  (yX6_isProfit, cX6_isProfit, 1, some .boolean, 6, 2, 47, 0),
  (yX6_four, cX6_four, 4, some .long, 6, 1, 22, 4),
  (yX6_isPrice, cX6_isPrice, 1, some .boolean, 6, 2, 46, 0),
  (yX6_five, cX6_five, 5, some .long, 6, 1, 22, 5),
  (yX6_readOther, cX6_readOther, 1, some .boolean, 6, 4, 92, 0),
  (yX6_readEvent, cX6_readEvent, 4, some .boolean, 6, 3, 69, 1),
  (yX6_splitsOf, cX6_splitsOf, 3, some .int, 6, 1, 22, 1),
  (yX6_told_, cX6_told_, 3, some .int, 6, 0, 0, 3),
  (yX6_lastDay, cX6_lastDay, 1, some .int, 6, 1, 22, 1),
  (yX6_mostOf, cX6_mostOf, 3, some .int, 6, 2, 47, 2),
  (yX6_sharesOf, cX6_sharesOf, 6, some .int, 6, 1, 22, 2),
  (yX6_readGrant, cX6_readGrant, 3, some .boolean, 6, 3, 68, 1),
  (yX6_readEnd, cX6_readEnd, 1, some .boolean, 6, 2, 45, 0),
  (yX6_fault, cX6_fault, 1, some .int, 6, 0, 0, 0),
  (yX6_now, cX6_now, 2, some .int, 6, 2, 47, 1),
  (yX6_shares, cX6_shares, 3, some .int, 6, 3, 68, 2),
  (yX6_isDay, cX6_isDay, 1, some .boolean, 6, 1, 22, 1),
  (yX6_restated, cX6_restated, 2, some .int, 6, 2, 47, 1),
  (yX6_scale, cX6_scale, 5, some .int, 6, 1, 22, 2),
  (yX6_quarter, cX6_quarter, 3, some .int, 6, 2, 42, 2),
  (yX6_isQuarter, cX6_isQuarter, 1, some .boolean, 6, 1, 22, 1),
  (yX6_refuse, cX6_refuse, 1, some .int, 6, 0, 0, 0),
  (yX6_event, cX6_event, 3, some .int, 6, 1, 22, 2),
  (yX6_instrument, cX6_instrument, 3, some .int, 6, 3, 67, 2),
  (yX6_isInstrument, cX6_isInstrument, 2, some .boolean, 6, 1, 22, 1),
  (yX6_old, cX6_old, 2, some .int, 6, 2, 46, 1),
  (yX6_its, cX6_its, 3, some .int, 6, 0, 0, 2),
  (yX6_weight, cX6_weight, 3, some .long, 6, 4, 93, 2),
  (yX6_isRun, cX6_isRun, 2, some .boolean, 6, 2, 42, 2),
  (yX6_weightOf, cX6_weightOf, 6, some .long, 6, 3, 68, 2),
  (yX6_adds, cX6_adds, 5, some .long, 6, 5, 118, 4),
  (yX6_addsEarnings, cX6_addsEarnings, 4, some .long, 6, 2, 47, 3),
  (yX6_counts, cX6_counts, 6, some .int, 6, 1, 22, 3),
  (yX6_addsWeight, cX6_addsWeight, 7, some .long, 6, 4, 92, 3),
  (yX6_byOption, cX6_byOption, 5, some .long, 6, 3, 68, 2),
  (yX6_priceOf, cX6_priceOf, 3, some .int, 6, 2, 46, 2),
  (yX6_earningsOf, cX6_earningsOf, 5, some .int, 6, 0, 0, 2),
  (yX6_run, cX6_run, 5, some .int, 6, 7, 166, 3),
  (yX6_diluted, cX6_diluted, 4, some .int, 6, 6, 143, 3),
  (yX6_reckons, cX6_reckons, 6, none, 6, 5, 118, 3),
  (yX6_isAhead, cX6_isAhead, 7, some .boolean, 6, 0, 0, 2),
  (yX6_takes, cX6_takes, 2, none, 6, 0, 0, 1),
  (yX6_share, cX6_share, 10, some .int, 6, 0, 0, 4),
  (yX6_rank, cX6_rank, 4, some .int, 6, 6, 143, 3),
  (yX6_without, cX6_without, 4, some .int, 6, 7, 166, 3),
  (yX6_with, cX6_with, 9, some .int, 6, 5, 118, 3),
  (yX6_has, cX6_has, 2, some .boolean, 6, 0, 0, 2),
  (yX6_priced, cX6_priced, 5, some .int, 6, 8, 192, 4),
  (yX6_dilutedBy, cX6_dilutedBy, 7, some .int, 6, 7, 166, 4),
  (yX6_profit, cX6_profit, 6, some .int, 6, 8, 192, 4),
  (yX6_ifSplit, cX6_ifSplit, 5, some .int, 6, 7, 166, 3),
  (yX6_isFull, cX6_isFull, 2, some .boolean, 6, 2, 44, 1),
  (yX6_adds_, cX6_adds_, 5, none, 6, 0, 0, 3),
  (yX6_tells, cX6_tells, 4, some .int, 6, 3, 69, 3),
  (yX6_snap, cX6_snap, 2, none, 6, 0, 0, 0),
  (yX6_grants, cX6_grants, 6, some .int, 6, 2, 42, 4),
  (yX6_earns, cX6_earns, 3, some .int, 6, 2, 44, 2),
  (yX6_becomes, cX6_becomes, 4, some .int, 6, 1, 21, 2),
  (yX6_prices, cX6_prices, 3, some .int, 6, 2, 44, 2),
  (yX6_undo, cX6_undo, 2, some .int, 6, 0, 0, 0),
  ((⟨"java/lang/Math", "min", "(II)I"⟩ : MethodName), prog_13_method_69_code, 2, some .int, 7, 0, 0, 2),
  ((⟨"java/lang/Math", "max", "(II)I"⟩ : MethodName), prog_13_method_65_code, 2, some .int, 7, 0, 0, 2),
  ((⟨"java/lang/Math", "floorDiv", "(JJ)J"⟩ : MethodName), prog_13_method_49_code, 6, some .long, 7, 0, 0, 2)]
def pt_at (M : Nat) : MethodName × ByteArray × Nat × Option FieldType × Nat × Nat × Nat × Nat := pt_tab.getD M (yX0_init, cX0_init, 0, none, 0, 0, 0, 0)
def pt_y (M : Nat) : MethodName := (pt_at M).1
def pt_b (M : Nat) : ByteArray := (pt_at M).2.1
def pt_l (M : Nat) : Nat := (pt_at M).2.2.1
def pt_r (M : Nat) : Option FieldType := (pt_at M).2.2.2.1
def pt_o (M : Nat) : Nat := (pt_at M).2.2.2.2.1
def pt_f (M : Nat) : Nat := (pt_at M).2.2.2.2.2.1
def pt_w (M : Nat) : Nat := (pt_at M).2.2.2.2.2.2.1
def pt_n (M : Nat) : Nat := (pt_at M).2.2.2.2.2.2.2
theorem pt_0 : pt_at 0 = (yX0_judge, cX0_judge, 5, none, 0, 5, 124, 4) := rfl
theorem pt_1 : pt_at 1 = (yX0_gather, cX0_gather, 6, none, 0, 4, 99, 4) := rfl
theorem pt_2 : pt_at 2 = (yX0_placeByHarm, cX0_placeByHarm, 3, none, 0, 1, 22, 1) := rfl
theorem pt_3 : pt_at 3 = (yX0_harmsLess, cX0_harmsLess, 3, some .boolean, 0, 0, 0, 2) := rfl
theorem pt_4 : pt_at 4 = (yX0_settle, cX0_settle, 7, none, 0, 1, 30, 2) := rfl
theorem pt_5 : pt_at 5 = (yX0_takeIn, cX0_takeIn, 11, none, 0, 0, 0, 0) := rfl
theorem pt_6 : pt_at 6 = (yX0_aShareWith, cX0_aShareWith, 9, some .int, 0, 1, 25, 2) := rfl
theorem pt_7 : pt_at 7 = (yX0_diluted, cX0_diluted, 1, some .int, 0, 2, 53, 0) := rfl
theorem pt_8 : pt_at 8 = (yX0_rankedSet, cX0_rankedSet, 3, some .int, 0, 0, 0, 0) := rfl
theorem pt_9 : pt_at 9 = (yX1_keep, cX1_keep, 4, none, 1, 1, 21, 3) := rfl
theorem pt_10 : pt_at 10 = (yX1_forgetOldest, cX1_forgetOldest, 2, none, 1, 0, 0, 0) := rfl
theorem pt_11 : pt_at 11 = (yX1_takeBack, cX1_takeBack, 2, none, 1, 1, 20, 1) := rfl
theorem pt_12 : pt_at 12 = (yX2_read, cX2_read, 4, some .int, 2, 10, 251, 1) := rfl
theorem pt_13 : pt_at 13 = (yX2_step, cX2_step, 2, none, 2, 1, 24, 0) := rfl
theorem pt_14 : pt_at 14 = (yX2_stepLettersAndDigits, cX2_stepLettersAndDigits, 5, none, 2, 0, 0, 0) := rfl
theorem pt_15 : pt_at 15 = (yX2_atEnd, cX2_atEnd, 2, some .int, 2, 1, 21, 1) := rfl
theorem pt_16 : pt_at 16 = (yX2_fail, cX2_fail, 2, some .boolean, 2, 0, 0, 1) := rfl
theorem pt_17 : pt_at 17 = (yX2_readShares, cX2_readShares, 2, some .boolean, 2, 7, 183, 1) := rfl
theorem pt_18 : pt_at 18 = (yX2_isWord, cX2_isWord, 3, some .boolean, 2, 6, 161, 1) := rfl
theorem pt_19 : pt_at 19 = (yX2_number, cX2_number, 3, some .boolean, 2, 2, 45, 2) := rfl
theorem pt_20 : pt_at 20 = (yX2_semicolon, cX2_semicolon, 1, some .boolean, 2, 2, 45, 0) := rfl
theorem pt_21 : pt_at 21 = (yX2_readQuarter, cX2_readQuarter, 4, some .boolean, 2, 8, 204, 2) := rfl
theorem pt_22 : pt_at 22 = (yX2_word, cX2_word, 2, some .boolean, 2, 7, 183, 1) := rfl
theorem pt_23 : pt_at 23 = (yX2_readOthers, cX2_readOthers, 3, some .int, 2, 9, 229, 1) := rfl
theorem pt_24 : pt_at 24 = (yX2_readOther, cX2_readOther, 2, some .boolean, 2, 8, 208, 1) := rfl
theorem pt_25 : pt_at 25 = (yX2_readEvent, cX2_readEvent, 4, some .boolean, 2, 3, 67, 2) := rfl
theorem pt_26 : pt_at 26 = (yX2_readInstrument, cX2_readInstrument, 6, some .boolean, 2, 7, 183, 2) := rfl
theorem pt_27 : pt_at 27 = (yX3_hasRoom, cX3_hasRoom, 1, some .boolean, 3, 0, 0, 0) := rfl
theorem pt_28 : pt_at 28 = (yX3_put, cX3_put, 3, none, 3, 0, 0, 1) := rfl
theorem pt_29 : pt_at 29 = (yX4_reset, cX4_reset, 2, none, 4, 0, 0, 0) := rfl
theorem pt_30 : pt_at 30 = (yX4_hasRoomForEvent, cX4_hasRoomForEvent, 2, some .boolean, 4, 1, 22, 1) := rfl
theorem pt_31 : pt_at 31 = (yX4_splitCount, cX4_splitCount, 3, some .int, 4, 0, 0, 0) := rfl
theorem pt_32 : pt_at 32 = (yX4_earliestDay, cX4_earliestDay, 1, some .int, 4, 1, 21, 0) := rfl
theorem pt_33 : pt_at 33 = (yX4_latestDay, cX4_latestDay, 1, some .int, 4, 0, 0, 0) := rfl
theorem pt_34 : pt_at 34 = (yX4_leastOfEvent, cX4_leastOfEvent, 2, some .int, 4, 0, 0, 1) := rfl
theorem pt_35 : pt_at 35 = (yX4_mostOfEvent, cX4_mostOfEvent, 2, some .int, 4, 1, 24, 1) := rfl
theorem pt_36 : pt_at 36 = (yX4_sharesOn, cX4_sharesOn, 5, some .int, 4, 0, 0, 1) := rfl
theorem pt_37 : pt_at 37 = (yX4_addEvent, cX4_addEvent, 4, none, 4, 0, 0, 3) := rfl
theorem pt_38 : pt_at 38 = (yX4_hasRoomForInstrument, cX4_hasRoomForInstrument, 1, some .boolean, 4, 0, 0, 0) := rfl
theorem pt_39 : pt_at 39 = (yX4_addInstrument, cX4_addInstrument, 5, none, 4, 0, 0, 4) := rfl
theorem pt_40 : pt_at 40 = (yX4_restatedOn, cX4_restatedOn, 2, some .int, 4, 1, 24, 1) := rfl
theorem pt_41 : pt_at 41 = (yX4_splitsBehind, cX4_splitsBehind, 5, some .int, 4, 0, 0, 2) := rfl
theorem pt_42 : pt_at 42 = (yX4_hasInstrument, cX4_hasInstrument, 2, some .boolean, 4, 0, 0, 1) := rfl
theorem pt_43 : pt_at 43 = (yX4_oldShares, cX4_oldShares, 2, some .int, 4, 1, 24, 1) := rfl
theorem pt_44 : pt_at 44 = (yX4_dropEvent, cX4_dropEvent, 1, none, 4, 0, 0, 0) := rfl
theorem pt_45 : pt_at 45 = (yX4_dropInstrument, cX4_dropInstrument, 1, none, 4, 0, 0, 0) := rfl
theorem pt_46 : pt_at 46 = (yX4_weightOf, cX4_weightOf, 9, some .long, 4, 2, 45, 2) := rfl
theorem pt_47 : pt_at 47 = (yX4_dayBehind, cX4_dayBehind, 1, some .int, 4, 0, 0, 1) := rfl
theorem pt_48 : pt_at 48 = (yX4_addedToEarnings, cX4_addedToEarnings, 4, some .long, 4, 2, 45, 3) := rfl
theorem pt_49 : pt_at 49 = (yX4_daysCounted, cX4_daysCounted, 5, some .int, 4, 1, 21, 3) := rfl
theorem pt_50 : pt_at 50 = (yX4_profitFloor, cX4_profitFloor, 2, some .long, 4, 0, 0, 1) := rfl
theorem pt_51 : pt_at 51 = (yX4_earningsOf, cX4_earningsOf, 6, some .long, 4, 0, 0, 2) := rfl
theorem pt_52 : pt_at 52 = (yX4_addedToWeight, cX4_addedToWeight, 8, some .long, 4, 3, 72, 3) := rfl
theorem pt_53 : pt_at 53 = (yX4_addedByOption, cX4_addedByOption, 7, some .long, 4, 2, 46, 2) := rfl
theorem pt_54 : pt_at 54 = (yX4_scaledPrice, cX4_scaledPrice, 3, some .int, 4, 1, 24, 2) := rfl
theorem pt_55 : pt_at 55 = (yX5_feed, cX5_feed, 6, some .int, 5, 1, 22, 5) := rfl
theorem pt_56 : pt_at 56 = (yX5_end, cX5_end, 2, some .boolean, 5, 0, 0, 1) := rfl
theorem pt_57 : pt_at 57 = (yX5_text, cX5_text, 3, some .int, 5, 11, 274, 0) := rfl
theorem pt_58 : pt_at 58 = (yX5_leastTerm, cX5_leastTerm, 1, some .int, 5, 0, 0, 1) := rfl
theorem pt_59 : pt_at 59 = (yX5_mostTerm, cX5_mostTerm, 1, some .int, 5, 0, 0, 1) := rfl
theorem pt_60 : pt_at 60 = (yX5_fault, cX5_fault, 1, some .int, 5, 0, 0, 0) := rfl
theorem pt_61 : pt_at 61 = (yX5_now, cX5_now, 2, some .int, 5, 1, 24, 1) := rfl
theorem pt_62 : pt_at 62 = (yX5_shares, cX5_shares, 3, some .int, 5, 2, 45, 2) := rfl
theorem pt_63 : pt_at 63 = (yX5_isDay, cX5_isDay, 1, some .boolean, 5, 0, 0, 1) := rfl
theorem pt_64 : pt_at 64 = (yX5_event, cX5_event, 3, some .int, 5, 0, 0, 2) := rfl
theorem pt_65 : pt_at 65 = (yX5_instrument, cX5_instrument, 3, some .int, 5, 2, 45, 2) := rfl
theorem pt_66 : pt_at 66 = (yX5_tells, cX5_tells, 4, some .int, 5, 2, 45, 3) := rfl
theorem pt_67 : pt_at 67 = (yX5_grants, cX5_grants, 5, some .int, 5, 2, 44, 4) := rfl
theorem pt_68 : pt_at 68 = (yX5_earns, cX5_earns, 4, some .int, 5, 2, 44, 2) := rfl
theorem pt_69 : pt_at 69 = (yX5_isQuarter, cX5_isQuarter, 1, some .boolean, 5, 0, 0, 1) := rfl
theorem pt_70 : pt_at 70 = (yX5_prices, cX5_prices, 4, some .int, 5, 2, 44, 2) := rfl
theorem pt_71 : pt_at 71 = (yX5_isPrice, cX5_isPrice, 1, some .boolean, 5, 0, 0, 1) := rfl
theorem pt_72 : pt_at 72 = (yX5_undo, cX5_undo, 1, some .int, 5, 2, 41, 0) := rfl
theorem pt_73 : pt_at 73 = (yX5_quarter, cX5_quarter, 3, some .int, 5, 1, 20, 2) := rfl
theorem pt_74 : pt_at 74 = (yX5_weight, cX5_weight, 3, some .long, 5, 3, 73, 2) := rfl
theorem pt_75 : pt_at 75 = (yX5_requireRun, cX5_requireRun, 2, none, 5, 0, 0, 2) := rfl
theorem pt_76 : pt_at 76 = (yX5_adds, cX5_adds, 5, some .long, 5, 4, 99, 4) := rfl
theorem pt_77 : pt_at 77 = (yX5_run, cX5_run, 4, some .int, 5, 6, 148, 3) := rfl
theorem pt_78 : pt_at 78 = (yX5_rank, cX5_rank, 4, some .int, 5, 6, 148, 3) := rfl
theorem pt_79 : pt_at 79 = (yX5_without, cX5_without, 4, some .int, 5, 7, 171, 3) := rfl
theorem pt_80 : pt_at 80 = (yX5_dilutedLeavingOut, cX5_dilutedLeavingOut, 4, some .int, 5, 6, 148, 3) := rfl
theorem pt_81 : pt_at 81 = (yX5_with, cX5_with, 4, some .int, 5, 6, 148, 3) := rfl
theorem pt_82 : pt_at 82 = (yX5_priced, cX5_priced, 7, some .int, 5, 7, 171, 4) := rfl
theorem pt_83 : pt_at 83 = (yX5_profit, cX5_profit, 5, some .int, 5, 6, 156, 4) := rfl
theorem pt_84 : pt_at 84 = (yX5_leastProfitThatTakesIn, cX5_leastProfitThatTakesIn, 13, some .int, 5, 5, 124, 4) := rfl
theorem pt_85 : pt_at 85 = (yX5_ifSplit, cX5_ifSplit, 5, some .int, 5, 7, 171, 3) := rfl
theorem pt_86 : pt_at 86 = (yX6_thrown, cX6_thrown, 1, some .int, 6, 0, 0, 0) := rfl
theorem pt_87 : pt_at 87 = (yX6_feed, cX6_feed, 6, some .int, 6, 1, 22, 5) := rfl
theorem pt_88 : pt_at 88 = (yX6_lays, cX6_lays, 3, none, 6, 0, 0, 1) := rfl
theorem pt_89 : pt_at 89 = (yX6_end, cX6_end, 2, some .boolean, 6, 0, 0, 1) := rfl
theorem pt_90 : pt_at 90 = (yX6_clears, cX6_clears, 2, none, 6, 0, 0, 1) := rfl
theorem pt_91 : pt_at 91 = (yX6_text, cX6_text, 3, some .int, 6, 6, 133, 0) := rfl
theorem pt_92 : pt_at 92 = (yX6_go, cX6_go, 5, none, 6, 1, 21, 0) := rfl
theorem pt_93 : pt_at 93 = (yX6_isLetter, cX6_isLetter, 1, some .boolean, 6, 0, 0, 1) := rfl
theorem pt_94 : pt_at 94 = (yX6_isDigit, cX6_isDigit, 1, some .boolean, 6, 0, 0, 1) := rfl
theorem pt_95 : pt_at 95 = (yX6_tapeAt, cX6_tapeAt, 2, some .int, 6, 0, 0, 1) := rfl
theorem pt_96 : pt_at 96 = (yX6_isIn, cX6_isIn, 3, some .boolean, 6, 0, 0, 3) := rfl
theorem pt_97 : pt_at 97 = (yX6_readLine, cX6_readLine, 2, some .boolean, 6, 5, 112, 1) := rfl
theorem pt_98 : pt_at 98 = (yX6_readShares, cX6_readShares, 1, some .boolean, 6, 3, 68, 0) := rfl
theorem pt_99 : pt_at 99 = (yX6_six, cX6_six, 6, some .long, 6, 1, 22, 6) := rfl
theorem pt_100 : pt_at 100 = (yX6_three, cX6_three, 3, some .long, 6, 0, 0, 3) := rfl
theorem pt_101 : pt_at 101 = (yX6_isWord, cX6_isWord, 3, some .boolean, 6, 0, 0, 1) := rfl
theorem pt_102 : pt_at 102 = (yX6_bad, cX6_bad, 2, some .boolean, 6, 0, 0, 1) := rfl
theorem pt_103 : pt_at 103 = (yX6_told, cX6_told, 4, some .boolean, 6, 2, 45, 3) := rfl
theorem pt_104 : pt_at 104 = (yX6_readQuarter, cX6_readQuarter, 3, some .boolean, 6, 3, 68, 1) := rfl
theorem pt_105 : pt_at 105 = (yX6_isProfit, cX6_isProfit, 1, some .boolean, 6, 2, 47, 0) := rfl
theorem pt_106 : pt_at 106 = (yX6_four, cX6_four, 4, some .long, 6, 1, 22, 4) := rfl
theorem pt_107 : pt_at 107 = (yX6_isPrice, cX6_isPrice, 1, some .boolean, 6, 2, 46, 0) := rfl
theorem pt_108 : pt_at 108 = (yX6_five, cX6_five, 5, some .long, 6, 1, 22, 5) := rfl
theorem pt_109 : pt_at 109 = (yX6_readOther, cX6_readOther, 1, some .boolean, 6, 4, 92, 0) := rfl
theorem pt_110 : pt_at 110 = (yX6_readEvent, cX6_readEvent, 4, some .boolean, 6, 3, 69, 1) := rfl
theorem pt_111 : pt_at 111 = (yX6_splitsOf, cX6_splitsOf, 3, some .int, 6, 1, 22, 1) := rfl
theorem pt_112 : pt_at 112 = (yX6_told_, cX6_told_, 3, some .int, 6, 0, 0, 3) := rfl
theorem pt_113 : pt_at 113 = (yX6_lastDay, cX6_lastDay, 1, some .int, 6, 1, 22, 1) := rfl
theorem pt_114 : pt_at 114 = (yX6_mostOf, cX6_mostOf, 3, some .int, 6, 2, 47, 2) := rfl
theorem pt_115 : pt_at 115 = (yX6_sharesOf, cX6_sharesOf, 6, some .int, 6, 1, 22, 2) := rfl
theorem pt_116 : pt_at 116 = (yX6_readGrant, cX6_readGrant, 3, some .boolean, 6, 3, 68, 1) := rfl
theorem pt_117 : pt_at 117 = (yX6_readEnd, cX6_readEnd, 1, some .boolean, 6, 2, 45, 0) := rfl
theorem pt_118 : pt_at 118 = (yX6_fault, cX6_fault, 1, some .int, 6, 0, 0, 0) := rfl
theorem pt_119 : pt_at 119 = (yX6_now, cX6_now, 2, some .int, 6, 2, 47, 1) := rfl
theorem pt_120 : pt_at 120 = (yX6_shares, cX6_shares, 3, some .int, 6, 3, 68, 2) := rfl
theorem pt_121 : pt_at 121 = (yX6_isDay, cX6_isDay, 1, some .boolean, 6, 1, 22, 1) := rfl
theorem pt_122 : pt_at 122 = (yX6_restated, cX6_restated, 2, some .int, 6, 2, 47, 1) := rfl
theorem pt_123 : pt_at 123 = (yX6_scale, cX6_scale, 5, some .int, 6, 1, 22, 2) := rfl
theorem pt_124 : pt_at 124 = (yX6_quarter, cX6_quarter, 3, some .int, 6, 2, 42, 2) := rfl
theorem pt_125 : pt_at 125 = (yX6_isQuarter, cX6_isQuarter, 1, some .boolean, 6, 1, 22, 1) := rfl
theorem pt_126 : pt_at 126 = (yX6_refuse, cX6_refuse, 1, some .int, 6, 0, 0, 0) := rfl
theorem pt_127 : pt_at 127 = (yX6_event, cX6_event, 3, some .int, 6, 1, 22, 2) := rfl
theorem pt_128 : pt_at 128 = (yX6_instrument, cX6_instrument, 3, some .int, 6, 3, 67, 2) := rfl
theorem pt_129 : pt_at 129 = (yX6_isInstrument, cX6_isInstrument, 2, some .boolean, 6, 1, 22, 1) := rfl
theorem pt_130 : pt_at 130 = (yX6_old, cX6_old, 2, some .int, 6, 2, 46, 1) := rfl
theorem pt_131 : pt_at 131 = (yX6_its, cX6_its, 3, some .int, 6, 0, 0, 2) := rfl
theorem pt_132 : pt_at 132 = (yX6_weight, cX6_weight, 3, some .long, 6, 4, 93, 2) := rfl
theorem pt_133 : pt_at 133 = (yX6_isRun, cX6_isRun, 2, some .boolean, 6, 2, 42, 2) := rfl
theorem pt_134 : pt_at 134 = (yX6_weightOf, cX6_weightOf, 6, some .long, 6, 3, 68, 2) := rfl
theorem pt_135 : pt_at 135 = (yX6_adds, cX6_adds, 5, some .long, 6, 5, 118, 4) := rfl
theorem pt_136 : pt_at 136 = (yX6_addsEarnings, cX6_addsEarnings, 4, some .long, 6, 2, 47, 3) := rfl
theorem pt_137 : pt_at 137 = (yX6_counts, cX6_counts, 6, some .int, 6, 1, 22, 3) := rfl
theorem pt_138 : pt_at 138 = (yX6_addsWeight, cX6_addsWeight, 7, some .long, 6, 4, 92, 3) := rfl
theorem pt_139 : pt_at 139 = (yX6_byOption, cX6_byOption, 5, some .long, 6, 3, 68, 2) := rfl
theorem pt_140 : pt_at 140 = (yX6_priceOf, cX6_priceOf, 3, some .int, 6, 2, 46, 2) := rfl
theorem pt_141 : pt_at 141 = (yX6_earningsOf, cX6_earningsOf, 5, some .int, 6, 0, 0, 2) := rfl
theorem pt_142 : pt_at 142 = (yX6_run, cX6_run, 5, some .int, 6, 7, 166, 3) := rfl
theorem pt_143 : pt_at 143 = (yX6_diluted, cX6_diluted, 4, some .int, 6, 6, 143, 3) := rfl
theorem pt_144 : pt_at 144 = (yX6_reckons, cX6_reckons, 6, none, 6, 5, 118, 3) := rfl
theorem pt_145 : pt_at 145 = (yX6_isAhead, cX6_isAhead, 7, some .boolean, 6, 0, 0, 2) := rfl
theorem pt_146 : pt_at 146 = (yX6_takes, cX6_takes, 2, none, 6, 0, 0, 1) := rfl
theorem pt_147 : pt_at 147 = (yX6_share, cX6_share, 10, some .int, 6, 0, 0, 4) := rfl
theorem pt_148 : pt_at 148 = (yX6_rank, cX6_rank, 4, some .int, 6, 6, 143, 3) := rfl
theorem pt_149 : pt_at 149 = (yX6_without, cX6_without, 4, some .int, 6, 7, 166, 3) := rfl
theorem pt_150 : pt_at 150 = (yX6_with, cX6_with, 9, some .int, 6, 5, 118, 3) := rfl
theorem pt_151 : pt_at 151 = (yX6_has, cX6_has, 2, some .boolean, 6, 0, 0, 2) := rfl
theorem pt_152 : pt_at 152 = (yX6_priced, cX6_priced, 5, some .int, 6, 8, 192, 4) := rfl
theorem pt_153 : pt_at 153 = (yX6_dilutedBy, cX6_dilutedBy, 7, some .int, 6, 7, 166, 4) := rfl
theorem pt_154 : pt_at 154 = (yX6_profit, cX6_profit, 6, some .int, 6, 8, 192, 4) := rfl
theorem pt_155 : pt_at 155 = (yX6_ifSplit, cX6_ifSplit, 5, some .int, 6, 7, 166, 3) := rfl
theorem pt_156 : pt_at 156 = (yX6_isFull, cX6_isFull, 2, some .boolean, 6, 2, 44, 1) := rfl
theorem pt_157 : pt_at 157 = (yX6_adds_, cX6_adds_, 5, none, 6, 0, 0, 3) := rfl
theorem pt_158 : pt_at 158 = (yX6_tells, cX6_tells, 4, some .int, 6, 3, 69, 3) := rfl
theorem pt_159 : pt_at 159 = (yX6_snap, cX6_snap, 2, none, 6, 0, 0, 0) := rfl
theorem pt_160 : pt_at 160 = (yX6_grants, cX6_grants, 6, some .int, 6, 2, 42, 4) := rfl
theorem pt_161 : pt_at 161 = (yX6_earns, cX6_earns, 3, some .int, 6, 2, 44, 2) := rfl
theorem pt_162 : pt_at 162 = (yX6_becomes, cX6_becomes, 4, some .int, 6, 1, 21, 2) := rfl
theorem pt_163 : pt_at 163 = (yX6_prices, cX6_prices, 3, some .int, 6, 2, 44, 2) := rfl
theorem pt_164 : pt_at 164 = (yX6_undo, cX6_undo, 2, some .int, 6, 0, 0, 0) := rfl
theorem pt_165 : pt_at 165 = ((⟨"java/lang/Math", "min", "(II)I"⟩ : MethodName), prog_13_method_69_code, 2, some .int, 7, 0, 0, 2) := rfl
theorem pt_166 : pt_at 166 = ((⟨"java/lang/Math", "max", "(II)I"⟩ : MethodName), prog_13_method_65_code, 2, some .int, 7, 0, 0, 2) := rfl
theorem pt_167 : pt_at 167 = ((⟨"java/lang/Math", "floorDiv", "(JJ)J"⟩ : MethodName), prog_13_method_49_code, 6, some .long, 7, 0, 0, 2) := rfl
def pt_Yp (M : Nat) : Prop := Cond.code (pt_y M) (pt_b M) (pt_l M) (pt_r M) ∈ pm_tb ∧ Cond.initialized (pt_y M).cls ∈ pm_tb ∧ ((pt_y M).cls ≠ "java/lang/invoke/MethodHandle" ∧ (pt_y M).cls ≠ "java/lang/invoke/VarHandle" ∧ (parseMethodDescriptor (pt_y M).desc).map (fun d => d.parameters.length) = some (pt_n M)) ∧ plainFor (pt_y M) = true ∧ pt_cn (pt_o M) = (pt_y M).cls
theorem pt_yp {M : Nat} {y : MethodName} {b : ByteArray} {ml : Nat} {r : Option FieldType} {o f w n : Nat} (h : pt_at M = (y, b, ml, r, o, f, w, n)) (i j : Nat) (h1 : lw_tbl[i]? = some (Cond.code y b ml r)) (h2 : lw_tbl[j]? = some (Cond.initialized y.cls)) (h3 : y.cls ≠ "java/lang/invoke/MethodHandle" ∧ y.cls ≠ "java/lang/invoke/VarHandle" ∧ (parseMethodDescriptor y.desc).map (fun d => d.parameters.length) = some n) (h4 : plainFor y = true) (h5 : pt_cn o = y.cls) : pt_Yp M := by
  unfold pt_Yp pt_y pt_b pt_l pt_r pt_o pt_n
  rw [h]
  exact ⟨pm_in i h1 rfl, pm_in j h2 rfl, h3, h4, h5⟩
theorem pt_Y0 : pt_Yp 0 := pt_yp pt_0 726 65 (by decide +kernel) (by decide +kernel) (by decide +kernel) (by decide +kernel) rfl
theorem pt_Y1 : pt_Yp 1 := pt_yp pt_1 730 65 (by decide +kernel) (by decide +kernel) (by decide +kernel) (by decide +kernel) rfl
theorem pt_Y2 : pt_Yp 2 := pt_yp pt_2 738 65 (by decide +kernel) (by decide +kernel) (by decide +kernel) (by decide +kernel) rfl
theorem pt_Y3 : pt_Yp 3 := pt_yp pt_3 742 65 (by decide +kernel) (by decide +kernel) (by decide +kernel) (by decide +kernel) rfl
theorem pt_Y4 : pt_Yp 4 := pt_yp pt_4 747 65 (by decide +kernel) (by decide +kernel) (by decide +kernel) (by decide +kernel) rfl
theorem pt_Y5 : pt_Yp 5 := pt_yp pt_5 751 65 (by decide +kernel) (by decide +kernel) (by decide +kernel) (by decide +kernel) rfl
theorem pt_Y6 : pt_Yp 6 := pt_yp pt_6 755 65 (by decide +kernel) (by decide +kernel) (by decide +kernel) (by decide +kernel) rfl
theorem pt_Y7 : pt_Yp 7 := pt_yp pt_7 763 65 (by decide +kernel) (by decide +kernel) (by decide +kernel) (by decide +kernel) rfl
theorem pt_Y8 : pt_Yp 8 := pt_yp pt_8 793 65 (by decide +kernel) (by decide +kernel) (by decide +kernel) (by decide +kernel) rfl
theorem pt_Y9 : pt_Yp 9 := pt_yp pt_9 538 66 (by decide +kernel) (by decide +kernel) (by decide +kernel) (by decide +kernel) rfl
theorem pt_Y10 : pt_Yp 10 := pt_yp pt_10 542 66 (by decide +kernel) (by decide +kernel) (by decide +kernel) (by decide +kernel) rfl
theorem pt_Y11 : pt_Yp 11 := pt_yp pt_11 574 66 (by decide +kernel) (by decide +kernel) (by decide +kernel) (by decide +kernel) rfl
theorem pt_Y12 : pt_Yp 12 := pt_yp pt_12 311 64 (by decide +kernel) (by decide +kernel) (by decide +kernel) (by decide +kernel) rfl
theorem pt_Y13 : pt_Yp 13 := pt_yp pt_13 316 64 (by decide +kernel) (by decide +kernel) (by decide +kernel) (by decide +kernel) rfl
theorem pt_Y14 : pt_Yp 14 := pt_yp pt_14 323 64 (by decide +kernel) (by decide +kernel) (by decide +kernel) (by decide +kernel) rfl
theorem pt_Y15 : pt_Yp 15 := pt_yp pt_15 327 64 (by decide +kernel) (by decide +kernel) (by decide +kernel) (by decide +kernel) rfl
theorem pt_Y16 : pt_Yp 16 := pt_yp pt_16 331 64 (by decide +kernel) (by decide +kernel) (by decide +kernel) (by decide +kernel) rfl
theorem pt_Y17 : pt_Yp 17 := pt_yp pt_17 335 64 (by decide +kernel) (by decide +kernel) (by decide +kernel) (by decide +kernel) rfl
theorem pt_Y18 : pt_Yp 18 := pt_yp pt_18 340 64 (by decide +kernel) (by decide +kernel) (by decide +kernel) (by decide +kernel) rfl
theorem pt_Y19 : pt_Yp 19 := pt_yp pt_19 393 64 (by decide +kernel) (by decide +kernel) (by decide +kernel) (by decide +kernel) rfl
theorem pt_Y20 : pt_Yp 20 := pt_yp pt_20 397 64 (by decide +kernel) (by decide +kernel) (by decide +kernel) (by decide +kernel) rfl
theorem pt_Y21 : pt_Yp 21 := pt_yp pt_21 401 64 (by decide +kernel) (by decide +kernel) (by decide +kernel) (by decide +kernel) rfl
theorem pt_Y22 : pt_Yp 22 := pt_yp pt_22 406 64 (by decide +kernel) (by decide +kernel) (by decide +kernel) (by decide +kernel) rfl
theorem pt_Y23 : pt_Yp 23 := pt_yp pt_23 413 64 (by decide +kernel) (by decide +kernel) (by decide +kernel) (by decide +kernel) rfl
theorem pt_Y24 : pt_Yp 24 := pt_yp pt_24 417 64 (by decide +kernel) (by decide +kernel) (by decide +kernel) (by decide +kernel) rfl
theorem pt_Y25 : pt_Yp 25 := pt_yp pt_25 422 64 (by decide +kernel) (by decide +kernel) (by decide +kernel) (by decide +kernel) rfl
theorem pt_Y26 : pt_Yp 26 := pt_yp pt_26 466 64 (by decide +kernel) (by decide +kernel) (by decide +kernel) (by decide +kernel) rfl
theorem pt_Y27 : pt_Yp 27 := pt_yp pt_27 295 63 (by decide +kernel) (by decide +kernel) (by decide +kernel) (by decide +kernel) rfl
theorem pt_Y28 : pt_Yp 28 := pt_yp pt_28 299 63 (by decide +kernel) (by decide +kernel) (by decide +kernel) (by decide +kernel) rfl
theorem pt_Y29 : pt_Yp 29 := pt_yp pt_29 211 67 (by decide +kernel) (by decide +kernel) (by decide +kernel) (by decide +kernel) rfl
theorem pt_Y30 : pt_Yp 30 := pt_yp pt_30 426 67 (by decide +kernel) (by decide +kernel) (by decide +kernel) (by decide +kernel) rfl
theorem pt_Y31 : pt_Yp 31 := pt_yp pt_31 430 67 (by decide +kernel) (by decide +kernel) (by decide +kernel) (by decide +kernel) rfl
theorem pt_Y32 : pt_Yp 32 := pt_yp pt_32 434 67 (by decide +kernel) (by decide +kernel) (by decide +kernel) (by decide +kernel) rfl
theorem pt_Y33 : pt_Yp 33 := pt_yp pt_33 438 67 (by decide +kernel) (by decide +kernel) (by decide +kernel) (by decide +kernel) rfl
theorem pt_Y34 : pt_Yp 34 := pt_yp pt_34 445 67 (by decide +kernel) (by decide +kernel) (by decide +kernel) (by decide +kernel) rfl
theorem pt_Y35 : pt_Yp 35 := pt_yp pt_35 449 67 (by decide +kernel) (by decide +kernel) (by decide +kernel) (by decide +kernel) rfl
theorem pt_Y36 : pt_Yp 36 := pt_yp pt_36 454 67 (by decide +kernel) (by decide +kernel) (by decide +kernel) (by decide +kernel) rfl
theorem pt_Y37 : pt_Yp 37 := pt_yp pt_37 459 67 (by decide +kernel) (by decide +kernel) (by decide +kernel) (by decide +kernel) rfl
theorem pt_Y38 : pt_Yp 38 := pt_yp pt_38 470 67 (by decide +kernel) (by decide +kernel) (by decide +kernel) (by decide +kernel) rfl
theorem pt_Y39 : pt_Yp 39 := pt_yp pt_39 481 67 (by decide +kernel) (by decide +kernel) (by decide +kernel) (by decide +kernel) rfl
theorem pt_Y40 : pt_Yp 40 := pt_yp pt_40 505 67 (by decide +kernel) (by decide +kernel) (by decide +kernel) (by decide +kernel) rfl
theorem pt_Y41 : pt_Yp 41 := pt_yp pt_41 509 67 (by decide +kernel) (by decide +kernel) (by decide +kernel) (by decide +kernel) rfl
theorem pt_Y42 : pt_Yp 42 := pt_yp pt_42 521 67 (by decide +kernel) (by decide +kernel) (by decide +kernel) (by decide +kernel) rfl
theorem pt_Y43 : pt_Yp 43 := pt_yp pt_43 525 67 (by decide +kernel) (by decide +kernel) (by decide +kernel) (by decide +kernel) rfl
theorem pt_Y44 : pt_Yp 44 := pt_yp pt_44 578 67 (by decide +kernel) (by decide +kernel) (by decide +kernel) (by decide +kernel) rfl
theorem pt_Y45 : pt_Yp 45 := pt_yp pt_45 582 67 (by decide +kernel) (by decide +kernel) (by decide +kernel) (by decide +kernel) rfl
theorem pt_Y46 : pt_Yp 46 := pt_yp pt_46 671 67 (by decide +kernel) (by decide +kernel) (by decide +kernel) (by decide +kernel) rfl
theorem pt_Y47 : pt_Yp 47 := pt_yp pt_47 674 67 (by decide +kernel) (by decide +kernel) (by decide +kernel) (by decide +kernel) rfl
theorem pt_Y48 : pt_Yp 48 := pt_yp pt_48 687 67 (by decide +kernel) (by decide +kernel) (by decide +kernel) (by decide +kernel) rfl
theorem pt_Y49 : pt_Yp 49 := pt_yp pt_49 691 67 (by decide +kernel) (by decide +kernel) (by decide +kernel) (by decide +kernel) rfl
theorem pt_Y50 : pt_Yp 50 := pt_yp pt_50 696 67 (by decide +kernel) (by decide +kernel) (by decide +kernel) (by decide +kernel) rfl
theorem pt_Y51 : pt_Yp 51 := pt_yp pt_51 701 67 (by decide +kernel) (by decide +kernel) (by decide +kernel) (by decide +kernel) rfl
theorem pt_Y52 : pt_Yp 52 := pt_yp pt_52 705 67 (by decide +kernel) (by decide +kernel) (by decide +kernel) (by decide +kernel) rfl
theorem pt_Y53 : pt_Yp 53 := pt_yp pt_53 709 67 (by decide +kernel) (by decide +kernel) (by decide +kernel) (by decide +kernel) rfl
theorem pt_Y54 : pt_Yp 54 := pt_yp pt_54 713 67 (by decide +kernel) (by decide +kernel) (by decide +kernel) (by decide +kernel) rfl
theorem pt_Y55 : pt_Yp 55 := pt_yp pt_55 291 62 (by decide +kernel) (by decide +kernel) (by decide +kernel) (by decide +kernel) rfl
theorem pt_Y56 : pt_Yp 56 := pt_yp pt_56 303 62 (by decide +kernel) (by decide +kernel) (by decide +kernel) (by decide +kernel) rfl
theorem pt_Y57 : pt_Yp 57 := pt_yp pt_57 307 62 (by decide +kernel) (by decide +kernel) (by decide +kernel) (by decide +kernel) rfl
theorem pt_Y58 : pt_Yp 58 := pt_yp pt_58 473 62 (by decide +kernel) (by decide +kernel) (by decide +kernel) (by decide +kernel) rfl
theorem pt_Y59 : pt_Yp 59 := pt_yp pt_59 476 62 (by decide +kernel) (by decide +kernel) (by decide +kernel) (by decide +kernel) rfl
theorem pt_Y60 : pt_Yp 60 := pt_yp pt_60 487 62 (by decide +kernel) (by decide +kernel) (by decide +kernel) (by decide +kernel) rfl
theorem pt_Y61 : pt_Yp 61 := pt_yp pt_61 491 62 (by decide +kernel) (by decide +kernel) (by decide +kernel) (by decide +kernel) rfl
theorem pt_Y62 : pt_Yp 62 := pt_yp pt_62 498 62 (by decide +kernel) (by decide +kernel) (by decide +kernel) (by decide +kernel) rfl
theorem pt_Y63 : pt_Yp 63 := pt_yp pt_63 501 62 (by decide +kernel) (by decide +kernel) (by decide +kernel) (by decide +kernel) rfl
theorem pt_Y64 : pt_Yp 64 := pt_yp pt_64 513 62 (by decide +kernel) (by decide +kernel) (by decide +kernel) (by decide +kernel) rfl
theorem pt_Y65 : pt_Yp 65 := pt_yp pt_65 517 62 (by decide +kernel) (by decide +kernel) (by decide +kernel) (by decide +kernel) rfl
theorem pt_Y66 : pt_Yp 66 := pt_yp pt_66 529 62 (by decide +kernel) (by decide +kernel) (by decide +kernel) (by decide +kernel) rfl
theorem pt_Y67 : pt_Yp 67 := pt_yp pt_67 546 62 (by decide +kernel) (by decide +kernel) (by decide +kernel) (by decide +kernel) rfl
theorem pt_Y68 : pt_Yp 68 := pt_yp pt_68 554 62 (by decide +kernel) (by decide +kernel) (by decide +kernel) (by decide +kernel) rfl
theorem pt_Y69 : pt_Yp 69 := pt_yp pt_69 557 62 (by decide +kernel) (by decide +kernel) (by decide +kernel) (by decide +kernel) rfl
theorem pt_Y70 : pt_Yp 70 := pt_yp pt_70 563 62 (by decide +kernel) (by decide +kernel) (by decide +kernel) (by decide +kernel) rfl
theorem pt_Y71 : pt_Yp 71 := pt_yp pt_71 566 62 (by decide +kernel) (by decide +kernel) (by decide +kernel) (by decide +kernel) rfl
theorem pt_Y72 : pt_Yp 72 := pt_yp pt_72 570 62 (by decide +kernel) (by decide +kernel) (by decide +kernel) (by decide +kernel) rfl
theorem pt_Y73 : pt_Yp 73 := pt_yp pt_73 590 62 (by decide +kernel) (by decide +kernel) (by decide +kernel) (by decide +kernel) rfl
theorem pt_Y74 : pt_Yp 74 := pt_yp pt_74 663 62 (by decide +kernel) (by decide +kernel) (by decide +kernel) (by decide +kernel) rfl
theorem pt_Y75 : pt_Yp 75 := pt_yp pt_75 666 62 (by decide +kernel) (by decide +kernel) (by decide +kernel) (by decide +kernel) rfl
theorem pt_Y76 : pt_Yp 76 := pt_yp pt_76 682 62 (by decide +kernel) (by decide +kernel) (by decide +kernel) (by decide +kernel) rfl
theorem pt_Y77 : pt_Yp 77 := pt_yp pt_77 721 62 (by decide +kernel) (by decide +kernel) (by decide +kernel) (by decide +kernel) rfl
theorem pt_Y78 : pt_Yp 78 := pt_yp pt_78 771 62 (by decide +kernel) (by decide +kernel) (by decide +kernel) (by decide +kernel) rfl
theorem pt_Y79 : pt_Yp 79 := pt_yp pt_79 778 62 (by decide +kernel) (by decide +kernel) (by decide +kernel) (by decide +kernel) rfl
theorem pt_Y80 : pt_Yp 80 := pt_yp pt_80 782 62 (by decide +kernel) (by decide +kernel) (by decide +kernel) (by decide +kernel) rfl
theorem pt_Y81 : pt_Yp 81 := pt_yp pt_81 789 62 (by decide +kernel) (by decide +kernel) (by decide +kernel) (by decide +kernel) rfl
theorem pt_Y82 : pt_Yp 82 := pt_yp pt_82 800 62 (by decide +kernel) (by decide +kernel) (by decide +kernel) (by decide +kernel) rfl
theorem pt_Y83 : pt_Yp 83 := pt_yp pt_83 807 62 (by decide +kernel) (by decide +kernel) (by decide +kernel) (by decide +kernel) rfl
theorem pt_Y84 : pt_Yp 84 := pt_yp pt_84 811 62 (by decide +kernel) (by decide +kernel) (by decide +kernel) (by decide +kernel) rfl
theorem pt_Y85 : pt_Yp 85 := pt_yp pt_85 821 62 (by decide +kernel) (by decide +kernel) (by decide +kernel) (by decide +kernel) rfl
theorem pt_Y86 : pt_Yp 86 := pt_yp pt_86 826 68 (by decide +kernel) (by decide +kernel) (by decide +kernel) (by decide +kernel) rfl
theorem pt_Y87 : pt_Yp 87 := pt_yp pt_87 830 68 (by decide +kernel) (by decide +kernel) (by decide +kernel) (by decide +kernel) rfl
theorem pt_Y88 : pt_Yp 88 := pt_yp pt_88 835 68 (by decide +kernel) (by decide +kernel) (by decide +kernel) (by decide +kernel) rfl
theorem pt_Y89 : pt_Yp 89 := pt_yp pt_89 839 68 (by decide +kernel) (by decide +kernel) (by decide +kernel) (by decide +kernel) rfl
theorem pt_Y90 : pt_Yp 90 := pt_yp pt_90 847 68 (by decide +kernel) (by decide +kernel) (by decide +kernel) (by decide +kernel) rfl
theorem pt_Y91 : pt_Yp 91 := pt_yp pt_91 921 68 (by decide +kernel) (by decide +kernel) (by decide +kernel) (by decide +kernel) rfl
theorem pt_Y92 : pt_Yp 92 := pt_yp pt_92 925 68 (by decide +kernel) (by decide +kernel) (by decide +kernel) (by decide +kernel) rfl
theorem pt_Y93 : pt_Yp 93 := pt_yp pt_93 928 68 (by decide +kernel) (by decide +kernel) (by decide +kernel) (by decide +kernel) rfl
theorem pt_Y94 : pt_Yp 94 := pt_yp pt_94 931 68 (by decide +kernel) (by decide +kernel) (by decide +kernel) (by decide +kernel) rfl
theorem pt_Y95 : pt_Yp 95 := pt_yp pt_95 935 68 (by decide +kernel) (by decide +kernel) (by decide +kernel) (by decide +kernel) rfl
theorem pt_Y96 : pt_Yp 96 := pt_yp pt_96 940 68 (by decide +kernel) (by decide +kernel) (by decide +kernel) (by decide +kernel) rfl
theorem pt_Y97 : pt_Yp 97 := pt_yp pt_97 944 68 (by decide +kernel) (by decide +kernel) (by decide +kernel) (by decide +kernel) rfl
theorem pt_Y98 : pt_Yp 98 := pt_yp pt_98 948 68 (by decide +kernel) (by decide +kernel) (by decide +kernel) (by decide +kernel) rfl
theorem pt_Y99 : pt_Yp 99 := pt_yp pt_99 951 68 (by decide +kernel) (by decide +kernel) (by decide +kernel) (by decide +kernel) rfl
theorem pt_Y100 : pt_Yp 100 := pt_yp pt_100 955 68 (by decide +kernel) (by decide +kernel) (by decide +kernel) (by decide +kernel) rfl
theorem pt_Y101 : pt_Yp 101 := pt_yp pt_101 959 68 (by decide +kernel) (by decide +kernel) (by decide +kernel) (by decide +kernel) rfl
theorem pt_Y102 : pt_Yp 102 := pt_yp pt_102 963 68 (by decide +kernel) (by decide +kernel) (by decide +kernel) (by decide +kernel) rfl
theorem pt_Y103 : pt_Yp 103 := pt_yp pt_103 968 68 (by decide +kernel) (by decide +kernel) (by decide +kernel) (by decide +kernel) rfl
theorem pt_Y104 : pt_Yp 104 := pt_yp pt_104 972 68 (by decide +kernel) (by decide +kernel) (by decide +kernel) (by decide +kernel) rfl
theorem pt_Y105 : pt_Yp 105 := pt_yp pt_105 977 68 (by decide +kernel) (by decide +kernel) (by decide +kernel) (by decide +kernel) rfl
theorem pt_Y106 : pt_Yp 106 := pt_yp pt_106 980 68 (by decide +kernel) (by decide +kernel) (by decide +kernel) (by decide +kernel) rfl
theorem pt_Y107 : pt_Yp 107 := pt_yp pt_107 984 68 (by decide +kernel) (by decide +kernel) (by decide +kernel) (by decide +kernel) rfl
theorem pt_Y108 : pt_Yp 108 := pt_yp pt_108 987 68 (by decide +kernel) (by decide +kernel) (by decide +kernel) (by decide +kernel) rfl
theorem pt_Y109 : pt_Yp 109 := pt_yp pt_109 992 68 (by decide +kernel) (by decide +kernel) (by decide +kernel) (by decide +kernel) rfl
theorem pt_Y110 : pt_Yp 110 := pt_yp pt_110 996 68 (by decide +kernel) (by decide +kernel) (by decide +kernel) (by decide +kernel) rfl
theorem pt_Y111 : pt_Yp 111 := pt_yp pt_111 999 68 (by decide +kernel) (by decide +kernel) (by decide +kernel) (by decide +kernel) rfl
theorem pt_Y112 : pt_Yp 112 := pt_yp pt_112 1002 68 (by decide +kernel) (by decide +kernel) (by decide +kernel) (by decide +kernel) rfl
theorem pt_Y113 : pt_Yp 113 := pt_yp pt_113 1005 68 (by decide +kernel) (by decide +kernel) (by decide +kernel) (by decide +kernel) rfl
theorem pt_Y114 : pt_Yp 114 := pt_yp pt_114 1008 68 (by decide +kernel) (by decide +kernel) (by decide +kernel) (by decide +kernel) rfl
theorem pt_Y115 : pt_Yp 115 := pt_yp pt_115 1011 68 (by decide +kernel) (by decide +kernel) (by decide +kernel) (by decide +kernel) rfl
theorem pt_Y116 : pt_Yp 116 := pt_yp pt_116 1015 68 (by decide +kernel) (by decide +kernel) (by decide +kernel) (by decide +kernel) rfl
theorem pt_Y117 : pt_Yp 117 := pt_yp pt_117 1019 68 (by decide +kernel) (by decide +kernel) (by decide +kernel) (by decide +kernel) rfl
theorem pt_Y118 : pt_Yp 118 := pt_yp pt_118 1023 68 (by decide +kernel) (by decide +kernel) (by decide +kernel) (by decide +kernel) rfl
theorem pt_Y119 : pt_Yp 119 := pt_yp pt_119 1027 68 (by decide +kernel) (by decide +kernel) (by decide +kernel) (by decide +kernel) rfl
theorem pt_Y120 : pt_Yp 120 := pt_yp pt_120 1031 68 (by decide +kernel) (by decide +kernel) (by decide +kernel) (by decide +kernel) rfl
theorem pt_Y121 : pt_Yp 121 := pt_yp pt_121 1034 68 (by decide +kernel) (by decide +kernel) (by decide +kernel) (by decide +kernel) rfl
theorem pt_Y122 : pt_Yp 122 := pt_yp pt_122 1038 68 (by decide +kernel) (by decide +kernel) (by decide +kernel) (by decide +kernel) rfl
theorem pt_Y123 : pt_Yp 123 := pt_yp pt_123 1042 68 (by decide +kernel) (by decide +kernel) (by decide +kernel) (by decide +kernel) rfl
theorem pt_Y124 : pt_Yp 124 := pt_yp pt_124 1046 68 (by decide +kernel) (by decide +kernel) (by decide +kernel) (by decide +kernel) rfl
theorem pt_Y125 : pt_Yp 125 := pt_yp pt_125 1049 68 (by decide +kernel) (by decide +kernel) (by decide +kernel) (by decide +kernel) rfl
theorem pt_Y126 : pt_Yp 126 := pt_yp pt_126 1053 68 (by decide +kernel) (by decide +kernel) (by decide +kernel) (by decide +kernel) rfl
theorem pt_Y127 : pt_Yp 127 := pt_yp pt_127 1057 68 (by decide +kernel) (by decide +kernel) (by decide +kernel) (by decide +kernel) rfl
theorem pt_Y128 : pt_Yp 128 := pt_yp pt_128 1061 68 (by decide +kernel) (by decide +kernel) (by decide +kernel) (by decide +kernel) rfl
theorem pt_Y129 : pt_Yp 129 := pt_yp pt_129 1065 68 (by decide +kernel) (by decide +kernel) (by decide +kernel) (by decide +kernel) rfl
theorem pt_Y130 : pt_Yp 130 := pt_yp pt_130 1069 68 (by decide +kernel) (by decide +kernel) (by decide +kernel) (by decide +kernel) rfl
theorem pt_Y131 : pt_Yp 131 := pt_yp pt_131 1073 68 (by decide +kernel) (by decide +kernel) (by decide +kernel) (by decide +kernel) rfl
theorem pt_Y132 : pt_Yp 132 := pt_yp pt_132 1077 68 (by decide +kernel) (by decide +kernel) (by decide +kernel) (by decide +kernel) rfl
theorem pt_Y133 : pt_Yp 133 := pt_yp pt_133 1080 68 (by decide +kernel) (by decide +kernel) (by decide +kernel) (by decide +kernel) rfl
theorem pt_Y134 : pt_Yp 134 := pt_yp pt_134 1084 68 (by decide +kernel) (by decide +kernel) (by decide +kernel) (by decide +kernel) rfl
theorem pt_Y135 : pt_Yp 135 := pt_yp pt_135 1088 68 (by decide +kernel) (by decide +kernel) (by decide +kernel) (by decide +kernel) rfl
theorem pt_Y136 : pt_Yp 136 := pt_yp pt_136 1092 68 (by decide +kernel) (by decide +kernel) (by decide +kernel) (by decide +kernel) rfl
theorem pt_Y137 : pt_Yp 137 := pt_yp pt_137 1096 68 (by decide +kernel) (by decide +kernel) (by decide +kernel) (by decide +kernel) rfl
theorem pt_Y138 : pt_Yp 138 := pt_yp pt_138 1101 68 (by decide +kernel) (by decide +kernel) (by decide +kernel) (by decide +kernel) rfl
theorem pt_Y139 : pt_Yp 139 := pt_yp pt_139 1105 68 (by decide +kernel) (by decide +kernel) (by decide +kernel) (by decide +kernel) rfl
theorem pt_Y140 : pt_Yp 140 := pt_yp pt_140 1109 68 (by decide +kernel) (by decide +kernel) (by decide +kernel) (by decide +kernel) rfl
theorem pt_Y141 : pt_Yp 141 := pt_yp pt_141 1113 68 (by decide +kernel) (by decide +kernel) (by decide +kernel) (by decide +kernel) rfl
theorem pt_Y142 : pt_Yp 142 := pt_yp pt_142 1117 68 (by decide +kernel) (by decide +kernel) (by decide +kernel) (by decide +kernel) rfl
theorem pt_Y143 : pt_Yp 143 := pt_yp pt_143 1121 68 (by decide +kernel) (by decide +kernel) (by decide +kernel) (by decide +kernel) rfl
theorem pt_Y144 : pt_Yp 144 := pt_yp pt_144 1125 68 (by decide +kernel) (by decide +kernel) (by decide +kernel) (by decide +kernel) rfl
theorem pt_Y145 : pt_Yp 145 := pt_yp pt_145 1129 68 (by decide +kernel) (by decide +kernel) (by decide +kernel) (by decide +kernel) rfl
theorem pt_Y146 : pt_Yp 146 := pt_yp pt_146 1133 68 (by decide +kernel) (by decide +kernel) (by decide +kernel) (by decide +kernel) rfl
theorem pt_Y147 : pt_Yp 147 := pt_yp pt_147 1136 68 (by decide +kernel) (by decide +kernel) (by decide +kernel) (by decide +kernel) rfl
theorem pt_Y148 : pt_Yp 148 := pt_yp pt_148 1142 68 (by decide +kernel) (by decide +kernel) (by decide +kernel) (by decide +kernel) rfl
theorem pt_Y149 : pt_Yp 149 := pt_yp pt_149 1146 68 (by decide +kernel) (by decide +kernel) (by decide +kernel) (by decide +kernel) rfl
theorem pt_Y150 : pt_Yp 150 := pt_yp pt_150 1151 68 (by decide +kernel) (by decide +kernel) (by decide +kernel) (by decide +kernel) rfl
theorem pt_Y151 : pt_Yp 151 := pt_yp pt_151 1154 68 (by decide +kernel) (by decide +kernel) (by decide +kernel) (by decide +kernel) rfl
theorem pt_Y152 : pt_Yp 152 := pt_yp pt_152 1158 68 (by decide +kernel) (by decide +kernel) (by decide +kernel) (by decide +kernel) rfl
theorem pt_Y153 : pt_Yp 153 := pt_yp pt_153 1162 68 (by decide +kernel) (by decide +kernel) (by decide +kernel) (by decide +kernel) rfl
theorem pt_Y154 : pt_Yp 154 := pt_yp pt_154 1166 68 (by decide +kernel) (by decide +kernel) (by decide +kernel) (by decide +kernel) rfl
theorem pt_Y155 : pt_Yp 155 := pt_yp pt_155 1170 68 (by decide +kernel) (by decide +kernel) (by decide +kernel) (by decide +kernel) rfl
theorem pt_Y156 : pt_Yp 156 := pt_yp pt_156 1174 68 (by decide +kernel) (by decide +kernel) (by decide +kernel) (by decide +kernel) rfl
theorem pt_Y157 : pt_Yp 157 := pt_yp pt_157 1178 68 (by decide +kernel) (by decide +kernel) (by decide +kernel) (by decide +kernel) rfl
theorem pt_Y158 : pt_Yp 158 := pt_yp pt_158 1182 68 (by decide +kernel) (by decide +kernel) (by decide +kernel) (by decide +kernel) rfl
theorem pt_Y159 : pt_Yp 159 := pt_yp pt_159 1186 68 (by decide +kernel) (by decide +kernel) (by decide +kernel) (by decide +kernel) rfl
theorem pt_Y160 : pt_Yp 160 := pt_yp pt_160 1190 68 (by decide +kernel) (by decide +kernel) (by decide +kernel) (by decide +kernel) rfl
theorem pt_Y161 : pt_Yp 161 := pt_yp pt_161 1194 68 (by decide +kernel) (by decide +kernel) (by decide +kernel) (by decide +kernel) rfl
theorem pt_Y162 : pt_Yp 162 := pt_yp pt_162 1199 68 (by decide +kernel) (by decide +kernel) (by decide +kernel) (by decide +kernel) rfl
theorem pt_Y163 : pt_Yp 163 := pt_yp pt_163 1203 68 (by decide +kernel) (by decide +kernel) (by decide +kernel) (by decide +kernel) rfl
theorem pt_Y164 : pt_Yp 164 := pt_yp pt_164 1207 68 (by decide +kernel) (by decide +kernel) (by decide +kernel) (by decide +kernel) rfl
theorem pt_Y165 : pt_Yp 165 := pt_yp pt_165 319 69 (by decide +kernel) (by decide +kernel) (by decide +kernel) (by decide +kernel) rfl
theorem pt_Y166 : pt_Yp 166 := pt_yp pt_166 441 69 (by decide +kernel) (by decide +kernel) (by decide +kernel) (by decide +kernel) rfl
theorem pt_Y167 : pt_Yp 167 := pt_yp pt_167 759 69 (by decide +kernel) (by decide +kernel) (by decide +kernel) (by decide +kernel) rfl
def pm_tk (t : FieldType) : Nat := match t with
  | .int => 0
  | .long => 1
  | .object _ => 2
  | .array _ => 2
  | _ => 8
def pt_Cl (ci : Nat) (C : String) (T : u_T) (N : Nat) (ty : Nat → FieldType) : Prop := vwCl[ci]? = some (C, T, N) ∧ (∀ w ∈ u_ws C T N, w ∈ pm_tb) ∧ (∀ k, k < N → parseFieldDescriptor (T k).2.2.1 = some (ty k)) ∧ ∀ a, a < N → ∀ b, b < N → a ≠ b → (T a).2.1 ≠ (T b).2.1
theorem pt_C0 : pt_Cl 0 RX0 TX0 12 tyX0 := ⟨rfl, (show ∀ w ∈ [u_lay RX0 TX0 0, u_lay RX0 TX0 1, u_lay RX0 TX0 2, u_lay RX0 TX0 3, u_lay RX0 TX0 4, u_lay RX0 TX0 5, u_lay RX0 TX0 6, u_lay RX0 TX0 7, u_lay RX0 TX0 8, u_lay RX0 TX0 9, u_lay RX0 TX0 10, u_lay RX0 TX0 11], w ∈ pm_tb from List.forall_mem_cons.mpr ⟨pm_in 155 (by decide +kernel) rfl, List.forall_mem_cons.mpr ⟨pm_in 157 (by decide +kernel) rfl, List.forall_mem_cons.mpr ⟨pm_in 159 (by decide +kernel) rfl, List.forall_mem_cons.mpr ⟨pm_in 161 (by decide +kernel) rfl, List.forall_mem_cons.mpr ⟨pm_in 163 (by decide +kernel) rfl, List.forall_mem_cons.mpr ⟨pm_in 165 (by decide +kernel) rfl, List.forall_mem_cons.mpr ⟨pm_in 167 (by decide +kernel) rfl, List.forall_mem_cons.mpr ⟨pm_in 169 (by decide +kernel) rfl, List.forall_mem_cons.mpr ⟨pm_in 171 (by decide +kernel) rfl, List.forall_mem_cons.mpr ⟨pm_in 173 (by decide +kernel) rfl, List.forall_mem_cons.mpr ⟨pm_in 175 (by decide +kernel) rfl, List.forall_mem_cons.mpr ⟨pm_in 177 (by decide +kernel) rfl, fun _ h => absurd h List.not_mem_nil⟩⟩⟩⟩⟩⟩⟩⟩⟩⟩⟩⟩), tyX0_ok, nmX0⟩
theorem pt_C1 : pt_Cl 1 RX1 TX1 4 tyX1 := ⟨rfl, (show ∀ w ∈ [u_lay RX1 TX1 0, u_lay RX1 TX1 1, u_lay RX1 TX1 2, u_lay RX1 TX1 3], w ∈ pm_tb from List.forall_mem_cons.mpr ⟨pm_in 193 (by decide +kernel) rfl, List.forall_mem_cons.mpr ⟨pm_in 195 (by decide +kernel) rfl, List.forall_mem_cons.mpr ⟨pm_in 197 (by decide +kernel) rfl, List.forall_mem_cons.mpr ⟨pm_in 199 (by decide +kernel) rfl, fun _ h => absurd h List.not_mem_nil⟩⟩⟩⟩), tyX1_ok, nmX1⟩
theorem pt_C2 : pt_Cl 2 RX2 TX2 7 tyX2 := ⟨rfl, (show ∀ w ∈ [u_lay RX2 TX2 0, u_lay RX2 TX2 1, u_lay RX2 TX2 2, u_lay RX2 TX2 3, u_lay RX2 TX2 4, u_lay RX2 TX2 5, u_lay RX2 TX2 6], w ∈ pm_tb from List.forall_mem_cons.mpr ⟨pm_in 118 (by decide +kernel) rfl, List.forall_mem_cons.mpr ⟨pm_in 120 (by decide +kernel) rfl, List.forall_mem_cons.mpr ⟨pm_in 122 (by decide +kernel) rfl, List.forall_mem_cons.mpr ⟨pm_in 124 (by decide +kernel) rfl, List.forall_mem_cons.mpr ⟨pm_in 126 (by decide +kernel) rfl, List.forall_mem_cons.mpr ⟨pm_in 128 (by decide +kernel) rfl, List.forall_mem_cons.mpr ⟨pm_in 130 (by decide +kernel) rfl, fun _ h => absurd h List.not_mem_nil⟩⟩⟩⟩⟩⟩⟩), tyX2_ok, nmX2⟩
theorem pt_C3 : pt_Cl 3 RX3 TX3 2 tyX3 := ⟨rfl, (show ∀ w ∈ [u_lay RX3 TX3 0, u_lay RX3 TX3 1], w ∈ pm_tb from List.forall_mem_cons.mpr ⟨pm_in 97 (by decide +kernel) rfl, List.forall_mem_cons.mpr ⟨pm_in 99 (by decide +kernel) rfl, fun _ h => absurd h List.not_mem_nil⟩⟩), tyX3_ok, nmX3⟩
theorem pt_C4 : pt_Cl 4 RX4 TX4 12 tyX4 := ⟨rfl, (show ∀ w ∈ [u_lay RX4 TX4 0, u_lay RX4 TX4 1, u_lay RX4 TX4 2, u_lay RX4 TX4 3, u_lay RX4 TX4 4, u_lay RX4 TX4 5, u_lay RX4 TX4 6, u_lay RX4 TX4 7, u_lay RX4 TX4 8, u_lay RX4 TX4 9, u_lay RX4 TX4 10, u_lay RX4 TX4 11], w ∈ pm_tb from List.forall_mem_cons.mpr ⟨pm_in 241 (by decide +kernel) rfl, List.forall_mem_cons.mpr ⟨pm_in 243 (by decide +kernel) rfl, List.forall_mem_cons.mpr ⟨pm_in 245 (by decide +kernel) rfl, List.forall_mem_cons.mpr ⟨pm_in 247 (by decide +kernel) rfl, List.forall_mem_cons.mpr ⟨pm_in 249 (by decide +kernel) rfl, List.forall_mem_cons.mpr ⟨pm_in 251 (by decide +kernel) rfl, List.forall_mem_cons.mpr ⟨pm_in 253 (by decide +kernel) rfl, List.forall_mem_cons.mpr ⟨pm_in 255 (by decide +kernel) rfl, List.forall_mem_cons.mpr ⟨pm_in 257 (by decide +kernel) rfl, List.forall_mem_cons.mpr ⟨pm_in 259 (by decide +kernel) rfl, List.forall_mem_cons.mpr ⟨pm_in 261 (by decide +kernel) rfl, List.forall_mem_cons.mpr ⟨pm_in 263 (by decide +kernel) rfl, fun _ h => absurd h List.not_mem_nil⟩⟩⟩⟩⟩⟩⟩⟩⟩⟩⟩⟩), tyX4_ok, nmX4⟩
theorem pt_C5 : pt_Cl 5 RX5 TX5 7 tyX5 := ⟨rfl, (show ∀ w ∈ [u_lay RX5 TX5 0, u_lay RX5 TX5 1, u_lay RX5 TX5 2, u_lay RX5 TX5 3, u_lay RX5 TX5 4, u_lay RX5 TX5 5, u_lay RX5 TX5 6], w ∈ pm_tb from List.forall_mem_cons.mpr ⟨pm_in 273 (by decide +kernel) rfl, List.forall_mem_cons.mpr ⟨pm_in 275 (by decide +kernel) rfl, List.forall_mem_cons.mpr ⟨pm_in 277 (by decide +kernel) rfl, List.forall_mem_cons.mpr ⟨pm_in 279 (by decide +kernel) rfl, List.forall_mem_cons.mpr ⟨pm_in 281 (by decide +kernel) rfl, List.forall_mem_cons.mpr ⟨pm_in 283 (by decide +kernel) rfl, List.forall_mem_cons.mpr ⟨pm_in 285 (by decide +kernel) rfl, fun _ h => absurd h List.not_mem_nil⟩⟩⟩⟩⟩⟩⟩), tyX5_ok, nmX5⟩
theorem pt_C6 : pt_Cl 6 RX6 TX6 23 tyX6 := ⟨rfl, (show ∀ w ∈ [u_lay RX6 TX6 0, u_lay RX6 TX6 1, u_lay RX6 TX6 2, u_lay RX6 TX6 3, u_lay RX6 TX6 4, u_lay RX6 TX6 5, u_lay RX6 TX6 6, u_lay RX6 TX6 7, u_lay RX6 TX6 8, u_lay RX6 TX6 9, u_lay RX6 TX6 10, u_lay RX6 TX6 11, u_lay RX6 TX6 12, u_lay RX6 TX6 13, u_lay RX6 TX6 14, u_lay RX6 TX6 15, u_lay RX6 TX6 16, u_lay RX6 TX6 17, u_lay RX6 TX6 18, u_lay RX6 TX6 19, u_lay RX6 TX6 20, u_lay RX6 TX6 21, u_lay RX6 TX6 22], w ∈ pm_tb from List.forall_mem_cons.mpr ⟨pm_in 871 (by decide +kernel) rfl, List.forall_mem_cons.mpr ⟨pm_in 873 (by decide +kernel) rfl, List.forall_mem_cons.mpr ⟨pm_in 875 (by decide +kernel) rfl, List.forall_mem_cons.mpr ⟨pm_in 877 (by decide +kernel) rfl, List.forall_mem_cons.mpr ⟨pm_in 879 (by decide +kernel) rfl, List.forall_mem_cons.mpr ⟨pm_in 881 (by decide +kernel) rfl, List.forall_mem_cons.mpr ⟨pm_in 883 (by decide +kernel) rfl, List.forall_mem_cons.mpr ⟨pm_in 885 (by decide +kernel) rfl, List.forall_mem_cons.mpr ⟨pm_in 887 (by decide +kernel) rfl, List.forall_mem_cons.mpr ⟨pm_in 889 (by decide +kernel) rfl, List.forall_mem_cons.mpr ⟨pm_in 891 (by decide +kernel) rfl, List.forall_mem_cons.mpr ⟨pm_in 893 (by decide +kernel) rfl, List.forall_mem_cons.mpr ⟨pm_in 895 (by decide +kernel) rfl, List.forall_mem_cons.mpr ⟨pm_in 897 (by decide +kernel) rfl, List.forall_mem_cons.mpr ⟨pm_in 899 (by decide +kernel) rfl, List.forall_mem_cons.mpr ⟨pm_in 901 (by decide +kernel) rfl, List.forall_mem_cons.mpr ⟨pm_in 903 (by decide +kernel) rfl, List.forall_mem_cons.mpr ⟨pm_in 905 (by decide +kernel) rfl, List.forall_mem_cons.mpr ⟨pm_in 907 (by decide +kernel) rfl, List.forall_mem_cons.mpr ⟨pm_in 909 (by decide +kernel) rfl, List.forall_mem_cons.mpr ⟨pm_in 911 (by decide +kernel) rfl, List.forall_mem_cons.mpr ⟨pm_in 913 (by decide +kernel) rfl, List.forall_mem_cons.mpr ⟨pm_in 915 (by decide +kernel) rfl, fun _ h => absurd h List.not_mem_nil⟩⟩⟩⟩⟩⟩⟩⟩⟩⟩⟩⟩⟩⟩⟩⟩⟩⟩⟩⟩⟩⟩⟩), tyX6_ok, nmX6⟩
def pt_Fp (q : Nat × Nat × Nat × Nat × Nat × Bool) : Prop := ∃ (C : String) (T : u_T) (N : Nat) (ty : Nat → FieldType), pt_Cl q.2.2.1 C T N ty ∧ q.2.2.2.1 < N ∧ Cond.fieldLink (pt_cn q.1) q.2.1 (T q.2.2.2.1).1 (T q.2.2.2.1).2.1 (T q.2.2.2.1).2.2.1 ∈ pm_tb ∧ (T q.2.2.2.1).2.2.2 = q.2.2.2.2.2 ∧ pm_tk (ty q.2.2.2.1) = q.2.2.2.2.1
theorem pt_f0_9 : pt_Fp (0, 9, 0, 0, 2, true) := ⟨RX0, TX0, 12, tyX0, pt_C0, by decide, pm_in 139 (by decide +kernel) rfl, rfl, rfl⟩
theorem pt_f0_77 : pt_Fp (0, 77, 0, 1, 0, false) := ⟨RX0, TX0, 12, tyX0, pt_C0, by decide, pm_in 141 (by decide +kernel) rfl, rfl, rfl⟩
theorem pt_f0_83 : pt_Fp (0, 83, 0, 2, 0, false) := ⟨RX0, TX0, 12, tyX0, pt_C0, by decide, pm_in 143 (by decide +kernel) rfl, rfl, rfl⟩
theorem pt_f0_98 : pt_Fp (0, 98, 0, 3, 0, false) := ⟨RX0, TX0, 12, tyX0, pt_C0, by decide, pm_in 145 (by decide +kernel) rfl, rfl, rfl⟩
theorem pt_f0_15 : pt_Fp (0, 15, 0, 4, 2, true) := ⟨RX0, TX0, 12, tyX0, pt_C0, by decide, pm_in 147 (by decide +kernel) rfl, rfl, rfl⟩
theorem pt_f0_19 : pt_Fp (0, 19, 0, 5, 2, true) := ⟨RX0, TX0, 12, tyX0, pt_C0, by decide, pm_in 148 (by decide +kernel) rfl, rfl, rfl⟩
theorem pt_f0_22 : pt_Fp (0, 22, 0, 6, 2, true) := ⟨RX0, TX0, 12, tyX0, pt_C0, by decide, pm_in 149 (by decide +kernel) rfl, rfl, rfl⟩
theorem pt_f0_25 : pt_Fp (0, 25, 0, 7, 2, true) := ⟨RX0, TX0, 12, tyX0, pt_C0, by decide, pm_in 150 (by decide +kernel) rfl, rfl, rfl⟩
theorem pt_f0_53 : pt_Fp (0, 53, 0, 8, 0, false) := ⟨RX0, TX0, 12, tyX0, pt_C0, by decide, pm_in 151 (by decide +kernel) rfl, rfl, rfl⟩
theorem pt_f0_42 : pt_Fp (0, 42, 0, 9, 0, false) := ⟨RX0, TX0, 12, tyX0, pt_C0, by decide, pm_in 152 (by decide +kernel) rfl, rfl, rfl⟩
theorem pt_f0_49 : pt_Fp (0, 49, 0, 10, 1, false) := ⟨RX0, TX0, 12, tyX0, pt_C0, by decide, pm_in 153 (by decide +kernel) rfl, rfl, rfl⟩
theorem pt_f0_74 : pt_Fp (0, 74, 0, 11, 1, false) := ⟨RX0, TX0, 12, tyX0, pt_C0, by decide, pm_in 154 (by decide +kernel) rfl, rfl, rfl⟩
theorem pt_f0_56 : pt_Fp (0, 56, 4, 7, 0, false) := ⟨RX4, TX4, 12, tyX4, pt_C4, by decide, pm_in 231 (by decide +kernel) rfl, rfl, rfl⟩
def pt_Fl0 : List (Nat × Nat × Nat × Nat × Nat × Bool) := [(0, 9, 0, 0, 2, true), (0, 77, 0, 1, 0, false), (0, 83, 0, 2, 0, false), (0, 98, 0, 3, 0, false), (0, 15, 0, 4, 2, true), (0, 19, 0, 5, 2, true), (0, 22, 0, 6, 2, true), (0, 25, 0, 7, 2, true), (0, 53, 0, 8, 0, false), (0, 42, 0, 9, 0, false), (0, 49, 0, 10, 1, false), (0, 74, 0, 11, 1, false), (0, 56, 4, 7, 0, false)]
theorem pt_Fl0_ok : ∀ q ∈ pt_Fl0, pt_Fp q := List.forall_mem_cons.mpr ⟨pt_f0_9, List.forall_mem_cons.mpr ⟨pt_f0_77, List.forall_mem_cons.mpr ⟨pt_f0_83, List.forall_mem_cons.mpr ⟨pt_f0_98, List.forall_mem_cons.mpr ⟨pt_f0_15, List.forall_mem_cons.mpr ⟨pt_f0_19, List.forall_mem_cons.mpr ⟨pt_f0_22, List.forall_mem_cons.mpr ⟨pt_f0_25, List.forall_mem_cons.mpr ⟨pt_f0_53, List.forall_mem_cons.mpr ⟨pt_f0_42, List.forall_mem_cons.mpr ⟨pt_f0_49, List.forall_mem_cons.mpr ⟨pt_f0_74, List.forall_mem_cons.mpr ⟨pt_f0_56, fun _ h => absurd h List.not_mem_nil⟩⟩⟩⟩⟩⟩⟩⟩⟩⟩⟩⟩⟩
theorem pt_f1_19 : pt_Fp (1, 19, 1, 0, 0, false) := ⟨RX1, TX1, 4, tyX1, pt_C1, by decide, pm_in 188 (by decide +kernel) rfl, rfl, rfl⟩
theorem pt_f1_9 : pt_Fp (1, 9, 1, 1, 2, true) := ⟨RX1, TX1, 4, tyX1, pt_C1, by decide, pm_in 190 (by decide +kernel) rfl, rfl, rfl⟩
theorem pt_f1_13 : pt_Fp (1, 13, 1, 2, 2, true) := ⟨RX1, TX1, 4, tyX1, pt_C1, by decide, pm_in 191 (by decide +kernel) rfl, rfl, rfl⟩
theorem pt_f1_16 : pt_Fp (1, 16, 1, 3, 2, true) := ⟨RX1, TX1, 4, tyX1, pt_C1, by decide, pm_in 192 (by decide +kernel) rfl, rfl, rfl⟩
theorem pt_f1_34 : pt_Fp (1, 34, 4, 1, 2, true) := ⟨RX4, TX4, 12, tyX4, pt_C4, by decide, pm_in 215 (by decide +kernel) rfl, rfl, rfl⟩
theorem pt_f1_37 : pt_Fp (1, 37, 4, 2, 2, true) := ⟨RX4, TX4, 12, tyX4, pt_C4, by decide, pm_in 219 (by decide +kernel) rfl, rfl, rfl⟩
def pt_Fl1 : List (Nat × Nat × Nat × Nat × Nat × Bool) := [(1, 19, 1, 0, 0, false), (1, 9, 1, 1, 2, true), (1, 13, 1, 2, 2, true), (1, 16, 1, 3, 2, true), (1, 34, 4, 1, 2, true), (1, 37, 4, 2, 2, true)]
theorem pt_Fl1_ok : ∀ q ∈ pt_Fl1, pt_Fp q := List.forall_mem_cons.mpr ⟨pt_f1_19, List.forall_mem_cons.mpr ⟨pt_f1_9, List.forall_mem_cons.mpr ⟨pt_f1_13, List.forall_mem_cons.mpr ⟨pt_f1_16, List.forall_mem_cons.mpr ⟨pt_f1_34, List.forall_mem_cons.mpr ⟨pt_f1_37, fun _ h => absurd h List.not_mem_nil⟩⟩⟩⟩⟩⟩
theorem pt_f2_158 : pt_Fp (2, 158, 3, 0, 2, true) := ⟨RX3, TX3, 2, tyX3, pt_C3, by decide, pm_in 93 (by decide +kernel) rfl, rfl, rfl⟩
theorem pt_f2_55 : pt_Fp (2, 55, 3, 1, 0, false) := ⟨RX3, TX3, 2, tyX3, pt_C3, by decide, pm_in 96 (by decide +kernel) rfl, rfl, rfl⟩
theorem pt_f2_9 : pt_Fp (2, 9, 2, 0, 2, true) := ⟨RX2, TX2, 7, tyX2, pt_C2, by decide, pm_in 109 (by decide +kernel) rfl, rfl, rfl⟩
theorem pt_f2_20 : pt_Fp (2, 20, 2, 1, 0, false) := ⟨RX2, TX2, 7, tyX2, pt_C2, by decide, pm_in 110 (by decide +kernel) rfl, rfl, rfl⟩
theorem pt_f2_24 : pt_Fp (2, 24, 2, 2, 0, false) := ⟨RX2, TX2, 7, tyX2, pt_C2, by decide, pm_in 112 (by decide +kernel) rfl, rfl, rfl⟩
theorem pt_f2_151 : pt_Fp (2, 151, 2, 3, 0, false) := ⟨RX2, TX2, 7, tyX2, pt_C2, by decide, pm_in 114 (by decide +kernel) rfl, rfl, rfl⟩
theorem pt_f2_27 : pt_Fp (2, 27, 2, 4, 0, false) := ⟨RX2, TX2, 7, tyX2, pt_C2, by decide, pm_in 115 (by decide +kernel) rfl, rfl, rfl⟩
theorem pt_f2_33 : pt_Fp (2, 33, 2, 5, 0, false) := ⟨RX2, TX2, 7, tyX2, pt_C2, by decide, pm_in 116 (by decide +kernel) rfl, rfl, rfl⟩
theorem pt_f2_75 : pt_Fp (2, 75, 2, 6, 0, false) := ⟨RX2, TX2, 7, tyX2, pt_C2, by decide, pm_in 117 (by decide +kernel) rfl, rfl, rfl⟩
theorem pt_f2_78 : pt_Fp (2, 78, 4, 0, 0, false) := ⟨RX4, TX4, 12, tyX4, pt_C4, by decide, pm_in 213 (by decide +kernel) rfl, rfl, rfl⟩
theorem pt_f2_94 : pt_Fp (2, 94, 4, 1, 2, true) := ⟨RX4, TX4, 12, tyX4, pt_C4, by decide, pm_in 216 (by decide +kernel) rfl, rfl, rfl⟩
theorem pt_f2_100 : pt_Fp (2, 100, 4, 2, 2, true) := ⟨RX4, TX4, 12, tyX4, pt_C4, by decide, pm_in 220 (by decide +kernel) rfl, rfl, rfl⟩
def pt_Fl2 : List (Nat × Nat × Nat × Nat × Nat × Bool) := [(2, 158, 3, 0, 2, true), (2, 55, 3, 1, 0, false), (2, 9, 2, 0, 2, true), (2, 20, 2, 1, 0, false), (2, 24, 2, 2, 0, false), (2, 151, 2, 3, 0, false), (2, 27, 2, 4, 0, false), (2, 33, 2, 5, 0, false), (2, 75, 2, 6, 0, false), (2, 78, 4, 0, 0, false), (2, 94, 4, 1, 2, true), (2, 100, 4, 2, 2, true)]
theorem pt_Fl2_ok : ∀ q ∈ pt_Fl2, pt_Fp q := List.forall_mem_cons.mpr ⟨pt_f2_158, List.forall_mem_cons.mpr ⟨pt_f2_55, List.forall_mem_cons.mpr ⟨pt_f2_9, List.forall_mem_cons.mpr ⟨pt_f2_20, List.forall_mem_cons.mpr ⟨pt_f2_24, List.forall_mem_cons.mpr ⟨pt_f2_151, List.forall_mem_cons.mpr ⟨pt_f2_27, List.forall_mem_cons.mpr ⟨pt_f2_33, List.forall_mem_cons.mpr ⟨pt_f2_75, List.forall_mem_cons.mpr ⟨pt_f2_78, List.forall_mem_cons.mpr ⟨pt_f2_94, List.forall_mem_cons.mpr ⟨pt_f2_100, fun _ h => absurd h List.not_mem_nil⟩⟩⟩⟩⟩⟩⟩⟩⟩⟩⟩⟩
theorem pt_f3_9 : pt_Fp (3, 9, 3, 0, 2, true) := ⟨RX3, TX3, 2, tyX3, pt_C3, by decide, pm_in 92 (by decide +kernel) rfl, rfl, rfl⟩
theorem pt_f3_13 : pt_Fp (3, 13, 3, 1, 0, false) := ⟨RX3, TX3, 2, tyX3, pt_C3, by decide, pm_in 94 (by decide +kernel) rfl, rfl, rfl⟩
def pt_Fl3 : List (Nat × Nat × Nat × Nat × Nat × Bool) := [(3, 9, 3, 0, 2, true), (3, 13, 3, 1, 0, false)]
theorem pt_Fl3_ok : ∀ q ∈ pt_Fl3, pt_Fp q := List.forall_mem_cons.mpr ⟨pt_f3_9, List.forall_mem_cons.mpr ⟨pt_f3_13, fun _ h => absurd h List.not_mem_nil⟩⟩
theorem pt_f4_42 : pt_Fp (4, 42, 4, 0, 0, false) := ⟨RX4, TX4, 12, tyX4, pt_C4, by decide, pm_in 212 (by decide +kernel) rfl, rfl, rfl⟩
theorem pt_f4_9 : pt_Fp (4, 9, 4, 1, 2, true) := ⟨RX4, TX4, 12, tyX4, pt_C4, by decide, pm_in 214 (by decide +kernel) rfl, rfl, rfl⟩
theorem pt_f4_15 : pt_Fp (4, 15, 4, 2, 2, true) := ⟨RX4, TX4, 12, tyX4, pt_C4, by decide, pm_in 218 (by decide +kernel) rfl, rfl, rfl⟩
theorem pt_f4_46 : pt_Fp (4, 46, 4, 3, 0, false) := ⟨RX4, TX4, 12, tyX4, pt_C4, by decide, pm_in 222 (by decide +kernel) rfl, rfl, rfl⟩
theorem pt_f4_18 : pt_Fp (4, 18, 4, 4, 2, true) := ⟨RX4, TX4, 12, tyX4, pt_C4, by decide, pm_in 224 (by decide +kernel) rfl, rfl, rfl⟩
theorem pt_f4_21 : pt_Fp (4, 21, 4, 5, 2, true) := ⟨RX4, TX4, 12, tyX4, pt_C4, by decide, pm_in 226 (by decide +kernel) rfl, rfl, rfl⟩
theorem pt_f4_24 : pt_Fp (4, 24, 4, 6, 2, true) := ⟨RX4, TX4, 12, tyX4, pt_C4, by decide, pm_in 228 (by decide +kernel) rfl, rfl, rfl⟩
theorem pt_f4_49 : pt_Fp (4, 49, 4, 7, 0, false) := ⟨RX4, TX4, 12, tyX4, pt_C4, by decide, pm_in 230 (by decide +kernel) rfl, rfl, rfl⟩
theorem pt_f4_27 : pt_Fp (4, 27, 4, 8, 2, true) := ⟨RX4, TX4, 12, tyX4, pt_C4, by decide, pm_in 233 (by decide +kernel) rfl, rfl, rfl⟩
theorem pt_f4_30 : pt_Fp (4, 30, 4, 9, 2, true) := ⟨RX4, TX4, 12, tyX4, pt_C4, by decide, pm_in 235 (by decide +kernel) rfl, rfl, rfl⟩
theorem pt_f4_33 : pt_Fp (4, 33, 4, 10, 2, true) := ⟨RX4, TX4, 12, tyX4, pt_C4, by decide, pm_in 237 (by decide +kernel) rfl, rfl, rfl⟩
theorem pt_f4_36 : pt_Fp (4, 36, 4, 11, 2, true) := ⟨RX4, TX4, 12, tyX4, pt_C4, by decide, pm_in 239 (by decide +kernel) rfl, rfl, rfl⟩
def pt_Fl4 : List (Nat × Nat × Nat × Nat × Nat × Bool) := [(4, 42, 4, 0, 0, false), (4, 9, 4, 1, 2, true), (4, 15, 4, 2, 2, true), (4, 46, 4, 3, 0, false), (4, 18, 4, 4, 2, true), (4, 21, 4, 5, 2, true), (4, 24, 4, 6, 2, true), (4, 49, 4, 7, 0, false), (4, 27, 4, 8, 2, true), (4, 30, 4, 9, 2, true), (4, 33, 4, 10, 2, true), (4, 36, 4, 11, 2, true)]
theorem pt_Fl4_ok : ∀ q ∈ pt_Fl4, pt_Fp q := List.forall_mem_cons.mpr ⟨pt_f4_42, List.forall_mem_cons.mpr ⟨pt_f4_9, List.forall_mem_cons.mpr ⟨pt_f4_15, List.forall_mem_cons.mpr ⟨pt_f4_46, List.forall_mem_cons.mpr ⟨pt_f4_18, List.forall_mem_cons.mpr ⟨pt_f4_21, List.forall_mem_cons.mpr ⟨pt_f4_24, List.forall_mem_cons.mpr ⟨pt_f4_49, List.forall_mem_cons.mpr ⟨pt_f4_27, List.forall_mem_cons.mpr ⟨pt_f4_30, List.forall_mem_cons.mpr ⟨pt_f4_33, List.forall_mem_cons.mpr ⟨pt_f4_36, fun _ h => absurd h List.not_mem_nil⟩⟩⟩⟩⟩⟩⟩⟩⟩⟩⟩⟩
theorem pt_f5_61 : pt_Fp (5, 61, 3, 1, 0, false) := ⟨RX3, TX3, 2, tyX3, pt_C3, by decide, pm_in 95 (by decide +kernel) rfl, rfl, rfl⟩
theorem pt_f5_68 : pt_Fp (5, 68, 2, 1, 0, false) := ⟨RX2, TX2, 7, tyX2, pt_C2, by decide, pm_in 111 (by decide +kernel) rfl, rfl, rfl⟩
theorem pt_f5_69 : pt_Fp (5, 69, 2, 2, 0, false) := ⟨RX2, TX2, 7, tyX2, pt_C2, by decide, pm_in 113 (by decide +kernel) rfl, rfl, rfl⟩
theorem pt_f5_191 : pt_Fp (5, 191, 0, 0, 2, true) := ⟨RX0, TX0, 12, tyX0, pt_C0, by decide, pm_in 140 (by decide +kernel) rfl, rfl, rfl⟩
theorem pt_f5_185 : pt_Fp (5, 185, 0, 1, 0, false) := ⟨RX0, TX0, 12, tyX0, pt_C0, by decide, pm_in 142 (by decide +kernel) rfl, rfl, rfl⟩
theorem pt_f5_182 : pt_Fp (5, 182, 0, 2, 0, false) := ⟨RX0, TX0, 12, tyX0, pt_C0, by decide, pm_in 144 (by decide +kernel) rfl, rfl, rfl⟩
theorem pt_f5_188 : pt_Fp (5, 188, 0, 3, 0, false) := ⟨RX0, TX0, 12, tyX0, pt_C0, by decide, pm_in 146 (by decide +kernel) rfl, rfl, rfl⟩
theorem pt_f5_72 : pt_Fp (5, 72, 1, 0, 0, false) := ⟨RX1, TX1, 4, tyX1, pt_C1, by decide, pm_in 189 (by decide +kernel) rfl, rfl, rfl⟩
theorem pt_f5_109 : pt_Fp (5, 109, 4, 1, 2, true) := ⟨RX4, TX4, 12, tyX4, pt_C4, by decide, pm_in 217 (by decide +kernel) rfl, rfl, rfl⟩
theorem pt_f5_113 : pt_Fp (5, 113, 4, 2, 2, true) := ⟨RX4, TX4, 12, tyX4, pt_C4, by decide, pm_in 221 (by decide +kernel) rfl, rfl, rfl⟩
theorem pt_f5_75 : pt_Fp (5, 75, 4, 3, 0, false) := ⟨RX4, TX4, 12, tyX4, pt_C4, by decide, pm_in 223 (by decide +kernel) rfl, rfl, rfl⟩
theorem pt_f5_118 : pt_Fp (5, 118, 4, 4, 2, true) := ⟨RX4, TX4, 12, tyX4, pt_C4, by decide, pm_in 225 (by decide +kernel) rfl, rfl, rfl⟩
theorem pt_f5_121 : pt_Fp (5, 121, 4, 5, 2, true) := ⟨RX4, TX4, 12, tyX4, pt_C4, by decide, pm_in 227 (by decide +kernel) rfl, rfl, rfl⟩
theorem pt_f5_124 : pt_Fp (5, 124, 4, 6, 2, true) := ⟨RX4, TX4, 12, tyX4, pt_C4, by decide, pm_in 229 (by decide +kernel) rfl, rfl, rfl⟩
theorem pt_f5_78 : pt_Fp (5, 78, 4, 7, 0, false) := ⟨RX4, TX4, 12, tyX4, pt_C4, by decide, pm_in 232 (by decide +kernel) rfl, rfl, rfl⟩
theorem pt_f5_130 : pt_Fp (5, 130, 4, 8, 2, true) := ⟨RX4, TX4, 12, tyX4, pt_C4, by decide, pm_in 234 (by decide +kernel) rfl, rfl, rfl⟩
theorem pt_f5_133 : pt_Fp (5, 133, 4, 9, 2, true) := ⟨RX4, TX4, 12, tyX4, pt_C4, by decide, pm_in 236 (by decide +kernel) rfl, rfl, rfl⟩
theorem pt_f5_136 : pt_Fp (5, 136, 4, 10, 2, true) := ⟨RX4, TX4, 12, tyX4, pt_C4, by decide, pm_in 238 (by decide +kernel) rfl, rfl, rfl⟩
theorem pt_f5_139 : pt_Fp (5, 139, 4, 11, 2, true) := ⟨RX4, TX4, 12, tyX4, pt_C4, by decide, pm_in 240 (by decide +kernel) rfl, rfl, rfl⟩
theorem pt_f5_12 : pt_Fp (5, 12, 5, 0, 2, true) := ⟨RX5, TX5, 7, tyX5, pt_C5, by decide, pm_in 266 (by decide +kernel) rfl, rfl, rfl⟩
theorem pt_f5_21 : pt_Fp (5, 21, 5, 1, 2, true) := ⟨RX5, TX5, 7, tyX5, pt_C5, by decide, pm_in 267 (by decide +kernel) rfl, rfl, rfl⟩
theorem pt_f5_28 : pt_Fp (5, 28, 5, 2, 2, true) := ⟨RX5, TX5, 7, tyX5, pt_C5, by decide, pm_in 268 (by decide +kernel) rfl, rfl, rfl⟩
theorem pt_f5_35 : pt_Fp (5, 35, 5, 3, 2, true) := ⟨RX5, TX5, 7, tyX5, pt_C5, by decide, pm_in 269 (by decide +kernel) rfl, rfl, rfl⟩
theorem pt_f5_42 : pt_Fp (5, 42, 5, 4, 2, false) := ⟨RX5, TX5, 7, tyX5, pt_C5, by decide, pm_in 270 (by decide +kernel) rfl, rfl, rfl⟩
theorem pt_f5_46 : pt_Fp (5, 46, 5, 5, 2, false) := ⟨RX5, TX5, 7, tyX5, pt_C5, by decide, pm_in 271 (by decide +kernel) rfl, rfl, rfl⟩
theorem pt_f5_49 : pt_Fp (5, 49, 5, 6, 0, false) := ⟨RX5, TX5, 7, tyX5, pt_C5, by decide, pm_in 272 (by decide +kernel) rfl, rfl, rfl⟩
def pt_Fl5 : List (Nat × Nat × Nat × Nat × Nat × Bool) := [(5, 61, 3, 1, 0, false), (5, 68, 2, 1, 0, false), (5, 69, 2, 2, 0, false), (5, 191, 0, 0, 2, true), (5, 185, 0, 1, 0, false), (5, 182, 0, 2, 0, false), (5, 188, 0, 3, 0, false), (5, 72, 1, 0, 0, false), (5, 109, 4, 1, 2, true), (5, 113, 4, 2, 2, true), (5, 75, 4, 3, 0, false), (5, 118, 4, 4, 2, true), (5, 121, 4, 5, 2, true), (5, 124, 4, 6, 2, true), (5, 78, 4, 7, 0, false), (5, 130, 4, 8, 2, true), (5, 133, 4, 9, 2, true), (5, 136, 4, 10, 2, true), (5, 139, 4, 11, 2, true), (5, 12, 5, 0, 2, true), (5, 21, 5, 1, 2, true), (5, 28, 5, 2, 2, true), (5, 35, 5, 3, 2, true), (5, 42, 5, 4, 2, false), (5, 46, 5, 5, 2, false), (5, 49, 5, 6, 0, false)]
theorem pt_Fl5_ok : ∀ q ∈ pt_Fl5, pt_Fp q := List.forall_mem_cons.mpr ⟨pt_f5_61, List.forall_mem_cons.mpr ⟨pt_f5_68, List.forall_mem_cons.mpr ⟨pt_f5_69, List.forall_mem_cons.mpr ⟨pt_f5_191, List.forall_mem_cons.mpr ⟨pt_f5_185, List.forall_mem_cons.mpr ⟨pt_f5_182, List.forall_mem_cons.mpr ⟨pt_f5_188, List.forall_mem_cons.mpr ⟨pt_f5_72, List.forall_mem_cons.mpr ⟨pt_f5_109, List.forall_mem_cons.mpr ⟨pt_f5_113, List.forall_mem_cons.mpr ⟨pt_f5_75, List.forall_mem_cons.mpr ⟨pt_f5_118, List.forall_mem_cons.mpr ⟨pt_f5_121, List.forall_mem_cons.mpr ⟨pt_f5_124, List.forall_mem_cons.mpr ⟨pt_f5_78, List.forall_mem_cons.mpr ⟨pt_f5_130, List.forall_mem_cons.mpr ⟨pt_f5_133, List.forall_mem_cons.mpr ⟨pt_f5_136, List.forall_mem_cons.mpr ⟨pt_f5_139, List.forall_mem_cons.mpr ⟨pt_f5_12, List.forall_mem_cons.mpr ⟨pt_f5_21, List.forall_mem_cons.mpr ⟨pt_f5_28, List.forall_mem_cons.mpr ⟨pt_f5_35, List.forall_mem_cons.mpr ⟨pt_f5_42, List.forall_mem_cons.mpr ⟨pt_f5_46, List.forall_mem_cons.mpr ⟨pt_f5_49, fun _ h => absurd h List.not_mem_nil⟩⟩⟩⟩⟩⟩⟩⟩⟩⟩⟩⟩⟩⟩⟩⟩⟩⟩⟩⟩⟩⟩⟩⟩⟩⟩
theorem pt_f6_1 : pt_Fp (6, 1, 6, 0, 0, false) := ⟨RX6, TX6, 23, tyX6, pt_C6, by decide, pm_in 848 (by decide +kernel) rfl, rfl, rfl⟩
theorem pt_f6_7 : pt_Fp (6, 7, 6, 1, 2, true) := ⟨RX6, TX6, 23, tyX6, pt_C6, by decide, pm_in 849 (by decide +kernel) rfl, rfl, rfl⟩
theorem pt_f6_11 : pt_Fp (6, 11, 6, 2, 0, false) := ⟨RX6, TX6, 23, tyX6, pt_C6, by decide, pm_in 850 (by decide +kernel) rfl, rfl, rfl⟩
theorem pt_f6_18 : pt_Fp (6, 18, 6, 3, 0, false) := ⟨RX6, TX6, 23, tyX6, pt_C6, by decide, pm_in 851 (by decide +kernel) rfl, rfl, rfl⟩
theorem pt_f6_21 : pt_Fp (6, 21, 6, 4, 0, false) := ⟨RX6, TX6, 23, tyX6, pt_C6, by decide, pm_in 852 (by decide +kernel) rfl, rfl, rfl⟩
theorem pt_f6_24 : pt_Fp (6, 24, 6, 5, 0, false) := ⟨RX6, TX6, 23, tyX6, pt_C6, by decide, pm_in 853 (by decide +kernel) rfl, rfl, rfl⟩
theorem pt_f6_27 : pt_Fp (6, 27, 6, 6, 0, false) := ⟨RX6, TX6, 23, tyX6, pt_C6, by decide, pm_in 854 (by decide +kernel) rfl, rfl, rfl⟩
theorem pt_f6_41 : pt_Fp (6, 41, 6, 7, 0, false) := ⟨RX6, TX6, 23, tyX6, pt_C6, by decide, pm_in 855 (by decide +kernel) rfl, rfl, rfl⟩
theorem pt_f6_72 : pt_Fp (6, 72, 6, 8, 0, false) := ⟨RX6, TX6, 23, tyX6, pt_C6, by decide, pm_in 856 (by decide +kernel) rfl, rfl, rfl⟩
theorem pt_f6_75 : pt_Fp (6, 75, 6, 9, 0, false) := ⟨RX6, TX6, 23, tyX6, pt_C6, by decide, pm_in 857 (by decide +kernel) rfl, rfl, rfl⟩
theorem pt_f6_37 : pt_Fp (6, 37, 6, 10, 1, false) := ⟨RX6, TX6, 23, tyX6, pt_C6, by decide, pm_in 858 (by decide +kernel) rfl, rfl, rfl⟩
theorem pt_f6_84 : pt_Fp (6, 84, 6, 11, 2, true) := ⟨RX6, TX6, 23, tyX6, pt_C6, by decide, pm_in 859 (by decide +kernel) rfl, rfl, rfl⟩
theorem pt_f6_87 : pt_Fp (6, 87, 6, 12, 2, true) := ⟨RX6, TX6, 23, tyX6, pt_C6, by decide, pm_in 860 (by decide +kernel) rfl, rfl, rfl⟩
theorem pt_f6_90 : pt_Fp (6, 90, 6, 13, 2, true) := ⟨RX6, TX6, 23, tyX6, pt_C6, by decide, pm_in 861 (by decide +kernel) rfl, rfl, rfl⟩
theorem pt_f6_172 : pt_Fp (6, 172, 6, 14, 0, false) := ⟨RX6, TX6, 23, tyX6, pt_C6, by decide, pm_in 862 (by decide +kernel) rfl, rfl, rfl⟩
theorem pt_f6_93 : pt_Fp (6, 93, 6, 15, 2, true) := ⟨RX6, TX6, 23, tyX6, pt_C6, by decide, pm_in 863 (by decide +kernel) rfl, rfl, rfl⟩
theorem pt_f6_97 : pt_Fp (6, 97, 6, 16, 2, true) := ⟨RX6, TX6, 23, tyX6, pt_C6, by decide, pm_in 864 (by decide +kernel) rfl, rfl, rfl⟩
theorem pt_f6_100 : pt_Fp (6, 100, 6, 17, 2, true) := ⟨RX6, TX6, 23, tyX6, pt_C6, by decide, pm_in 865 (by decide +kernel) rfl, rfl, rfl⟩
theorem pt_f6_230 : pt_Fp (6, 230, 6, 18, 0, false) := ⟨RX6, TX6, 23, tyX6, pt_C6, by decide, pm_in 866 (by decide +kernel) rfl, rfl, rfl⟩
theorem pt_f6_242 : pt_Fp (6, 242, 6, 19, 0, false) := ⟨RX6, TX6, 23, tyX6, pt_C6, by decide, pm_in 867 (by decide +kernel) rfl, rfl, rfl⟩
theorem pt_f6_245 : pt_Fp (6, 245, 6, 20, 0, false) := ⟨RX6, TX6, 23, tyX6, pt_C6, by decide, pm_in 868 (by decide +kernel) rfl, rfl, rfl⟩
theorem pt_f6_236 : pt_Fp (6, 236, 6, 21, 1, false) := ⟨RX6, TX6, 23, tyX6, pt_C6, by decide, pm_in 869 (by decide +kernel) rfl, rfl, rfl⟩
theorem pt_f6_239 : pt_Fp (6, 239, 6, 22, 1, false) := ⟨RX6, TX6, 23, tyX6, pt_C6, by decide, pm_in 870 (by decide +kernel) rfl, rfl, rfl⟩
def pt_Fl6 : List (Nat × Nat × Nat × Nat × Nat × Bool) := [(6, 1, 6, 0, 0, false), (6, 7, 6, 1, 2, true), (6, 11, 6, 2, 0, false), (6, 18, 6, 3, 0, false), (6, 21, 6, 4, 0, false), (6, 24, 6, 5, 0, false), (6, 27, 6, 6, 0, false), (6, 41, 6, 7, 0, false), (6, 72, 6, 8, 0, false), (6, 75, 6, 9, 0, false), (6, 37, 6, 10, 1, false), (6, 84, 6, 11, 2, true), (6, 87, 6, 12, 2, true), (6, 90, 6, 13, 2, true), (6, 172, 6, 14, 0, false), (6, 93, 6, 15, 2, true), (6, 97, 6, 16, 2, true), (6, 100, 6, 17, 2, true), (6, 230, 6, 18, 0, false), (6, 242, 6, 19, 0, false), (6, 245, 6, 20, 0, false), (6, 236, 6, 21, 1, false), (6, 239, 6, 22, 1, false)]
theorem pt_Fl6_ok : ∀ q ∈ pt_Fl6, pt_Fp q := List.forall_mem_cons.mpr ⟨pt_f6_1, List.forall_mem_cons.mpr ⟨pt_f6_7, List.forall_mem_cons.mpr ⟨pt_f6_11, List.forall_mem_cons.mpr ⟨pt_f6_18, List.forall_mem_cons.mpr ⟨pt_f6_21, List.forall_mem_cons.mpr ⟨pt_f6_24, List.forall_mem_cons.mpr ⟨pt_f6_27, List.forall_mem_cons.mpr ⟨pt_f6_41, List.forall_mem_cons.mpr ⟨pt_f6_72, List.forall_mem_cons.mpr ⟨pt_f6_75, List.forall_mem_cons.mpr ⟨pt_f6_37, List.forall_mem_cons.mpr ⟨pt_f6_84, List.forall_mem_cons.mpr ⟨pt_f6_87, List.forall_mem_cons.mpr ⟨pt_f6_90, List.forall_mem_cons.mpr ⟨pt_f6_172, List.forall_mem_cons.mpr ⟨pt_f6_93, List.forall_mem_cons.mpr ⟨pt_f6_97, List.forall_mem_cons.mpr ⟨pt_f6_100, List.forall_mem_cons.mpr ⟨pt_f6_230, List.forall_mem_cons.mpr ⟨pt_f6_242, List.forall_mem_cons.mpr ⟨pt_f6_245, List.forall_mem_cons.mpr ⟨pt_f6_236, List.forall_mem_cons.mpr ⟨pt_f6_239, fun _ h => absurd h List.not_mem_nil⟩⟩⟩⟩⟩⟩⟩⟩⟩⟩⟩⟩⟩⟩⟩⟩⟩⟩⟩⟩⟩⟩⟩
def pt_Fl : List (Nat × Nat × Nat × Nat × Nat × Bool) := pt_Fl0 ++ (pt_Fl1 ++ (pt_Fl2 ++ (pt_Fl3 ++ (pt_Fl4 ++ (pt_Fl5 ++ pt_Fl6)))))
theorem pt_Fl_ok : ∀ q ∈ pt_Fl, pt_Fp q := List.forall_mem_append.mpr ⟨pt_Fl0_ok, List.forall_mem_append.mpr ⟨pt_Fl1_ok, List.forall_mem_append.mpr ⟨pt_Fl2_ok, List.forall_mem_append.mpr ⟨pt_Fl3_ok, List.forall_mem_append.mpr ⟨pt_Fl4_ok, List.forall_mem_append.mpr ⟨pt_Fl5_ok, pt_Fl6_ok⟩⟩⟩⟩⟩⟩
def pt_F (o ix : Nat) : Option (Nat × Nat × Nat × Bool) := (pt_Fl.find? (fun q => q.1 == o && q.2.1 == ix)).map (fun q => q.2.2)
theorem pt_F_ok {o ix : Nat} {q : Nat × Nat × Nat × Bool} (h : pt_F o ix = some q) : pt_Fp (o, ix, q) := by
  unfold pt_F at h
  cases hf : pt_Fl.find? (fun q => q.1 == o && q.2.1 == ix) with
  | none => rw [hf] at h; cases h
  | some z =>
    rw [hf] at h
    cases h
    have h1 := List.find?_some hf
    have h2 := pt_Fl_ok z (List.mem_of_find?_eq_some hf)
    obtain ⟨a, b, c⟩ := z
    simp only [Bool.and_eq_true, beq_iff_eq] at h1
    obtain ⟨rfl, rfl⟩ := h1
    exact h2
theorem pt_F_0_9 : pt_F 0 9 = some (0, 0, 2, true) := rfl
theorem pt_F_0_15 : pt_F 0 15 = some (0, 4, 2, true) := rfl
theorem pt_F_0_19 : pt_F 0 19 = some (0, 5, 2, true) := rfl
theorem pt_F_0_22 : pt_F 0 22 = some (0, 6, 2, true) := rfl
theorem pt_F_0_25 : pt_F 0 25 = some (0, 7, 2, true) := rfl
theorem pt_F_0_42 : pt_F 0 42 = some (0, 9, 0, false) := rfl
theorem pt_F_0_49 : pt_F 0 49 = some (0, 10, 1, false) := rfl
theorem pt_F_0_53 : pt_F 0 53 = some (0, 8, 0, false) := rfl
theorem pt_F_0_56 : pt_F 0 56 = some (4, 7, 0, false) := rfl
theorem pt_F_0_74 : pt_F 0 74 = some (0, 11, 1, false) := rfl
theorem pt_F_0_77 : pt_F 0 77 = some (0, 1, 0, false) := rfl
theorem pt_F_0_83 : pt_F 0 83 = some (0, 2, 0, false) := rfl
theorem pt_F_0_98 : pt_F 0 98 = some (0, 3, 0, false) := rfl
theorem pt_F_1_9 : pt_F 1 9 = some (1, 1, 2, true) := rfl
theorem pt_F_1_13 : pt_F 1 13 = some (1, 2, 2, true) := rfl
theorem pt_F_1_16 : pt_F 1 16 = some (1, 3, 2, true) := rfl
theorem pt_F_1_19 : pt_F 1 19 = some (1, 0, 0, false) := rfl
theorem pt_F_1_34 : pt_F 1 34 = some (4, 1, 2, true) := rfl
theorem pt_F_1_37 : pt_F 1 37 = some (4, 2, 2, true) := rfl
theorem pt_F_2_9 : pt_F 2 9 = some (2, 0, 2, true) := rfl
theorem pt_F_2_20 : pt_F 2 20 = some (2, 1, 0, false) := rfl
theorem pt_F_2_24 : pt_F 2 24 = some (2, 2, 0, false) := rfl
theorem pt_F_2_27 : pt_F 2 27 = some (2, 4, 0, false) := rfl
theorem pt_F_2_33 : pt_F 2 33 = some (2, 5, 0, false) := rfl
theorem pt_F_2_55 : pt_F 2 55 = some (3, 1, 0, false) := rfl
theorem pt_F_2_75 : pt_F 2 75 = some (2, 6, 0, false) := rfl
theorem pt_F_2_78 : pt_F 2 78 = some (4, 0, 0, false) := rfl
theorem pt_F_2_94 : pt_F 2 94 = some (4, 1, 2, true) := rfl
theorem pt_F_2_100 : pt_F 2 100 = some (4, 2, 2, true) := rfl
theorem pt_F_2_151 : pt_F 2 151 = some (2, 3, 0, false) := rfl
theorem pt_F_2_158 : pt_F 2 158 = some (3, 0, 2, true) := rfl
theorem pt_F_3_9 : pt_F 3 9 = some (3, 0, 2, true) := rfl
theorem pt_F_3_13 : pt_F 3 13 = some (3, 1, 0, false) := rfl
theorem pt_F_4_9 : pt_F 4 9 = some (4, 1, 2, true) := rfl
theorem pt_F_4_15 : pt_F 4 15 = some (4, 2, 2, true) := rfl
theorem pt_F_4_18 : pt_F 4 18 = some (4, 4, 2, true) := rfl
theorem pt_F_4_21 : pt_F 4 21 = some (4, 5, 2, true) := rfl
theorem pt_F_4_24 : pt_F 4 24 = some (4, 6, 2, true) := rfl
theorem pt_F_4_27 : pt_F 4 27 = some (4, 8, 2, true) := rfl
theorem pt_F_4_30 : pt_F 4 30 = some (4, 9, 2, true) := rfl
theorem pt_F_4_33 : pt_F 4 33 = some (4, 10, 2, true) := rfl
theorem pt_F_4_36 : pt_F 4 36 = some (4, 11, 2, true) := rfl
theorem pt_F_4_42 : pt_F 4 42 = some (4, 0, 0, false) := rfl
theorem pt_F_4_46 : pt_F 4 46 = some (4, 3, 0, false) := rfl
theorem pt_F_4_49 : pt_F 4 49 = some (4, 7, 0, false) := rfl
theorem pt_F_5_12 : pt_F 5 12 = some (5, 0, 2, true) := rfl
theorem pt_F_5_21 : pt_F 5 21 = some (5, 1, 2, true) := rfl
theorem pt_F_5_28 : pt_F 5 28 = some (5, 2, 2, true) := rfl
theorem pt_F_5_35 : pt_F 5 35 = some (5, 3, 2, true) := rfl
theorem pt_F_5_42 : pt_F 5 42 = some (5, 4, 2, false) := rfl
theorem pt_F_5_46 : pt_F 5 46 = some (5, 5, 2, false) := rfl
theorem pt_F_5_49 : pt_F 5 49 = some (5, 6, 0, false) := rfl
theorem pt_F_5_61 : pt_F 5 61 = some (3, 1, 0, false) := rfl
theorem pt_F_5_68 : pt_F 5 68 = some (2, 1, 0, false) := rfl
theorem pt_F_5_69 : pt_F 5 69 = some (2, 2, 0, false) := rfl
theorem pt_F_5_72 : pt_F 5 72 = some (1, 0, 0, false) := rfl
theorem pt_F_5_75 : pt_F 5 75 = some (4, 3, 0, false) := rfl
theorem pt_F_5_78 : pt_F 5 78 = some (4, 7, 0, false) := rfl
theorem pt_F_5_109 : pt_F 5 109 = some (4, 1, 2, true) := rfl
theorem pt_F_5_113 : pt_F 5 113 = some (4, 2, 2, true) := rfl
theorem pt_F_5_118 : pt_F 5 118 = some (4, 4, 2, true) := rfl
theorem pt_F_5_121 : pt_F 5 121 = some (4, 5, 2, true) := rfl
theorem pt_F_5_124 : pt_F 5 124 = some (4, 6, 2, true) := rfl
theorem pt_F_5_130 : pt_F 5 130 = some (4, 8, 2, true) := rfl
theorem pt_F_5_133 : pt_F 5 133 = some (4, 9, 2, true) := rfl
theorem pt_F_5_136 : pt_F 5 136 = some (4, 10, 2, true) := rfl
theorem pt_F_5_139 : pt_F 5 139 = some (4, 11, 2, true) := rfl
theorem pt_F_5_182 : pt_F 5 182 = some (0, 2, 0, false) := rfl
theorem pt_F_5_185 : pt_F 5 185 = some (0, 1, 0, false) := rfl
theorem pt_F_5_188 : pt_F 5 188 = some (0, 3, 0, false) := rfl
theorem pt_F_5_191 : pt_F 5 191 = some (0, 0, 2, true) := rfl
theorem pt_F_6_1 : pt_F 6 1 = some (6, 0, 0, false) := rfl
theorem pt_F_6_7 : pt_F 6 7 = some (6, 1, 2, true) := rfl
theorem pt_F_6_11 : pt_F 6 11 = some (6, 2, 0, false) := rfl
theorem pt_F_6_18 : pt_F 6 18 = some (6, 3, 0, false) := rfl
theorem pt_F_6_21 : pt_F 6 21 = some (6, 4, 0, false) := rfl
theorem pt_F_6_24 : pt_F 6 24 = some (6, 5, 0, false) := rfl
theorem pt_F_6_27 : pt_F 6 27 = some (6, 6, 0, false) := rfl
theorem pt_F_6_37 : pt_F 6 37 = some (6, 10, 1, false) := rfl
theorem pt_F_6_41 : pt_F 6 41 = some (6, 7, 0, false) := rfl
theorem pt_F_6_72 : pt_F 6 72 = some (6, 8, 0, false) := rfl
theorem pt_F_6_75 : pt_F 6 75 = some (6, 9, 0, false) := rfl
theorem pt_F_6_84 : pt_F 6 84 = some (6, 11, 2, true) := rfl
theorem pt_F_6_87 : pt_F 6 87 = some (6, 12, 2, true) := rfl
theorem pt_F_6_90 : pt_F 6 90 = some (6, 13, 2, true) := rfl
theorem pt_F_6_93 : pt_F 6 93 = some (6, 15, 2, true) := rfl
theorem pt_F_6_97 : pt_F 6 97 = some (6, 16, 2, true) := rfl
theorem pt_F_6_100 : pt_F 6 100 = some (6, 17, 2, true) := rfl
theorem pt_F_6_172 : pt_F 6 172 = some (6, 14, 0, false) := rfl
theorem pt_F_6_230 : pt_F 6 230 = some (6, 18, 0, false) := rfl
theorem pt_F_6_236 : pt_F 6 236 = some (6, 21, 1, false) := rfl
theorem pt_F_6_239 : pt_F 6 239 = some (6, 22, 1, false) := rfl
theorem pt_F_6_242 : pt_F 6 242 = some (6, 19, 0, false) := rfl
theorem pt_F_6_245 : pt_F 6 245 = some (6, 20, 0, false) := rfl
def pt_Kp (q : Nat × Nat × Value) : Prop := match q.2.2 with
  | .int v => Cond.constant (pt_cn q.1) q.2.1 v ∈ pm_tb
  | .long v => Cond.constantLong (pt_cn q.1) q.2.1 v ∈ pm_tb
  | _ => False
theorem pt_k2_70 : pt_Kp (2, 70, .int (99999)) := pm_in 389 (by decide +kernel) rfl
theorem pt_k4_65 : pt_Kp (4, 65, .int (99999)) := pm_in 450 (by decide +kernel) rfl
theorem pt_k5_245 : pt_Kp (5, 245, .int (99999)) := pm_in 477 (by decide +kernel) rfl
theorem pt_k5_244 : pt_Kp (5, 244, .int (-99999)) := pm_in 558 (by decide +kernel) rfl
theorem pt_k5_194 : pt_Kp (5, 194, .int (-1000000000)) := pm_in 559 (by decide +kernel) rfl
theorem pt_k5_255 : pt_Kp (5, 255, .int (99900)) := pm_in 813 (by decide +kernel) rfl
theorem pt_k6_117 : pt_Kp (6, 117, .int (99999)) := pm_in 964 (by decide +kernel) rfl
theorem pt_k6_266 : pt_Kp (6, 266, .int (-1000000000)) := pm_in 1147 (by decide +kernel) rfl
theorem pt_k6_283 : pt_Kp (6, 283, .int (-99999)) := pm_in 1195 (by decide +kernel) rfl
theorem pt_k4_98 : pt_Kp (4, 98, .long (360)) := pm_in 692 (by decide +kernel) rfl
theorem pt_k4_82 : pt_Kp (4, 82, .long (-1000000000)) := pm_in 697 (by decide +kernel) rfl
theorem pt_k0_90 : pt_Kp (0, 90, .long (1000)) := pm_in 756 (by decide +kernel) rfl
theorem pt_k6_48 : pt_Kp (6, 48, .long (27)) := pm_in 936 (by decide +kernel) rfl
theorem pt_k6_50 : pt_Kp (6, 50, .long (96)) := pm_in 937 (by decide +kernel) rfl
theorem pt_k6_52 : pt_Kp (6, 52, .long (19683)) := pm_in 952 (by decide +kernel) rfl
theorem pt_k6_121 : pt_Kp (6, 121, .long (18)) := pm_in 973 (by decide +kernel) rfl
theorem pt_k6_58 : pt_Kp (6, 58, .long (729)) := pm_in 988 (by decide +kernel) rfl
theorem pt_k6_215 : pt_Kp (6, 215, .long (360)) := pm_in 1097 (by decide +kernel) rfl
theorem pt_k6_251 : pt_Kp (6, 251, .long (1000)) := pm_in 1137 (by decide +kernel) rfl
theorem pt_k6_253 : pt_Kp (6, 253, .long (90)) := pm_in 1138 (by decide +kernel) rfl
def pt_Kl : List (Nat × Nat × Value) := [(2, 70, .int (99999)), (4, 65, .int (99999)), (5, 245, .int (99999)), (5, 244, .int (-99999)), (5, 194, .int (-1000000000)), (5, 255, .int (99900)), (6, 117, .int (99999)), (6, 266, .int (-1000000000)), (6, 283, .int (-99999)), (4, 98, .long (360)), (4, 82, .long (-1000000000)), (0, 90, .long (1000)), (6, 48, .long (27)), (6, 50, .long (96)), (6, 52, .long (19683)), (6, 121, .long (18)), (6, 58, .long (729)), (6, 215, .long (360)), (6, 251, .long (1000)), (6, 253, .long (90))]
theorem pt_Kl_ok : ∀ q ∈ pt_Kl, pt_Kp q := List.forall_mem_cons.mpr ⟨pt_k2_70, List.forall_mem_cons.mpr ⟨pt_k4_65, List.forall_mem_cons.mpr ⟨pt_k5_245, List.forall_mem_cons.mpr ⟨pt_k5_244, List.forall_mem_cons.mpr ⟨pt_k5_194, List.forall_mem_cons.mpr ⟨pt_k5_255, List.forall_mem_cons.mpr ⟨pt_k6_117, List.forall_mem_cons.mpr ⟨pt_k6_266, List.forall_mem_cons.mpr ⟨pt_k6_283, List.forall_mem_cons.mpr ⟨pt_k4_98, List.forall_mem_cons.mpr ⟨pt_k4_82, List.forall_mem_cons.mpr ⟨pt_k0_90, List.forall_mem_cons.mpr ⟨pt_k6_48, List.forall_mem_cons.mpr ⟨pt_k6_50, List.forall_mem_cons.mpr ⟨pt_k6_52, List.forall_mem_cons.mpr ⟨pt_k6_121, List.forall_mem_cons.mpr ⟨pt_k6_58, List.forall_mem_cons.mpr ⟨pt_k6_215, List.forall_mem_cons.mpr ⟨pt_k6_251, List.forall_mem_cons.mpr ⟨pt_k6_253, fun _ h => absurd h List.not_mem_nil⟩⟩⟩⟩⟩⟩⟩⟩⟩⟩⟩⟩⟩⟩⟩⟩⟩⟩⟩⟩
def pt_sx : List (Nat × String) := [(64, "shares"), (85, "quarter"), (90, "loss"), (92, "profit"), (98, "price"), (103, "issue"), (108, "buy"), (110, "split"), (112, "option"), (117, "bond"), (119, "earn")]
def pt_sn : List Nat := [6, 7, 4, 6, 5, 5, 3, 5, 6, 4, 4]
def pt_sb : List (List Int32) := [[115, 104, 97, 114, 101, 115], [113, 117, 97, 114, 116, 101, 114], [108, 111, 115, 115], [112, 114, 111, 102, 105, 116], [112, 114, 105, 99, 101], [105, 115, 115, 117, 101], [98, 117, 121], [115, 112, 108, 105, 116], [111, 112, 116, 105, 111, 110], [98, 111, 110, 100], [101, 97, 114, 110]]
def pt_K (o ix : Nat) : Option Value := match pt_Kl.find? (fun q => q.1 == o && q.2.1 == ix) with
  | some q => some q.2.2
  | none => if o = 2 then (pt_sx.findIdx? (fun q => q.1 == ix)).map (fun j => .ref (1000 + j)) else none
theorem pt_K_ok {o ix : Nat} {v : Value} (h : pt_K o ix = some v) : pt_Kp (o, ix, v) ∨ (o = 2 ∧ ∃ j, j < pt_sx.length ∧ (pt_sx.getD j (0, "")).1 = ix ∧ v = .ref (1000 + j)) := by
  unfold pt_K at h
  split at h
  · rename_i z hf
    cases h
    have h1 := List.find?_some hf
    have h2 := pt_Kl_ok z (List.mem_of_find?_eq_some hf)
    obtain ⟨a, b, c⟩ := z
    simp only [Bool.and_eq_true, beq_iff_eq] at h1
    obtain ⟨rfl, rfl⟩ := h1
    exact Or.inl h2
  · split at h
    · rename_i ho
      cases hj : pt_sx.findIdx? (fun q => q.1 == ix) with
      | none => rw [hj] at h; cases h
      | some j =>
        rw [hj] at h
        cases h
        obtain ⟨h1, h2, -⟩ := List.findIdx?_eq_some_iff_getElem.mp hj
        refine Or.inr ⟨ho, j, h1, ?_, rfl⟩
        rw [List.getD_eq_getElem?_getD, List.getElem?_eq_getElem h1]
        exact beq_iff_eq.mp h2
    · cases h
theorem pt_K_0_90 : pt_K 0 90 = some (.long (1000)) := rfl
theorem pt_K_2_70 : pt_K 2 70 = some (.int (99999)) := rfl
theorem pt_K_4_65 : pt_K 4 65 = some (.int (99999)) := rfl
theorem pt_K_4_82 : pt_K 4 82 = some (.long (-1000000000)) := rfl
theorem pt_K_4_98 : pt_K 4 98 = some (.long (360)) := rfl
theorem pt_K_5_194 : pt_K 5 194 = some (.int (-1000000000)) := rfl
theorem pt_K_5_244 : pt_K 5 244 = some (.int (-99999)) := rfl
theorem pt_K_5_245 : pt_K 5 245 = some (.int (99999)) := rfl
theorem pt_K_5_255 : pt_K 5 255 = some (.int (99900)) := rfl
theorem pt_K_6_48 : pt_K 6 48 = some (.long (27)) := rfl
theorem pt_K_6_50 : pt_K 6 50 = some (.long (96)) := rfl
theorem pt_K_6_52 : pt_K 6 52 = some (.long (19683)) := rfl
theorem pt_K_6_58 : pt_K 6 58 = some (.long (729)) := rfl
theorem pt_K_6_117 : pt_K 6 117 = some (.int (99999)) := rfl
theorem pt_K_6_121 : pt_K 6 121 = some (.long (18)) := rfl
theorem pt_K_6_215 : pt_K 6 215 = some (.long (360)) := rfl
theorem pt_K_6_251 : pt_K 6 251 = some (.long (1000)) := rfl
theorem pt_K_6_253 : pt_K 6 253 = some (.long (90)) := rfl
theorem pt_K_6_266 : pt_K 6 266 = some (.int (-1000000000)) := rfl
theorem pt_K_6_283 : pt_K 6 283 = some (.int (-99999)) := rfl
theorem pt_K_2_64 : pt_K 2 64 = some (.ref 1000) := rfl
theorem pt_K_2_85 : pt_K 2 85 = some (.ref 1001) := rfl
theorem pt_K_2_90 : pt_K 2 90 = some (.ref 1002) := rfl
theorem pt_K_2_92 : pt_K 2 92 = some (.ref 1003) := rfl
theorem pt_K_2_98 : pt_K 2 98 = some (.ref 1004) := rfl
theorem pt_K_2_103 : pt_K 2 103 = some (.ref 1005) := rfl
theorem pt_K_2_108 : pt_K 2 108 = some (.ref 1006) := rfl
theorem pt_K_2_110 : pt_K 2 110 = some (.ref 1007) := rfl
theorem pt_K_2_112 : pt_K 2 112 = some (.ref 1008) := rfl
theorem pt_K_2_117 : pt_K 2 117 = some (.ref 1009) := rfl
theorem pt_K_2_119 : pt_K 2 119 = some (.ref 1010) := rfl
def pt_Nl : List (Nat × Nat × Nat × Nat) := [(2, 141, 2, 58), (2, 144, 2, 59)]
def pt_Mp (q : Nat × Nat × Nat × Nat) : Prop := match q.2.2.1 with
  | 0 => Cond.methodLink (pt_cn q.1) q.2.1 (pt_y q.2.2.2) ∈ pm_tb ∧ Cond.instanceMethod (pt_y q.2.2.2) ∈ pm_tb ∧ Cond.selects (pt_y q.2.2.2).cls (pt_y q.2.2.2) (pt_y q.2.2.2) ∈ pm_tb ∧ pt_Yp q.2.2.2 ∧ ∃ (C : String) (T : u_T) (N : Nat), vwCl[pt_o q.2.2.2]? = some (C, T, N) ∧ C = (pt_y q.2.2.2).cls
  | 1 => Cond.methodLink (pt_cn q.1) q.2.1 (pt_y q.2.2.2) ∈ pm_tb ∧ Cond.static (pt_y q.2.2.2) ∈ pm_tb ∧ pt_Yp q.2.2.2
  | 2 => Cond.static (pt_y q.2.2.2) ∈ pm_tb ∧ pt_Yp q.2.2.2 ∧ q ∈ pt_Nl
  | 3 => q = (2, 154, 3, 900)
  | _ => q = (2, 162, 4, 901)
theorem pt_m0_28 : pt_Mp (0, 28, 0, 1) := ⟨pm_in 727 (by decide +kernel) rfl, pm_in 728 (by decide +kernel) rfl, pm_in 729 (by decide +kernel) rfl, pt_Y1, RX0, TX0, 12, rfl, rfl⟩
theorem pt_m0_46 : pt_Mp (0, 46, 0, 46) := ⟨pm_in 731 (by decide +kernel) rfl, pm_in 669 (by decide +kernel) rfl, pm_in 670 (by decide +kernel) rfl, pt_Y46, RX4, TX4, 12, rfl, rfl⟩
theorem pt_m0_59 : pt_Mp (0, 59, 0, 52) := ⟨pm_in 732 (by decide +kernel) rfl, pm_in 703 (by decide +kernel) rfl, pm_in 704 (by decide +kernel) rfl, pt_Y52, RX4, TX4, 12, rfl, rfl⟩
theorem pt_m0_63 : pt_Mp (0, 63, 0, 48) := ⟨pm_in 733 (by decide +kernel) rfl, pm_in 685 (by decide +kernel) rfl, pm_in 686 (by decide +kernel) rfl, pt_Y48, RX4, TX4, 12, rfl, rfl⟩
theorem pt_m0_66 : pt_Mp (0, 66, 0, 50) := ⟨pm_in 734 (by decide +kernel) rfl, pm_in 694 (by decide +kernel) rfl, pm_in 695 (by decide +kernel) rfl, pt_Y50, RX4, TX4, 12, rfl, rfl⟩
theorem pt_m0_70 : pt_Mp (0, 70, 0, 2) := ⟨pm_in 735 (by decide +kernel) rfl, pm_in 737 (by decide +kernel) rfl, pm_in 19 (by decide +kernel) rfl, pt_Y2, RX0, TX0, 12, rfl, rfl⟩
theorem pt_m0_101 : pt_Mp (0, 101, 0, 3) := ⟨pm_in 739 (by decide +kernel) rfl, pm_in 741 (by decide +kernel) rfl, pm_in 20 (by decide +kernel) rfl, pt_Y3, RX0, TX0, 12, rfl, rfl⟩
theorem pt_m0_32 : pt_Mp (0, 32, 0, 51) := ⟨pm_in 743 (by decide +kernel) rfl, pm_in 699 (by decide +kernel) rfl, pm_in 700 (by decide +kernel) rfl, pt_Y51, RX4, TX4, 12, rfl, rfl⟩
theorem pt_m0_38 : pt_Mp (0, 38, 0, 4) := ⟨pm_in 744 (by decide +kernel) rfl, pm_in 745 (by decide +kernel) rfl, pm_in 746 (by decide +kernel) rfl, pt_Y4, RX0, TX0, 12, rfl, rfl⟩
theorem pt_m0_80 : pt_Mp (0, 80, 0, 5) := ⟨pm_in 748 (by decide +kernel) rfl, pm_in 750 (by decide +kernel) rfl, pm_in 21 (by decide +kernel) rfl, pt_Y5, RX0, TX0, 12, rfl, rfl⟩
theorem pt_m0_92 : pt_Mp (0, 92, 1, 167) := ⟨pm_in 757 (by decide +kernel) rfl, pm_in 758 (by decide +kernel) rfl, pt_Y167⟩
theorem pt_m0_86 : pt_Mp (0, 86, 0, 6) := ⟨pm_in 764 (by decide +kernel) rfl, pm_in 753 (by decide +kernel) rfl, pm_in 754 (by decide +kernel) rfl, pt_Y6, RX0, TX0, 12, rfl, rfl⟩
def pt_Ml0 : List (Nat × Nat × Nat × Nat) := [(0, 28, 0, 1), (0, 46, 0, 46), (0, 59, 0, 52), (0, 63, 0, 48), (0, 66, 0, 50), (0, 70, 0, 2), (0, 101, 0, 3), (0, 32, 0, 51), (0, 38, 0, 4), (0, 80, 0, 5), (0, 92, 1, 167), (0, 86, 0, 6)]
theorem pt_Ml0_ok : ∀ q ∈ pt_Ml0, pt_Mp q := List.forall_mem_cons.mpr ⟨pt_m0_28, List.forall_mem_cons.mpr ⟨pt_m0_46, List.forall_mem_cons.mpr ⟨pt_m0_59, List.forall_mem_cons.mpr ⟨pt_m0_63, List.forall_mem_cons.mpr ⟨pt_m0_66, List.forall_mem_cons.mpr ⟨pt_m0_70, List.forall_mem_cons.mpr ⟨pt_m0_101, List.forall_mem_cons.mpr ⟨pt_m0_32, List.forall_mem_cons.mpr ⟨pt_m0_38, List.forall_mem_cons.mpr ⟨pt_m0_80, List.forall_mem_cons.mpr ⟨pt_m0_92, List.forall_mem_cons.mpr ⟨pt_m0_86, fun _ h => absurd h List.not_mem_nil⟩⟩⟩⟩⟩⟩⟩⟩⟩⟩⟩⟩
theorem pt_m1_23 : pt_Mp (1, 23, 0, 10) := ⟨pm_in 539 (by decide +kernel) rfl, pm_in 541 (by decide +kernel) rfl, pm_in 14 (by decide +kernel) rfl, pt_Y10, RX1, TX1, 4, rfl, rfl⟩
theorem pt_m1_26 : pt_Mp (1, 26, 0, 44) := ⟨pm_in 575 (by decide +kernel) rfl, pm_in 576 (by decide +kernel) rfl, pm_in 577 (by decide +kernel) rfl, pt_Y44, RX4, TX4, 12, rfl, rfl⟩
theorem pt_m1_31 : pt_Mp (1, 31, 0, 45) := ⟨pm_in 579 (by decide +kernel) rfl, pm_in 580 (by decide +kernel) rfl, pm_in 581 (by decide +kernel) rfl, pt_Y45, RX4, TX4, 12, rfl, rfl⟩
def pt_Ml1 : List (Nat × Nat × Nat × Nat) := [(1, 23, 0, 10), (1, 26, 0, 44), (1, 31, 0, 45)]
theorem pt_Ml1_ok : ∀ q ∈ pt_Ml1, pt_Mp q := List.forall_mem_cons.mpr ⟨pt_m1_23, List.forall_mem_cons.mpr ⟨pt_m1_26, List.forall_mem_cons.mpr ⟨pt_m1_31, fun _ h => absurd h List.not_mem_nil⟩⟩⟩
theorem pt_m2_15 : pt_Mp (2, 15, 0, 29) := ⟨pm_in 312 (by decide +kernel) rfl, pm_in 209 (by decide +kernel) rfl, pm_in 210 (by decide +kernel) rfl, pt_Y29, RX4, TX4, 12, rfl, rfl⟩
theorem pt_m2_30 : pt_Mp (2, 30, 0, 13) := ⟨pm_in 313 (by decide +kernel) rfl, pm_in 315 (by decide +kernel) rfl, pm_in 0 (by decide +kernel) rfl, pt_Y13, RX2, TX2, 7, rfl, rfl⟩
theorem pt_m2_166 : pt_Mp (2, 166, 1, 165) := ⟨pm_in 317 (by decide +kernel) rfl, pm_in 318 (by decide +kernel) rfl, pt_Y165⟩
theorem pt_m2_172 : pt_Mp (2, 172, 0, 14) := ⟨pm_in 320 (by decide +kernel) rfl, pm_in 322 (by decide +kernel) rfl, pm_in 1 (by decide +kernel) rfl, pt_Y14, RX2, TX2, 7, rfl, rfl⟩
theorem pt_m2_36 : pt_Mp (2, 36, 0, 15) := ⟨pm_in 324 (by decide +kernel) rfl, pm_in 326 (by decide +kernel) rfl, pm_in 2 (by decide +kernel) rfl, pt_Y15, RX2, TX2, 7, rfl, rfl⟩
theorem pt_m2_60 : pt_Mp (2, 60, 0, 16) := ⟨pm_in 328 (by decide +kernel) rfl, pm_in 330 (by decide +kernel) rfl, pm_in 3 (by decide +kernel) rfl, pt_Y16, RX2, TX2, 7, rfl, rfl⟩
theorem pt_m2_40 : pt_Mp (2, 40, 0, 17) := ⟨pm_in 332 (by decide +kernel) rfl, pm_in 334 (by decide +kernel) rfl, pm_in 4 (by decide +kernel) rfl, pt_Y17, RX2, TX2, 7, rfl, rfl⟩
theorem pt_m2_66 : pt_Mp (2, 66, 0, 18) := ⟨pm_in 337 (by decide +kernel) rfl, pm_in 339 (by decide +kernel) rfl, pm_in 5 (by decide +kernel) rfl, pt_Y18, RX2, TX2, 7, rfl, rfl⟩
theorem pt_m2_154 : pt_Mp (2, 154, 3, 900) := rfl
theorem pt_m2_162 : pt_Mp (2, 162, 4, 901) := rfl
theorem pt_m2_71 : pt_Mp (2, 71, 0, 19) := ⟨pm_in 390 (by decide +kernel) rfl, pm_in 392 (by decide +kernel) rfl, pm_in 6 (by decide +kernel) rfl, pt_Y19, RX2, TX2, 7, rfl, rfl⟩
theorem pt_m2_81 : pt_Mp (2, 81, 0, 20) := ⟨pm_in 394 (by decide +kernel) rfl, pm_in 396 (by decide +kernel) rfl, pm_in 7 (by decide +kernel) rfl, pt_Y20, RX2, TX2, 7, rfl, rfl⟩
theorem pt_m2_44 : pt_Mp (2, 44, 0, 21) := ⟨pm_in 398 (by decide +kernel) rfl, pm_in 400 (by decide +kernel) rfl, pm_in 8 (by decide +kernel) rfl, pt_Y21, RX2, TX2, 7, rfl, rfl⟩
theorem pt_m2_87 : pt_Mp (2, 87, 0, 22) := ⟨pm_in 403 (by decide +kernel) rfl, pm_in 405 (by decide +kernel) rfl, pm_in 9 (by decide +kernel) rfl, pt_Y22, RX2, TX2, 7, rfl, rfl⟩
theorem pt_m2_48 : pt_Mp (2, 48, 0, 23) := ⟨pm_in 410 (by decide +kernel) rfl, pm_in 412 (by decide +kernel) rfl, pm_in 10 (by decide +kernel) rfl, pt_Y23, RX2, TX2, 7, rfl, rfl⟩
theorem pt_m2_52 : pt_Mp (2, 52, 0, 24) := ⟨pm_in 414 (by decide +kernel) rfl, pm_in 416 (by decide +kernel) rfl, pm_in 11 (by decide +kernel) rfl, pt_Y24, RX2, TX2, 7, rfl, rfl⟩
theorem pt_m2_105 : pt_Mp (2, 105, 0, 25) := ⟨pm_in 419 (by decide +kernel) rfl, pm_in 421 (by decide +kernel) rfl, pm_in 12 (by decide +kernel) rfl, pt_Y25, RX2, TX2, 7, rfl, rfl⟩
theorem pt_m2_121 : pt_Mp (2, 121, 0, 30) := ⟨pm_in 423 (by decide +kernel) rfl, pm_in 424 (by decide +kernel) rfl, pm_in 425 (by decide +kernel) rfl, pt_Y30, RX4, TX4, 12, rfl, rfl⟩
theorem pt_m2_124 : pt_Mp (2, 124, 0, 32) := ⟨pm_in 431 (by decide +kernel) rfl, pm_in 432 (by decide +kernel) rfl, pm_in 433 (by decide +kernel) rfl, pt_Y32, RX4, TX4, 12, rfl, rfl⟩
theorem pt_m2_128 : pt_Mp (2, 128, 0, 34) := ⟨pm_in 442 (by decide +kernel) rfl, pm_in 443 (by decide +kernel) rfl, pm_in 444 (by decide +kernel) rfl, pt_Y34, RX4, TX4, 12, rfl, rfl⟩
theorem pt_m2_131 : pt_Mp (2, 131, 0, 35) := ⟨pm_in 446 (by decide +kernel) rfl, pm_in 447 (by decide +kernel) rfl, pm_in 448 (by decide +kernel) rfl, pt_Y35, RX4, TX4, 12, rfl, rfl⟩
theorem pt_m2_134 : pt_Mp (2, 134, 0, 37) := ⟨pm_in 456 (by decide +kernel) rfl, pm_in 457 (by decide +kernel) rfl, pm_in 458 (by decide +kernel) rfl, pt_Y37, RX4, TX4, 12, rfl, rfl⟩
theorem pt_m2_114 : pt_Mp (2, 114, 0, 26) := ⟨pm_in 463 (by decide +kernel) rfl, pm_in 465 (by decide +kernel) rfl, pm_in 13 (by decide +kernel) rfl, pt_Y26, RX2, TX2, 7, rfl, rfl⟩
theorem pt_m2_138 : pt_Mp (2, 138, 0, 38) := ⟨pm_in 467 (by decide +kernel) rfl, pm_in 468 (by decide +kernel) rfl, pm_in 469 (by decide +kernel) rfl, pt_Y38, RX4, TX4, 12, rfl, rfl⟩
theorem pt_m2_147 : pt_Mp (2, 147, 0, 39) := ⟨pm_in 478 (by decide +kernel) rfl, pm_in 479 (by decide +kernel) rfl, pm_in 480 (by decide +kernel) rfl, pt_Y39, RX4, TX4, 12, rfl, rfl⟩
theorem pt_m2_141 : pt_Mp (2, 141, 2, 58) := ⟨pm_in 472 (by decide +kernel) rfl, pt_Y58, by decide⟩
theorem pt_m2_144 : pt_Mp (2, 144, 2, 59) := ⟨pm_in 475 (by decide +kernel) rfl, pt_Y59, by decide⟩
def pt_Ml2 : List (Nat × Nat × Nat × Nat) := [(2, 15, 0, 29), (2, 30, 0, 13), (2, 166, 1, 165), (2, 172, 0, 14), (2, 36, 0, 15), (2, 60, 0, 16), (2, 40, 0, 17), (2, 66, 0, 18), (2, 154, 3, 900), (2, 162, 4, 901), (2, 71, 0, 19), (2, 81, 0, 20), (2, 44, 0, 21), (2, 87, 0, 22), (2, 48, 0, 23), (2, 52, 0, 24), (2, 105, 0, 25), (2, 121, 0, 30), (2, 124, 0, 32), (2, 128, 0, 34), (2, 131, 0, 35), (2, 134, 0, 37), (2, 114, 0, 26), (2, 138, 0, 38), (2, 147, 0, 39), (2, 141, 2, 58), (2, 144, 2, 59)]
theorem pt_Ml2_ok : ∀ q ∈ pt_Ml2, pt_Mp q := List.forall_mem_cons.mpr ⟨pt_m2_15, List.forall_mem_cons.mpr ⟨pt_m2_30, List.forall_mem_cons.mpr ⟨pt_m2_166, List.forall_mem_cons.mpr ⟨pt_m2_172, List.forall_mem_cons.mpr ⟨pt_m2_36, List.forall_mem_cons.mpr ⟨pt_m2_60, List.forall_mem_cons.mpr ⟨pt_m2_40, List.forall_mem_cons.mpr ⟨pt_m2_66, List.forall_mem_cons.mpr ⟨pt_m2_154, List.forall_mem_cons.mpr ⟨pt_m2_162, List.forall_mem_cons.mpr ⟨pt_m2_71, List.forall_mem_cons.mpr ⟨pt_m2_81, List.forall_mem_cons.mpr ⟨pt_m2_44, List.forall_mem_cons.mpr ⟨pt_m2_87, List.forall_mem_cons.mpr ⟨pt_m2_48, List.forall_mem_cons.mpr ⟨pt_m2_52, List.forall_mem_cons.mpr ⟨pt_m2_105, List.forall_mem_cons.mpr ⟨pt_m2_121, List.forall_mem_cons.mpr ⟨pt_m2_124, List.forall_mem_cons.mpr ⟨pt_m2_128, List.forall_mem_cons.mpr ⟨pt_m2_131, List.forall_mem_cons.mpr ⟨pt_m2_134, List.forall_mem_cons.mpr ⟨pt_m2_114, List.forall_mem_cons.mpr ⟨pt_m2_138, List.forall_mem_cons.mpr ⟨pt_m2_147, List.forall_mem_cons.mpr ⟨pt_m2_141, List.forall_mem_cons.mpr ⟨pt_m2_144, fun _ h => absurd h List.not_mem_nil⟩⟩⟩⟩⟩⟩⟩⟩⟩⟩⟩⟩⟩⟩⟩⟩⟩⟩⟩⟩⟩⟩⟩⟩⟩⟩⟩
def pt_Ml3 : List (Nat × Nat × Nat × Nat) := []
theorem pt_Ml3_ok : ∀ q ∈ pt_Ml3, pt_Mp q := fun _ h => absurd h List.not_mem_nil
theorem pt_m4_39 : pt_Mp (4, 39, 0, 29) := ⟨pm_in 208 (by decide +kernel) rfl, pm_in 209 (by decide +kernel) rfl, pm_in 210 (by decide +kernel) rfl, pt_Y29, RX4, TX4, 12, rfl, rfl⟩
theorem pt_m4_52 : pt_Mp (4, 52, 0, 31) := ⟨pm_in 427 (by decide +kernel) rfl, pm_in 428 (by decide +kernel) rfl, pm_in 429 (by decide +kernel) rfl, pt_Y31, RX4, TX4, 12, rfl, rfl⟩
theorem pt_m4_56 : pt_Mp (4, 56, 0, 33) := ⟨pm_in 435 (by decide +kernel) rfl, pm_in 436 (by decide +kernel) rfl, pm_in 437 (by decide +kernel) rfl, pt_Y33, RX4, TX4, 12, rfl, rfl⟩
theorem pt_m4_59 : pt_Mp (4, 59, 1, 166) := ⟨pm_in 439 (by decide +kernel) rfl, pm_in 440 (by decide +kernel) rfl, pt_Y166⟩
theorem pt_m4_66 : pt_Mp (4, 66, 0, 36) := ⟨pm_in 451 (by decide +kernel) rfl, pm_in 452 (by decide +kernel) rfl, pm_in 453 (by decide +kernel) rfl, pt_Y36, RX4, TX4, 12, rfl, rfl⟩
theorem pt_m4_70 : pt_Mp (4, 70, 1, 165) := ⟨pm_in 455 (by decide +kernel) rfl, pm_in 318 (by decide +kernel) rfl, pt_Y165⟩
theorem pt_m4_73 : pt_Mp (4, 73, 0, 41) := ⟨pm_in 506 (by decide +kernel) rfl, pm_in 507 (by decide +kernel) rfl, pm_in 508 (by decide +kernel) rfl, pt_Y41, RX4, TX4, 12, rfl, rfl⟩
theorem pt_m4_76 : pt_Mp (4, 76, 1, 47) := ⟨pm_in 672 (by decide +kernel) rfl, pm_in 673 (by decide +kernel) rfl, pt_Y47⟩
theorem pt_m4_79 : pt_Mp (4, 79, 0, 40) := ⟨pm_in 675 (by decide +kernel) rfl, pm_in 503 (by decide +kernel) rfl, pm_in 504 (by decide +kernel) rfl, pt_Y40, RX4, TX4, 12, rfl, rfl⟩
theorem pt_m4_94 : pt_Mp (4, 94, 0, 49) := ⟨pm_in 688 (by decide +kernel) rfl, pm_in 690 (by decide +kernel) rfl, pm_in 16 (by decide +kernel) rfl, pt_Y49, RX4, TX4, 12, rfl, rfl⟩
theorem pt_m4_84 : pt_Mp (4, 84, 0, 53) := ⟨pm_in 706 (by decide +kernel) rfl, pm_in 708 (by decide +kernel) rfl, pm_in 17 (by decide +kernel) rfl, pt_Y53, RX4, TX4, 12, rfl, rfl⟩
theorem pt_m4_88 : pt_Mp (4, 88, 0, 54) := ⟨pm_in 710 (by decide +kernel) rfl, pm_in 712 (by decide +kernel) rfl, pm_in 18 (by decide +kernel) rfl, pt_Y54, RX4, TX4, 12, rfl, rfl⟩
theorem pt_m4_91 : pt_Mp (4, 91, 0, 43) := ⟨pm_in 714 (by decide +kernel) rfl, pm_in 523 (by decide +kernel) rfl, pm_in 524 (by decide +kernel) rfl, pt_Y43, RX4, TX4, 12, rfl, rfl⟩
def pt_Ml4 : List (Nat × Nat × Nat × Nat) := [(4, 39, 0, 29), (4, 52, 0, 31), (4, 56, 0, 33), (4, 59, 1, 166), (4, 66, 0, 36), (4, 70, 1, 165), (4, 73, 0, 41), (4, 76, 1, 47), (4, 79, 0, 40), (4, 94, 0, 49), (4, 84, 0, 53), (4, 88, 0, 54), (4, 91, 0, 43)]
theorem pt_Ml4_ok : ∀ q ∈ pt_Ml4, pt_Mp q := List.forall_mem_cons.mpr ⟨pt_m4_39, List.forall_mem_cons.mpr ⟨pt_m4_52, List.forall_mem_cons.mpr ⟨pt_m4_56, List.forall_mem_cons.mpr ⟨pt_m4_59, List.forall_mem_cons.mpr ⟨pt_m4_66, List.forall_mem_cons.mpr ⟨pt_m4_70, List.forall_mem_cons.mpr ⟨pt_m4_73, List.forall_mem_cons.mpr ⟨pt_m4_76, List.forall_mem_cons.mpr ⟨pt_m4_79, List.forall_mem_cons.mpr ⟨pt_m4_94, List.forall_mem_cons.mpr ⟨pt_m4_84, List.forall_mem_cons.mpr ⟨pt_m4_88, List.forall_mem_cons.mpr ⟨pt_m4_91, fun _ h => absurd h List.not_mem_nil⟩⟩⟩⟩⟩⟩⟩⟩⟩⟩⟩⟩⟩
theorem pt_m5_53 : pt_Mp (5, 53, 0, 27) := ⟨pm_in 292 (by decide +kernel) rfl, pm_in 293 (by decide +kernel) rfl, pm_in 294 (by decide +kernel) rfl, pt_Y27, RX3, TX3, 2, rfl, rfl⟩
theorem pt_m5_57 : pt_Mp (5, 57, 0, 28) := ⟨pm_in 296 (by decide +kernel) rfl, pm_in 297 (by decide +kernel) rfl, pm_in 298 (by decide +kernel) rfl, pt_Y28, RX3, TX3, 2, rfl, rfl⟩
theorem pt_m5_64 : pt_Mp (5, 64, 0, 12) := ⟨pm_in 308 (by decide +kernel) rfl, pm_in 309 (by decide +kernel) rfl, pm_in 310 (by decide +kernel) rfl, pt_Y12, RX2, TX2, 7, rfl, rfl⟩
theorem pt_m5_81 : pt_Mp (5, 81, 0, 31) := ⟨pm_in 492 (by decide +kernel) rfl, pm_in 428 (by decide +kernel) rfl, pm_in 429 (by decide +kernel) rfl, pt_Y31, RX4, TX4, 12, rfl, rfl⟩
theorem pt_m5_85 : pt_Mp (5, 85, 0, 36) := ⟨pm_in 493 (by decide +kernel) rfl, pm_in 452 (by decide +kernel) rfl, pm_in 453 (by decide +kernel) rfl, pt_Y36, RX4, TX4, 12, rfl, rfl⟩
theorem pt_m5_89 : pt_Mp (5, 89, 0, 33) := ⟨pm_in 494 (by decide +kernel) rfl, pm_in 436 (by decide +kernel) rfl, pm_in 437 (by decide +kernel) rfl, pt_Y33, RX4, TX4, 12, rfl, rfl⟩
theorem pt_m5_92 : pt_Mp (5, 92, 1, 63) := ⟨pm_in 499 (by decide +kernel) rfl, pm_in 500 (by decide +kernel) rfl, pt_Y63⟩
theorem pt_m5_96 : pt_Mp (5, 96, 0, 40) := ⟨pm_in 502 (by decide +kernel) rfl, pm_in 503 (by decide +kernel) rfl, pm_in 504 (by decide +kernel) rfl, pt_Y40, RX4, TX4, 12, rfl, rfl⟩
theorem pt_m5_127 : pt_Mp (5, 127, 0, 42) := ⟨pm_in 518 (by decide +kernel) rfl, pm_in 519 (by decide +kernel) rfl, pm_in 520 (by decide +kernel) rfl, pt_Y42, RX4, TX4, 12, rfl, rfl⟩
theorem pt_m5_142 : pt_Mp (5, 142, 0, 43) := ⟨pm_in 522 (by decide +kernel) rfl, pm_in 523 (by decide +kernel) rfl, pm_in 524 (by decide +kernel) rfl, pt_Y43, RX4, TX4, 12, rfl, rfl⟩
theorem pt_m5_212 : pt_Mp (5, 212, 0, 32) := ⟨pm_in 530 (by decide +kernel) rfl, pm_in 432 (by decide +kernel) rfl, pm_in 433 (by decide +kernel) rfl, pt_Y32, RX4, TX4, 12, rfl, rfl⟩
theorem pt_m5_222 : pt_Mp (5, 222, 0, 34) := ⟨pm_in 531 (by decide +kernel) rfl, pm_in 443 (by decide +kernel) rfl, pm_in 444 (by decide +kernel) rfl, pt_Y34, RX4, TX4, 12, rfl, rfl⟩
theorem pt_m5_225 : pt_Mp (5, 225, 0, 35) := ⟨pm_in 532 (by decide +kernel) rfl, pm_in 447 (by decide +kernel) rfl, pm_in 448 (by decide +kernel) rfl, pt_Y35, RX4, TX4, 12, rfl, rfl⟩
theorem pt_m5_209 : pt_Mp (5, 209, 0, 30) := ⟨pm_in 533 (by decide +kernel) rfl, pm_in 424 (by decide +kernel) rfl, pm_in 425 (by decide +kernel) rfl, pt_Y30, RX4, TX4, 12, rfl, rfl⟩
theorem pt_m5_215 : pt_Mp (5, 215, 0, 37) := ⟨pm_in 534 (by decide +kernel) rfl, pm_in 457 (by decide +kernel) rfl, pm_in 458 (by decide +kernel) rfl, pt_Y37, RX4, TX4, 12, rfl, rfl⟩
theorem pt_m5_228 : pt_Mp (5, 228, 0, 9) := ⟨pm_in 535 (by decide +kernel) rfl, pm_in 536 (by decide +kernel) rfl, pm_in 537 (by decide +kernel) rfl, pt_Y9, RX1, TX1, 4, rfl, rfl⟩
theorem pt_m5_231 : pt_Mp (5, 231, 1, 58) := ⟨pm_in 547 (by decide +kernel) rfl, pm_in 472 (by decide +kernel) rfl, pt_Y58⟩
theorem pt_m5_234 : pt_Mp (5, 234, 1, 59) := ⟨pm_in 548 (by decide +kernel) rfl, pm_in 475 (by decide +kernel) rfl, pt_Y59⟩
theorem pt_m5_237 : pt_Mp (5, 237, 0, 38) := ⟨pm_in 549 (by decide +kernel) rfl, pm_in 468 (by decide +kernel) rfl, pm_in 469 (by decide +kernel) rfl, pt_Y38, RX4, TX4, 12, rfl, rfl⟩
theorem pt_m5_240 : pt_Mp (5, 240, 0, 39) := ⟨pm_in 550 (by decide +kernel) rfl, pm_in 479 (by decide +kernel) rfl, pm_in 480 (by decide +kernel) rfl, pt_Y39, RX4, TX4, 12, rfl, rfl⟩
theorem pt_m5_99 : pt_Mp (5, 99, 1, 69) := ⟨pm_in 555 (by decide +kernel) rfl, pm_in 556 (by decide +kernel) rfl, pt_Y69⟩
theorem pt_m5_202 : pt_Mp (5, 202, 1, 71) := ⟨pm_in 564 (by decide +kernel) rfl, pm_in 565 (by decide +kernel) rfl, pt_Y71⟩
theorem pt_m5_246 : pt_Mp (5, 246, 0, 11) := ⟨pm_in 571 (by decide +kernel) rfl, pm_in 572 (by decide +kernel) rfl, pm_in 573 (by decide +kernel) rfl, pt_Y11, RX1, TX1, 4, rfl, rfl⟩
theorem pt_m5_145 : pt_Mp (5, 145, 1, 75) := ⟨pm_in 664 (by decide +kernel) rfl, pm_in 665 (by decide +kernel) rfl, pt_Y75⟩
theorem pt_m5_149 : pt_Mp (5, 149, 0, 46) := ⟨pm_in 668 (by decide +kernel) rfl, pm_in 669 (by decide +kernel) rfl, pm_in 670 (by decide +kernel) rfl, pt_Y46, RX4, TX4, 12, rfl, rfl⟩
theorem pt_m5_155 : pt_Mp (5, 155, 0, 48) := ⟨pm_in 684 (by decide +kernel) rfl, pm_in 685 (by decide +kernel) rfl, pm_in 686 (by decide +kernel) rfl, pt_Y48, RX4, TX4, 12, rfl, rfl⟩
theorem pt_m5_159 : pt_Mp (5, 159, 0, 50) := ⟨pm_in 693 (by decide +kernel) rfl, pm_in 694 (by decide +kernel) rfl, pm_in 695 (by decide +kernel) rfl, pt_Y50, RX4, TX4, 12, rfl, rfl⟩
theorem pt_m5_163 : pt_Mp (5, 163, 0, 51) := ⟨pm_in 698 (by decide +kernel) rfl, pm_in 699 (by decide +kernel) rfl, pm_in 700 (by decide +kernel) rfl, pt_Y51, RX4, TX4, 12, rfl, rfl⟩
theorem pt_m5_166 : pt_Mp (5, 166, 0, 52) := ⟨pm_in 702 (by decide +kernel) rfl, pm_in 703 (by decide +kernel) rfl, pm_in 704 (by decide +kernel) rfl, pt_Y52, RX4, TX4, 12, rfl, rfl⟩
theorem pt_m5_171 : pt_Mp (5, 171, 0, 0) := ⟨pm_in 723 (by decide +kernel) rfl, pm_in 724 (by decide +kernel) rfl, pm_in 725 (by decide +kernel) rfl, pt_Y0, RX0, TX0, 12, rfl, rfl⟩
theorem pt_m5_175 : pt_Mp (5, 175, 0, 6) := ⟨pm_in 752 (by decide +kernel) rfl, pm_in 753 (by decide +kernel) rfl, pm_in 754 (by decide +kernel) rfl, pt_Y6, RX0, TX0, 12, rfl, rfl⟩
theorem pt_m5_179 : pt_Mp (5, 179, 0, 7) := ⟨pm_in 760 (by decide +kernel) rfl, pm_in 761 (by decide +kernel) rfl, pm_in 762 (by decide +kernel) rfl, pt_Y7, RX0, TX0, 12, rfl, rfl⟩
theorem pt_m5_195 : pt_Mp (5, 195, 0, 80) := ⟨pm_in 779 (by decide +kernel) rfl, pm_in 781 (by decide +kernel) rfl, pm_in 22 (by decide +kernel) rfl, pt_Y80, RX5, TX5, 7, rfl, rfl⟩
theorem pt_m5_199 : pt_Mp (5, 199, 0, 8) := ⟨pm_in 790 (by decide +kernel) rfl, pm_in 791 (by decide +kernel) rfl, pm_in 792 (by decide +kernel) rfl, pt_Y8, RX0, TX0, 12, rfl, rfl⟩
theorem pt_m5_205 : pt_Mp (5, 205, 0, 84) := ⟨pm_in 808 (by decide +kernel) rfl, pm_in 810 (by decide +kernel) rfl, pm_in 23 (by decide +kernel) rfl, pt_Y84, RX5, TX5, 7, rfl, rfl⟩
theorem pt_m5_252 : pt_Mp (5, 252, 0, 1) := ⟨pm_in 812 (by decide +kernel) rfl, pm_in 728 (by decide +kernel) rfl, pm_in 729 (by decide +kernel) rfl, pt_Y1, RX0, TX0, 12, rfl, rfl⟩
theorem pt_m5_256 : pt_Mp (5, 256, 0, 4) := ⟨pm_in 814 (by decide +kernel) rfl, pm_in 745 (by decide +kernel) rfl, pm_in 746 (by decide +kernel) rfl, pt_Y4, RX0, TX0, 12, rfl, rfl⟩
theorem pt_m5_219 : pt_Mp (5, 219, 0, 44) := ⟨pm_in 822 (by decide +kernel) rfl, pm_in 576 (by decide +kernel) rfl, pm_in 577 (by decide +kernel) rfl, pt_Y44, RX4, TX4, 12, rfl, rfl⟩
def pt_Ml5 : List (Nat × Nat × Nat × Nat) := [(5, 53, 0, 27), (5, 57, 0, 28), (5, 64, 0, 12), (5, 81, 0, 31), (5, 85, 0, 36), (5, 89, 0, 33), (5, 92, 1, 63), (5, 96, 0, 40), (5, 127, 0, 42), (5, 142, 0, 43), (5, 212, 0, 32), (5, 222, 0, 34), (5, 225, 0, 35), (5, 209, 0, 30), (5, 215, 0, 37), (5, 228, 0, 9), (5, 231, 1, 58), (5, 234, 1, 59), (5, 237, 0, 38), (5, 240, 0, 39), (5, 99, 1, 69), (5, 202, 1, 71), (5, 246, 0, 11), (5, 145, 1, 75), (5, 149, 0, 46), (5, 155, 0, 48), (5, 159, 0, 50), (5, 163, 0, 51), (5, 166, 0, 52), (5, 171, 0, 0), (5, 175, 0, 6), (5, 179, 0, 7), (5, 195, 0, 80), (5, 199, 0, 8), (5, 205, 0, 84), (5, 252, 0, 1), (5, 256, 0, 4), (5, 219, 0, 44)]
theorem pt_Ml5_ok : ∀ q ∈ pt_Ml5, pt_Mp q := List.forall_mem_cons.mpr ⟨pt_m5_53, List.forall_mem_cons.mpr ⟨pt_m5_57, List.forall_mem_cons.mpr ⟨pt_m5_64, List.forall_mem_cons.mpr ⟨pt_m5_81, List.forall_mem_cons.mpr ⟨pt_m5_85, List.forall_mem_cons.mpr ⟨pt_m5_89, List.forall_mem_cons.mpr ⟨pt_m5_92, List.forall_mem_cons.mpr ⟨pt_m5_96, List.forall_mem_cons.mpr ⟨pt_m5_127, List.forall_mem_cons.mpr ⟨pt_m5_142, List.forall_mem_cons.mpr ⟨pt_m5_212, List.forall_mem_cons.mpr ⟨pt_m5_222, List.forall_mem_cons.mpr ⟨pt_m5_225, List.forall_mem_cons.mpr ⟨pt_m5_209, List.forall_mem_cons.mpr ⟨pt_m5_215, List.forall_mem_cons.mpr ⟨pt_m5_228, List.forall_mem_cons.mpr ⟨pt_m5_231, List.forall_mem_cons.mpr ⟨pt_m5_234, List.forall_mem_cons.mpr ⟨pt_m5_237, List.forall_mem_cons.mpr ⟨pt_m5_240, List.forall_mem_cons.mpr ⟨pt_m5_99, List.forall_mem_cons.mpr ⟨pt_m5_202, List.forall_mem_cons.mpr ⟨pt_m5_246, List.forall_mem_cons.mpr ⟨pt_m5_145, List.forall_mem_cons.mpr ⟨pt_m5_149, List.forall_mem_cons.mpr ⟨pt_m5_155, List.forall_mem_cons.mpr ⟨pt_m5_159, List.forall_mem_cons.mpr ⟨pt_m5_163, List.forall_mem_cons.mpr ⟨pt_m5_166, List.forall_mem_cons.mpr ⟨pt_m5_171, List.forall_mem_cons.mpr ⟨pt_m5_175, List.forall_mem_cons.mpr ⟨pt_m5_179, List.forall_mem_cons.mpr ⟨pt_m5_195, List.forall_mem_cons.mpr ⟨pt_m5_199, List.forall_mem_cons.mpr ⟨pt_m5_205, List.forall_mem_cons.mpr ⟨pt_m5_252, List.forall_mem_cons.mpr ⟨pt_m5_256, List.forall_mem_cons.mpr ⟨pt_m5_219, fun _ h => absurd h List.not_mem_nil⟩⟩⟩⟩⟩⟩⟩⟩⟩⟩⟩⟩⟩⟩⟩⟩⟩⟩⟩⟩⟩⟩⟩⟩⟩⟩⟩⟩⟩⟩⟩⟩⟩⟩⟩⟩⟩⟩
theorem pt_m6_14 : pt_Mp (6, 14, 0, 88) := ⟨pm_in 831 (by decide +kernel) rfl, pm_in 833 (by decide +kernel) rfl, pm_in 24 (by decide +kernel) rfl, pt_Y88, RX6, TX6, 23, rfl, rfl⟩
theorem pt_m6_103 : pt_Mp (6, 103, 1, 90) := ⟨pm_in 845 (by decide +kernel) rfl, pm_in 846 (by decide +kernel) rfl, pt_Y90⟩
theorem pt_m6_114 : pt_Mp (6, 114, 0, 92) := ⟨pm_in 922 (by decide +kernel) rfl, pm_in 924 (by decide +kernel) rfl, pm_in 25 (by decide +kernel) rfl, pt_Y92, RX6, TX6, 23, rfl, rfl⟩
theorem pt_m6_30 : pt_Mp (6, 30, 1, 93) := ⟨pm_in 926 (by decide +kernel) rfl, pm_in 927 (by decide +kernel) rfl, pt_Y93⟩
theorem pt_m6_34 : pt_Mp (6, 34, 1, 94) := ⟨pm_in 929 (by decide +kernel) rfl, pm_in 930 (by decide +kernel) rfl, pt_Y94⟩
theorem pt_m6_44 : pt_Mp (6, 44, 0, 95) := ⟨pm_in 932 (by decide +kernel) rfl, pm_in 934 (by decide +kernel) rfl, pm_in 26 (by decide +kernel) rfl, pt_Y95, RX6, TX6, 23, rfl, rfl⟩
theorem pt_m6_110 : pt_Mp (6, 110, 1, 96) := ⟨pm_in 938 (by decide +kernel) rfl, pm_in 939 (by decide +kernel) rfl, pt_Y96⟩
theorem pt_m6_166 : pt_Mp (6, 166, 0, 97) := ⟨pm_in 941 (by decide +kernel) rfl, pm_in 943 (by decide +kernel) rfl, pm_in 27 (by decide +kernel) rfl, pt_Y97, RX6, TX6, 23, rfl, rfl⟩
theorem pt_m6_157 : pt_Mp (6, 157, 0, 98) := ⟨pm_in 945 (by decide +kernel) rfl, pm_in 947 (by decide +kernel) rfl, pm_in 28 (by decide +kernel) rfl, pt_Y98, RX6, TX6, 23, rfl, rfl⟩
theorem pt_m6_60 : pt_Mp (6, 60, 1, 99) := ⟨pm_in 949 (by decide +kernel) rfl, pm_in 950 (by decide +kernel) rfl, pt_Y99⟩
theorem pt_m6_54 : pt_Mp (6, 54, 1, 100) := ⟨pm_in 953 (by decide +kernel) rfl, pm_in 954 (by decide +kernel) rfl, pt_Y100⟩
theorem pt_m6_64 : pt_Mp (6, 64, 0, 101) := ⟨pm_in 956 (by decide +kernel) rfl, pm_in 958 (by decide +kernel) rfl, pm_in 29 (by decide +kernel) rfl, pt_Y101, RX6, TX6, 23, rfl, rfl⟩
theorem pt_m6_107 : pt_Mp (6, 107, 0, 102) := ⟨pm_in 960 (by decide +kernel) rfl, pm_in 962 (by decide +kernel) rfl, pm_in 30 (by decide +kernel) rfl, pt_Y102, RX6, TX6, 23, rfl, rfl⟩
theorem pt_m6_118 : pt_Mp (6, 118, 0, 103) := ⟨pm_in 965 (by decide +kernel) rfl, pm_in 967 (by decide +kernel) rfl, pm_in 31 (by decide +kernel) rfl, pt_Y103, RX6, TX6, 23, rfl, rfl⟩
theorem pt_m6_160 : pt_Mp (6, 160, 0, 104) := ⟨pm_in 969 (by decide +kernel) rfl, pm_in 971 (by decide +kernel) rfl, pm_in 32 (by decide +kernel) rfl, pt_Y104, RX6, TX6, 23, rfl, rfl⟩
theorem pt_m6_123 : pt_Mp (6, 123, 0, 105) := ⟨pm_in 974 (by decide +kernel) rfl, pm_in 976 (by decide +kernel) rfl, pm_in 33 (by decide +kernel) rfl, pt_Y105, RX6, TX6, 23, rfl, rfl⟩
theorem pt_m6_127 : pt_Mp (6, 127, 1, 106) := ⟨pm_in 978 (by decide +kernel) rfl, pm_in 979 (by decide +kernel) rfl, pt_Y106⟩
theorem pt_m6_131 : pt_Mp (6, 131, 0, 107) := ⟨pm_in 981 (by decide +kernel) rfl, pm_in 983 (by decide +kernel) rfl, pm_in 34 (by decide +kernel) rfl, pt_Y107, RX6, TX6, 23, rfl, rfl⟩
theorem pt_m6_68 : pt_Mp (6, 68, 1, 108) := ⟨pm_in 985 (by decide +kernel) rfl, pm_in 986 (by decide +kernel) rfl, pt_Y108⟩
theorem pt_m6_163 : pt_Mp (6, 163, 0, 109) := ⟨pm_in 989 (by decide +kernel) rfl, pm_in 991 (by decide +kernel) rfl, pm_in 35 (by decide +kernel) rfl, pt_Y109, RX6, TX6, 23, rfl, rfl⟩
theorem pt_m6_151 : pt_Mp (6, 151, 0, 110) := ⟨pm_in 993 (by decide +kernel) rfl, pm_in 995 (by decide +kernel) rfl, pm_in 36 (by decide +kernel) rfl, pt_Y110, RX6, TX6, 23, rfl, rfl⟩
theorem pt_m6_141 : pt_Mp (6, 141, 1, 111) := ⟨pm_in 997 (by decide +kernel) rfl, pm_in 998 (by decide +kernel) rfl, pt_Y111⟩
theorem pt_m6_134 : pt_Mp (6, 134, 1, 112) := ⟨pm_in 1000 (by decide +kernel) rfl, pm_in 1001 (by decide +kernel) rfl, pt_Y112⟩
theorem pt_m6_145 : pt_Mp (6, 145, 1, 113) := ⟨pm_in 1003 (by decide +kernel) rfl, pm_in 1004 (by decide +kernel) rfl, pt_Y113⟩
theorem pt_m6_148 : pt_Mp (6, 148, 1, 114) := ⟨pm_in 1006 (by decide +kernel) rfl, pm_in 1007 (by decide +kernel) rfl, pt_Y114⟩
theorem pt_m6_137 : pt_Mp (6, 137, 1, 115) := ⟨pm_in 1009 (by decide +kernel) rfl, pm_in 1010 (by decide +kernel) rfl, pt_Y115⟩
theorem pt_m6_154 : pt_Mp (6, 154, 0, 116) := ⟨pm_in 1012 (by decide +kernel) rfl, pm_in 1014 (by decide +kernel) rfl, pm_in 37 (by decide +kernel) rfl, pt_Y116, RX6, TX6, 23, rfl, rfl⟩
theorem pt_m6_169 : pt_Mp (6, 169, 0, 117) := ⟨pm_in 1016 (by decide +kernel) rfl, pm_in 1018 (by decide +kernel) rfl, pm_in 38 (by decide +kernel) rfl, pt_Y117, RX6, TX6, 23, rfl, rfl⟩
theorem pt_m6_182 : pt_Mp (6, 182, 1, 121) := ⟨pm_in 1032 (by decide +kernel) rfl, pm_in 1033 (by decide +kernel) rfl, pt_Y121⟩
theorem pt_m6_185 : pt_Mp (6, 185, 0, 122) := ⟨pm_in 1035 (by decide +kernel) rfl, pm_in 1037 (by decide +kernel) rfl, pm_in 39 (by decide +kernel) rfl, pt_Y122, RX6, TX6, 23, rfl, rfl⟩
theorem pt_m6_175 : pt_Mp (6, 175, 0, 123) := ⟨pm_in 1039 (by decide +kernel) rfl, pm_in 1041 (by decide +kernel) rfl, pm_in 40 (by decide +kernel) rfl, pt_Y123, RX6, TX6, 23, rfl, rfl⟩
theorem pt_m6_188 : pt_Mp (6, 188, 1, 125) := ⟨pm_in 1047 (by decide +kernel) rfl, pm_in 1048 (by decide +kernel) rfl, pt_Y125⟩
theorem pt_m6_191 : pt_Mp (6, 191, 0, 126) := ⟨pm_in 1050 (by decide +kernel) rfl, pm_in 1052 (by decide +kernel) rfl, pm_in 41 (by decide +kernel) rfl, pt_Y126, RX6, TX6, 23, rfl, rfl⟩
theorem pt_m6_195 : pt_Mp (6, 195, 0, 129) := ⟨pm_in 1062 (by decide +kernel) rfl, pm_in 1064 (by decide +kernel) rfl, pm_in 42 (by decide +kernel) rfl, pt_Y129, RX6, TX6, 23, rfl, rfl⟩
theorem pt_m6_198 : pt_Mp (6, 198, 0, 130) := ⟨pm_in 1066 (by decide +kernel) rfl, pm_in 1068 (by decide +kernel) rfl, pm_in 43 (by decide +kernel) rfl, pt_Y130, RX6, TX6, 23, rfl, rfl⟩
theorem pt_m6_179 : pt_Mp (6, 179, 0, 131) := ⟨pm_in 1070 (by decide +kernel) rfl, pm_in 1072 (by decide +kernel) rfl, pm_in 44 (by decide +kernel) rfl, pt_Y131, RX6, TX6, 23, rfl, rfl⟩
theorem pt_m6_217 : pt_Mp (6, 217, 1, 133) := ⟨pm_in 1078 (by decide +kernel) rfl, pm_in 1079 (by decide +kernel) rfl, pt_Y133⟩
theorem pt_m6_221 : pt_Mp (6, 221, 0, 134) := ⟨pm_in 1081 (by decide +kernel) rfl, pm_in 1083 (by decide +kernel) rfl, pm_in 45 (by decide +kernel) rfl, pt_Y134, RX6, TX6, 23, rfl, rfl⟩
theorem pt_m6_224 : pt_Mp (6, 224, 0, 136) := ⟨pm_in 1089 (by decide +kernel) rfl, pm_in 1091 (by decide +kernel) rfl, pm_in 46 (by decide +kernel) rfl, pt_Y136, RX6, TX6, 23, rfl, rfl⟩
theorem pt_m6_204 : pt_Mp (6, 204, 0, 137) := ⟨pm_in 1093 (by decide +kernel) rfl, pm_in 1095 (by decide +kernel) rfl, pm_in 47 (by decide +kernel) rfl, pt_Y137, RX6, TX6, 23, rfl, rfl⟩
theorem pt_m6_227 : pt_Mp (6, 227, 0, 138) := ⟨pm_in 1098 (by decide +kernel) rfl, pm_in 1100 (by decide +kernel) rfl, pm_in 48 (by decide +kernel) rfl, pt_Y138, RX6, TX6, 23, rfl, rfl⟩
theorem pt_m6_208 : pt_Mp (6, 208, 0, 139) := ⟨pm_in 1102 (by decide +kernel) rfl, pm_in 1104 (by decide +kernel) rfl, pm_in 49 (by decide +kernel) rfl, pt_Y139, RX6, TX6, 23, rfl, rfl⟩
theorem pt_m6_201 : pt_Mp (6, 201, 0, 140) := ⟨pm_in 1106 (by decide +kernel) rfl, pm_in 1108 (by decide +kernel) rfl, pm_in 50 (by decide +kernel) rfl, pt_Y140, RX6, TX6, 23, rfl, rfl⟩
theorem pt_m6_212 : pt_Mp (6, 212, 0, 141) := ⟨pm_in 1110 (by decide +kernel) rfl, pm_in 1112 (by decide +kernel) rfl, pm_in 51 (by decide +kernel) rfl, pt_Y141, RX6, TX6, 23, rfl, rfl⟩
theorem pt_m6_263 : pt_Mp (6, 263, 0, 143) := ⟨pm_in 1118 (by decide +kernel) rfl, pm_in 1120 (by decide +kernel) rfl, pm_in 52 (by decide +kernel) rfl, pt_Y143, RX6, TX6, 23, rfl, rfl⟩
theorem pt_m6_255 : pt_Mp (6, 255, 0, 144) := ⟨pm_in 1122 (by decide +kernel) rfl, pm_in 1124 (by decide +kernel) rfl, pm_in 53 (by decide +kernel) rfl, pt_Y144, RX6, TX6, 23, rfl, rfl⟩
theorem pt_m6_233 : pt_Mp (6, 233, 0, 145) := ⟨pm_in 1126 (by decide +kernel) rfl, pm_in 1128 (by decide +kernel) rfl, pm_in 54 (by decide +kernel) rfl, pt_Y145, RX6, TX6, 23, rfl, rfl⟩
theorem pt_m6_248 : pt_Mp (6, 248, 0, 146) := ⟨pm_in 1130 (by decide +kernel) rfl, pm_in 1132 (by decide +kernel) rfl, pm_in 55 (by decide +kernel) rfl, pt_Y146, RX6, TX6, 23, rfl, rfl⟩
theorem pt_m6_259 : pt_Mp (6, 259, 1, 147) := ⟨pm_in 1134 (by decide +kernel) rfl, pm_in 1135 (by decide +kernel) rfl, pt_Y147⟩
theorem pt_m6_267 : pt_Mp (6, 267, 1, 151) := ⟨pm_in 1152 (by decide +kernel) rfl, pm_in 1153 (by decide +kernel) rfl, pt_Y151⟩
theorem pt_m6_270 : pt_Mp (6, 270, 0, 153) := ⟨pm_in 1159 (by decide +kernel) rfl, pm_in 1161 (by decide +kernel) rfl, pm_in 56 (by decide +kernel) rfl, pt_Y153, RX6, TX6, 23, rfl, rfl⟩
theorem pt_m6_274 : pt_Mp (6, 274, 0, 156) := ⟨pm_in 1171 (by decide +kernel) rfl, pm_in 1173 (by decide +kernel) rfl, pm_in 57 (by decide +kernel) rfl, pt_Y156, RX6, TX6, 23, rfl, rfl⟩
theorem pt_m6_277 : pt_Mp (6, 277, 0, 157) := ⟨pm_in 1175 (by decide +kernel) rfl, pm_in 1177 (by decide +kernel) rfl, pm_in 58 (by decide +kernel) rfl, pt_Y157, RX6, TX6, 23, rfl, rfl⟩
theorem pt_m6_280 : pt_Mp (6, 280, 0, 159) := ⟨pm_in 1183 (by decide +kernel) rfl, pm_in 1185 (by decide +kernel) rfl, pm_in 59 (by decide +kernel) rfl, pt_Y159, RX6, TX6, 23, rfl, rfl⟩
theorem pt_m6_284 : pt_Mp (6, 284, 0, 162) := ⟨pm_in 1196 (by decide +kernel) rfl, pm_in 1198 (by decide +kernel) rfl, pm_in 60 (by decide +kernel) rfl, pt_Y162, RX6, TX6, 23, rfl, rfl⟩
def pt_Ml6 : List (Nat × Nat × Nat × Nat) := [(6, 14, 0, 88), (6, 103, 1, 90), (6, 114, 0, 92), (6, 30, 1, 93), (6, 34, 1, 94), (6, 44, 0, 95), (6, 110, 1, 96), (6, 166, 0, 97), (6, 157, 0, 98), (6, 60, 1, 99), (6, 54, 1, 100), (6, 64, 0, 101), (6, 107, 0, 102), (6, 118, 0, 103), (6, 160, 0, 104), (6, 123, 0, 105), (6, 127, 1, 106), (6, 131, 0, 107), (6, 68, 1, 108), (6, 163, 0, 109), (6, 151, 0, 110), (6, 141, 1, 111), (6, 134, 1, 112), (6, 145, 1, 113), (6, 148, 1, 114), (6, 137, 1, 115), (6, 154, 0, 116), (6, 169, 0, 117), (6, 182, 1, 121), (6, 185, 0, 122), (6, 175, 0, 123), (6, 188, 1, 125), (6, 191, 0, 126), (6, 195, 0, 129), (6, 198, 0, 130), (6, 179, 0, 131), (6, 217, 1, 133), (6, 221, 0, 134), (6, 224, 0, 136), (6, 204, 0, 137), (6, 227, 0, 138), (6, 208, 0, 139), (6, 201, 0, 140), (6, 212, 0, 141), (6, 263, 0, 143), (6, 255, 0, 144), (6, 233, 0, 145), (6, 248, 0, 146), (6, 259, 1, 147), (6, 267, 1, 151), (6, 270, 0, 153), (6, 274, 0, 156), (6, 277, 0, 157), (6, 280, 0, 159), (6, 284, 0, 162)]
theorem pt_Ml6_ok : ∀ q ∈ pt_Ml6, pt_Mp q := List.forall_mem_cons.mpr ⟨pt_m6_14, List.forall_mem_cons.mpr ⟨pt_m6_103, List.forall_mem_cons.mpr ⟨pt_m6_114, List.forall_mem_cons.mpr ⟨pt_m6_30, List.forall_mem_cons.mpr ⟨pt_m6_34, List.forall_mem_cons.mpr ⟨pt_m6_44, List.forall_mem_cons.mpr ⟨pt_m6_110, List.forall_mem_cons.mpr ⟨pt_m6_166, List.forall_mem_cons.mpr ⟨pt_m6_157, List.forall_mem_cons.mpr ⟨pt_m6_60, List.forall_mem_cons.mpr ⟨pt_m6_54, List.forall_mem_cons.mpr ⟨pt_m6_64, List.forall_mem_cons.mpr ⟨pt_m6_107, List.forall_mem_cons.mpr ⟨pt_m6_118, List.forall_mem_cons.mpr ⟨pt_m6_160, List.forall_mem_cons.mpr ⟨pt_m6_123, List.forall_mem_cons.mpr ⟨pt_m6_127, List.forall_mem_cons.mpr ⟨pt_m6_131, List.forall_mem_cons.mpr ⟨pt_m6_68, List.forall_mem_cons.mpr ⟨pt_m6_163, List.forall_mem_cons.mpr ⟨pt_m6_151, List.forall_mem_cons.mpr ⟨pt_m6_141, List.forall_mem_cons.mpr ⟨pt_m6_134, List.forall_mem_cons.mpr ⟨pt_m6_145, List.forall_mem_cons.mpr ⟨pt_m6_148, List.forall_mem_cons.mpr ⟨pt_m6_137, List.forall_mem_cons.mpr ⟨pt_m6_154, List.forall_mem_cons.mpr ⟨pt_m6_169, List.forall_mem_cons.mpr ⟨pt_m6_182, List.forall_mem_cons.mpr ⟨pt_m6_185, List.forall_mem_cons.mpr ⟨pt_m6_175, List.forall_mem_cons.mpr ⟨pt_m6_188, List.forall_mem_cons.mpr ⟨pt_m6_191, List.forall_mem_cons.mpr ⟨pt_m6_195, List.forall_mem_cons.mpr ⟨pt_m6_198, List.forall_mem_cons.mpr ⟨pt_m6_179, List.forall_mem_cons.mpr ⟨pt_m6_217, List.forall_mem_cons.mpr ⟨pt_m6_221, List.forall_mem_cons.mpr ⟨pt_m6_224, List.forall_mem_cons.mpr ⟨pt_m6_204, List.forall_mem_cons.mpr ⟨pt_m6_227, List.forall_mem_cons.mpr ⟨pt_m6_208, List.forall_mem_cons.mpr ⟨pt_m6_201, List.forall_mem_cons.mpr ⟨pt_m6_212, List.forall_mem_cons.mpr ⟨pt_m6_263, List.forall_mem_cons.mpr ⟨pt_m6_255, List.forall_mem_cons.mpr ⟨pt_m6_233, List.forall_mem_cons.mpr ⟨pt_m6_248, List.forall_mem_cons.mpr ⟨pt_m6_259, List.forall_mem_cons.mpr ⟨pt_m6_267, List.forall_mem_cons.mpr ⟨pt_m6_270, List.forall_mem_cons.mpr ⟨pt_m6_274, List.forall_mem_cons.mpr ⟨pt_m6_277, List.forall_mem_cons.mpr ⟨pt_m6_280, List.forall_mem_cons.mpr ⟨pt_m6_284, fun _ h => absurd h List.not_mem_nil⟩⟩⟩⟩⟩⟩⟩⟩⟩⟩⟩⟩⟩⟩⟩⟩⟩⟩⟩⟩⟩⟩⟩⟩⟩⟩⟩⟩⟩⟩⟩⟩⟩⟩⟩⟩⟩⟩⟩⟩⟩⟩⟩⟩⟩⟩⟩⟩⟩⟩⟩⟩⟩⟩⟩
def pt_Ml : List (Nat × Nat × Nat × Nat) := pt_Ml0 ++ (pt_Ml1 ++ (pt_Ml2 ++ (pt_Ml3 ++ (pt_Ml4 ++ (pt_Ml5 ++ pt_Ml6)))))
theorem pt_Ml_ok : ∀ q ∈ pt_Ml, pt_Mp q := List.forall_mem_append.mpr ⟨pt_Ml0_ok, List.forall_mem_append.mpr ⟨pt_Ml1_ok, List.forall_mem_append.mpr ⟨pt_Ml2_ok, List.forall_mem_append.mpr ⟨pt_Ml3_ok, List.forall_mem_append.mpr ⟨pt_Ml4_ok, List.forall_mem_append.mpr ⟨pt_Ml5_ok, pt_Ml6_ok⟩⟩⟩⟩⟩⟩
def pt_M (o ix : Nat) : Option (Nat × Nat) := (pt_Ml.find? (fun q => q.1 == o && q.2.1 == ix)).map (fun q => q.2.2)
theorem pt_M_ok {o ix : Nat} {q : Nat × Nat} (h : pt_M o ix = some q) : pt_Mp (o, ix, q) := by
  unfold pt_M at h
  cases hf : pt_Ml.find? (fun q => q.1 == o && q.2.1 == ix) with
  | none => rw [hf] at h; cases h
  | some z =>
    rw [hf] at h
    cases h
    have h1 := List.find?_some hf
    have h2 := pt_Ml_ok z (List.mem_of_find?_eq_some hf)
    obtain ⟨a, b, c⟩ := z
    simp only [Bool.and_eq_true, beq_iff_eq] at h1
    obtain ⟨rfl, rfl⟩ := h1
    exact h2
theorem pt_M_0_28 : pt_M 0 28 = some (0, 1) := rfl
theorem pt_M_0_32 : pt_M 0 32 = some (0, 51) := rfl
theorem pt_M_0_38 : pt_M 0 38 = some (0, 4) := rfl
theorem pt_M_0_46 : pt_M 0 46 = some (0, 46) := rfl
theorem pt_M_0_59 : pt_M 0 59 = some (0, 52) := rfl
theorem pt_M_0_63 : pt_M 0 63 = some (0, 48) := rfl
theorem pt_M_0_66 : pt_M 0 66 = some (0, 50) := rfl
theorem pt_M_0_70 : pt_M 0 70 = some (0, 2) := rfl
theorem pt_M_0_80 : pt_M 0 80 = some (0, 5) := rfl
theorem pt_M_0_86 : pt_M 0 86 = some (0, 6) := rfl
theorem pt_M_0_92 : pt_M 0 92 = some (1, 167) := rfl
theorem pt_M_0_101 : pt_M 0 101 = some (0, 3) := rfl
theorem pt_M_1_23 : pt_M 1 23 = some (0, 10) := rfl
theorem pt_M_1_26 : pt_M 1 26 = some (0, 44) := rfl
theorem pt_M_1_31 : pt_M 1 31 = some (0, 45) := rfl
theorem pt_M_2_15 : pt_M 2 15 = some (0, 29) := rfl
theorem pt_M_2_30 : pt_M 2 30 = some (0, 13) := rfl
theorem pt_M_2_36 : pt_M 2 36 = some (0, 15) := rfl
theorem pt_M_2_40 : pt_M 2 40 = some (0, 17) := rfl
theorem pt_M_2_44 : pt_M 2 44 = some (0, 21) := rfl
theorem pt_M_2_48 : pt_M 2 48 = some (0, 23) := rfl
theorem pt_M_2_52 : pt_M 2 52 = some (0, 24) := rfl
theorem pt_M_2_60 : pt_M 2 60 = some (0, 16) := rfl
theorem pt_M_2_66 : pt_M 2 66 = some (0, 18) := rfl
theorem pt_M_2_71 : pt_M 2 71 = some (0, 19) := rfl
theorem pt_M_2_81 : pt_M 2 81 = some (0, 20) := rfl
theorem pt_M_2_87 : pt_M 2 87 = some (0, 22) := rfl
theorem pt_M_2_105 : pt_M 2 105 = some (0, 25) := rfl
theorem pt_M_2_114 : pt_M 2 114 = some (0, 26) := rfl
theorem pt_M_2_121 : pt_M 2 121 = some (0, 30) := rfl
theorem pt_M_2_124 : pt_M 2 124 = some (0, 32) := rfl
theorem pt_M_2_128 : pt_M 2 128 = some (0, 34) := rfl
theorem pt_M_2_131 : pt_M 2 131 = some (0, 35) := rfl
theorem pt_M_2_134 : pt_M 2 134 = some (0, 37) := rfl
theorem pt_M_2_138 : pt_M 2 138 = some (0, 38) := rfl
theorem pt_M_2_141 : pt_M 2 141 = some (2, 58) := rfl
theorem pt_M_2_144 : pt_M 2 144 = some (2, 59) := rfl
theorem pt_M_2_147 : pt_M 2 147 = some (0, 39) := rfl
theorem pt_M_2_154 : pt_M 2 154 = some (3, 900) := rfl
theorem pt_M_2_162 : pt_M 2 162 = some (4, 901) := rfl
theorem pt_M_2_166 : pt_M 2 166 = some (1, 165) := rfl
theorem pt_M_2_172 : pt_M 2 172 = some (0, 14) := rfl
theorem pt_M_4_39 : pt_M 4 39 = some (0, 29) := rfl
theorem pt_M_4_52 : pt_M 4 52 = some (0, 31) := rfl
theorem pt_M_4_56 : pt_M 4 56 = some (0, 33) := rfl
theorem pt_M_4_59 : pt_M 4 59 = some (1, 166) := rfl
theorem pt_M_4_66 : pt_M 4 66 = some (0, 36) := rfl
theorem pt_M_4_70 : pt_M 4 70 = some (1, 165) := rfl
theorem pt_M_4_73 : pt_M 4 73 = some (0, 41) := rfl
theorem pt_M_4_76 : pt_M 4 76 = some (1, 47) := rfl
theorem pt_M_4_79 : pt_M 4 79 = some (0, 40) := rfl
theorem pt_M_4_84 : pt_M 4 84 = some (0, 53) := rfl
theorem pt_M_4_88 : pt_M 4 88 = some (0, 54) := rfl
theorem pt_M_4_91 : pt_M 4 91 = some (0, 43) := rfl
theorem pt_M_4_94 : pt_M 4 94 = some (0, 49) := rfl
theorem pt_M_5_53 : pt_M 5 53 = some (0, 27) := rfl
theorem pt_M_5_57 : pt_M 5 57 = some (0, 28) := rfl
theorem pt_M_5_64 : pt_M 5 64 = some (0, 12) := rfl
theorem pt_M_5_81 : pt_M 5 81 = some (0, 31) := rfl
theorem pt_M_5_85 : pt_M 5 85 = some (0, 36) := rfl
theorem pt_M_5_89 : pt_M 5 89 = some (0, 33) := rfl
theorem pt_M_5_92 : pt_M 5 92 = some (1, 63) := rfl
theorem pt_M_5_96 : pt_M 5 96 = some (0, 40) := rfl
theorem pt_M_5_99 : pt_M 5 99 = some (1, 69) := rfl
theorem pt_M_5_127 : pt_M 5 127 = some (0, 42) := rfl
theorem pt_M_5_142 : pt_M 5 142 = some (0, 43) := rfl
theorem pt_M_5_145 : pt_M 5 145 = some (1, 75) := rfl
theorem pt_M_5_149 : pt_M 5 149 = some (0, 46) := rfl
theorem pt_M_5_155 : pt_M 5 155 = some (0, 48) := rfl
theorem pt_M_5_159 : pt_M 5 159 = some (0, 50) := rfl
theorem pt_M_5_163 : pt_M 5 163 = some (0, 51) := rfl
theorem pt_M_5_166 : pt_M 5 166 = some (0, 52) := rfl
theorem pt_M_5_171 : pt_M 5 171 = some (0, 0) := rfl
theorem pt_M_5_175 : pt_M 5 175 = some (0, 6) := rfl
theorem pt_M_5_179 : pt_M 5 179 = some (0, 7) := rfl
theorem pt_M_5_195 : pt_M 5 195 = some (0, 80) := rfl
theorem pt_M_5_199 : pt_M 5 199 = some (0, 8) := rfl
theorem pt_M_5_202 : pt_M 5 202 = some (1, 71) := rfl
theorem pt_M_5_205 : pt_M 5 205 = some (0, 84) := rfl
theorem pt_M_5_209 : pt_M 5 209 = some (0, 30) := rfl
theorem pt_M_5_212 : pt_M 5 212 = some (0, 32) := rfl
theorem pt_M_5_215 : pt_M 5 215 = some (0, 37) := rfl
theorem pt_M_5_219 : pt_M 5 219 = some (0, 44) := rfl
theorem pt_M_5_222 : pt_M 5 222 = some (0, 34) := rfl
theorem pt_M_5_225 : pt_M 5 225 = some (0, 35) := rfl
theorem pt_M_5_228 : pt_M 5 228 = some (0, 9) := rfl
theorem pt_M_5_231 : pt_M 5 231 = some (1, 58) := rfl
theorem pt_M_5_234 : pt_M 5 234 = some (1, 59) := rfl
theorem pt_M_5_237 : pt_M 5 237 = some (0, 38) := rfl
theorem pt_M_5_240 : pt_M 5 240 = some (0, 39) := rfl
theorem pt_M_5_246 : pt_M 5 246 = some (0, 11) := rfl
theorem pt_M_5_252 : pt_M 5 252 = some (0, 1) := rfl
theorem pt_M_5_256 : pt_M 5 256 = some (0, 4) := rfl
theorem pt_M_6_14 : pt_M 6 14 = some (0, 88) := rfl
theorem pt_M_6_30 : pt_M 6 30 = some (1, 93) := rfl
theorem pt_M_6_34 : pt_M 6 34 = some (1, 94) := rfl
theorem pt_M_6_44 : pt_M 6 44 = some (0, 95) := rfl
theorem pt_M_6_54 : pt_M 6 54 = some (1, 100) := rfl
theorem pt_M_6_60 : pt_M 6 60 = some (1, 99) := rfl
theorem pt_M_6_64 : pt_M 6 64 = some (0, 101) := rfl
theorem pt_M_6_68 : pt_M 6 68 = some (1, 108) := rfl
theorem pt_M_6_103 : pt_M 6 103 = some (1, 90) := rfl
theorem pt_M_6_107 : pt_M 6 107 = some (0, 102) := rfl
theorem pt_M_6_110 : pt_M 6 110 = some (1, 96) := rfl
theorem pt_M_6_114 : pt_M 6 114 = some (0, 92) := rfl
theorem pt_M_6_118 : pt_M 6 118 = some (0, 103) := rfl
theorem pt_M_6_123 : pt_M 6 123 = some (0, 105) := rfl
theorem pt_M_6_127 : pt_M 6 127 = some (1, 106) := rfl
theorem pt_M_6_131 : pt_M 6 131 = some (0, 107) := rfl
theorem pt_M_6_134 : pt_M 6 134 = some (1, 112) := rfl
theorem pt_M_6_137 : pt_M 6 137 = some (1, 115) := rfl
theorem pt_M_6_141 : pt_M 6 141 = some (1, 111) := rfl
theorem pt_M_6_145 : pt_M 6 145 = some (1, 113) := rfl
theorem pt_M_6_148 : pt_M 6 148 = some (1, 114) := rfl
theorem pt_M_6_151 : pt_M 6 151 = some (0, 110) := rfl
theorem pt_M_6_154 : pt_M 6 154 = some (0, 116) := rfl
theorem pt_M_6_157 : pt_M 6 157 = some (0, 98) := rfl
theorem pt_M_6_160 : pt_M 6 160 = some (0, 104) := rfl
theorem pt_M_6_163 : pt_M 6 163 = some (0, 109) := rfl
theorem pt_M_6_166 : pt_M 6 166 = some (0, 97) := rfl
theorem pt_M_6_169 : pt_M 6 169 = some (0, 117) := rfl
theorem pt_M_6_175 : pt_M 6 175 = some (0, 123) := rfl
theorem pt_M_6_179 : pt_M 6 179 = some (0, 131) := rfl
theorem pt_M_6_182 : pt_M 6 182 = some (1, 121) := rfl
theorem pt_M_6_185 : pt_M 6 185 = some (0, 122) := rfl
theorem pt_M_6_188 : pt_M 6 188 = some (1, 125) := rfl
theorem pt_M_6_191 : pt_M 6 191 = some (0, 126) := rfl
theorem pt_M_6_195 : pt_M 6 195 = some (0, 129) := rfl
theorem pt_M_6_198 : pt_M 6 198 = some (0, 130) := rfl
theorem pt_M_6_201 : pt_M 6 201 = some (0, 140) := rfl
theorem pt_M_6_204 : pt_M 6 204 = some (0, 137) := rfl
theorem pt_M_6_208 : pt_M 6 208 = some (0, 139) := rfl
theorem pt_M_6_212 : pt_M 6 212 = some (0, 141) := rfl
theorem pt_M_6_217 : pt_M 6 217 = some (1, 133) := rfl
theorem pt_M_6_221 : pt_M 6 221 = some (0, 134) := rfl
theorem pt_M_6_224 : pt_M 6 224 = some (0, 136) := rfl
theorem pt_M_6_227 : pt_M 6 227 = some (0, 138) := rfl
theorem pt_M_6_233 : pt_M 6 233 = some (0, 145) := rfl
theorem pt_M_6_248 : pt_M 6 248 = some (0, 146) := rfl
theorem pt_M_6_255 : pt_M 6 255 = some (0, 144) := rfl
theorem pt_M_6_259 : pt_M 6 259 = some (1, 147) := rfl
theorem pt_M_6_263 : pt_M 6 263 = some (0, 143) := rfl
theorem pt_M_6_267 : pt_M 6 267 = some (1, 151) := rfl
theorem pt_M_6_270 : pt_M 6 270 = some (0, 153) := rfl
theorem pt_M_6_274 : pt_M 6 274 = some (0, 156) := rfl
theorem pt_M_6_277 : pt_M 6 277 = some (0, 157) := rfl
theorem pt_M_6_280 : pt_M 6 280 = some (0, 159) := rfl
theorem pt_M_6_284 : pt_M 6 284 = some (0, 162) := rfl
