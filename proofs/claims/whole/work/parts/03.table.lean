/-! THE TABLE: methods, links, blocks (by program) -/
theorem zMl_v {own : String} {idx na : Nat} {M : zM} (h1 : Cond.code M.1 M.2.1 M.2.2.1 M.2.2.2 ∈ z_all) (h2 : Cond.initialized M.1.cls ∈ z_all) (h3 : M.1.cls ≠ "java/lang/invoke/MethodHandle" ∧ M.1.cls ≠ "java/lang/invoke/VarHandle") (h4 : (parseMethodDescriptor M.1.desc).map (fun d => d.parameters.length) = some na) (h5 : M.2.2.1 ≤ 40) (a : Cond.methodLink own idx M.1 ∈ z_all) (b : Cond.instanceMethod M.1 ∈ z_all) (c : Cond.selects M.1.cls M.1 M.1 ∈ z_all) : zMl 0 own idx M na := ⟨h1, h2, h3, h4, h5, a, b, c⟩
theorem zMl_s {own : String} {idx na : Nat} {M : zM} (h1 : Cond.code M.1 M.2.1 M.2.2.1 M.2.2.2 ∈ z_all) (h2 : Cond.initialized M.1.cls ∈ z_all) (h3 : M.1.cls ≠ "java/lang/invoke/MethodHandle" ∧ M.1.cls ≠ "java/lang/invoke/VarHandle") (h4 : (parseMethodDescriptor M.1.desc).map (fun d => d.parameters.length) = some na) (h5 : M.2.2.1 ≤ 40) (a : Cond.methodLink own idx M.1 ∈ z_all) (b : Cond.static M.1 ∈ z_all) : zMl 1 own idx M na := ⟨h1, h2, h3, h4, h5, a, b⟩
theorem zMl_i {own : String} {idx na : Nat} {M : zM} (h1 : Cond.code M.1 M.2.1 M.2.2.1 M.2.2.2 ∈ z_all) (h2 : Cond.initialized M.1.cls ∈ z_all) (h3 : M.1.cls ≠ "java/lang/invoke/MethodHandle" ∧ M.1.cls ≠ "java/lang/invoke/VarHandle") (h4 : (parseMethodDescriptor M.1.desc).map (fun d => d.parameters.length) = some na) (h5 : M.2.2.1 ≤ 40) (a : Cond.methodLink own idx M.1 ∈ z_all ∨ (own, idx, M.1) ∈ z_nest) (b : Cond.instanceMethod M.1 ∈ z_all) (c : M.1.name = "<init>") (e : M.2.2.2 = none) : zMl 2 own idx M na := ⟨h1, h2, h3, h4, h5, a, b, c, e⟩
def mX0_most : zM := (yX0_most, cX0_most, 4, (some .int))
def mX0_firstBar : zM := (yX0_firstBar, cX0_firstBar, 4, (some .int))
def mX0_lostIn : zM := (yX0_lostIn, cX0_lostIn, 4, (some .int))
def mX0_fullWeight : zM := (yX0_fullWeight, cX0_fullWeight, 5, (some .int))
def mX1_init : zM := (yX1_init, cX1_init, 1, none)
def mX1_forParish : zM := (yX1_forParish, cX1_forParish, 1, none)
def mX1_forTower : zM := (yX1_forTower, cX1_forTower, 1, none)
def mX1_settle : zM := (yX1_settle, cX1_settle, 4, none)
def mX1_everyone : zM := (yX1_everyone, cX1_everyone, 1, (some .int))
def mX1_fewestShort : zM := (yX1_fewestShort, cX1_fewestShort, 1, (some .int))
def mX1_leastWalk : zM := (yX1_leastWalk, cX1_leastWalk, 1, (some .int))
def mX1_firstBell : zM := (yX1_firstBell, cX1_firstBell, 4, (some .int))
def mX1_fewestRingers : zM := (yX1_fewestRingers, cX1_fewestRingers, 1, (some .int))
def mX1_areEnough : zM := (yX1_areEnough, cX1_areEnough, 3, (some .boolean))
def mX1_mostEven : zM := (yX1_mostEven, cX1_mostEven, 2, (some .int))
def mX1_missedRingers : zM := (yX1_missedRingers, cX1_missedRingers, 2, (some .int))
def mX1_ringsInFirst : zM := (yX1_ringsInFirst, cX1_ringsInFirst, 3, (some .boolean))
def mX1_isEnough : zM := (yX1_isEnough, cX1_isEnough, 5, (some .boolean))
def mX1_shiftOf : zM := (yX1_shiftOf, cX1_shiftOf, 2, (some .int))
def mX1_priceHour : zM := (yX1_priceHour, cX1_priceHour, 11, none)
def mX1_addInOrder : zM := (yX1_addInOrder, cX1_addInOrder, 5, none)
def mX1_walkOf : zM := (yX1_walkOf, cX1_walkOf, 5, (some .int))
def mX1_seatsOf : zM := (yX1_seatsOf, cX1_seatsOf, 9, (some .long))
def mX1_findLeast : zM := (yX1_findLeast, cX1_findLeast, 7, none)
def mX1_search : zM := (yX1_search, cX1_search, 7, (some .long))
def mX1_seek : zM := (yX1_seek, cX1_seek, 14, none)
def mX1_leastAfter : zM := (yX1_leastAfter, cX1_leastAfter, 5, (some .long))
def mX1_openIn : zM := (yX1_openIn, cX1_openIn, 9, (some .int))
def mX2_init : zM := (yX2_init, cX2_init, 1, none)
def mX2_empty : zM := (yX2_empty, cX2_empty, 1, none)
def mX2_addHour : zM := (yX2_addHour, cX2_addHour, 2, none)
def mX2_addRinger : zM := (yX2_addRinger, cX2_addRinger, 5, none)
def mX2_hasHour : zM := (yX2_hasHour, cX2_hasHour, 2, (some .boolean))
def mX2_hasRinger : zM := (yX2_hasRinger, cX2_hasRinger, 2, (some .boolean))
def mX2_hasBell : zM := (yX2_hasBell, cX2_hasBell, 3, (some .boolean))
def mX2_wantedInAll : zM := (yX2_wantedInAll, cX2_wantedInAll, 3, (some .int))
def mX2_bellsFor : zM := (yX2_bellsFor, cX2_bellsFor, 3, (some .int))
def mX2_canRing : zM := (yX2_canRing, cX2_canRing, 4, (some .boolean))
def mX2_ableOf : zM := (yX2_ableOf, cX2_ableOf, 6, (some .int))
def mX2_busyHours : zM := (yX2_busyHours, cX2_busyHours, 2, (some .int))
def mX2_way : zM := (yX2_way, cX2_way, 3, (some .int))
def mX2_weightOf : zM := (yX2_weightOf, cX2_weightOf, 4, (some .int))
def mX2_weightInAll : zM := (yX2_weightInAll, cX2_weightInAll, 3, (some .int))
def mX3_init : zM := (yX3_init, cX3_init, 1, none)
def mX3_empty : zM := (yX3_empty, cX3_empty, 2, none)
def mX3_clean : zM := (yX3_clean, cX3_clean, 2, none)
def mX3_copy : zM := (yX3_copy, cX3_copy, 2, none)
def mX3_bellOf : zM := (yX3_bellOf, cX3_bellOf, 3, (some .int))
def mX3_isTurn : zM := (yX3_isTurn, cX3_isTurn, 2, (some .boolean))
def mX3_hasTurn : zM := (yX3_hasTurn, cX3_hasTurn, 3, (some .boolean))
def mX3_give : zM := (yX3_give, cX3_give, 4, none)
def mX3_free : zM := (yX3_free, cX3_free, 3, none)
def mX3_swap : zM := (yX3_swap, cX3_swap, 5, none)
def mX3_ringerAt : zM := (yX3_ringerAt, cX3_ringerAt, 4, (some .int))
def mX3_timesOf : zM := (yX3_timesOf, cX3_timesOf, 4, (some .int))
def mX3_hasRoom : zM := (yX3_hasRoom, cX3_hasRoom, 6, (some .boolean))
def mX3_ringersIn : zM := (yX3_ringersIn, cX3_ringersIn, 4, (some .int))
def mX3_ringersAtAll : zM := (yX3_ringersAtAll, cX3_ringersAtAll, 3, (some .int))
def mX3_soundsWithout : zM := (yX3_soundsWithout, cX3_soundsWithout, 3, (some .boolean))
def mX3_walk : zM := (yX3_walk, cX3_walk, 5, (some .int))
def mX4_init : zM := (yX4_init, cX4_init, 1, none)
def mX4_empty : zM := (yX4_empty, cX4_empty, 1, none)
def mX4_add : zM := (yX4_add, cX4_add, 2, none)
def mX4_read : zM := (yX4_read, cX4_read, 4, (some .int))
def mX4_readItem : zM := (yX4_readItem, cX4_readItem, 4, none)
def mX4_kindOfWord : zM := (yX4_kindOfWord, cX4_kindOfWord, 3, (some .int))
def mX4_nameOf : zM := (yX4_nameOf, cX4_nameOf, 1, (some (.object "java/lang/String")))
def mX4_isWord : zM := (yX4_isWord, cX4_isWord, 5, (some .boolean))
def mX4_mayStand : zM := (yX4_mayStand, cX4_mayStand, 3, (some .boolean))
def mX4_readNumbers : zM := (yX4_readNumbers, cX4_readNumbers, 2, none)
def mX4_readNumber : zM := (yX4_readNumber, cX4_readNumber, 7, none)
def mX4_readEnd : zM := (yX4_readEnd, cX4_readEnd, 1, none)
def mX4_endsTooEarly : zM := (yX4_endsTooEarly, cX4_endsTooEarly, 1, (some .boolean))
def mX4_skipBlanks : zM := (yX4_skipBlanks, cX4_skipBlanks, 1, none)
def mX4_tell : zM := (yX4_tell, cX4_tell, 3, none)
def mX5_init : zM := (yX5_init, cX5_init, 2, none)
def mX5_type : zM := (yX5_type, cX5_type, 5, (some .int))
def mX5_clear : zM := (yX5_clear, cX5_clear, 2, (some .int))
def mX5_parish : zM := (yX5_parish, cX5_parish, 4, (some .int))
def mX5_ringer : zM := (yX5_ringer, cX5_ringer, 3, (some .int))
def mX5_hour : zM := (yX5_hour, cX5_hour, 3, (some .int))
def mX5_put : zM := (yX5_put, cX5_put, 4, (some .int))
def mX5_rings : zM := (yX5_rings, cX5_rings, 3, (some .int))
def mX5_take : zM := (yX5_take, cX5_take, 4, (some .int))
def mX5_exchange : zM := (yX5_exchange, cX5_exchange, 3, (some .int))
def mX5_canTakeOver : zM := (yX5_canTakeOver, cX5_canTakeOver, 5, (some .boolean))
def mX5_now : zM := (yX5_now, cX5_now, 2, (some .int))
def mX5_moves : zM := (yX5_moves, cX5_moves, 3, (some .int))
def mX5_crew : zM := (yX5_crew, cX5_crew, 2, (some .int))
def mX5_bars : zM := (yX5_bars, cX5_bars, 2, (some .int))
def mX5_night : zM := (yX5_night, cX5_night, 2, (some .int))
def mX5_best : zM := (yX5_best, cX5_best, 3, (some .int))
def mX5_needed : zM := (yX5_needed, cX5_needed, 1, (some .int))
def mX5_odds : zM := (yX5_odds, cX5_odds, 6, (some .int))
def mX5_commonDivisor : zM := (yX5_commonDivisor, cX5_commonDivisor, 6, (some .int))
def mX5_stands : zM := (yX5_stands, cX5_stands, 6, (some .int))
def mX5_heard : zM := (yX5_heard, cX5_heard, 4, (some .int))
def mX5_forget : zM := (yX5_forget, cX5_forget, 3, (some .int))
def mX5_away : zM := (yX5_away, cX5_away, 7, (some .int))
def mX5_mark : zM := (yX5_mark, cX5_mark, 3, (some .int))
def mX5_markRinger : zM := (yX5_markRinger, cX5_markRinger, 2, (some .int))
def mX5_markSexton : zM := (yX5_markSexton, cX5_markSexton, 2, (some .int))
def mX5_markChild : zM := (yX5_markChild, cX5_markChild, 2, (some .int))
def mX5_markWarden : zM := (yX5_markWarden, cX5_markWarden, 2, (some .int))
def mX5_markNovice : zM := (yX5_markNovice, cX5_markNovice, 2, (some .int))
def mX5_markStranger : zM := (yX5_markStranger, cX5_markStranger, 2, (some .int))
def mX5_keep : zM := (yX5_keep, cX5_keep, 2, (some .int))
def mX5_back : zM := (yX5_back, cX5_back, 2, (some .int))
def mX5_count : zM := (yX5_count, cX5_count, 2, (some .int))
def mX5_trace : zM := (yX5_trace, cX5_trace, 1, (some .long))
def mX6_init : zM := (yX6_init, cX6_init, 1, none)
def mX6_in : zM := (yX6_in, cX6_in, 3, (some .boolean))
def mX6_type : zM := (yX6_type, cX6_type, 5, (some .int))
def mX6_clear : zM := (yX6_clear, cX6_clear, 2, (some .int))
def mX6_here : zM := (yX6_here, cX6_here, 1, (some .int))
def mX6_meaning : zM := (yX6_meaning, cX6_meaning, 1, (some .int))
def mX6_next : zM := (yX6_next, cX6_next, 3, none)
def mX6_due : zM := (yX6_due, cX6_due, 3, (some .int))
def mX6_number : zM := (yX6_number, cX6_number, 3, (some .int))
def mX6_readItem : zM := (yX6_readItem, cX6_readItem, 3, none)
def mX6_parish : zM := (yX6_parish, cX6_parish, 3, (some .int))
def mX6_begin : zM := (yX6_begin, cX6_begin, 2, none)
def mX6_isHour : zM := (yX6_isHour, cX6_isHour, 2, (some .boolean))
def mX6_isRinger : zM := (yX6_isRinger, cX6_isRinger, 2, (some .boolean))
def mX6_isWanted : zM := (yX6_isWanted, cX6_isWanted, 3, (some .boolean))
def mX6_bellOf : zM := (yX6_bellOf, cX6_bellOf, 5, (some .int))
def mX6_timesOf : zM := (yX6_timesOf, cX6_timesOf, 4, (some .int))
def mX6_inRota : zM := (yX6_inRota, cX6_inRota, 4, (some .int))
def mX6_allInRota : zM := (yX6_allInRota, cX6_allInRota, 1, (some .int))
def mX6_wayOf : zM := (yX6_wayOf, cX6_wayOf, 3, (some .int))
def mX6_walkTo : zM := (yX6_walkTo, cX6_walkTo, 4, (some .int))
def mX6_ringer : zM := (yX6_ringer, cX6_ringer, 3, (some .int))
def mX6_hour : zM := (yX6_hour, cX6_hour, 3, (some .int))
def mX6_isBusy : zM := (yX6_isBusy, cX6_isBusy, 3, (some .boolean))
def mX6_isLawful : zM := (yX6_isLawful, cX6_isLawful, 8, (some .boolean))
def mX6_put : zM := (yX6_put, cX6_put, 4, (some .int))
def mX6_rings : zM := (yX6_rings, cX6_rings, 3, (some .int))
def mX6_take : zM := (yX6_take, cX6_take, 4, (some .int))
def mX6_change : zM := (yX6_change, cX6_change, 4, none)
def mX6_exchange : zM := (yX6_exchange, cX6_exchange, 3, (some .int))
def mX6_allWanted : zM := (yX6_allWanted, cX6_allWanted, 3, (some .int))
def mX6_now : zM := (yX6_now, cX6_now, 2, (some .int))
def mX6_moves : zM := (yX6_moves, cX6_moves, 3, (some .int))
def mX6_bitsIn : zM := (yX6_bitsIn, cX6_bitsIn, 3, (some .int))
def mX6_wayToRing : zM := (yX6_wayToRing, cX6_wayToRing, 12, (some .int))
def mX6_findCrews : zM := (yX6_findCrews, cX6_findCrews, 5, none)
def mX6_crew : zM := (yX6_crew, cX6_crew, 2, (some .int))
def mX6_bars : zM := (yX6_bars, cX6_bars, 5, (some .int))
def mX6_mayFollow : zM := (yX6_mayFollow, cX6_mayFollow, 6, (some .boolean))
def mX6_follow : zM := (yX6_follow, cX6_follow, 3, none)
def mX6_wantedFrom : zM := (yX6_wantedFrom, cX6_wantedFrom, 4, (some .int))
def mX6_isFirst : zM := (yX6_isFirst, cX6_isFirst, 6, (some .boolean))
def mX6_weigh : zM := (yX6_weigh, cX6_weigh, 6, none)
def mX6_goThrough : zM := (yX6_goThrough, cX6_goThrough, 6, none)
def mX6_mostBut : zM := (yX6_mostBut, cX6_mostBut, 2, (some .int))
def mX6_findNight : zM := (yX6_findNight, cX6_findNight, 1, none)
def mX6_night : zM := (yX6_night, cX6_night, 2, (some .int))
def mX6_best : zM := (yX6_best, cX6_best, 4, (some .int))
def mX6_needed : zM := (yX6_needed, cX6_needed, 4, (some .int))
def mX6_common : zM := (yX6_common, cX6_common, 5, (some .int))
def mX6_odds : zM := (yX6_odds, cX6_odds, 10, (some .int))
def mX6_stands : zM := (yX6_stands, cX6_stands, 4, (some .int))
def mX6_heard : zM := (yX6_heard, cX6_heard, 4, (some .int))
def mX6_forget : zM := (yX6_forget, cX6_forget, 3, (some .int))
def mX6_fits : zM := (yX6_fits, cX6_fits, 7, (some .boolean))
def mX6_away : zM := (yX6_away, cX6_away, 7, (some .int))
def mX6_mark : zM := (yX6_mark, cX6_mark, 5, (some .int))
def mX6_copy : zM := (yX6_copy, cX6_copy, 4, none)
def mX6_keep : zM := (yX6_keep, cX6_keep, 2, (some .int))
def mX6_back : zM := (yX6_back, cX6_back, 2, (some .int))
def mX6_count : zM := (yX6_count, cX6_count, 2, (some .int))
def mX6_trace : zM := (yX6_trace, cX6_trace, 1, (some .long))
def mJ6_bitCount_0f7a4 : zM := (yJ6_bitCount_0f7a4, cJ6_bitCount_0f7a4, 1, (some .int))
def mJ9_abs_0f7a4 : zM := (yJ9_abs_0f7a4, cJ9_abs_0f7a4, 1, (some .int))
def mJ9_max_7cf53 : zM := (yJ9_max_7cf53, cJ9_max_7cf53, 2, (some .int))
def mJ9_min_7cf53 : zM := (yJ9_min_7cf53, cJ9_min_7cf53, 2, (some .int))
def mJ9_min_f86c9 : zM := (yJ9_min_f86c9, cJ9_min_f86c9, 4, (some .long))
def mJ0_length_8abf5 : zM := (yJ0_length_8abf5, cJ0_length_8abf5, 1, (some .int))
def mJ0_charAt_5068e : zM := (yJ0_charAt_5068e, cJ0_charAt_5068e, 2, (some .char))
def mJ0_coder_7d493 : zM := (yJ0_coder_7d493, cJ0_coder_7d493, 1, (some .byte))
def mJ0_isLatin1_aae02 : zM := (yJ0_isLatin1_aae02, cJ0_isLatin1_aae02, 1, (some .boolean))
def mJ0_checkIndex_df160 : zM := (yJ0_checkIndex_df160, cJ0_checkIndex_df160, 2, none)
def mJ1_charAt_3b067 : zM := (yJ1_charAt_3b067, cJ1_charAt_3b067, 2, (some .char))
def mJ2_getChar_3b067 : zM := (yJ2_getChar_3b067, cJ2_getChar_3b067, 2, (some .char))
def mJ2_length_9d52b : zM := (yJ2_length_9d52b, cJ2_length_9d52b, 1, (some .int))
def mJ2_charAt_3b067 : zM := (yJ2_charAt_3b067, cJ2_charAt_3b067, 2, (some .char))
def mJ2_checkIndex_2214a : zM := (yJ2_checkIndex_2214a, cJ2_checkIndex_2214a, 2, none)
def mJ3_checkIndex_8e157 : zM := (yJ3_checkIndex_8e157, cJ3_checkIndex_8e157, 3, (some .int))
def mL_law : zM := (x, code, 4, ret)
theorem fX0_9 : zFl RX0 9 1 5 := ⟨(RX2, TX2, 10), rfl, by decide, z_in (List.mem_of_getElem? (i := 140) (by decide +kernel)) (by decide +kernel)⟩
theorem wc_X0_lostIn : Cond.code mX0_lostIn.1 mX0_lostIn.2.1 mX0_lostIn.2.2.1 mX0_lostIn.2.2.2 ∈ z_all := z_in (List.mem_of_getElem? (i := 564) (by decide +kernel)) (by decide +kernel)
theorem wi_X0 : Cond.initialized RX0 ∈ z_all := z_in (List.mem_of_getElem? (i := 72) (by decide +kernel)) (by decide +kernel)
theorem wlX0_15 : Cond.methodLink RX0 15 yX0_lostIn ∈ z_all := z_in (List.mem_of_getElem? (i := 562) (by decide +kernel)) (by decide +kernel)
theorem wt_X0_lostIn : Cond.static yX0_lostIn ∈ z_all := z_in (List.mem_of_getElem? (i := 563) (by decide +kernel)) (by decide +kernel)
theorem lX0_15 : zMl 1 RX0 15 mX0_lostIn 4 := zMl_s wc_X0_lostIn wi_X0 ⟨by decide, by decide⟩ (by decide +kernel) (by decide) wlX0_15 wt_X0_lostIn
theorem wc_J9_max_7cf53 : Cond.code mJ9_max_7cf53.1 mJ9_max_7cf53.2.1 mJ9_max_7cf53.2.2.1 mJ9_max_7cf53.2.2.2 ∈ z_all := z_in (List.mem_of_getElem? (i := 572) (by decide +kernel)) (by decide +kernel)
theorem wi_J9 : Cond.initialized RJ9 ∈ z_all := z_in (List.mem_of_getElem? (i := 70) (by decide +kernel)) (by decide +kernel)
theorem wlX0_21 : Cond.methodLink RX0 21 yJ9_max_7cf53 ∈ z_all := z_in (List.mem_of_getElem? (i := 570) (by decide +kernel)) (by decide +kernel)
theorem wt_J9_max_7cf53 : Cond.static yJ9_max_7cf53 ∈ z_all := z_in (List.mem_of_getElem? (i := 571) (by decide +kernel)) (by decide +kernel)
theorem lX0_21 : zMl 1 RX0 21 mJ9_max_7cf53 2 := zMl_s wc_J9_max_7cf53 wi_J9 ⟨by decide, by decide⟩ (by decide +kernel) (by decide) wlX0_21 wt_J9_max_7cf53
theorem wc_J6_bitCount_0f7a4 : Cond.code mJ6_bitCount_0f7a4.1 mJ6_bitCount_0f7a4.2.1 mJ6_bitCount_0f7a4.2.2.1 mJ6_bitCount_0f7a4.2.2.2 ∈ z_all := z_in (List.mem_of_getElem? (i := 465) (by decide +kernel)) (by decide +kernel)
theorem wi_J6 : Cond.initialized RJ6 ∈ z_all := z_in (List.mem_of_getElem? (i := 71) (by decide +kernel)) (by decide +kernel)
theorem wlX0_27 : Cond.methodLink RX0 27 yJ6_bitCount_0f7a4 ∈ z_all := z_in (List.mem_of_getElem? (i := 565) (by decide +kernel)) (by decide +kernel)
theorem wt_J6_bitCount_0f7a4 : Cond.static yJ6_bitCount_0f7a4 ∈ z_all := z_in (List.mem_of_getElem? (i := 464) (by decide +kernel)) (by decide +kernel)
theorem lX0_27 : zMl 1 RX0 27 mJ6_bitCount_0f7a4 1 := zMl_s wc_J6_bitCount_0f7a4 wi_J6 ⟨by decide, by decide⟩ (by decide +kernel) (by decide) wlX0_27 wt_J6_bitCount_0f7a4
theorem wc_X2_ableOf : Cond.code mX2_ableOf.1 mX2_ableOf.2.1 mX2_ableOf.2.2.1 mX2_ableOf.2.2.2 ∈ z_all := z_in (List.mem_of_getElem? (i := 569) (by decide +kernel)) (by decide +kernel)
theorem wi_X2 : Cond.initialized RX2 ∈ z_all := z_in (List.mem_of_getElem? (i := 62) (by decide +kernel)) (by decide +kernel)
theorem wlX0_33 : Cond.methodLink RX0 33 yX2_ableOf ∈ z_all := z_in (List.mem_of_getElem? (i := 566) (by decide +kernel)) (by decide +kernel)
theorem wm_X2_ableOf : Cond.instanceMethod yX2_ableOf ∈ z_all := z_in (List.mem_of_getElem? (i := 567) (by decide +kernel)) (by decide +kernel)
theorem ws_X2_ableOf : Cond.selects RX2 yX2_ableOf yX2_ableOf ∈ z_all := z_in (List.mem_of_getElem? (i := 568) (by decide +kernel)) (by decide +kernel)
theorem lX0_33 : zMl 0 RX0 33 mX2_ableOf 3 := zMl_v wc_X2_ableOf wi_X2 ⟨by decide, by decide⟩ (by decide +kernel) (by decide) wlX0_33 wm_X2_ableOf ws_X2_ableOf
theorem fX0_37 : zFl RX0 37 1 1 := ⟨(RX2, TX2, 10), rfl, by decide, z_in (List.mem_of_getElem? (i := 122) (by decide +kernel)) (by decide +kernel)⟩
theorem wc_X2_weightOf : Cond.code mX2_weightOf.1 mX2_weightOf.2.1 mX2_weightOf.2.2.1 mX2_weightOf.2.2.2 ∈ z_all := z_in (List.mem_of_getElem? (i := 694) (by decide +kernel)) (by decide +kernel)
theorem wlX0_41 : Cond.methodLink RX0 41 yX2_weightOf ∈ z_all := z_in (List.mem_of_getElem? (i := 691) (by decide +kernel)) (by decide +kernel)
theorem wm_X2_weightOf : Cond.instanceMethod yX2_weightOf ∈ z_all := z_in (List.mem_of_getElem? (i := 692) (by decide +kernel)) (by decide +kernel)
theorem ws_X2_weightOf : Cond.selects RX2 yX2_weightOf yX2_weightOf ∈ z_all := z_in (List.mem_of_getElem? (i := 693) (by decide +kernel)) (by decide +kernel)
theorem lX0_41 : zMl 0 RX0 41 mX2_weightOf 1 := zMl_v wc_X2_weightOf wi_X2 ⟨by decide, by decide⟩ (by decide +kernel) (by decide) wlX0_41 wm_X2_weightOf ws_X2_weightOf
theorem wc_X0_firstBar : Cond.code mX0_firstBar.1 mX0_firstBar.2.1 mX0_firstBar.2.2.1 mX0_firstBar.2.2.2 ∈ z_all := z_in (List.mem_of_getElem? (i := 579) (by decide +kernel)) (by decide +kernel)
theorem wlX0_44 : Cond.methodLink RX0 44 yX0_firstBar ∈ z_all := z_in (List.mem_of_getElem? (i := 695) (by decide +kernel)) (by decide +kernel)
theorem wt_X0_firstBar : Cond.static yX0_firstBar ∈ z_all := z_in (List.mem_of_getElem? (i := 578) (by decide +kernel)) (by decide +kernel)
theorem lX0_44 : zMl 1 RX0 44 mX0_firstBar 3 := zMl_s wc_X0_firstBar wi_X0 ⟨by decide, by decide⟩ (by decide +kernel) (by decide) wlX0_44 wt_X0_firstBar
theorem fX1_11 : zFl RX1 11 0 0 := ⟨(RX1, TX1, 17), rfl, by decide, z_in (List.mem_of_getElem? (i := 207) (by decide +kernel)) (by decide +kernel)⟩
theorem fX1_15 : zFl RX1 15 0 1 := ⟨(RX1, TX1, 17), rfl, by decide, z_in (List.mem_of_getElem? (i := 208) (by decide +kernel)) (by decide +kernel)⟩
theorem fX1_19 : zFl RX1 19 0 2 := ⟨(RX1, TX1, 17), rfl, by decide, z_in (List.mem_of_getElem? (i := 209) (by decide +kernel)) (by decide +kernel)⟩
theorem fX1_22 : zFl RX1 22 0 3 := ⟨(RX1, TX1, 17), rfl, by decide, z_in (List.mem_of_getElem? (i := 210) (by decide +kernel)) (by decide +kernel)⟩
theorem fX1_25 : zFl RX1 25 0 4 := ⟨(RX1, TX1, 17), rfl, by decide, z_in (List.mem_of_getElem? (i := 211) (by decide +kernel)) (by decide +kernel)⟩
theorem fX1_29 : zFl RX1 29 0 5 := ⟨(RX1, TX1, 17), rfl, by decide, z_in (List.mem_of_getElem? (i := 212) (by decide +kernel)) (by decide +kernel)⟩
theorem fX1_32 : zFl RX1 32 0 6 := ⟨(RX1, TX1, 17), rfl, by decide, z_in (List.mem_of_getElem? (i := 213) (by decide +kernel)) (by decide +kernel)⟩
theorem fX1_35 : zFl RX1 35 0 7 := ⟨(RX1, TX1, 17), rfl, by decide, z_in (List.mem_of_getElem? (i := 214) (by decide +kernel)) (by decide +kernel)⟩
theorem fX1_38 : zFl RX1 38 0 8 := ⟨(RX1, TX1, 17), rfl, by decide, z_in (List.mem_of_getElem? (i := 215) (by decide +kernel)) (by decide +kernel)⟩
theorem fX1_42 : zFl RX1 42 0 9 := ⟨(RX1, TX1, 17), rfl, by decide, z_in (List.mem_of_getElem? (i := 216) (by decide +kernel)) (by decide +kernel)⟩
theorem fX1_45 : zFl RX1 45 0 10 := ⟨(RX1, TX1, 17), rfl, by decide, z_in (List.mem_of_getElem? (i := 217) (by decide +kernel)) (by decide +kernel)⟩
theorem fX1_49 : zFl RX1 49 0 11 := ⟨(RX1, TX1, 17), rfl, by decide, z_in (List.mem_of_getElem? (i := 218) (by decide +kernel)) (by decide +kernel)⟩
theorem fX1_52 : zFl RX1 52 0 12 := ⟨(RX1, TX1, 17), rfl, by decide, z_in (List.mem_of_getElem? (i := 219) (by decide +kernel)) (by decide +kernel)⟩
theorem fX1_55 : zFl RX1 55 0 13 := ⟨(RX1, TX1, 17), rfl, by decide, z_in (List.mem_of_getElem? (i := 220) (by decide +kernel)) (by decide +kernel)⟩
theorem cX1_58 : Cond.constantLong RX1 58 (-1) ∈ z_all := z_in (List.mem_of_getElem? (i := 205) (by decide +kernel)) (by decide +kernel)
theorem fX1_60 : zFl RX1 60 0 14 := ⟨(RX1, TX1, 17), rfl, by decide, z_in (List.mem_of_getElem? (i := 221) (by decide +kernel)) (by decide +kernel)⟩
theorem cX1_63 : Cond.constantLong RX1 63 (9223372036854775807) ∈ z_all := z_in (List.mem_of_getElem? (i := 206) (by decide +kernel)) (by decide +kernel)
theorem fX1_65 : zFl RX1 65 0 15 := ⟨(RX1, TX1, 17), rfl, by decide, z_in (List.mem_of_getElem? (i := 222) (by decide +kernel)) (by decide +kernel)⟩
theorem fX1_68 : zFl RX1 68 0 16 := ⟨(RX1, TX1, 17), rfl, by decide, z_in (List.mem_of_getElem? (i := 223) (by decide +kernel)) (by decide +kernel)⟩
theorem fX1_71 : zFl RX1 71 1 1 := ⟨(RX2, TX2, 10), rfl, by decide, z_in (List.mem_of_getElem? (i := 121) (by decide +kernel)) (by decide +kernel)⟩
theorem fX1_74 : zFl RX1 74 1 3 := ⟨(RX2, TX2, 10), rfl, by decide, z_in (List.mem_of_getElem? (i := 130) (by decide +kernel)) (by decide +kernel)⟩
theorem fX1_75 : zFl RX1 75 1 4 := ⟨(RX2, TX2, 10), rfl, by decide, z_in (List.mem_of_getElem? (i := 135) (by decide +kernel)) (by decide +kernel)⟩
theorem wc_X1_priceHour : Cond.code mX1_priceHour.1 mX1_priceHour.2.1 mX1_priceHour.2.2.1 mX1_priceHour.2.2.2 ∈ z_all := z_in (List.mem_of_getElem? (i := 591) (by decide +kernel)) (by decide +kernel)
theorem wi_X1 : Cond.initialized RX1 ∈ z_all := z_in (List.mem_of_getElem? (i := 64) (by decide +kernel)) (by decide +kernel)
theorem wlX1_76 : Cond.methodLink RX1 76 yX1_priceHour ∈ z_all := z_in (List.mem_of_getElem? (i := 588) (by decide +kernel)) (by decide +kernel)
theorem wm_X1_priceHour : Cond.instanceMethod yX1_priceHour ∈ z_all := z_in (List.mem_of_getElem? (i := 590) (by decide +kernel)) (by decide +kernel)
theorem ws_X1_priceHour : Cond.selects RX1 yX1_priceHour yX1_priceHour ∈ z_all := z_in (List.mem_of_getElem? (i := 12) (by decide +kernel)) (by decide +kernel)
theorem lX1_76 : zMl 0 RX1 76 mX1_priceHour 3 := zMl_v wc_X1_priceHour wi_X1 ⟨by decide, by decide⟩ (by decide +kernel) (by decide) wlX1_76 wm_X1_priceHour ws_X1_priceHour
theorem wc_X1_findLeast : Cond.code mX1_findLeast.1 mX1_findLeast.2.1 mX1_findLeast.2.2.1 mX1_findLeast.2.2.2 ∈ z_all := z_in (List.mem_of_getElem? (i := 613) (by decide +kernel)) (by decide +kernel)
theorem wlX1_80 : Cond.methodLink RX1 80 yX1_findLeast ∈ z_all := z_in (List.mem_of_getElem? (i := 610) (by decide +kernel)) (by decide +kernel)
theorem wm_X1_findLeast : Cond.instanceMethod yX1_findLeast ∈ z_all := z_in (List.mem_of_getElem? (i := 612) (by decide +kernel)) (by decide +kernel)
theorem ws_X1_findLeast : Cond.selects RX1 yX1_findLeast yX1_findLeast ∈ z_all := z_in (List.mem_of_getElem? (i := 14) (by decide +kernel)) (by decide +kernel)
theorem lX1_80 : zMl 0 RX1 80 mX1_findLeast 1 := zMl_v wc_X1_findLeast wi_X1 ⟨by decide, by decide⟩ (by decide +kernel) (by decide) wlX1_80 wm_X1_findLeast ws_X1_findLeast
theorem wc_X1_everyone : Cond.code mX1_everyone.1 mX1_everyone.2.1 mX1_everyone.2.2.1 mX1_everyone.2.2.2 ∈ z_all := z_in (List.mem_of_getElem? (i := 620) (by decide +kernel)) (by decide +kernel)
theorem wlX1_84 : Cond.methodLink RX1 84 yX1_everyone ∈ z_all := z_in (List.mem_of_getElem? (i := 617) (by decide +kernel)) (by decide +kernel)
theorem wm_X1_everyone : Cond.instanceMethod yX1_everyone ∈ z_all := z_in (List.mem_of_getElem? (i := 619) (by decide +kernel)) (by decide +kernel)
theorem ws_X1_everyone : Cond.selects RX1 yX1_everyone yX1_everyone ∈ z_all := z_in (List.mem_of_getElem? (i := 15) (by decide +kernel)) (by decide +kernel)
theorem lX1_84 : zMl 0 RX1 84 mX1_everyone 0 := zMl_v wc_X1_everyone wi_X1 ⟨by decide, by decide⟩ (by decide +kernel) (by decide) wlX1_84 wm_X1_everyone ws_X1_everyone
theorem wc_X1_search : Cond.code mX1_search.1 mX1_search.2.1 mX1_search.2.2.1 mX1_search.2.2.2 ∈ z_all := z_in (List.mem_of_getElem? (i := 624) (by decide +kernel)) (by decide +kernel)
theorem wlX1_88 : Cond.methodLink RX1 88 yX1_search ∈ z_all := z_in (List.mem_of_getElem? (i := 621) (by decide +kernel)) (by decide +kernel)
theorem wm_X1_search : Cond.instanceMethod yX1_search ∈ z_all := z_in (List.mem_of_getElem? (i := 623) (by decide +kernel)) (by decide +kernel)
theorem ws_X1_search : Cond.selects RX1 yX1_search yX1_search ∈ z_all := z_in (List.mem_of_getElem? (i := 16) (by decide +kernel)) (by decide +kernel)
theorem lX1_88 : zMl 0 RX1 88 mX1_search 4 := zMl_v wc_X1_search wi_X1 ⟨by decide, by decide⟩ (by decide +kernel) (by decide) wlX1_88 wm_X1_search ws_X1_search
theorem cX1_92 : Cond.constantLong RX1 92 (2047) ∈ z_all := z_in (List.mem_of_getElem? (i := 644) (by decide +kernel)) (by decide +kernel)
theorem wc_X1_shiftOf : Cond.code mX1_shiftOf.1 mX1_shiftOf.2.1 mX1_shiftOf.2.2.1 mX1_shiftOf.2.2.2 ∈ z_all := z_in (List.mem_of_getElem? (i := 601) (by decide +kernel)) (by decide +kernel)
theorem wlX1_94 : Cond.methodLink RX1 94 yX1_shiftOf ∈ z_all := z_in (List.mem_of_getElem? (i := 599) (by decide +kernel)) (by decide +kernel)
theorem wt_X1_shiftOf : Cond.static yX1_shiftOf ∈ z_all := z_in (List.mem_of_getElem? (i := 600) (by decide +kernel)) (by decide +kernel)
theorem lX1_94 : zMl 1 RX1 94 mX1_shiftOf 2 := zMl_s wc_X1_shiftOf wi_X1 ⟨by decide, by decide⟩ (by decide +kernel) (by decide) wlX1_94 wt_X1_shiftOf
theorem cX1_98 : Cond.constantLong RX1 98 (3) ∈ z_all := z_in (List.mem_of_getElem? (i := 670) (by decide +kernel)) (by decide +kernel)
theorem wc_X1_areEnough : Cond.code mX1_areEnough.1 mX1_areEnough.2.1 mX1_areEnough.2.2.1 mX1_areEnough.2.2.2 ∈ z_all := z_in (List.mem_of_getElem? (i := 652) (by decide +kernel)) (by decide +kernel)
theorem wlX1_100 : Cond.methodLink RX1 100 yX1_areEnough ∈ z_all := z_in (List.mem_of_getElem? (i := 649) (by decide +kernel)) (by decide +kernel)
theorem wm_X1_areEnough : Cond.instanceMethod yX1_areEnough ∈ z_all := z_in (List.mem_of_getElem? (i := 651) (by decide +kernel)) (by decide +kernel)
theorem ws_X1_areEnough : Cond.selects RX1 yX1_areEnough yX1_areEnough ∈ z_all := z_in (List.mem_of_getElem? (i := 19) (by decide +kernel)) (by decide +kernel)
theorem lX1_100 : zMl 0 RX1 100 mX1_areEnough 1 := zMl_v wc_X1_areEnough wi_X1 ⟨by decide, by decide⟩ (by decide +kernel) (by decide) wlX1_100 wm_X1_areEnough ws_X1_areEnough
theorem wlX1_104 : Cond.methodLink RX1 104 yJ6_bitCount_0f7a4 ∈ z_all := z_in (List.mem_of_getElem? (i := 593) (by decide +kernel)) (by decide +kernel)
theorem lX1_104 : zMl 1 RX1 104 mJ6_bitCount_0f7a4 1 := zMl_s wc_J6_bitCount_0f7a4 wi_J6 ⟨by decide, by decide⟩ (by decide +kernel) (by decide) wlX1_104 wt_J6_bitCount_0f7a4
theorem wc_X1_isEnough : Cond.code mX1_isEnough.1 mX1_isEnough.2.1 mX1_isEnough.2.2.1 mX1_isEnough.2.2.2 ∈ z_all := z_in (List.mem_of_getElem? (i := 656) (by decide +kernel)) (by decide +kernel)
theorem wlX1_110 : Cond.methodLink RX1 110 yX1_isEnough ∈ z_all := z_in (List.mem_of_getElem? (i := 653) (by decide +kernel)) (by decide +kernel)
theorem wm_X1_isEnough : Cond.instanceMethod yX1_isEnough ∈ z_all := z_in (List.mem_of_getElem? (i := 655) (by decide +kernel)) (by decide +kernel)
theorem ws_X1_isEnough : Cond.selects RX1 yX1_isEnough yX1_isEnough ∈ z_all := z_in (List.mem_of_getElem? (i := 20) (by decide +kernel)) (by decide +kernel)
theorem lX1_110 : zMl 0 RX1 110 mX1_isEnough 2 := zMl_v wc_X1_isEnough wi_X1 ⟨by decide, by decide⟩ (by decide +kernel) (by decide) wlX1_110 wm_X1_isEnough ws_X1_isEnough
theorem wc_X1_ringsInFirst : Cond.code mX1_ringsInFirst.1 mX1_ringsInFirst.2.1 mX1_ringsInFirst.2.2.1 mX1_ringsInFirst.2.2.2 ∈ z_all := z_in (List.mem_of_getElem? (i := 682) (by decide +kernel)) (by decide +kernel)
theorem wlX1_114 : Cond.methodLink RX1 114 yX1_ringsInFirst ∈ z_all := z_in (List.mem_of_getElem? (i := 679) (by decide +kernel)) (by decide +kernel)
theorem wm_X1_ringsInFirst : Cond.instanceMethod yX1_ringsInFirst ∈ z_all := z_in (List.mem_of_getElem? (i := 681) (by decide +kernel)) (by decide +kernel)
theorem ws_X1_ringsInFirst : Cond.selects RX1 yX1_ringsInFirst yX1_ringsInFirst ∈ z_all := z_in (List.mem_of_getElem? (i := 21) (by decide +kernel)) (by decide +kernel)
theorem lX1_114 : zMl 0 RX1 114 mX1_ringsInFirst 1 := zMl_v wc_X1_ringsInFirst wi_X1 ⟨by decide, by decide⟩ (by decide +kernel) (by decide) wlX1_114 wm_X1_ringsInFirst ws_X1_ringsInFirst
theorem wc_X1_firstBell : Cond.code mX1_firstBell.1 mX1_firstBell.2.1 mX1_firstBell.2.2.1 mX1_firstBell.2.2.2 ∈ z_all := z_in (List.mem_of_getElem? (i := 669) (by decide +kernel)) (by decide +kernel)
theorem wlX1_117 : Cond.methodLink RX1 117 yX1_firstBell ∈ z_all := z_in (List.mem_of_getElem? (i := 683) (by decide +kernel)) (by decide +kernel)
theorem wm_X1_firstBell : Cond.instanceMethod yX1_firstBell ∈ z_all := z_in (List.mem_of_getElem? (i := 667) (by decide +kernel)) (by decide +kernel)
theorem ws_X1_firstBell : Cond.selects RX1 yX1_firstBell yX1_firstBell ∈ z_all := z_in (List.mem_of_getElem? (i := 668) (by decide +kernel)) (by decide +kernel)
theorem lX1_117 : zMl 0 RX1 117 mX1_firstBell 2 := zMl_v wc_X1_firstBell wi_X1 ⟨by decide, by decide⟩ (by decide +kernel) (by decide) wlX1_117 wm_X1_firstBell ws_X1_firstBell
theorem cX1_120 : Cond.constantLong RX1 120 (8646911284551352320) ∈ z_all := z_in (List.mem_of_getElem? (i := 657) (by decide +kernel)) (by decide +kernel)
theorem wc_X2_hasHour : Cond.code mX2_hasHour.1 mX2_hasHour.2.1 mX2_hasHour.2.2.1 mX2_hasHour.2.2.2 ∈ z_all := z_in (List.mem_of_getElem? (i := 458) (by decide +kernel)) (by decide +kernel)
theorem wlX1_122 : Cond.methodLink RX1 122 yX2_hasHour ∈ z_all := z_in (List.mem_of_getElem? (i := 592) (by decide +kernel)) (by decide +kernel)
theorem wm_X2_hasHour : Cond.instanceMethod yX2_hasHour ∈ z_all := z_in (List.mem_of_getElem? (i := 456) (by decide +kernel)) (by decide +kernel)
theorem ws_X2_hasHour : Cond.selects RX2 yX2_hasHour yX2_hasHour ∈ z_all := z_in (List.mem_of_getElem? (i := 457) (by decide +kernel)) (by decide +kernel)
theorem lX1_122 : zMl 0 RX1 122 mX2_hasHour 1 := zMl_v wc_X2_hasHour wi_X2 ⟨by decide, by decide⟩ (by decide +kernel) (by decide) wlX1_122 wm_X2_hasHour ws_X2_hasHour
theorem fX1_125 : zFl RX1 125 1 5 := ⟨(RX2, TX2, 10), rfl, by decide, z_in (List.mem_of_getElem? (i := 142) (by decide +kernel)) (by decide +kernel)⟩
theorem cX1_128 : Cond.constantLong RX1 128 (-9) ∈ z_all := z_in (List.mem_of_getElem? (i := 594) (by decide +kernel)) (by decide +kernel)
theorem wc_X1_seatsOf : Cond.code mX1_seatsOf.1 mX1_seatsOf.2.1 mX1_seatsOf.2.2.1 mX1_seatsOf.2.2.2 ∈ z_all := z_in (List.mem_of_getElem? (i := 597) (by decide +kernel)) (by decide +kernel)
theorem wlX1_130 : Cond.methodLink RX1 130 yX1_seatsOf ∈ z_all := z_in (List.mem_of_getElem? (i := 595) (by decide +kernel)) (by decide +kernel)
theorem wt_X1_seatsOf : Cond.static yX1_seatsOf ∈ z_all := z_in (List.mem_of_getElem? (i := 596) (by decide +kernel)) (by decide +kernel)
theorem lX1_130 : zMl 1 RX1 130 mX1_seatsOf 5 := zMl_s wc_X1_seatsOf wi_X1 ⟨by decide, by decide⟩ (by decide +kernel) (by decide) wlX1_130 wt_X1_seatsOf
theorem wc_X1_walkOf : Cond.code mX1_walkOf.1 mX1_walkOf.2.1 mX1_walkOf.2.2.1 mX1_walkOf.2.2.2 ∈ z_all := z_in (List.mem_of_getElem? (i := 604) (by decide +kernel)) (by decide +kernel)
theorem wlX1_134 : Cond.methodLink RX1 134 yX1_walkOf ∈ z_all := z_in (List.mem_of_getElem? (i := 602) (by decide +kernel)) (by decide +kernel)
theorem wt_X1_walkOf : Cond.static yX1_walkOf ∈ z_all := z_in (List.mem_of_getElem? (i := 603) (by decide +kernel)) (by decide +kernel)
theorem lX1_134 : zMl 1 RX1 134 mX1_walkOf 3 := zMl_s wc_X1_walkOf wi_X1 ⟨by decide, by decide⟩ (by decide +kernel) (by decide) wlX1_134 wt_X1_walkOf
theorem wc_X1_addInOrder : Cond.code mX1_addInOrder.1 mX1_addInOrder.2.1 mX1_addInOrder.2.2.1 mX1_addInOrder.2.2.2 ∈ z_all := z_in (List.mem_of_getElem? (i := 609) (by decide +kernel)) (by decide +kernel)
theorem wlX1_138 : Cond.methodLink RX1 138 yX1_addInOrder ∈ z_all := z_in (List.mem_of_getElem? (i := 606) (by decide +kernel)) (by decide +kernel)
theorem wm_X1_addInOrder : Cond.instanceMethod yX1_addInOrder ∈ z_all := z_in (List.mem_of_getElem? (i := 608) (by decide +kernel)) (by decide +kernel)
theorem ws_X1_addInOrder : Cond.selects RX1 yX1_addInOrder yX1_addInOrder ∈ z_all := z_in (List.mem_of_getElem? (i := 13) (by decide +kernel)) (by decide +kernel)
theorem lX1_138 : zMl 0 RX1 138 mX1_addInOrder 2 := zMl_v wc_X1_addInOrder wi_X1 ⟨by decide, by decide⟩ (by decide +kernel) (by decide) wlX1_138 wm_X1_addInOrder ws_X1_addInOrder
theorem wc_X2_way : Cond.code mX2_way.1 mX2_way.2.1 mX2_way.2.2.1 mX2_way.2.2.2 ∈ z_all := z_in (List.mem_of_getElem? (i := 545) (by decide +kernel)) (by decide +kernel)
theorem wlX1_142 : Cond.methodLink RX1 142 yX2_way ∈ z_all := z_in (List.mem_of_getElem? (i := 605) (by decide +kernel)) (by decide +kernel)
theorem wm_X2_way : Cond.instanceMethod yX2_way ∈ z_all := z_in (List.mem_of_getElem? (i := 543) (by decide +kernel)) (by decide +kernel)
theorem ws_X2_way : Cond.selects RX2 yX2_way yX2_way ∈ z_all := z_in (List.mem_of_getElem? (i := 544) (by decide +kernel)) (by decide +kernel)
theorem lX1_142 : zMl 0 RX1 142 mX2_way 2 := zMl_v wc_X2_way wi_X2 ⟨by decide, by decide⟩ (by decide +kernel) (by decide) wlX1_142 wm_X2_way ws_X2_way
theorem wc_X2_bellsFor : Cond.code mX2_bellsFor.1 mX2_bellsFor.2.1 mX2_bellsFor.2.2.1 mX2_bellsFor.2.2.2 ∈ z_all := z_in (List.mem_of_getElem? (i := 486) (by decide +kernel)) (by decide +kernel)
theorem wlX1_145 : Cond.methodLink RX1 145 yX2_bellsFor ∈ z_all := z_in (List.mem_of_getElem? (i := 598) (by decide +kernel)) (by decide +kernel)
theorem wm_X2_bellsFor : Cond.instanceMethod yX2_bellsFor ∈ z_all := z_in (List.mem_of_getElem? (i := 484) (by decide +kernel)) (by decide +kernel)
theorem ws_X2_bellsFor : Cond.selects RX2 yX2_bellsFor yX2_bellsFor ∈ z_all := z_in (List.mem_of_getElem? (i := 485) (by decide +kernel)) (by decide +kernel)
theorem lX1_145 : zMl 0 RX1 145 mX2_bellsFor 2 := zMl_v wc_X2_bellsFor wi_X2 ⟨by decide, by decide⟩ (by decide +kernel) (by decide) wlX1_145 wm_X2_bellsFor ws_X2_bellsFor
theorem wc_J9_min_f86c9 : Cond.code mJ9_min_f86c9.1 mJ9_min_f86c9.2.1 mJ9_min_f86c9.2.2.1 mJ9_min_f86c9.2.2.2 ∈ z_all := z_in (List.mem_of_getElem? (i := 616) (by decide +kernel)) (by decide +kernel)
theorem wlX1_148 : Cond.methodLink RX1 148 yJ9_min_f86c9 ∈ z_all := z_in (List.mem_of_getElem? (i := 614) (by decide +kernel)) (by decide +kernel)
theorem wt_J9_min_f86c9 : Cond.static yJ9_min_f86c9 ∈ z_all := z_in (List.mem_of_getElem? (i := 615) (by decide +kernel)) (by decide +kernel)
theorem lX1_148 : zMl 1 RX1 148 mJ9_min_f86c9 2 := zMl_s wc_J9_min_f86c9 wi_J9 ⟨by decide, by decide⟩ (by decide +kernel) (by decide) wlX1_148 wt_J9_min_f86c9
theorem wc_X1_seek : Cond.code mX1_seek.1 mX1_seek.2.1 mX1_seek.2.2.1 mX1_seek.2.2.2 ∈ z_all := z_in (List.mem_of_getElem? (i := 627) (by decide +kernel)) (by decide +kernel)
theorem wlX1_154 : Cond.methodLink RX1 154 yX1_seek ∈ z_all := z_in (List.mem_of_getElem? (i := 625) (by decide +kernel)) (by decide +kernel)
theorem wt_X1_seek : Cond.static yX1_seek ∈ z_all := z_in (List.mem_of_getElem? (i := 626) (by decide +kernel)) (by decide +kernel)
theorem lX1_154 : zMl 1 RX1 154 mX1_seek 3 := zMl_s wc_X1_seek wi_X1 ⟨by decide, by decide⟩ (by decide +kernel) (by decide) wlX1_154 wt_X1_seek
theorem wc_X1_leastAfter : Cond.code mX1_leastAfter.1 mX1_leastAfter.2.1 mX1_leastAfter.2.2.1 mX1_leastAfter.2.2.2 ∈ z_all := z_in (List.mem_of_getElem? (i := 631) (by decide +kernel)) (by decide +kernel)
theorem wlX1_158 : Cond.methodLink RX1 158 yX1_leastAfter ∈ z_all := z_in (List.mem_of_getElem? (i := 628) (by decide +kernel)) (by decide +kernel)
theorem wm_X1_leastAfter : Cond.instanceMethod yX1_leastAfter ∈ z_all := z_in (List.mem_of_getElem? (i := 630) (by decide +kernel)) (by decide +kernel)
theorem ws_X1_leastAfter : Cond.selects RX1 yX1_leastAfter yX1_leastAfter ∈ z_all := z_in (List.mem_of_getElem? (i := 17) (by decide +kernel)) (by decide +kernel)
theorem lX1_158 : zMl 0 RX1 158 mX1_leastAfter 1 := zMl_v wc_X1_leastAfter wi_X1 ⟨by decide, by decide⟩ (by decide +kernel) (by decide) wlX1_158 wm_X1_leastAfter ws_X1_leastAfter
theorem wc_X1_openIn : Cond.code mX1_openIn.1 mX1_openIn.2.1 mX1_openIn.2.2.1 mX1_openIn.2.2.2 ∈ z_all := z_in (List.mem_of_getElem? (i := 635) (by decide +kernel)) (by decide +kernel)
theorem wlX1_162 : Cond.methodLink RX1 162 yX1_openIn ∈ z_all := z_in (List.mem_of_getElem? (i := 632) (by decide +kernel)) (by decide +kernel)
theorem wm_X1_openIn : Cond.instanceMethod yX1_openIn ∈ z_all := z_in (List.mem_of_getElem? (i := 634) (by decide +kernel)) (by decide +kernel)
theorem ws_X1_openIn : Cond.selects RX1 yX1_openIn yX1_openIn ∈ z_all := z_in (List.mem_of_getElem? (i := 18) (by decide +kernel)) (by decide +kernel)
theorem lX1_162 : zMl 0 RX1 162 mX1_openIn 2 := zMl_v wc_X1_openIn wi_X1 ⟨by decide, by decide⟩ (by decide +kernel) (by decide) wlX1_162 wm_X1_openIn ws_X1_openIn
theorem fX2_9 : zFl RX2 9 1 0 := ⟨(RX2, TX2, 10), rfl, by decide, z_in (List.mem_of_getElem? (i := 117) (by decide +kernel)) (by decide +kernel)⟩
theorem fX2_15 : zFl RX2 15 1 1 := ⟨(RX2, TX2, 10), rfl, by decide, z_in (List.mem_of_getElem? (i := 120) (by decide +kernel)) (by decide +kernel)⟩
theorem fX2_18 : zFl RX2 18 1 2 := ⟨(RX2, TX2, 10), rfl, by decide, z_in (List.mem_of_getElem? (i := 126) (by decide +kernel)) (by decide +kernel)⟩
theorem fX2_21 : zFl RX2 21 1 3 := ⟨(RX2, TX2, 10), rfl, by decide, z_in (List.mem_of_getElem? (i := 129) (by decide +kernel)) (by decide +kernel)⟩
theorem fX2_24 : zFl RX2 24 1 4 := ⟨(RX2, TX2, 10), rfl, by decide, z_in (List.mem_of_getElem? (i := 134) (by decide +kernel)) (by decide +kernel)⟩
theorem fX2_27 : zFl RX2 27 1 5 := ⟨(RX2, TX2, 10), rfl, by decide, z_in (List.mem_of_getElem? (i := 139) (by decide +kernel)) (by decide +kernel)⟩
theorem fX2_31 : zFl RX2 31 1 6 := ⟨(RX2, TX2, 10), rfl, by decide, z_in (List.mem_of_getElem? (i := 143) (by decide +kernel)) (by decide +kernel)⟩
theorem fX2_34 : zFl RX2 34 1 7 := ⟨(RX2, TX2, 10), rfl, by decide, z_in (List.mem_of_getElem? (i := 145) (by decide +kernel)) (by decide +kernel)⟩
theorem fX2_37 : zFl RX2 37 1 8 := ⟨(RX2, TX2, 10), rfl, by decide, z_in (List.mem_of_getElem? (i := 147) (by decide +kernel)) (by decide +kernel)⟩
theorem fX2_40 : zFl RX2 40 1 9 := ⟨(RX2, TX2, 10), rfl, by decide, z_in (List.mem_of_getElem? (i := 149) (by decide +kernel)) (by decide +kernel)⟩
theorem wlX2_43 : Cond.methodLink RX2 43 yX2_hasHour ∈ z_all := z_in (List.mem_of_getElem? (i := 477) (by decide +kernel)) (by decide +kernel)
theorem lX2_43 : zMl 0 RX2 43 mX2_hasHour 1 := zMl_v wc_X2_hasHour wi_X2 ⟨by decide, by decide⟩ (by decide +kernel) (by decide) wlX2_43 wm_X2_hasHour ws_X2_hasHour
theorem wc_X2_hasRinger : Cond.code mX2_hasRinger.1 mX2_hasRinger.2.1 mX2_hasRinger.2.2.1 mX2_hasRinger.2.2.2 ∈ z_all := z_in (List.mem_of_getElem? (i := 435) (by decide +kernel)) (by decide +kernel)
theorem wlX2_47 : Cond.methodLink RX2 47 yX2_hasRinger ∈ z_all := z_in (List.mem_of_getElem? (i := 487) (by decide +kernel)) (by decide +kernel)
theorem wm_X2_hasRinger : Cond.instanceMethod yX2_hasRinger ∈ z_all := z_in (List.mem_of_getElem? (i := 433) (by decide +kernel)) (by decide +kernel)
theorem ws_X2_hasRinger : Cond.selects RX2 yX2_hasRinger yX2_hasRinger ∈ z_all := z_in (List.mem_of_getElem? (i := 434) (by decide +kernel)) (by decide +kernel)
theorem lX2_47 : zMl 0 RX2 47 mX2_hasRinger 1 := zMl_v wc_X2_hasRinger wi_X2 ⟨by decide, by decide⟩ (by decide +kernel) (by decide) wlX2_47 wm_X2_hasRinger ws_X2_hasRinger
theorem wc_X2_hasBell : Cond.code mX2_hasBell.1 mX2_hasBell.2.1 mX2_hasBell.2.2.1 mX2_hasBell.2.2.2 ∈ z_all := z_in (List.mem_of_getElem? (i := 476) (by decide +kernel)) (by decide +kernel)
theorem wlX2_50 : Cond.methodLink RX2 50 yX2_hasBell ∈ z_all := z_in (List.mem_of_getElem? (i := 482) (by decide +kernel)) (by decide +kernel)
theorem wm_X2_hasBell : Cond.instanceMethod yX2_hasBell ∈ z_all := z_in (List.mem_of_getElem? (i := 474) (by decide +kernel)) (by decide +kernel)
theorem ws_X2_hasBell : Cond.selects RX2 yX2_hasBell yX2_hasBell ∈ z_all := z_in (List.mem_of_getElem? (i := 475) (by decide +kernel)) (by decide +kernel)
theorem lX2_50 : zMl 0 RX2 50 mX2_hasBell 2 := zMl_v wc_X2_hasBell wi_X2 ⟨by decide, by decide⟩ (by decide +kernel) (by decide) wlX2_50 wm_X2_hasBell ws_X2_hasBell
theorem wlX2_54 : Cond.methodLink RX2 54 yX2_bellsFor ∈ z_all := z_in (List.mem_of_getElem? (i := 483) (by decide +kernel)) (by decide +kernel)
theorem lX2_54 : zMl 0 RX2 54 mX2_bellsFor 2 := zMl_v wc_X2_bellsFor wi_X2 ⟨by decide, by decide⟩ (by decide +kernel) (by decide) wlX2_54 wm_X2_bellsFor ws_X2_bellsFor
theorem wlX2_58 : Cond.methodLink RX2 58 yJ6_bitCount_0f7a4 ∈ z_all := z_in (List.mem_of_getElem? (i := 752) (by decide +kernel)) (by decide +kernel)
theorem lX2_58 : zMl 1 RX2 58 mJ6_bitCount_0f7a4 1 := zMl_s wc_J6_bitCount_0f7a4 wi_J6 ⟨by decide, by decide⟩ (by decide +kernel) (by decide) wlX2_58 wt_J6_bitCount_0f7a4
theorem wc_J9_abs_0f7a4 : Cond.code mJ9_abs_0f7a4.1 mJ9_abs_0f7a4.2.1 mJ9_abs_0f7a4.2.2.1 mJ9_abs_0f7a4.2.2.2 ∈ z_all := z_in (List.mem_of_getElem? (i := 499) (by decide +kernel)) (by decide +kernel)
theorem wlX2_64 : Cond.methodLink RX2 64 yJ9_abs_0f7a4 ∈ z_all := z_in (List.mem_of_getElem? (i := 546) (by decide +kernel)) (by decide +kernel)
theorem wt_J9_abs_0f7a4 : Cond.static yJ9_abs_0f7a4 ∈ z_all := z_in (List.mem_of_getElem? (i := 498) (by decide +kernel)) (by decide +kernel)
theorem lX2_64 : zMl 1 RX2 64 mJ9_abs_0f7a4 1 := zMl_s wc_J9_abs_0f7a4 wi_J9 ⟨by decide, by decide⟩ (by decide +kernel) (by decide) wlX2_64 wt_J9_abs_0f7a4
theorem fX3_9 : zFl RX3 9 2 0 := ⟨(RX3, TX3, 4), rfl, by decide, z_in (List.mem_of_getElem? (i := 182) (by decide +kernel)) (by decide +kernel)⟩
theorem fX3_15 : zFl RX3 15 2 1 := ⟨(RX3, TX3, 4), rfl, by decide, z_in (List.mem_of_getElem? (i := 184) (by decide +kernel)) (by decide +kernel)⟩
theorem fX3_18 : zFl RX3 18 2 2 := ⟨(RX3, TX3, 4), rfl, by decide, z_in (List.mem_of_getElem? (i := 186) (by decide +kernel)) (by decide +kernel)⟩
theorem fX3_22 : zFl RX3 22 2 3 := ⟨(RX3, TX3, 4), rfl, by decide, z_in (List.mem_of_getElem? (i := 188) (by decide +kernel)) (by decide +kernel)⟩
theorem wc_X3_clean : Cond.code mX3_clean.1 mX3_clean.2.1 mX3_clean.2.2.1 mX3_clean.2.2.2 ∈ z_all := z_in (List.mem_of_getElem? (i := 181) (by decide +kernel)) (by decide +kernel)
theorem wi_X3 : Cond.initialized RX3 ∈ z_all := z_in (List.mem_of_getElem? (i := 63) (by decide +kernel)) (by decide +kernel)
theorem wlX3_25 : Cond.methodLink RX3 25 yX3_clean ∈ z_all := z_in (List.mem_of_getElem? (i := 178) (by decide +kernel)) (by decide +kernel)
theorem wm_X3_clean : Cond.instanceMethod yX3_clean ∈ z_all := z_in (List.mem_of_getElem? (i := 180) (by decide +kernel)) (by decide +kernel)
theorem ws_X3_clean : Cond.selects RX3 yX3_clean yX3_clean ∈ z_all := z_in (List.mem_of_getElem? (i := 0) (by decide +kernel)) (by decide +kernel)
theorem lX3_25 : zMl 0 RX3 25 mX3_clean 0 := zMl_v wc_X3_clean wi_X3 ⟨by decide, by decide⟩ (by decide +kernel) (by decide) wlX3_25 wm_X3_clean ws_X3_clean
theorem wc_X3_isTurn : Cond.code mX3_isTurn.1 mX3_isTurn.2.1 mX3_isTurn.2.2.1 mX3_isTurn.2.2.2 ∈ z_all := z_in (List.mem_of_getElem? (i := 450) (by decide +kernel)) (by decide +kernel)
theorem wlX3_34 : Cond.methodLink RX3 34 yX3_isTurn ∈ z_all := z_in (List.mem_of_getElem? (i := 448) (by decide +kernel)) (by decide +kernel)
theorem wt_X3_isTurn : Cond.static yX3_isTurn ∈ z_all := z_in (List.mem_of_getElem? (i := 449) (by decide +kernel)) (by decide +kernel)
theorem lX3_34 : zMl 1 RX3 34 mX3_isTurn 2 := zMl_s wc_X3_isTurn wi_X3 ⟨by decide, by decide⟩ (by decide +kernel) (by decide) wlX3_34 wt_X3_isTurn
theorem wc_X3_bellOf : Cond.code mX3_bellOf.1 mX3_bellOf.2.1 mX3_bellOf.2.2.1 mX3_bellOf.2.2.2 ∈ z_all := z_in (List.mem_of_getElem? (i := 447) (by decide +kernel)) (by decide +kernel)
theorem wlX3_38 : Cond.methodLink RX3 38 yX3_bellOf ∈ z_all := z_in (List.mem_of_getElem? (i := 444) (by decide +kernel)) (by decide +kernel)
theorem wm_X3_bellOf : Cond.instanceMethod yX3_bellOf ∈ z_all := z_in (List.mem_of_getElem? (i := 445) (by decide +kernel)) (by decide +kernel)
theorem ws_X3_bellOf : Cond.selects RX3 yX3_bellOf yX3_bellOf ∈ z_all := z_in (List.mem_of_getElem? (i := 446) (by decide +kernel)) (by decide +kernel)
theorem lX3_38 : zMl 0 RX3 38 mX3_bellOf 2 := zMl_v wc_X3_bellOf wi_X3 ⟨by decide, by decide⟩ (by decide +kernel) (by decide) wlX3_38 wm_X3_bellOf ws_X3_bellOf
theorem wc_X3_hasTurn : Cond.code mX3_hasTurn.1 mX3_hasTurn.2.1 mX3_hasTurn.2.2.1 mX3_hasTurn.2.2.2 ∈ z_all := z_in (List.mem_of_getElem? (i := 443) (by decide +kernel)) (by decide +kernel)
theorem wlX3_42 : Cond.methodLink RX3 42 yX3_hasTurn ∈ z_all := z_in (List.mem_of_getElem? (i := 440) (by decide +kernel)) (by decide +kernel)
theorem wm_X3_hasTurn : Cond.instanceMethod yX3_hasTurn ∈ z_all := z_in (List.mem_of_getElem? (i := 441) (by decide +kernel)) (by decide +kernel)
theorem ws_X3_hasTurn : Cond.selects RX3 yX3_hasTurn yX3_hasTurn ∈ z_all := z_in (List.mem_of_getElem? (i := 442) (by decide +kernel)) (by decide +kernel)
theorem lX3_42 : zMl 0 RX3 42 mX3_hasTurn 2 := zMl_v wc_X3_hasTurn wi_X3 ⟨by decide, by decide⟩ (by decide +kernel) (by decide) wlX3_42 wm_X3_hasTurn ws_X3_hasTurn
theorem wc_X3_ringerAt : Cond.code mX3_ringerAt.1 mX3_ringerAt.2.1 mX3_ringerAt.2.2.1 mX3_ringerAt.2.2.2 ∈ z_all := z_in (List.mem_of_getElem? (i := 495) (by decide +kernel)) (by decide +kernel)
theorem wlX3_45 : Cond.methodLink RX3 45 yX3_ringerAt ∈ z_all := z_in (List.mem_of_getElem? (i := 492) (by decide +kernel)) (by decide +kernel)
theorem wm_X3_ringerAt : Cond.instanceMethod yX3_ringerAt ∈ z_all := z_in (List.mem_of_getElem? (i := 493) (by decide +kernel)) (by decide +kernel)
theorem ws_X3_ringerAt : Cond.selects RX3 yX3_ringerAt yX3_ringerAt ∈ z_all := z_in (List.mem_of_getElem? (i := 494) (by decide +kernel)) (by decide +kernel)
theorem lX3_45 : zMl 0 RX3 45 mX3_ringerAt 2 := zMl_v wc_X3_ringerAt wi_X3 ⟨by decide, by decide⟩ (by decide +kernel) (by decide) wlX3_45 wm_X3_ringerAt ws_X3_ringerAt
theorem wc_X3_timesOf : Cond.code mX3_timesOf.1 mX3_timesOf.2.1 mX3_timesOf.2.2.1 mX3_timesOf.2.2.2 ∈ z_all := z_in (List.mem_of_getElem? (i := 439) (by decide +kernel)) (by decide +kernel)
theorem wlX3_48 : Cond.methodLink RX3 48 yX3_timesOf ∈ z_all := z_in (List.mem_of_getElem? (i := 496) (by decide +kernel)) (by decide +kernel)
theorem wm_X3_timesOf : Cond.instanceMethod yX3_timesOf ∈ z_all := z_in (List.mem_of_getElem? (i := 437) (by decide +kernel)) (by decide +kernel)
theorem ws_X3_timesOf : Cond.selects RX3 yX3_timesOf yX3_timesOf ∈ z_all := z_in (List.mem_of_getElem? (i := 438) (by decide +kernel)) (by decide +kernel)
theorem lX3_48 : zMl 0 RX3 48 mX3_timesOf 1 := zMl_v wc_X3_timesOf wi_X3 ⟨by decide, by decide⟩ (by decide +kernel) (by decide) wlX3_48 wm_X3_timesOf ws_X3_timesOf
theorem fX3_52 : zFl RX3 52 1 3 := ⟨(RX2, TX2, 10), rfl, by decide, z_in (List.mem_of_getElem? (i := 131) (by decide +kernel)) (by decide +kernel)⟩
theorem wlX3_57 : Cond.methodLink RX3 57 yJ9_abs_0f7a4 ∈ z_all := z_in (List.mem_of_getElem? (i := 497) (by decide +kernel)) (by decide +kernel)
theorem lX3_57 : zMl 1 RX3 57 mJ9_abs_0f7a4 1 := zMl_s wc_J9_abs_0f7a4 wi_J9 ⟨by decide, by decide⟩ (by decide +kernel) (by decide) wlX3_57 wt_J9_abs_0f7a4
theorem fX3_62 : zFl RX3 62 1 4 := ⟨(RX2, TX2, 10), rfl, by decide, z_in (List.mem_of_getElem? (i := 136) (by decide +kernel)) (by decide +kernel)⟩
theorem wc_X3_ringersIn : Cond.code mX3_ringersIn.1 mX3_ringersIn.2.1 mX3_ringersIn.2.2.1 mX3_ringersIn.2.2.2 ∈ z_all := z_in (List.mem_of_getElem? (i := 462) (by decide +kernel)) (by decide +kernel)
theorem wlX3_65 : Cond.methodLink RX3 65 yX3_ringersIn ∈ z_all := z_in (List.mem_of_getElem? (i := 723) (by decide +kernel)) (by decide +kernel)
theorem wm_X3_ringersIn : Cond.instanceMethod yX3_ringersIn ∈ z_all := z_in (List.mem_of_getElem? (i := 460) (by decide +kernel)) (by decide +kernel)
theorem ws_X3_ringersIn : Cond.selects RX3 yX3_ringersIn yX3_ringersIn ∈ z_all := z_in (List.mem_of_getElem? (i := 461) (by decide +kernel)) (by decide +kernel)
theorem lX3_65 : zMl 0 RX3 65 mX3_ringersIn 1 := zMl_v wc_X3_ringersIn wi_X3 ⟨by decide, by decide⟩ (by decide +kernel) (by decide) wlX3_65 wm_X3_ringersIn ws_X3_ringersIn
theorem wlX3_68 : Cond.methodLink RX3 68 yJ6_bitCount_0f7a4 ∈ z_all := z_in (List.mem_of_getElem? (i := 728) (by decide +kernel)) (by decide +kernel)
theorem lX3_68 : zMl 1 RX3 68 mJ6_bitCount_0f7a4 1 := zMl_s wc_J6_bitCount_0f7a4 wi_J6 ⟨by decide, by decide⟩ (by decide +kernel) (by decide) wlX3_68 wt_J6_bitCount_0f7a4
theorem fX3_73 : zFl RX3 73 1 1 := ⟨(RX2, TX2, 10), rfl, by decide, z_in (List.mem_of_getElem? (i := 124) (by decide +kernel)) (by decide +kernel)⟩
theorem wlX3_76 : Cond.methodLink RX3 76 yX2_way ∈ z_all := z_in (List.mem_of_getElem? (i := 542) (by decide +kernel)) (by decide +kernel)
theorem lX3_76 : zMl 0 RX3 76 mX2_way 2 := zMl_v wc_X2_way wi_X2 ⟨by decide, by decide⟩ (by decide +kernel) (by decide) wlX3_76 wm_X2_way ws_X2_way
theorem fX4_11 : zFl RX4 11 3 0 := ⟨(RX4, TX4, 6), rfl, by decide, z_in (List.mem_of_getElem? (i := 88) (by decide +kernel)) (by decide +kernel)⟩
theorem fX4_15 : zFl RX4 15 3 1 := ⟨(RX4, TX4, 6), rfl, by decide, z_in (List.mem_of_getElem? (i := 90) (by decide +kernel)) (by decide +kernel)⟩
theorem fX4_19 : zFl RX4 19 3 2 := ⟨(RX4, TX4, 6), rfl, by decide, z_in (List.mem_of_getElem? (i := 91) (by decide +kernel)) (by decide +kernel)⟩
theorem fX4_22 : zFl RX4 22 3 3 := ⟨(RX4, TX4, 6), rfl, by decide, z_in (List.mem_of_getElem? (i := 92) (by decide +kernel)) (by decide +kernel)⟩
theorem fX4_25 : zFl RX4 25 3 4 := ⟨(RX4, TX4, 6), rfl, by decide, z_in (List.mem_of_getElem? (i := 93) (by decide +kernel)) (by decide +kernel)⟩
theorem fX4_29 : zFl RX4 29 3 5 := ⟨(RX4, TX4, 6), rfl, by decide, z_in (List.mem_of_getElem? (i := 94) (by decide +kernel)) (by decide +kernel)⟩
theorem wc_X2_empty : Cond.code mX2_empty.1 mX2_empty.2.1 mX2_empty.2.2.1 mX2_empty.2.2.2 ∈ z_all := z_in (List.mem_of_getElem? (i := 312) (by decide +kernel)) (by decide +kernel)
theorem wlX4_33 : Cond.methodLink RX4 33 yX2_empty ∈ z_all := z_in (List.mem_of_getElem? (i := 309) (by decide +kernel)) (by decide +kernel)
theorem wm_X2_empty : Cond.instanceMethod yX2_empty ∈ z_all := z_in (List.mem_of_getElem? (i := 310) (by decide +kernel)) (by decide +kernel)
theorem ws_X2_empty : Cond.selects RX2 yX2_empty yX2_empty ∈ z_all := z_in (List.mem_of_getElem? (i := 311) (by decide +kernel)) (by decide +kernel)
theorem lX4_33 : zMl 0 RX4 33 mX2_empty 0 := zMl_v wc_X2_empty wi_X2 ⟨by decide, by decide⟩ (by decide +kernel) (by decide) wlX4_33 wm_X2_empty ws_X2_empty
theorem wc_X4_skipBlanks : Cond.code mX4_skipBlanks.1 mX4_skipBlanks.2.1 mX4_skipBlanks.2.2.1 mX4_skipBlanks.2.2.2 ∈ z_all := z_in (List.mem_of_getElem? (i := 316) (by decide +kernel)) (by decide +kernel)
theorem wi_X4 : Cond.initialized RX4 ∈ z_all := z_in (List.mem_of_getElem? (i := 61) (by decide +kernel)) (by decide +kernel)
theorem wlX4_38 : Cond.methodLink RX4 38 yX4_skipBlanks ∈ z_all := z_in (List.mem_of_getElem? (i := 313) (by decide +kernel)) (by decide +kernel)
theorem wm_X4_skipBlanks : Cond.instanceMethod yX4_skipBlanks ∈ z_all := z_in (List.mem_of_getElem? (i := 315) (by decide +kernel)) (by decide +kernel)
theorem ws_X4_skipBlanks : Cond.selects RX4 yX4_skipBlanks yX4_skipBlanks ∈ z_all := z_in (List.mem_of_getElem? (i := 1) (by decide +kernel)) (by decide +kernel)
theorem lX4_38 : zMl 0 RX4 38 mX4_skipBlanks 0 := zMl_v wc_X4_skipBlanks wi_X4 ⟨by decide, by decide⟩ (by decide +kernel) (by decide) wlX4_38 wm_X4_skipBlanks ws_X4_skipBlanks
theorem wc_X4_readItem : Cond.code mX4_readItem.1 mX4_readItem.2.1 mX4_readItem.2.2.1 mX4_readItem.2.2.2 ∈ z_all := z_in (List.mem_of_getElem? (i := 320) (by decide +kernel)) (by decide +kernel)
theorem wlX4_41 : Cond.methodLink RX4 41 yX4_readItem ∈ z_all := z_in (List.mem_of_getElem? (i := 317) (by decide +kernel)) (by decide +kernel)
theorem wm_X4_readItem : Cond.instanceMethod yX4_readItem ∈ z_all := z_in (List.mem_of_getElem? (i := 319) (by decide +kernel)) (by decide +kernel)
theorem ws_X4_readItem : Cond.selects RX4 yX4_readItem yX4_readItem ∈ z_all := z_in (List.mem_of_getElem? (i := 2) (by decide +kernel)) (by decide +kernel)
theorem lX4_41 : zMl 0 RX4 41 mX4_readItem 1 := zMl_v wc_X4_readItem wi_X4 ⟨by decide, by decide⟩ (by decide +kernel) (by decide) wlX4_41 wm_X4_readItem ws_X4_readItem
theorem wc_X4_kindOfWord : Cond.code mX4_kindOfWord.1 mX4_kindOfWord.2.1 mX4_kindOfWord.2.2.1 mX4_kindOfWord.2.2.2 ∈ z_all := z_in (List.mem_of_getElem? (i := 324) (by decide +kernel)) (by decide +kernel)
theorem wlX4_45 : Cond.methodLink RX4 45 yX4_kindOfWord ∈ z_all := z_in (List.mem_of_getElem? (i := 321) (by decide +kernel)) (by decide +kernel)
theorem wm_X4_kindOfWord : Cond.instanceMethod yX4_kindOfWord ∈ z_all := z_in (List.mem_of_getElem? (i := 323) (by decide +kernel)) (by decide +kernel)
theorem ws_X4_kindOfWord : Cond.selects RX4 yX4_kindOfWord yX4_kindOfWord ∈ z_all := z_in (List.mem_of_getElem? (i := 3) (by decide +kernel)) (by decide +kernel)
theorem lX4_45 : zMl 0 RX4 45 mX4_kindOfWord 0 := zMl_v wc_X4_kindOfWord wi_X4 ⟨by decide, by decide⟩ (by decide +kernel) (by decide) wlX4_45 wm_X4_kindOfWord ws_X4_kindOfWord
theorem wc_X4_mayStand : Cond.code mX4_mayStand.1 mX4_mayStand.2.1 mX4_mayStand.2.2.1 mX4_mayStand.2.2.2 ∈ z_all := z_in (List.mem_of_getElem? (i := 388) (by decide +kernel)) (by decide +kernel)
theorem wlX4_49 : Cond.methodLink RX4 49 yX4_mayStand ∈ z_all := z_in (List.mem_of_getElem? (i := 385) (by decide +kernel)) (by decide +kernel)
theorem wm_X4_mayStand : Cond.instanceMethod yX4_mayStand ∈ z_all := z_in (List.mem_of_getElem? (i := 387) (by decide +kernel)) (by decide +kernel)
theorem ws_X4_mayStand : Cond.selects RX4 yX4_mayStand yX4_mayStand ∈ z_all := z_in (List.mem_of_getElem? (i := 5) (by decide +kernel)) (by decide +kernel)
theorem lX4_49 : zMl 0 RX4 49 mX4_mayStand 2 := zMl_v wc_X4_mayStand wi_X4 ⟨by decide, by decide⟩ (by decide +kernel) (by decide) wlX4_49 wm_X4_mayStand ws_X4_mayStand
theorem wc_X4_readNumbers : Cond.code mX4_readNumbers.1 mX4_readNumbers.2.1 mX4_readNumbers.2.2.1 mX4_readNumbers.2.2.2 ∈ z_all := z_in (List.mem_of_getElem? (i := 392) (by decide +kernel)) (by decide +kernel)
theorem wlX4_53 : Cond.methodLink RX4 53 yX4_readNumbers ∈ z_all := z_in (List.mem_of_getElem? (i := 389) (by decide +kernel)) (by decide +kernel)
theorem wm_X4_readNumbers : Cond.instanceMethod yX4_readNumbers ∈ z_all := z_in (List.mem_of_getElem? (i := 391) (by decide +kernel)) (by decide +kernel)
theorem ws_X4_readNumbers : Cond.selects RX4 yX4_readNumbers yX4_readNumbers ∈ z_all := z_in (List.mem_of_getElem? (i := 6) (by decide +kernel)) (by decide +kernel)
theorem lX4_53 : zMl 0 RX4 53 mX4_readNumbers 1 := zMl_v wc_X4_readNumbers wi_X4 ⟨by decide, by decide⟩ (by decide +kernel) (by decide) wlX4_53 wm_X4_readNumbers ws_X4_readNumbers
theorem wc_X4_readEnd : Cond.code mX4_readEnd.1 mX4_readEnd.2.1 mX4_readEnd.2.2.1 mX4_readEnd.2.2.2 ∈ z_all := z_in (List.mem_of_getElem? (i := 407) (by decide +kernel)) (by decide +kernel)
theorem wlX4_57 : Cond.methodLink RX4 57 yX4_readEnd ∈ z_all := z_in (List.mem_of_getElem? (i := 404) (by decide +kernel)) (by decide +kernel)
theorem wm_X4_readEnd : Cond.instanceMethod yX4_readEnd ∈ z_all := z_in (List.mem_of_getElem? (i := 406) (by decide +kernel)) (by decide +kernel)
theorem ws_X4_readEnd : Cond.selects RX4 yX4_readEnd yX4_readEnd ∈ z_all := z_in (List.mem_of_getElem? (i := 9) (by decide +kernel)) (by decide +kernel)
theorem lX4_57 : zMl 0 RX4 57 mX4_readEnd 0 := zMl_v wc_X4_readEnd wi_X4 ⟨by decide, by decide⟩ (by decide +kernel) (by decide) wlX4_57 wm_X4_readEnd ws_X4_readEnd
theorem wc_X4_tell : Cond.code mX4_tell.1 mX4_tell.2.1 mX4_tell.2.2.1 mX4_tell.2.2.2 ∈ z_all := z_in (List.mem_of_getElem? (i := 411) (by decide +kernel)) (by decide +kernel)
theorem wlX4_60 : Cond.methodLink RX4 60 yX4_tell ∈ z_all := z_in (List.mem_of_getElem? (i := 408) (by decide +kernel)) (by decide +kernel)
theorem wm_X4_tell : Cond.instanceMethod yX4_tell ∈ z_all := z_in (List.mem_of_getElem? (i := 410) (by decide +kernel)) (by decide +kernel)
theorem ws_X4_tell : Cond.selects RX4 yX4_tell yX4_tell ∈ z_all := z_in (List.mem_of_getElem? (i := 10) (by decide +kernel)) (by decide +kernel)
theorem lX4_60 : zMl 0 RX4 60 mX4_tell 2 := zMl_v wc_X4_tell wi_X4 ⟨by decide, by decide⟩ (by decide +kernel) (by decide) wlX4_60 wm_X4_tell ws_X4_tell
theorem wc_X4_nameOf : Cond.code mX4_nameOf.1 mX4_nameOf.2.1 mX4_nameOf.2.2.1 mX4_nameOf.2.2.2 ∈ z_all := z_in (List.mem_of_getElem? (i := 327) (by decide +kernel)) (by decide +kernel)
theorem wlX4_64 : Cond.methodLink RX4 64 yX4_nameOf ∈ z_all := z_in (List.mem_of_getElem? (i := 325) (by decide +kernel)) (by decide +kernel)
theorem wt_X4_nameOf : Cond.static yX4_nameOf ∈ z_all := z_in (List.mem_of_getElem? (i := 326) (by decide +kernel)) (by decide +kernel)
theorem lX4_64 : zMl 1 RX4 64 mX4_nameOf 1 := zMl_s wc_X4_nameOf wi_X4 ⟨by decide, by decide⟩ (by decide +kernel) (by decide) wlX4_64 wt_X4_nameOf
theorem wc_X4_isWord : Cond.code mX4_isWord.1 mX4_isWord.2.1 mX4_isWord.2.2.1 mX4_isWord.2.2.2 ∈ z_all := z_in (List.mem_of_getElem? (i := 336) (by decide +kernel)) (by decide +kernel)
theorem wlX4_68 : Cond.methodLink RX4 68 yX4_isWord ∈ z_all := z_in (List.mem_of_getElem? (i := 333) (by decide +kernel)) (by decide +kernel)
theorem wm_X4_isWord : Cond.instanceMethod yX4_isWord ∈ z_all := z_in (List.mem_of_getElem? (i := 335) (by decide +kernel)) (by decide +kernel)
theorem ws_X4_isWord : Cond.selects RX4 yX4_isWord yX4_isWord ∈ z_all := z_in (List.mem_of_getElem? (i := 4) (by decide +kernel)) (by decide +kernel)
theorem lX4_68 : zMl 0 RX4 68 mX4_isWord 3 := zMl_v wc_X4_isWord wi_X4 ⟨by decide, by decide⟩ (by decide +kernel) (by decide) wlX4_68 wm_X4_isWord ws_X4_isWord
theorem wc_J0_length_8abf5 : Cond.code mJ0_length_8abf5.1 mJ0_length_8abf5.2.1 mJ0_length_8abf5.2.2.1 mJ0_length_8abf5.2.2.2 ∈ z_all := z_in (List.mem_of_getElem? (i := 340) (by decide +kernel)) (by decide +kernel)
theorem wi_J0 : Cond.initialized RJ0 ∈ z_all := z_in (List.mem_of_getElem? (i := 66) (by decide +kernel)) (by decide +kernel)
theorem wlX4_82 : Cond.methodLink RX4 82 yJ0_length_8abf5 ∈ z_all := z_in (List.mem_of_getElem? (i := 337) (by decide +kernel)) (by decide +kernel)
theorem wm_J0_length_8abf5 : Cond.instanceMethod yJ0_length_8abf5 ∈ z_all := z_in (List.mem_of_getElem? (i := 338) (by decide +kernel)) (by decide +kernel)
theorem ws_J0_length_8abf5 : Cond.selects RJ0 yJ0_length_8abf5 yJ0_length_8abf5 ∈ z_all := z_in (List.mem_of_getElem? (i := 339) (by decide +kernel)) (by decide +kernel)
theorem lX4_82 : zMl 0 RX4 82 mJ0_length_8abf5 0 := zMl_v wc_J0_length_8abf5 wi_J0 ⟨by decide, by decide⟩ (by decide +kernel) (by decide) wlX4_82 wm_J0_length_8abf5 ws_J0_length_8abf5
theorem wc_J0_charAt_5068e : Cond.code mJ0_charAt_5068e.1 mJ0_charAt_5068e.2.1 mJ0_charAt_5068e.2.2.1 mJ0_charAt_5068e.2.2.2 ∈ z_all := z_in (List.mem_of_getElem? (i := 350) (by decide +kernel)) (by decide +kernel)
theorem wlX4_86 : Cond.methodLink RX4 86 yJ0_charAt_5068e ∈ z_all := z_in (List.mem_of_getElem? (i := 347) (by decide +kernel)) (by decide +kernel)
theorem wm_J0_charAt_5068e : Cond.instanceMethod yJ0_charAt_5068e ∈ z_all := z_in (List.mem_of_getElem? (i := 348) (by decide +kernel)) (by decide +kernel)
theorem ws_J0_charAt_5068e : Cond.selects RJ0 yJ0_charAt_5068e yJ0_charAt_5068e ∈ z_all := z_in (List.mem_of_getElem? (i := 349) (by decide +kernel)) (by decide +kernel)
theorem lX4_86 : zMl 0 RX4 86 mJ0_charAt_5068e 1 := zMl_v wc_J0_charAt_5068e wi_J0 ⟨by decide, by decide⟩ (by decide +kernel) (by decide) wlX4_86 wm_J0_charAt_5068e ws_J0_charAt_5068e
theorem fX4_90 : zFl RX4 90 1 0 := ⟨(RX2, TX2, 10), rfl, by decide, z_in (List.mem_of_getElem? (i := 118) (by decide +kernel)) (by decide +kernel)⟩
theorem fX4_93 : zFl RX4 93 1 1 := ⟨(RX2, TX2, 10), rfl, by decide, z_in (List.mem_of_getElem? (i := 123) (by decide +kernel)) (by decide +kernel)⟩
theorem wc_X4_readNumber : Cond.code mX4_readNumber.1 mX4_readNumber.2.1 mX4_readNumber.2.2.1 mX4_readNumber.2.2.2 ∈ z_all := z_in (List.mem_of_getElem? (i := 396) (by decide +kernel)) (by decide +kernel)
theorem wlX4_96 : Cond.methodLink RX4 96 yX4_readNumber ∈ z_all := z_in (List.mem_of_getElem? (i := 393) (by decide +kernel)) (by decide +kernel)
theorem wm_X4_readNumber : Cond.instanceMethod yX4_readNumber ∈ z_all := z_in (List.mem_of_getElem? (i := 395) (by decide +kernel)) (by decide +kernel)
theorem ws_X4_readNumber : Cond.selects RX4 yX4_readNumber yX4_readNumber ∈ z_all := z_in (List.mem_of_getElem? (i := 7) (by decide +kernel)) (by decide +kernel)
theorem lX4_96 : zMl 0 RX4 96 mX4_readNumber 3 := zMl_v wc_X4_readNumber wi_X4 ⟨by decide, by decide⟩ (by decide +kernel) (by decide) wlX4_96 wm_X4_readNumber ws_X4_readNumber
theorem wc_X4_endsTooEarly : Cond.code mX4_endsTooEarly.1 mX4_endsTooEarly.2.1 mX4_endsTooEarly.2.2.1 mX4_endsTooEarly.2.2.2 ∈ z_all := z_in (List.mem_of_getElem? (i := 400) (by decide +kernel)) (by decide +kernel)
theorem wlX4_100 : Cond.methodLink RX4 100 yX4_endsTooEarly ∈ z_all := z_in (List.mem_of_getElem? (i := 397) (by decide +kernel)) (by decide +kernel)
theorem wm_X4_endsTooEarly : Cond.instanceMethod yX4_endsTooEarly ∈ z_all := z_in (List.mem_of_getElem? (i := 399) (by decide +kernel)) (by decide +kernel)
theorem ws_X4_endsTooEarly : Cond.selects RX4 yX4_endsTooEarly yX4_endsTooEarly ∈ z_all := z_in (List.mem_of_getElem? (i := 8) (by decide +kernel)) (by decide +kernel)
theorem lX4_100 : zMl 0 RX4 100 mX4_endsTooEarly 0 := zMl_v wc_X4_endsTooEarly wi_X4 ⟨by decide, by decide⟩ (by decide +kernel) (by decide) wlX4_100 wm_X4_endsTooEarly ws_X4_endsTooEarly
theorem wc_J9_min_7cf53 : Cond.code mJ9_min_7cf53.1 mJ9_min_7cf53.2.1 mJ9_min_7cf53.2.2.1 mJ9_min_7cf53.2.2.2 ∈ z_all := z_in (List.mem_of_getElem? (i := 403) (by decide +kernel)) (by decide +kernel)
theorem wlX4_104 : Cond.methodLink RX4 104 yJ9_min_7cf53 ∈ z_all := z_in (List.mem_of_getElem? (i := 401) (by decide +kernel)) (by decide +kernel)
theorem wt_J9_min_7cf53 : Cond.static yJ9_min_7cf53 ∈ z_all := z_in (List.mem_of_getElem? (i := 402) (by decide +kernel)) (by decide +kernel)
theorem lX4_104 : zMl 1 RX4 104 mJ9_min_7cf53 2 := zMl_s wc_J9_min_7cf53 wi_J9 ⟨by decide, by decide⟩ (by decide +kernel) (by decide) wlX4_104 wt_J9_min_7cf53
theorem wc_X2_addHour : Cond.code mX2_addHour.1 mX2_addHour.2.1 mX2_addHour.2.2.1 mX2_addHour.2.2.2 ∈ z_all := z_in (List.mem_of_getElem? (i := 415) (by decide +kernel)) (by decide +kernel)
theorem wlX4_110 : Cond.methodLink RX4 110 yX2_addHour ∈ z_all := z_in (List.mem_of_getElem? (i := 412) (by decide +kernel)) (by decide +kernel)
theorem wm_X2_addHour : Cond.instanceMethod yX2_addHour ∈ z_all := z_in (List.mem_of_getElem? (i := 413) (by decide +kernel)) (by decide +kernel)
theorem ws_X2_addHour : Cond.selects RX2 yX2_addHour yX2_addHour ∈ z_all := z_in (List.mem_of_getElem? (i := 414) (by decide +kernel)) (by decide +kernel)
theorem lX4_110 : zMl 0 RX4 110 mX2_addHour 1 := zMl_v wc_X2_addHour wi_X2 ⟨by decide, by decide⟩ (by decide +kernel) (by decide) wlX4_110 wm_X2_addHour ws_X2_addHour
theorem wc_X2_addRinger : Cond.code mX2_addRinger.1 mX2_addRinger.2.1 mX2_addRinger.2.2.1 mX2_addRinger.2.2.2 ∈ z_all := z_in (List.mem_of_getElem? (i := 419) (by decide +kernel)) (by decide +kernel)
theorem wlX4_113 : Cond.methodLink RX4 113 yX2_addRinger ∈ z_all := z_in (List.mem_of_getElem? (i := 416) (by decide +kernel)) (by decide +kernel)
theorem wm_X2_addRinger : Cond.instanceMethod yX2_addRinger ∈ z_all := z_in (List.mem_of_getElem? (i := 417) (by decide +kernel)) (by decide +kernel)
theorem ws_X2_addRinger : Cond.selects RX2 yX2_addRinger yX2_addRinger ∈ z_all := z_in (List.mem_of_getElem? (i := 418) (by decide +kernel)) (by decide +kernel)
theorem lX4_113 : zMl 0 RX4 113 mX2_addRinger 4 := zMl_v wc_X2_addRinger wi_X2 ⟨by decide, by decide⟩ (by decide +kernel) (by decide) wlX4_113 wm_X2_addRinger ws_X2_addRinger
theorem fX4_117 : zFl RX4 117 1 2 := ⟨(RX2, TX2, 10), rfl, by decide, z_in (List.mem_of_getElem? (i := 128) (by decide +kernel)) (by decide +kernel)⟩
theorem fX4_119 : zFl RX4 119 1 3 := ⟨(RX2, TX2, 10), rfl, by decide, z_in (List.mem_of_getElem? (i := 132) (by decide +kernel)) (by decide +kernel)⟩
theorem fX4_121 : zFl RX4 121 1 4 := ⟨(RX2, TX2, 10), rfl, by decide, z_in (List.mem_of_getElem? (i := 137) (by decide +kernel)) (by decide +kernel)⟩
theorem wc_X4_init : Cond.code mX4_init.1 mX4_init.2.1 mX4_init.2.2.1 mX4_init.2.2.2 ∈ z_all := z_in (List.mem_of_getElem? (i := 86) (by decide +kernel)) (by decide +kernel)
theorem wlX5_9 : (RX5, 9, yX4_init) ∈ z_nest := by simp [z_nest]
theorem wm_X4_init : Cond.instanceMethod yX4_init ∈ z_all := z_in (List.mem_of_getElem? (i := 85) (by decide +kernel)) (by decide +kernel)
theorem lX5_9 : zMl 2 RX5 9 mX4_init 0 := zMl_i wc_X4_init wi_X4 ⟨by decide, by decide⟩ (by decide +kernel) (by decide) (Or.inr wlX5_9) wm_X4_init rfl rfl
theorem fX5_10 : zFl RX5 10 4 0 := ⟨(RX5, TX5, 8), rfl, by decide, z_in (List.mem_of_getElem? (i := 260) (by decide +kernel)) (by decide +kernel)⟩
theorem wc_X2_init : Cond.code mX2_init.1 mX2_init.2.1 mX2_init.2.2.1 mX2_init.2.2.2 ∈ z_all := z_in (List.mem_of_getElem? (i := 115) (by decide +kernel)) (by decide +kernel)
theorem wlX5_18 : (RX5, 18, yX2_init) ∈ z_nest := by simp [z_nest]
theorem wm_X2_init : Cond.instanceMethod yX2_init ∈ z_all := z_in (List.mem_of_getElem? (i := 114) (by decide +kernel)) (by decide +kernel)
theorem lX5_18 : zMl 2 RX5 18 mX2_init 0 := zMl_i wc_X2_init wi_X2 ⟨by decide, by decide⟩ (by decide +kernel) (by decide) (Or.inr wlX5_18) wm_X2_init rfl rfl
theorem fX5_19 : zFl RX5 19 4 1 := ⟨(RX5, TX5, 8), rfl, by decide, z_in (List.mem_of_getElem? (i := 261) (by decide +kernel)) (by decide +kernel)⟩
theorem fX5_23 : zFl RX5 23 4 2 := ⟨(RX5, TX5, 8), rfl, by decide, z_in (List.mem_of_getElem? (i := 262) (by decide +kernel)) (by decide +kernel)⟩
theorem wc_X3_init : Cond.code mX3_init.1 mX3_init.2.1 mX3_init.2.2.1 mX3_init.2.2.2 ∈ z_all := z_in (List.mem_of_getElem? (i := 176) (by decide +kernel)) (by decide +kernel)
theorem wlX5_28 : Cond.methodLink RX5 28 yX3_init ∈ z_all := z_in (List.mem_of_getElem? (i := 174) (by decide +kernel)) (by decide +kernel)
theorem wm_X3_init : Cond.instanceMethod yX3_init ∈ z_all := z_in (List.mem_of_getElem? (i := 175) (by decide +kernel)) (by decide +kernel)
theorem lX5_28 : zMl 2 RX5 28 mX3_init 0 := zMl_i wc_X3_init wi_X3 ⟨by decide, by decide⟩ (by decide +kernel) (by decide) (Or.inl wlX5_28) wm_X3_init rfl rfl
theorem fX5_29 : zFl RX5 29 4 3 := ⟨(RX5, TX5, 8), rfl, by decide, z_in (List.mem_of_getElem? (i := 263) (by decide +kernel)) (by decide +kernel)⟩
theorem fX5_33 : zFl RX5 33 4 4 := ⟨(RX5, TX5, 8), rfl, by decide, z_in (List.mem_of_getElem? (i := 264) (by decide +kernel)) (by decide +kernel)⟩
theorem fX5_37 : zFl RX5 37 4 5 := ⟨(RX5, TX5, 8), rfl, by decide, z_in (List.mem_of_getElem? (i := 265) (by decide +kernel)) (by decide +kernel)⟩
theorem wc_X1_init : Cond.code mX1_init.1 mX1_init.2.1 mX1_init.2.2.1 mX1_init.2.2.2 ∈ z_all := z_in (List.mem_of_getElem? (i := 203) (by decide +kernel)) (by decide +kernel)
theorem wlX5_43 : (RX5, 43, yX1_init) ∈ z_nest := by simp [z_nest]
theorem wm_X1_init : Cond.instanceMethod yX1_init ∈ z_all := z_in (List.mem_of_getElem? (i := 202) (by decide +kernel)) (by decide +kernel)
theorem lX5_43 : zMl 2 RX5 43 mX1_init 0 := zMl_i wc_X1_init wi_X1 ⟨by decide, by decide⟩ (by decide +kernel) (by decide) (Or.inr wlX5_43) wm_X1_init rfl rfl
theorem fX5_44 : zFl RX5 44 4 6 := ⟨(RX5, TX5, 8), rfl, by decide, z_in (List.mem_of_getElem? (i := 266) (by decide +kernel)) (by decide +kernel)⟩
theorem fX5_48 : zFl RX5 48 4 7 := ⟨(RX5, TX5, 8), rfl, by decide, z_in (List.mem_of_getElem? (i := 267) (by decide +kernel)) (by decide +kernel)⟩
theorem fX5_52 : zFl RX5 52 3 0 := ⟨(RX4, TX4, 6), rfl, by decide, z_in (List.mem_of_getElem? (i := 89) (by decide +kernel)) (by decide +kernel)⟩
theorem wc_X4_add : Cond.code mX4_add.1 mX4_add.2.1 mX4_add.2.2.1 mX4_add.2.2.2 ∈ z_all := z_in (List.mem_of_getElem? (i := 292) (by decide +kernel)) (by decide +kernel)
theorem wlX5_56 : Cond.methodLink RX5 56 yX4_add ∈ z_all := z_in (List.mem_of_getElem? (i := 289) (by decide +kernel)) (by decide +kernel)
theorem wm_X4_add : Cond.instanceMethod yX4_add ∈ z_all := z_in (List.mem_of_getElem? (i := 290) (by decide +kernel)) (by decide +kernel)
theorem ws_X4_add : Cond.selects RX4 yX4_add yX4_add ∈ z_all := z_in (List.mem_of_getElem? (i := 291) (by decide +kernel)) (by decide +kernel)
theorem lX5_56 : zMl 0 RX5 56 mX4_add 1 := zMl_v wc_X4_add wi_X4 ⟨by decide, by decide⟩ (by decide +kernel) (by decide) wlX5_56 wm_X4_add ws_X4_add
theorem wc_X4_empty : Cond.code mX4_empty.1 mX4_empty.2.1 mX4_empty.2.2.1 mX4_empty.2.2.2 ∈ z_all := z_in (List.mem_of_getElem? (i := 300) (by decide +kernel)) (by decide +kernel)
theorem wlX5_60 : Cond.methodLink RX5 60 yX4_empty ∈ z_all := z_in (List.mem_of_getElem? (i := 297) (by decide +kernel)) (by decide +kernel)
theorem wm_X4_empty : Cond.instanceMethod yX4_empty ∈ z_all := z_in (List.mem_of_getElem? (i := 298) (by decide +kernel)) (by decide +kernel)
theorem ws_X4_empty : Cond.selects RX4 yX4_empty yX4_empty ∈ z_all := z_in (List.mem_of_getElem? (i := 299) (by decide +kernel)) (by decide +kernel)
theorem lX5_60 : zMl 0 RX5 60 mX4_empty 0 := zMl_v wc_X4_empty wi_X4 ⟨by decide, by decide⟩ (by decide +kernel) (by decide) wlX5_60 wm_X4_empty ws_X4_empty
theorem wc_X4_read : Cond.code mX4_read.1 mX4_read.2.1 mX4_read.2.2.1 mX4_read.2.2.2 ∈ z_all := z_in (List.mem_of_getElem? (i := 308) (by decide +kernel)) (by decide +kernel)
theorem wlX5_63 : Cond.methodLink RX5 63 yX4_read ∈ z_all := z_in (List.mem_of_getElem? (i := 305) (by decide +kernel)) (by decide +kernel)
theorem wm_X4_read : Cond.instanceMethod yX4_read ∈ z_all := z_in (List.mem_of_getElem? (i := 306) (by decide +kernel)) (by decide +kernel)
theorem ws_X4_read : Cond.selects RX4 yX4_read yX4_read ∈ z_all := z_in (List.mem_of_getElem? (i := 307) (by decide +kernel)) (by decide +kernel)
theorem lX5_63 : zMl 0 RX5 63 mX4_read 1 := zMl_v wc_X4_read wi_X4 ⟨by decide, by decide⟩ (by decide +kernel) (by decide) wlX5_63 wm_X4_read ws_X4_read
theorem fX5_67 : zFl RX5 67 1 2 := ⟨(RX2, TX2, 10), rfl, by decide, z_in (List.mem_of_getElem? (i := 127) (by decide +kernel)) (by decide +kernel)⟩
theorem wc_X3_empty : Cond.code mX3_empty.1 mX3_empty.2.1 mX3_empty.2.2.1 mX3_empty.2.2.2 ∈ z_all := z_in (List.mem_of_getElem? (i := 423) (by decide +kernel)) (by decide +kernel)
theorem wlX5_70 : Cond.methodLink RX5 70 yX3_empty ∈ z_all := z_in (List.mem_of_getElem? (i := 420) (by decide +kernel)) (by decide +kernel)
theorem wm_X3_empty : Cond.instanceMethod yX3_empty ∈ z_all := z_in (List.mem_of_getElem? (i := 421) (by decide +kernel)) (by decide +kernel)
theorem ws_X3_empty : Cond.selects RX3 yX3_empty yX3_empty ∈ z_all := z_in (List.mem_of_getElem? (i := 422) (by decide +kernel)) (by decide +kernel)
theorem lX5_70 : zMl 0 RX5 70 mX3_empty 1 := zMl_v wc_X3_empty wi_X3 ⟨by decide, by decide⟩ (by decide +kernel) (by decide) wlX5_70 wm_X3_empty ws_X3_empty
theorem wc_X1_forParish : Cond.code mX1_forParish.1 mX1_forParish.2.1 mX1_forParish.2.2.1 mX1_forParish.2.2.2 ∈ z_all := z_in (List.mem_of_getElem? (i := 427) (by decide +kernel)) (by decide +kernel)
theorem wlX5_73 : Cond.methodLink RX5 73 yX1_forParish ∈ z_all := z_in (List.mem_of_getElem? (i := 424) (by decide +kernel)) (by decide +kernel)
theorem wm_X1_forParish : Cond.instanceMethod yX1_forParish ∈ z_all := z_in (List.mem_of_getElem? (i := 425) (by decide +kernel)) (by decide +kernel)
theorem ws_X1_forParish : Cond.selects RX1 yX1_forParish yX1_forParish ∈ z_all := z_in (List.mem_of_getElem? (i := 426) (by decide +kernel)) (by decide +kernel)
theorem lX5_73 : zMl 0 RX5 73 mX1_forParish 0 := zMl_v wc_X1_forParish wi_X1 ⟨by decide, by decide⟩ (by decide +kernel) (by decide) wlX5_73 wm_X1_forParish ws_X1_forParish
theorem wlX5_76 : Cond.methodLink RX5 76 yX2_hasRinger ∈ z_all := z_in (List.mem_of_getElem? (i := 432) (by decide +kernel)) (by decide +kernel)
theorem lX5_76 : zMl 0 RX5 76 mX2_hasRinger 1 := zMl_v wc_X2_hasRinger wi_X2 ⟨by decide, by decide⟩ (by decide +kernel) (by decide) wlX5_76 wm_X2_hasRinger ws_X2_hasRinger
theorem fX5_80 : zFl RX5 80 1 6 := ⟨(RX2, TX2, 10), rfl, by decide, z_in (List.mem_of_getElem? (i := 144) (by decide +kernel)) (by decide +kernel)⟩
theorem fX5_84 : zFl RX5 84 1 7 := ⟨(RX2, TX2, 10), rfl, by decide, z_in (List.mem_of_getElem? (i := 146) (by decide +kernel)) (by decide +kernel)⟩
theorem fX5_87 : zFl RX5 87 1 8 := ⟨(RX2, TX2, 10), rfl, by decide, z_in (List.mem_of_getElem? (i := 148) (by decide +kernel)) (by decide +kernel)⟩
theorem fX5_90 : zFl RX5 90 1 9 := ⟨(RX2, TX2, 10), rfl, by decide, z_in (List.mem_of_getElem? (i := 150) (by decide +kernel)) (by decide +kernel)⟩
theorem wlX5_93 : Cond.methodLink RX5 93 yX3_timesOf ∈ z_all := z_in (List.mem_of_getElem? (i := 436) (by decide +kernel)) (by decide +kernel)
theorem lX5_93 : zMl 0 RX5 93 mX3_timesOf 1 := zMl_v wc_X3_timesOf wi_X3 ⟨by decide, by decide⟩ (by decide +kernel) (by decide) wlX5_93 wm_X3_timesOf ws_X3_timesOf
theorem wlX5_97 : Cond.methodLink RX5 97 yX2_hasHour ∈ z_all := z_in (List.mem_of_getElem? (i := 455) (by decide +kernel)) (by decide +kernel)
theorem lX5_97 : zMl 0 RX5 97 mX2_hasHour 1 := zMl_v wc_X2_hasHour wi_X2 ⟨by decide, by decide⟩ (by decide +kernel) (by decide) wlX5_97 wm_X2_hasHour ws_X2_hasHour
theorem fX5_100 : zFl RX5 100 1 5 := ⟨(RX2, TX2, 10), rfl, by decide, z_in (List.mem_of_getElem? (i := 141) (by decide +kernel)) (by decide +kernel)⟩
theorem wlX5_103 : Cond.methodLink RX5 103 yX3_ringersIn ∈ z_all := z_in (List.mem_of_getElem? (i := 459) (by decide +kernel)) (by decide +kernel)
theorem lX5_103 : zMl 0 RX5 103 mX3_ringersIn 1 := zMl_v wc_X3_ringersIn wi_X3 ⟨by decide, by decide⟩ (by decide +kernel) (by decide) wlX5_103 wm_X3_ringersIn ws_X3_ringersIn
theorem wlX5_106 : Cond.methodLink RX5 106 yJ6_bitCount_0f7a4 ∈ z_all := z_in (List.mem_of_getElem? (i := 463) (by decide +kernel)) (by decide +kernel)
theorem lX5_106 : zMl 1 RX5 106 mJ6_bitCount_0f7a4 1 := zMl_s wc_J6_bitCount_0f7a4 wi_J6 ⟨by decide, by decide⟩ (by decide +kernel) (by decide) wlX5_106 wt_J6_bitCount_0f7a4
theorem fX5_111 : zFl RX5 111 2 2 := ⟨(RX3, TX3, 4), rfl, by decide, z_in (List.mem_of_getElem? (i := 187) (by decide +kernel)) (by decide +kernel)⟩
theorem wlX5_114 : Cond.methodLink RX5 114 yX2_hasBell ∈ z_all := z_in (List.mem_of_getElem? (i := 473) (by decide +kernel)) (by decide +kernel)
theorem lX5_114 : zMl 0 RX5 114 mX2_hasBell 2 := zMl_v wc_X2_hasBell wi_X2 ⟨by decide, by decide⟩ (by decide +kernel) (by decide) wlX5_114 wm_X2_hasBell ws_X2_hasBell
theorem wc_X2_canRing : Cond.code mX2_canRing.1 mX2_canRing.2.1 mX2_canRing.2.2.1 mX2_canRing.2.2.2 ∈ z_all := z_in (List.mem_of_getElem? (i := 481) (by decide +kernel)) (by decide +kernel)
theorem wlX5_118 : Cond.methodLink RX5 118 yX2_canRing ∈ z_all := z_in (List.mem_of_getElem? (i := 478) (by decide +kernel)) (by decide +kernel)
theorem wm_X2_canRing : Cond.instanceMethod yX2_canRing ∈ z_all := z_in (List.mem_of_getElem? (i := 479) (by decide +kernel)) (by decide +kernel)
theorem ws_X2_canRing : Cond.selects RX2 yX2_canRing yX2_canRing ∈ z_all := z_in (List.mem_of_getElem? (i := 480) (by decide +kernel)) (by decide +kernel)
theorem lX5_118 : zMl 0 RX5 118 mX2_canRing 3 := zMl_v wc_X2_canRing wi_X2 ⟨by decide, by decide⟩ (by decide +kernel) (by decide) wlX5_118 wm_X2_canRing ws_X2_canRing
theorem wc_X3_hasRoom : Cond.code mX3_hasRoom.1 mX3_hasRoom.2.1 mX3_hasRoom.2.2.1 mX3_hasRoom.2.2.2 ∈ z_all := z_in (List.mem_of_getElem? (i := 491) (by decide +kernel)) (by decide +kernel)
theorem wlX5_122 : Cond.methodLink RX5 122 yX3_hasRoom ∈ z_all := z_in (List.mem_of_getElem? (i := 488) (by decide +kernel)) (by decide +kernel)
theorem wm_X3_hasRoom : Cond.instanceMethod yX3_hasRoom ∈ z_all := z_in (List.mem_of_getElem? (i := 489) (by decide +kernel)) (by decide +kernel)
theorem ws_X3_hasRoom : Cond.selects RX3 yX3_hasRoom yX3_hasRoom ∈ z_all := z_in (List.mem_of_getElem? (i := 490) (by decide +kernel)) (by decide +kernel)
theorem lX5_122 : zMl 0 RX5 122 mX3_hasRoom 4 := zMl_v wc_X3_hasRoom wi_X3 ⟨by decide, by decide⟩ (by decide +kernel) (by decide) wlX5_122 wm_X3_hasRoom ws_X3_hasRoom
theorem wc_X3_give : Cond.code mX3_give.1 mX3_give.2.1 mX3_give.2.2.1 mX3_give.2.2.2 ∈ z_all := z_in (List.mem_of_getElem? (i := 503) (by decide +kernel)) (by decide +kernel)
theorem wlX5_126 : Cond.methodLink RX5 126 yX3_give ∈ z_all := z_in (List.mem_of_getElem? (i := 500) (by decide +kernel)) (by decide +kernel)
theorem wm_X3_give : Cond.instanceMethod yX3_give ∈ z_all := z_in (List.mem_of_getElem? (i := 501) (by decide +kernel)) (by decide +kernel)
theorem ws_X3_give : Cond.selects RX3 yX3_give yX3_give ∈ z_all := z_in (List.mem_of_getElem? (i := 502) (by decide +kernel)) (by decide +kernel)
theorem lX5_126 : zMl 0 RX5 126 mX3_give 3 := zMl_v wc_X3_give wi_X3 ⟨by decide, by decide⟩ (by decide +kernel) (by decide) wlX5_126 wm_X3_give ws_X3_give
theorem fX5_130 : zFl RX5 130 2 0 := ⟨(RX3, TX3, 4), rfl, by decide, z_in (List.mem_of_getElem? (i := 183) (by decide +kernel)) (by decide +kernel)⟩
theorem wlX5_133 : Cond.methodLink RX5 133 yX3_ringerAt ∈ z_all := z_in (List.mem_of_getElem? (i := 508) (by decide +kernel)) (by decide +kernel)
theorem lX5_133 : zMl 0 RX5 133 mX3_ringerAt 2 := zMl_v wc_X3_ringerAt wi_X3 ⟨by decide, by decide⟩ (by decide +kernel) (by decide) wlX5_133 wm_X3_ringerAt ws_X3_ringerAt
theorem wlX5_137 : Cond.methodLink RX5 137 yX3_bellOf ∈ z_all := z_in (List.mem_of_getElem? (i := 513) (by decide +kernel)) (by decide +kernel)
theorem lX5_137 : zMl 0 RX5 137 mX3_bellOf 2 := zMl_v wc_X3_bellOf wi_X3 ⟨by decide, by decide⟩ (by decide +kernel) (by decide) wlX5_137 wm_X3_bellOf ws_X3_bellOf
theorem wc_X3_free : Cond.code mX3_free.1 mX3_free.2.1 mX3_free.2.2.1 mX3_free.2.2.2 ∈ z_all := z_in (List.mem_of_getElem? (i := 517) (by decide +kernel)) (by decide +kernel)
theorem wlX5_140 : Cond.methodLink RX5 140 yX3_free ∈ z_all := z_in (List.mem_of_getElem? (i := 514) (by decide +kernel)) (by decide +kernel)
theorem wm_X3_free : Cond.instanceMethod yX3_free ∈ z_all := z_in (List.mem_of_getElem? (i := 515) (by decide +kernel)) (by decide +kernel)
theorem ws_X3_free : Cond.selects RX3 yX3_free yX3_free ∈ z_all := z_in (List.mem_of_getElem? (i := 516) (by decide +kernel)) (by decide +kernel)
theorem lX5_140 : zMl 0 RX5 140 mX3_free 2 := zMl_v wc_X3_free wi_X3 ⟨by decide, by decide⟩ (by decide +kernel) (by decide) wlX5_140 wm_X3_free ws_X3_free
theorem wc_X5_canTakeOver : Cond.code mX5_canTakeOver.1 mX5_canTakeOver.2.1 mX5_canTakeOver.2.2.1 mX5_canTakeOver.2.2.2 ∈ z_all := z_in (List.mem_of_getElem? (i := 525) (by decide +kernel)) (by decide +kernel)
theorem wi_X5 : Cond.initialized RX5 ∈ z_all := z_in (List.mem_of_getElem? (i := 60) (by decide +kernel)) (by decide +kernel)
theorem wlX5_144 : Cond.methodLink RX5 144 yX5_canTakeOver ∈ z_all := z_in (List.mem_of_getElem? (i := 522) (by decide +kernel)) (by decide +kernel)
theorem wm_X5_canTakeOver : Cond.instanceMethod yX5_canTakeOver ∈ z_all := z_in (List.mem_of_getElem? (i := 524) (by decide +kernel)) (by decide +kernel)
theorem ws_X5_canTakeOver : Cond.selects RX5 yX5_canTakeOver yX5_canTakeOver ∈ z_all := z_in (List.mem_of_getElem? (i := 11) (by decide +kernel)) (by decide +kernel)
theorem lX5_144 : zMl 0 RX5 144 mX5_canTakeOver 2 := zMl_v wc_X5_canTakeOver wi_X5 ⟨by decide, by decide⟩ (by decide +kernel) (by decide) wlX5_144 wm_X5_canTakeOver ws_X5_canTakeOver
theorem wc_X3_swap : Cond.code mX3_swap.1 mX3_swap.2.1 mX3_swap.2.2.1 mX3_swap.2.2.2 ∈ z_all := z_in (List.mem_of_getElem? (i := 529) (by decide +kernel)) (by decide +kernel)
theorem wlX5_147 : Cond.methodLink RX5 147 yX3_swap ∈ z_all := z_in (List.mem_of_getElem? (i := 526) (by decide +kernel)) (by decide +kernel)
theorem wm_X3_swap : Cond.instanceMethod yX3_swap ∈ z_all := z_in (List.mem_of_getElem? (i := 527) (by decide +kernel)) (by decide +kernel)
theorem ws_X3_swap : Cond.selects RX3 yX3_swap yX3_swap ∈ z_all := z_in (List.mem_of_getElem? (i := 528) (by decide +kernel)) (by decide +kernel)
theorem lX5_147 : zMl 0 RX5 147 mX3_swap 2 := zMl_v wc_X3_swap wi_X3 ⟨by decide, by decide⟩ (by decide +kernel) (by decide) wlX5_147 wm_X3_swap ws_X3_swap
theorem fX5_150 : zFl RX5 150 1 0 := ⟨(RX2, TX2, 10), rfl, by decide, z_in (List.mem_of_getElem? (i := 119) (by decide +kernel)) (by decide +kernel)⟩
theorem wc_X2_wantedInAll : Cond.code mX2_wantedInAll.1 mX2_wantedInAll.2.1 mX2_wantedInAll.2.2.1 mX2_wantedInAll.2.2.2 ∈ z_all := z_in (List.mem_of_getElem? (i := 537) (by decide +kernel)) (by decide +kernel)
theorem wlX5_153 : Cond.methodLink RX5 153 yX2_wantedInAll ∈ z_all := z_in (List.mem_of_getElem? (i := 534) (by decide +kernel)) (by decide +kernel)
theorem wm_X2_wantedInAll : Cond.instanceMethod yX2_wantedInAll ∈ z_all := z_in (List.mem_of_getElem? (i := 535) (by decide +kernel)) (by decide +kernel)
theorem ws_X2_wantedInAll : Cond.selects RX2 yX2_wantedInAll yX2_wantedInAll ∈ z_all := z_in (List.mem_of_getElem? (i := 536) (by decide +kernel)) (by decide +kernel)
theorem lX5_153 : zMl 0 RX5 153 mX2_wantedInAll 0 := zMl_v wc_X2_wantedInAll wi_X2 ⟨by decide, by decide⟩ (by decide +kernel) (by decide) wlX5_153 wm_X2_wantedInAll ws_X2_wantedInAll
theorem fX5_157 : zFl RX5 157 2 1 := ⟨(RX3, TX3, 4), rfl, by decide, z_in (List.mem_of_getElem? (i := 185) (by decide +kernel)) (by decide +kernel)⟩
theorem wc_X3_walk : Cond.code mX3_walk.1 mX3_walk.2.1 mX3_walk.2.2.1 mX3_walk.2.2.2 ∈ z_all := z_in (List.mem_of_getElem? (i := 541) (by decide +kernel)) (by decide +kernel)
theorem wlX5_158 : Cond.methodLink RX5 158 yX3_walk ∈ z_all := z_in (List.mem_of_getElem? (i := 538) (by decide +kernel)) (by decide +kernel)
theorem wm_X3_walk : Cond.instanceMethod yX3_walk ∈ z_all := z_in (List.mem_of_getElem? (i := 539) (by decide +kernel)) (by decide +kernel)
theorem ws_X3_walk : Cond.selects RX3 yX3_walk yX3_walk ∈ z_all := z_in (List.mem_of_getElem? (i := 540) (by decide +kernel)) (by decide +kernel)
theorem lX5_158 : zMl 0 RX5 158 mX3_walk 2 := zMl_v wc_X3_walk wi_X3 ⟨by decide, by decide⟩ (by decide +kernel) (by decide) wlX5_158 wm_X3_walk ws_X3_walk
theorem wc_X1_forTower : Cond.code mX1_forTower.1 mX1_forTower.2.1 mX1_forTower.2.2.1 mX1_forTower.2.2.2 ∈ z_all := z_in (List.mem_of_getElem? (i := 554) (by decide +kernel)) (by decide +kernel)
theorem wlX5_162 : Cond.methodLink RX5 162 yX1_forTower ∈ z_all := z_in (List.mem_of_getElem? (i := 551) (by decide +kernel)) (by decide +kernel)
theorem wm_X1_forTower : Cond.instanceMethod yX1_forTower ∈ z_all := z_in (List.mem_of_getElem? (i := 552) (by decide +kernel)) (by decide +kernel)
theorem ws_X1_forTower : Cond.selects RX1 yX1_forTower yX1_forTower ∈ z_all := z_in (List.mem_of_getElem? (i := 553) (by decide +kernel)) (by decide +kernel)
theorem lX5_162 : zMl 0 RX5 162 mX1_forTower 0 := zMl_v wc_X1_forTower wi_X1 ⟨by decide, by decide⟩ (by decide +kernel) (by decide) wlX5_162 wm_X1_forTower ws_X1_forTower
theorem wc_X0_most : Cond.code mX0_most.1 mX0_most.2.1 mX0_most.2.2.1 mX0_most.2.2.2 ∈ z_all := z_in (List.mem_of_getElem? (i := 561) (by decide +kernel)) (by decide +kernel)
theorem wlX5_165 : Cond.methodLink RX5 165 yX0_most ∈ z_all := z_in (List.mem_of_getElem? (i := 559) (by decide +kernel)) (by decide +kernel)
theorem wt_X0_most : Cond.static yX0_most ∈ z_all := z_in (List.mem_of_getElem? (i := 560) (by decide +kernel)) (by decide +kernel)
theorem lX5_165 : zMl 1 RX5 165 mX0_most 2 := zMl_s wc_X0_most wi_X0 ⟨by decide, by decide⟩ (by decide +kernel) (by decide) wlX5_165 wt_X0_most
theorem wlX5_170 : Cond.methodLink RX5 170 yX0_firstBar ∈ z_all := z_in (List.mem_of_getElem? (i := 577) (by decide +kernel)) (by decide +kernel)
theorem lX5_170 : zMl 1 RX5 170 mX0_firstBar 3 := zMl_s wc_X0_firstBar wi_X0 ⟨by decide, by decide⟩ (by decide +kernel) (by decide) wlX5_170 wt_X0_firstBar
theorem wc_X1_settle : Cond.code mX1_settle.1 mX1_settle.2.1 mX1_settle.2.2.1 mX1_settle.2.2.2 ∈ z_all := z_in (List.mem_of_getElem? (i := 587) (by decide +kernel)) (by decide +kernel)
theorem wlX5_174 : Cond.methodLink RX5 174 yX1_settle ∈ z_all := z_in (List.mem_of_getElem? (i := 584) (by decide +kernel)) (by decide +kernel)
theorem wm_X1_settle : Cond.instanceMethod yX1_settle ∈ z_all := z_in (List.mem_of_getElem? (i := 585) (by decide +kernel)) (by decide +kernel)
theorem ws_X1_settle : Cond.selects RX1 yX1_settle yX1_settle ∈ z_all := z_in (List.mem_of_getElem? (i := 586) (by decide +kernel)) (by decide +kernel)
theorem lX5_174 : zMl 0 RX5 174 mX1_settle 2 := zMl_v wc_X1_settle wi_X1 ⟨by decide, by decide⟩ (by decide +kernel) (by decide) wlX5_174 wm_X1_settle ws_X1_settle
theorem wc_X1_fewestShort : Cond.code mX1_fewestShort.1 mX1_fewestShort.2.1 mX1_fewestShort.2.2.1 mX1_fewestShort.2.2.2 ∈ z_all := z_in (List.mem_of_getElem? (i := 639) (by decide +kernel)) (by decide +kernel)
theorem wlX5_178 : Cond.methodLink RX5 178 yX1_fewestShort ∈ z_all := z_in (List.mem_of_getElem? (i := 636) (by decide +kernel)) (by decide +kernel)
theorem wm_X1_fewestShort : Cond.instanceMethod yX1_fewestShort ∈ z_all := z_in (List.mem_of_getElem? (i := 637) (by decide +kernel)) (by decide +kernel)
theorem ws_X1_fewestShort : Cond.selects RX1 yX1_fewestShort yX1_fewestShort ∈ z_all := z_in (List.mem_of_getElem? (i := 638) (by decide +kernel)) (by decide +kernel)
theorem lX5_178 : zMl 0 RX5 178 mX1_fewestShort 0 := zMl_v wc_X1_fewestShort wi_X1 ⟨by decide, by decide⟩ (by decide +kernel) (by decide) wlX5_178 wm_X1_fewestShort ws_X1_fewestShort
theorem wc_X1_leastWalk : Cond.code mX1_leastWalk.1 mX1_leastWalk.2.1 mX1_leastWalk.2.2.1 mX1_leastWalk.2.2.2 ∈ z_all := z_in (List.mem_of_getElem? (i := 643) (by decide +kernel)) (by decide +kernel)
theorem wlX5_181 : Cond.methodLink RX5 181 yX1_leastWalk ∈ z_all := z_in (List.mem_of_getElem? (i := 640) (by decide +kernel)) (by decide +kernel)
theorem wm_X1_leastWalk : Cond.instanceMethod yX1_leastWalk ∈ z_all := z_in (List.mem_of_getElem? (i := 641) (by decide +kernel)) (by decide +kernel)
theorem ws_X1_leastWalk : Cond.selects RX1 yX1_leastWalk yX1_leastWalk ∈ z_all := z_in (List.mem_of_getElem? (i := 642) (by decide +kernel)) (by decide +kernel)
theorem lX5_181 : zMl 0 RX5 181 mX1_leastWalk 0 := zMl_v wc_X1_leastWalk wi_X1 ⟨by decide, by decide⟩ (by decide +kernel) (by decide) wlX5_181 wm_X1_leastWalk ws_X1_leastWalk
theorem wc_X1_fewestRingers : Cond.code mX1_fewestRingers.1 mX1_fewestRingers.2.1 mX1_fewestRingers.2.2.1 mX1_fewestRingers.2.2.2 ∈ z_all := z_in (List.mem_of_getElem? (i := 648) (by decide +kernel)) (by decide +kernel)
theorem wlX5_184 : Cond.methodLink RX5 184 yX1_fewestRingers ∈ z_all := z_in (List.mem_of_getElem? (i := 645) (by decide +kernel)) (by decide +kernel)
theorem wm_X1_fewestRingers : Cond.instanceMethod yX1_fewestRingers ∈ z_all := z_in (List.mem_of_getElem? (i := 646) (by decide +kernel)) (by decide +kernel)
theorem ws_X1_fewestRingers : Cond.selects RX1 yX1_fewestRingers yX1_fewestRingers ∈ z_all := z_in (List.mem_of_getElem? (i := 647) (by decide +kernel)) (by decide +kernel)
theorem lX5_184 : zMl 0 RX5 184 mX1_fewestRingers 0 := zMl_v wc_X1_fewestRingers wi_X1 ⟨by decide, by decide⟩ (by decide +kernel) (by decide) wlX5_184 wm_X1_fewestRingers ws_X1_fewestRingers
theorem wc_X1_mostEven : Cond.code mX1_mostEven.1 mX1_mostEven.2.1 mX1_mostEven.2.2.1 mX1_mostEven.2.2.2 ∈ z_all := z_in (List.mem_of_getElem? (i := 661) (by decide +kernel)) (by decide +kernel)
theorem wlX5_187 : Cond.methodLink RX5 187 yX1_mostEven ∈ z_all := z_in (List.mem_of_getElem? (i := 658) (by decide +kernel)) (by decide +kernel)
theorem wm_X1_mostEven : Cond.instanceMethod yX1_mostEven ∈ z_all := z_in (List.mem_of_getElem? (i := 659) (by decide +kernel)) (by decide +kernel)
theorem ws_X1_mostEven : Cond.selects RX1 yX1_mostEven yX1_mostEven ∈ z_all := z_in (List.mem_of_getElem? (i := 660) (by decide +kernel)) (by decide +kernel)
theorem lX5_187 : zMl 0 RX5 187 mX1_mostEven 0 := zMl_v wc_X1_mostEven wi_X1 ⟨by decide, by decide⟩ (by decide +kernel) (by decide) wlX5_187 wm_X1_mostEven ws_X1_mostEven
theorem wlX5_190 : Cond.methodLink RX5 190 yX1_firstBell ∈ z_all := z_in (List.mem_of_getElem? (i := 666) (by decide +kernel)) (by decide +kernel)
theorem lX5_190 : zMl 0 RX5 190 mX1_firstBell 2 := zMl_v wc_X1_firstBell wi_X1 ⟨by decide, by decide⟩ (by decide +kernel) (by decide) wlX5_190 wm_X1_firstBell ws_X1_firstBell
theorem wc_X1_missedRingers : Cond.code mX1_missedRingers.1 mX1_missedRingers.2.1 mX1_missedRingers.2.2.1 mX1_missedRingers.2.2.2 ∈ z_all := z_in (List.mem_of_getElem? (i := 678) (by decide +kernel)) (by decide +kernel)
theorem wlX5_193 : Cond.methodLink RX5 193 yX1_missedRingers ∈ z_all := z_in (List.mem_of_getElem? (i := 675) (by decide +kernel)) (by decide +kernel)
theorem wm_X1_missedRingers : Cond.instanceMethod yX1_missedRingers ∈ z_all := z_in (List.mem_of_getElem? (i := 676) (by decide +kernel)) (by decide +kernel)
theorem ws_X1_missedRingers : Cond.selects RX1 yX1_missedRingers yX1_missedRingers ∈ z_all := z_in (List.mem_of_getElem? (i := 677) (by decide +kernel)) (by decide +kernel)
theorem lX5_193 : zMl 0 RX5 193 mX1_missedRingers 0 := zMl_v wc_X1_missedRingers wi_X1 ⟨by decide, by decide⟩ (by decide +kernel) (by decide) wlX5_193 wm_X1_missedRingers ws_X1_missedRingers
theorem wc_X0_fullWeight : Cond.code mX0_fullWeight.1 mX0_fullWeight.2.1 mX0_fullWeight.2.2.1 mX0_fullWeight.2.2.2 ∈ z_all := z_in (List.mem_of_getElem? (i := 690) (by decide +kernel)) (by decide +kernel)
theorem wlX5_196 : Cond.methodLink RX5 196 yX0_fullWeight ∈ z_all := z_in (List.mem_of_getElem? (i := 688) (by decide +kernel)) (by decide +kernel)
theorem wt_X0_fullWeight : Cond.static yX0_fullWeight ∈ z_all := z_in (List.mem_of_getElem? (i := 689) (by decide +kernel)) (by decide +kernel)
theorem lX5_196 : zMl 1 RX5 196 mX0_fullWeight 2 := zMl_s wc_X0_fullWeight wi_X0 ⟨by decide, by decide⟩ (by decide +kernel) (by decide) wlX5_196 wt_X0_fullWeight
theorem wc_X2_weightInAll : Cond.code mX2_weightInAll.1 mX2_weightInAll.2.1 mX2_weightInAll.2.2.1 mX2_weightInAll.2.2.2 ∈ z_all := z_in (List.mem_of_getElem? (i := 699) (by decide +kernel)) (by decide +kernel)
theorem wlX5_199 : Cond.methodLink RX5 199 yX2_weightInAll ∈ z_all := z_in (List.mem_of_getElem? (i := 696) (by decide +kernel)) (by decide +kernel)
theorem wm_X2_weightInAll : Cond.instanceMethod yX2_weightInAll ∈ z_all := z_in (List.mem_of_getElem? (i := 697) (by decide +kernel)) (by decide +kernel)
theorem ws_X2_weightInAll : Cond.selects RX2 yX2_weightInAll yX2_weightInAll ∈ z_all := z_in (List.mem_of_getElem? (i := 698) (by decide +kernel)) (by decide +kernel)
theorem lX5_199 : zMl 0 RX5 199 mX2_weightInAll 0 := zMl_v wc_X2_weightInAll wi_X2 ⟨by decide, by decide⟩ (by decide +kernel) (by decide) wlX5_199 wm_X2_weightInAll ws_X2_weightInAll
theorem wc_X5_commonDivisor : Cond.code mX5_commonDivisor.1 mX5_commonDivisor.2.1 mX5_commonDivisor.2.2.1 mX5_commonDivisor.2.2.2 ∈ z_all := z_in (List.mem_of_getElem? (i := 702) (by decide +kernel)) (by decide +kernel)
theorem wlX5_202 : Cond.methodLink RX5 202 yX5_commonDivisor ∈ z_all := z_in (List.mem_of_getElem? (i := 700) (by decide +kernel)) (by decide +kernel)
theorem wt_X5_commonDivisor : Cond.static yX5_commonDivisor ∈ z_all := z_in (List.mem_of_getElem? (i := 701) (by decide +kernel)) (by decide +kernel)
theorem lX5_202 : zMl 1 RX5 202 mX5_commonDivisor 2 := zMl_s wc_X5_commonDivisor wi_X5 ⟨by decide, by decide⟩ (by decide +kernel) (by decide) wlX5_202 wt_X5_commonDivisor
theorem wc_X3_ringersAtAll : Cond.code mX3_ringersAtAll.1 mX3_ringersAtAll.2.1 mX3_ringersAtAll.2.2.1 mX3_ringersAtAll.2.2.2 ∈ z_all := z_in (List.mem_of_getElem? (i := 722) (by decide +kernel)) (by decide +kernel)
theorem wlX5_205 : Cond.methodLink RX5 205 yX3_ringersAtAll ∈ z_all := z_in (List.mem_of_getElem? (i := 719) (by decide +kernel)) (by decide +kernel)
theorem wm_X3_ringersAtAll : Cond.instanceMethod yX3_ringersAtAll ∈ z_all := z_in (List.mem_of_getElem? (i := 720) (by decide +kernel)) (by decide +kernel)
theorem ws_X3_ringersAtAll : Cond.selects RX3 yX3_ringersAtAll yX3_ringersAtAll ∈ z_all := z_in (List.mem_of_getElem? (i := 721) (by decide +kernel)) (by decide +kernel)
theorem lX5_205 : zMl 0 RX5 205 mX3_ringersAtAll 0 := zMl_v wc_X3_ringersAtAll wi_X3 ⟨by decide, by decide⟩ (by decide +kernel) (by decide) wlX5_205 wm_X3_ringersAtAll ws_X3_ringersAtAll
theorem wc_X3_soundsWithout : Cond.code mX3_soundsWithout.1 mX3_soundsWithout.2.1 mX3_soundsWithout.2.2.1 mX3_soundsWithout.2.2.2 ∈ z_all := z_in (List.mem_of_getElem? (i := 727) (by decide +kernel)) (by decide +kernel)
theorem wlX5_208 : Cond.methodLink RX5 208 yX3_soundsWithout ∈ z_all := z_in (List.mem_of_getElem? (i := 724) (by decide +kernel)) (by decide +kernel)
theorem wm_X3_soundsWithout : Cond.instanceMethod yX3_soundsWithout ∈ z_all := z_in (List.mem_of_getElem? (i := 725) (by decide +kernel)) (by decide +kernel)
theorem ws_X3_soundsWithout : Cond.selects RX3 yX3_soundsWithout yX3_soundsWithout ∈ z_all := z_in (List.mem_of_getElem? (i := 726) (by decide +kernel)) (by decide +kernel)
theorem lX5_208 : zMl 0 RX5 208 mX3_soundsWithout 1 := zMl_v wc_X3_soundsWithout wi_X3 ⟨by decide, by decide⟩ (by decide +kernel) (by decide) wlX5_208 wm_X3_soundsWithout ws_X3_soundsWithout
theorem cX5_211 : Cond.constant RX5 211 (-1000000) ∈ z_all := z_in (List.mem_of_getElem? (i := 733) (by decide +kernel)) (by decide +kernel)
theorem wc_X5_markRinger : Cond.code mX5_markRinger.1 mX5_markRinger.2.1 mX5_markRinger.2.2.1 mX5_markRinger.2.2.2 ∈ z_all := z_in (List.mem_of_getElem? (i := 737) (by decide +kernel)) (by decide +kernel)
theorem wlX5_212 : Cond.methodLink RX5 212 yX5_markRinger ∈ z_all := z_in (List.mem_of_getElem? (i := 734) (by decide +kernel)) (by decide +kernel)
theorem wm_X5_markRinger : Cond.instanceMethod yX5_markRinger ∈ z_all := z_in (List.mem_of_getElem? (i := 736) (by decide +kernel)) (by decide +kernel)
theorem ws_X5_markRinger : Cond.selects RX5 yX5_markRinger yX5_markRinger ∈ z_all := z_in (List.mem_of_getElem? (i := 22) (by decide +kernel)) (by decide +kernel)
theorem lX5_212 : zMl 0 RX5 212 mX5_markRinger 1 := zMl_v wc_X5_markRinger wi_X5 ⟨by decide, by decide⟩ (by decide +kernel) (by decide) wlX5_212 wm_X5_markRinger ws_X5_markRinger
theorem wc_X5_markSexton : Cond.code mX5_markSexton.1 mX5_markSexton.2.1 mX5_markSexton.2.2.1 mX5_markSexton.2.2.2 ∈ z_all := z_in (List.mem_of_getElem? (i := 741) (by decide +kernel)) (by decide +kernel)
theorem wlX5_215 : Cond.methodLink RX5 215 yX5_markSexton ∈ z_all := z_in (List.mem_of_getElem? (i := 738) (by decide +kernel)) (by decide +kernel)
theorem wm_X5_markSexton : Cond.instanceMethod yX5_markSexton ∈ z_all := z_in (List.mem_of_getElem? (i := 740) (by decide +kernel)) (by decide +kernel)
theorem ws_X5_markSexton : Cond.selects RX5 yX5_markSexton yX5_markSexton ∈ z_all := z_in (List.mem_of_getElem? (i := 23) (by decide +kernel)) (by decide +kernel)
theorem lX5_215 : zMl 0 RX5 215 mX5_markSexton 1 := zMl_v wc_X5_markSexton wi_X5 ⟨by decide, by decide⟩ (by decide +kernel) (by decide) wlX5_215 wm_X5_markSexton ws_X5_markSexton
theorem wc_X5_markChild : Cond.code mX5_markChild.1 mX5_markChild.2.1 mX5_markChild.2.2.1 mX5_markChild.2.2.2 ∈ z_all := z_in (List.mem_of_getElem? (i := 746) (by decide +kernel)) (by decide +kernel)
theorem wlX5_218 : Cond.methodLink RX5 218 yX5_markChild ∈ z_all := z_in (List.mem_of_getElem? (i := 743) (by decide +kernel)) (by decide +kernel)
theorem wm_X5_markChild : Cond.instanceMethod yX5_markChild ∈ z_all := z_in (List.mem_of_getElem? (i := 745) (by decide +kernel)) (by decide +kernel)
theorem ws_X5_markChild : Cond.selects RX5 yX5_markChild yX5_markChild ∈ z_all := z_in (List.mem_of_getElem? (i := 24) (by decide +kernel)) (by decide +kernel)
theorem lX5_218 : zMl 0 RX5 218 mX5_markChild 1 := zMl_v wc_X5_markChild wi_X5 ⟨by decide, by decide⟩ (by decide +kernel) (by decide) wlX5_218 wm_X5_markChild ws_X5_markChild
theorem wc_X5_markWarden : Cond.code mX5_markWarden.1 mX5_markWarden.2.1 mX5_markWarden.2.2.1 mX5_markWarden.2.2.2 ∈ z_all := z_in (List.mem_of_getElem? (i := 756) (by decide +kernel)) (by decide +kernel)
theorem wlX5_221 : Cond.methodLink RX5 221 yX5_markWarden ∈ z_all := z_in (List.mem_of_getElem? (i := 753) (by decide +kernel)) (by decide +kernel)
theorem wm_X5_markWarden : Cond.instanceMethod yX5_markWarden ∈ z_all := z_in (List.mem_of_getElem? (i := 755) (by decide +kernel)) (by decide +kernel)
theorem ws_X5_markWarden : Cond.selects RX5 yX5_markWarden yX5_markWarden ∈ z_all := z_in (List.mem_of_getElem? (i := 25) (by decide +kernel)) (by decide +kernel)
theorem lX5_221 : zMl 0 RX5 221 mX5_markWarden 1 := zMl_v wc_X5_markWarden wi_X5 ⟨by decide, by decide⟩ (by decide +kernel) (by decide) wlX5_221 wm_X5_markWarden ws_X5_markWarden
theorem wc_X5_markNovice : Cond.code mX5_markNovice.1 mX5_markNovice.2.1 mX5_markNovice.2.2.1 mX5_markNovice.2.2.2 ∈ z_all := z_in (List.mem_of_getElem? (i := 761) (by decide +kernel)) (by decide +kernel)
theorem wlX5_224 : Cond.methodLink RX5 224 yX5_markNovice ∈ z_all := z_in (List.mem_of_getElem? (i := 758) (by decide +kernel)) (by decide +kernel)
theorem wm_X5_markNovice : Cond.instanceMethod yX5_markNovice ∈ z_all := z_in (List.mem_of_getElem? (i := 760) (by decide +kernel)) (by decide +kernel)
theorem ws_X5_markNovice : Cond.selects RX5 yX5_markNovice yX5_markNovice ∈ z_all := z_in (List.mem_of_getElem? (i := 26) (by decide +kernel)) (by decide +kernel)
theorem lX5_224 : zMl 0 RX5 224 mX5_markNovice 1 := zMl_v wc_X5_markNovice wi_X5 ⟨by decide, by decide⟩ (by decide +kernel) (by decide) wlX5_224 wm_X5_markNovice ws_X5_markNovice
theorem wc_X5_markStranger : Cond.code mX5_markStranger.1 mX5_markStranger.2.1 mX5_markStranger.2.2.1 mX5_markStranger.2.2.2 ∈ z_all := z_in (List.mem_of_getElem? (i := 766) (by decide +kernel)) (by decide +kernel)
theorem wlX5_227 : Cond.methodLink RX5 227 yX5_markStranger ∈ z_all := z_in (List.mem_of_getElem? (i := 763) (by decide +kernel)) (by decide +kernel)
theorem wm_X5_markStranger : Cond.instanceMethod yX5_markStranger ∈ z_all := z_in (List.mem_of_getElem? (i := 765) (by decide +kernel)) (by decide +kernel)
theorem ws_X5_markStranger : Cond.selects RX5 yX5_markStranger yX5_markStranger ∈ z_all := z_in (List.mem_of_getElem? (i := 27) (by decide +kernel)) (by decide +kernel)
theorem lX5_227 : zMl 0 RX5 227 mX5_markStranger 1 := zMl_v wc_X5_markStranger wi_X5 ⟨by decide, by decide⟩ (by decide +kernel) (by decide) wlX5_227 wm_X5_markStranger ws_X5_markStranger
theorem cX5_230 : Cond.constantLong RX5 230 (10) ∈ z_all := z_in (List.mem_of_getElem? (i := 742) (by decide +kernel)) (by decide +kernel)
theorem cX5_232 : Cond.constantLong RX5 232 (100) ∈ z_all := z_in (List.mem_of_getElem? (i := 747) (by decide +kernel)) (by decide +kernel)
theorem wc_X2_busyHours : Cond.code mX2_busyHours.1 mX2_busyHours.2.1 mX2_busyHours.2.2.1 mX2_busyHours.2.2.2 ∈ z_all := z_in (List.mem_of_getElem? (i := 751) (by decide +kernel)) (by decide +kernel)
theorem wlX5_234 : Cond.methodLink RX5 234 yX2_busyHours ∈ z_all := z_in (List.mem_of_getElem? (i := 748) (by decide +kernel)) (by decide +kernel)
theorem wm_X2_busyHours : Cond.instanceMethod yX2_busyHours ∈ z_all := z_in (List.mem_of_getElem? (i := 749) (by decide +kernel)) (by decide +kernel)
theorem ws_X2_busyHours : Cond.selects RX2 yX2_busyHours yX2_busyHours ∈ z_all := z_in (List.mem_of_getElem? (i := 750) (by decide +kernel)) (by decide +kernel)
theorem lX5_234 : zMl 0 RX5 234 mX2_busyHours 1 := zMl_v wc_X2_busyHours wi_X2 ⟨by decide, by decide⟩ (by decide +kernel) (by decide) wlX5_234 wm_X2_busyHours ws_X2_busyHours
theorem cX5_237 : Cond.constantLong RX5 237 (1000) ∈ z_all := z_in (List.mem_of_getElem? (i := 757) (by decide +kernel)) (by decide +kernel)
theorem cX5_239 : Cond.constantLong RX5 239 (10000) ∈ z_all := z_in (List.mem_of_getElem? (i := 762) (by decide +kernel)) (by decide +kernel)
theorem cX5_241 : Cond.constantLong RX5 241 (100000) ∈ z_all := z_in (List.mem_of_getElem? (i := 767) (by decide +kernel)) (by decide +kernel)
theorem wlX5_243 : Cond.methodLink RX5 243 yX2_way ∈ z_all := z_in (List.mem_of_getElem? (i := 768) (by decide +kernel)) (by decide +kernel)
theorem lX5_243 : zMl 0 RX5 243 mX2_way 2 := zMl_v wc_X2_way wi_X2 ⟨by decide, by decide⟩ (by decide +kernel) (by decide) wlX5_243 wm_X2_way ws_X2_way
theorem wc_X3_copy : Cond.code mX3_copy.1 mX3_copy.2.1 mX3_copy.2.2.1 mX3_copy.2.2.2 ∈ z_all := z_in (List.mem_of_getElem? (i := 776) (by decide +kernel)) (by decide +kernel)
theorem wlX5_246 : Cond.methodLink RX5 246 yX3_copy ∈ z_all := z_in (List.mem_of_getElem? (i := 773) (by decide +kernel)) (by decide +kernel)
theorem wm_X3_copy : Cond.instanceMethod yX3_copy ∈ z_all := z_in (List.mem_of_getElem? (i := 774) (by decide +kernel)) (by decide +kernel)
theorem ws_X3_copy : Cond.selects RX3 yX3_copy yX3_copy ∈ z_all := z_in (List.mem_of_getElem? (i := 775) (by decide +kernel)) (by decide +kernel)
theorem lX5_246 : zMl 0 RX5 246 mX3_copy 1 := zMl_v wc_X3_copy wi_X3 ⟨by decide, by decide⟩ (by decide +kernel) (by decide) wlX5_246 wm_X3_copy ws_X3_copy
theorem fX5_250 : zFl RX5 250 1 1 := ⟨(RX2, TX2, 10), rfl, by decide, z_in (List.mem_of_getElem? (i := 125) (by decide +kernel)) (by decide +kernel)⟩
theorem fX5_253 : zFl RX5 253 1 3 := ⟨(RX2, TX2, 10), rfl, by decide, z_in (List.mem_of_getElem? (i := 133) (by decide +kernel)) (by decide +kernel)⟩
theorem fX5_256 : zFl RX5 256 1 4 := ⟨(RX2, TX2, 10), rfl, by decide, z_in (List.mem_of_getElem? (i := 138) (by decide +kernel)) (by decide +kernel)⟩
theorem fX6_7 : zFl RX6 7 5 1 := ⟨(RX6, TX6, 36), rfl, by decide, z_in (List.mem_of_getElem? (i := 803) (by decide +kernel)) (by decide +kernel)⟩
theorem fX6_13 : zFl RX6 13 5 3 := ⟨(RX6, TX6, 36), rfl, by decide, z_in (List.mem_of_getElem? (i := 805) (by decide +kernel)) (by decide +kernel)⟩
theorem fX6_17 : zFl RX6 17 5 4 := ⟨(RX6, TX6, 36), rfl, by decide, z_in (List.mem_of_getElem? (i := 806) (by decide +kernel)) (by decide +kernel)⟩
theorem fX6_20 : zFl RX6 20 5 5 := ⟨(RX6, TX6, 36), rfl, by decide, z_in (List.mem_of_getElem? (i := 807) (by decide +kernel)) (by decide +kernel)⟩
theorem fX6_23 : zFl RX6 23 5 6 := ⟨(RX6, TX6, 36), rfl, by decide, z_in (List.mem_of_getElem? (i := 808) (by decide +kernel)) (by decide +kernel)⟩
theorem fX6_26 : zFl RX6 26 5 7 := ⟨(RX6, TX6, 36), rfl, by decide, z_in (List.mem_of_getElem? (i := 809) (by decide +kernel)) (by decide +kernel)⟩
theorem fX6_29 : zFl RX6 29 5 8 := ⟨(RX6, TX6, 36), rfl, by decide, z_in (List.mem_of_getElem? (i := 810) (by decide +kernel)) (by decide +kernel)⟩
theorem fX6_32 : zFl RX6 32 5 9 := ⟨(RX6, TX6, 36), rfl, by decide, z_in (List.mem_of_getElem? (i := 811) (by decide +kernel)) (by decide +kernel)⟩
theorem fX6_35 : zFl RX6 35 5 10 := ⟨(RX6, TX6, 36), rfl, by decide, z_in (List.mem_of_getElem? (i := 812) (by decide +kernel)) (by decide +kernel)⟩
theorem fX6_38 : zFl RX6 38 5 11 := ⟨(RX6, TX6, 36), rfl, by decide, z_in (List.mem_of_getElem? (i := 813) (by decide +kernel)) (by decide +kernel)⟩
theorem fX6_41 : zFl RX6 41 5 12 := ⟨(RX6, TX6, 36), rfl, by decide, z_in (List.mem_of_getElem? (i := 814) (by decide +kernel)) (by decide +kernel)⟩
theorem fX6_44 : zFl RX6 44 5 19 := ⟨(RX6, TX6, 36), rfl, by decide, z_in (List.mem_of_getElem? (i := 821) (by decide +kernel)) (by decide +kernel)⟩
theorem fX6_47 : zFl RX6 47 5 20 := ⟨(RX6, TX6, 36), rfl, by decide, z_in (List.mem_of_getElem? (i := 822) (by decide +kernel)) (by decide +kernel)⟩
theorem fX6_51 : zFl RX6 51 5 21 := ⟨(RX6, TX6, 36), rfl, by decide, z_in (List.mem_of_getElem? (i := 823) (by decide +kernel)) (by decide +kernel)⟩
theorem fX6_54 : zFl RX6 54 5 22 := ⟨(RX6, TX6, 36), rfl, by decide, z_in (List.mem_of_getElem? (i := 824) (by decide +kernel)) (by decide +kernel)⟩
theorem fX6_57 : zFl RX6 57 5 23 := ⟨(RX6, TX6, 36), rfl, by decide, z_in (List.mem_of_getElem? (i := 825) (by decide +kernel)) (by decide +kernel)⟩
theorem fX6_60 : zFl RX6 60 5 24 := ⟨(RX6, TX6, 36), rfl, by decide, z_in (List.mem_of_getElem? (i := 826) (by decide +kernel)) (by decide +kernel)⟩
theorem fX6_63 : zFl RX6 63 5 25 := ⟨(RX6, TX6, 36), rfl, by decide, z_in (List.mem_of_getElem? (i := 827) (by decide +kernel)) (by decide +kernel)⟩
theorem fX6_66 : zFl RX6 66 5 26 := ⟨(RX6, TX6, 36), rfl, by decide, z_in (List.mem_of_getElem? (i := 828) (by decide +kernel)) (by decide +kernel)⟩
theorem fX6_69 : zFl RX6 69 5 27 := ⟨(RX6, TX6, 36), rfl, by decide, z_in (List.mem_of_getElem? (i := 829) (by decide +kernel)) (by decide +kernel)⟩
theorem fX6_72 : zFl RX6 72 5 28 := ⟨(RX6, TX6, 36), rfl, by decide, z_in (List.mem_of_getElem? (i := 830) (by decide +kernel)) (by decide +kernel)⟩
theorem fX6_75 : zFl RX6 75 5 29 := ⟨(RX6, TX6, 36), rfl, by decide, z_in (List.mem_of_getElem? (i := 831) (by decide +kernel)) (by decide +kernel)⟩
theorem fX6_78 : zFl RX6 78 5 34 := ⟨(RX6, TX6, 36), rfl, by decide, z_in (List.mem_of_getElem? (i := 836) (by decide +kernel)) (by decide +kernel)⟩
theorem fX6_81 : zFl RX6 81 5 35 := ⟨(RX6, TX6, 36), rfl, by decide, z_in (List.mem_of_getElem? (i := 837) (by decide +kernel)) (by decide +kernel)⟩
theorem wc_X6_begin : Cond.code mX6_begin.1 mX6_begin.2.1 mX6_begin.2.2.1 mX6_begin.2.2.2 ∈ z_all := z_in (List.mem_of_getElem? (i := 801) (by decide +kernel)) (by decide +kernel)
theorem wi_X6 : Cond.initialized RX6 ∈ z_all := z_in (List.mem_of_getElem? (i := 65) (by decide +kernel)) (by decide +kernel)
theorem wlX6_84 : Cond.methodLink RX6 84 yX6_begin ∈ z_all := z_in (List.mem_of_getElem? (i := 798) (by decide +kernel)) (by decide +kernel)
theorem wm_X6_begin : Cond.instanceMethod yX6_begin ∈ z_all := z_in (List.mem_of_getElem? (i := 800) (by decide +kernel)) (by decide +kernel)
theorem ws_X6_begin : Cond.selects RX6 yX6_begin yX6_begin ∈ z_all := z_in (List.mem_of_getElem? (i := 28) (by decide +kernel)) (by decide +kernel)
theorem lX6_84 : zMl 0 RX6 84 mX6_begin 0 := zMl_v wc_X6_begin wi_X6 ⟨by decide, by decide⟩ (by decide +kernel) (by decide) wlX6_84 wm_X6_begin ws_X6_begin
theorem wc_X6_in : Cond.code mX6_in.1 mX6_in.2.1 mX6_in.2.2.1 mX6_in.2.2.2 ∈ z_all := z_in (List.mem_of_getElem? (i := 917) (by decide +kernel)) (by decide +kernel)
theorem wlX6_87 : Cond.methodLink RX6 87 yX6_in ∈ z_all := z_in (List.mem_of_getElem? (i := 915) (by decide +kernel)) (by decide +kernel)
theorem wt_X6_in : Cond.static yX6_in ∈ z_all := z_in (List.mem_of_getElem? (i := 916) (by decide +kernel)) (by decide +kernel)
theorem lX6_87 : zMl 1 RX6 87 mX6_in 3 := zMl_s wc_X6_in wi_X6 ⟨by decide, by decide⟩ (by decide +kernel) (by decide) wlX6_87 wt_X6_in
theorem fX6_91 : zFl RX6 91 5 2 := ⟨(RX6, TX6, 36), rfl, by decide, z_in (List.mem_of_getElem? (i := 804) (by decide +kernel)) (by decide +kernel)⟩
theorem cX6_95 : Cond.constantLong RX6 95 (255) ∈ z_all := z_in (List.mem_of_getElem? (i := 918) (by decide +kernel)) (by decide +kernel)
theorem fX6_97 : zFl RX6 97 5 13 := ⟨(RX6, TX6, 36), rfl, by decide, z_in (List.mem_of_getElem? (i := 815) (by decide +kernel)) (by decide +kernel)⟩
theorem wc_X6_here : Cond.code mX6_here.1 mX6_here.2.1 mX6_here.2.2.1 mX6_here.2.2.2 ∈ z_all := z_in (List.mem_of_getElem? (i := 934) (by decide +kernel)) (by decide +kernel)
theorem wlX6_100 : Cond.methodLink RX6 100 yX6_here ∈ z_all := z_in (List.mem_of_getElem? (i := 931) (by decide +kernel)) (by decide +kernel)
theorem wm_X6_here : Cond.instanceMethod yX6_here ∈ z_all := z_in (List.mem_of_getElem? (i := 933) (by decide +kernel)) (by decide +kernel)
theorem ws_X6_here : Cond.selects RX6 yX6_here yX6_here ∈ z_all := z_in (List.mem_of_getElem? (i := 30) (by decide +kernel)) (by decide +kernel)
theorem lX6_100 : zMl 0 RX6 100 mX6_here 0 := zMl_v wc_X6_here wi_X6 ⟨by decide, by decide⟩ (by decide +kernel) (by decide) wlX6_100 wm_X6_here ws_X6_here
theorem fX6_104 : zFl RX6 104 5 14 := ⟨(RX6, TX6, 36), rfl, by decide, z_in (List.mem_of_getElem? (i := 816) (by decide +kernel)) (by decide +kernel)⟩
theorem fX6_107 : zFl RX6 107 5 16 := ⟨(RX6, TX6, 36), rfl, by decide, z_in (List.mem_of_getElem? (i := 818) (by decide +kernel)) (by decide +kernel)⟩
theorem fX6_110 : zFl RX6 110 5 15 := ⟨(RX6, TX6, 36), rfl, by decide, z_in (List.mem_of_getElem? (i := 817) (by decide +kernel)) (by decide +kernel)⟩
theorem wc_X6_meaning : Cond.code mX6_meaning.1 mX6_meaning.2.1 mX6_meaning.2.2.1 mX6_meaning.2.2.2 ∈ z_all := z_in (List.mem_of_getElem? (i := 937) (by decide +kernel)) (by decide +kernel)
theorem wlX6_113 : Cond.methodLink RX6 113 yX6_meaning ∈ z_all := z_in (List.mem_of_getElem? (i := 935) (by decide +kernel)) (by decide +kernel)
theorem wt_X6_meaning : Cond.static yX6_meaning ∈ z_all := z_in (List.mem_of_getElem? (i := 936) (by decide +kernel)) (by decide +kernel)
theorem lX6_113 : zMl 1 RX6 113 mX6_meaning 1 := zMl_s wc_X6_meaning wi_X6 ⟨by decide, by decide⟩ (by decide +kernel) (by decide) wlX6_113 wt_X6_meaning
theorem fX6_117 : zFl RX6 117 5 17 := ⟨(RX6, TX6, 36), rfl, by decide, z_in (List.mem_of_getElem? (i := 819) (by decide +kernel)) (by decide +kernel)⟩
theorem wc_X6_next : Cond.code mX6_next.1 mX6_next.2.1 mX6_next.2.2.1 mX6_next.2.2.2 ∈ z_all := z_in (List.mem_of_getElem? (i := 930) (by decide +kernel)) (by decide +kernel)
theorem wlX6_120 : Cond.methodLink RX6 120 yX6_next ∈ z_all := z_in (List.mem_of_getElem? (i := 927) (by decide +kernel)) (by decide +kernel)
theorem wm_X6_next : Cond.instanceMethod yX6_next ∈ z_all := z_in (List.mem_of_getElem? (i := 929) (by decide +kernel)) (by decide +kernel)
theorem ws_X6_next : Cond.selects RX6 yX6_next yX6_next ∈ z_all := z_in (List.mem_of_getElem? (i := 29) (by decide +kernel)) (by decide +kernel)
theorem lX6_120 : zMl 0 RX6 120 mX6_next 0 := zMl_v wc_X6_next wi_X6 ⟨by decide, by decide⟩ (by decide +kernel) (by decide) wlX6_120 wm_X6_next ws_X6_next
theorem wc_X6_due : Cond.code mX6_due.1 mX6_due.2.1 mX6_due.2.2.1 mX6_due.2.2.2 ∈ z_all := z_in (List.mem_of_getElem? (i := 945) (by decide +kernel)) (by decide +kernel)
theorem wlX6_123 : Cond.methodLink RX6 123 yX6_due ∈ z_all := z_in (List.mem_of_getElem? (i := 942) (by decide +kernel)) (by decide +kernel)
theorem wm_X6_due : Cond.instanceMethod yX6_due ∈ z_all := z_in (List.mem_of_getElem? (i := 944) (by decide +kernel)) (by decide +kernel)
theorem ws_X6_due : Cond.selects RX6 yX6_due yX6_due ∈ z_all := z_in (List.mem_of_getElem? (i := 32) (by decide +kernel)) (by decide +kernel)
theorem lX6_123 : zMl 0 RX6 123 mX6_due 1 := zMl_v wc_X6_due wi_X6 ⟨by decide, by decide⟩ (by decide +kernel) (by decide) wlX6_123 wm_X6_due ws_X6_due
theorem fX6_127 : zFl RX6 127 5 18 := ⟨(RX6, TX6, 36), rfl, by decide, z_in (List.mem_of_getElem? (i := 820) (by decide +kernel)) (by decide +kernel)⟩
theorem wc_X6_number : Cond.code mX6_number.1 mX6_number.2.1 mX6_number.2.2.1 mX6_number.2.2.2 ∈ z_all := z_in (List.mem_of_getElem? (i := 949) (by decide +kernel)) (by decide +kernel)
theorem wlX6_130 : Cond.methodLink RX6 130 yX6_number ∈ z_all := z_in (List.mem_of_getElem? (i := 946) (by decide +kernel)) (by decide +kernel)
theorem wm_X6_number : Cond.instanceMethod yX6_number ∈ z_all := z_in (List.mem_of_getElem? (i := 948) (by decide +kernel)) (by decide +kernel)
theorem ws_X6_number : Cond.selects RX6 yX6_number yX6_number ∈ z_all := z_in (List.mem_of_getElem? (i := 33) (by decide +kernel)) (by decide +kernel)
theorem lX6_130 : zMl 0 RX6 130 mX6_number 2 := zMl_v wc_X6_number wi_X6 ⟨by decide, by decide⟩ (by decide +kernel) (by decide) wlX6_130 wm_X6_number ws_X6_number
theorem wc_X6_readItem : Cond.code mX6_readItem.1 mX6_readItem.2.1 mX6_readItem.2.2.1 mX6_readItem.2.2.2 ∈ z_all := z_in (List.mem_of_getElem? (i := 941) (by decide +kernel)) (by decide +kernel)
theorem wlX6_134 : Cond.methodLink RX6 134 yX6_readItem ∈ z_all := z_in (List.mem_of_getElem? (i := 938) (by decide +kernel)) (by decide +kernel)
theorem wm_X6_readItem : Cond.instanceMethod yX6_readItem ∈ z_all := z_in (List.mem_of_getElem? (i := 940) (by decide +kernel)) (by decide +kernel)
theorem ws_X6_readItem : Cond.selects RX6 yX6_readItem yX6_readItem ∈ z_all := z_in (List.mem_of_getElem? (i := 31) (by decide +kernel)) (by decide +kernel)
theorem lX6_134 : zMl 0 RX6 134 mX6_readItem 0 := zMl_v wc_X6_readItem wi_X6 ⟨by decide, by decide⟩ (by decide +kernel) (by decide) wlX6_134 wm_X6_readItem ws_X6_readItem
theorem wc_X6_isHour : Cond.code mX6_isHour.1 mX6_isHour.2.1 mX6_isHour.2.2.1 mX6_isHour.2.2.2 ∈ z_all := z_in (List.mem_of_getElem? (i := 973) (by decide +kernel)) (by decide +kernel)
theorem wlX6_137 : Cond.methodLink RX6 137 yX6_isHour ∈ z_all := z_in (List.mem_of_getElem? (i := 970) (by decide +kernel)) (by decide +kernel)
theorem wm_X6_isHour : Cond.instanceMethod yX6_isHour ∈ z_all := z_in (List.mem_of_getElem? (i := 972) (by decide +kernel)) (by decide +kernel)
theorem ws_X6_isHour : Cond.selects RX6 yX6_isHour yX6_isHour ∈ z_all := z_in (List.mem_of_getElem? (i := 37) (by decide +kernel)) (by decide +kernel)
theorem lX6_137 : zMl 0 RX6 137 mX6_isHour 1 := zMl_v wc_X6_isHour wi_X6 ⟨by decide, by decide⟩ (by decide +kernel) (by decide) wlX6_137 wm_X6_isHour ws_X6_isHour
theorem wc_X6_bellOf : Cond.code mX6_bellOf.1 mX6_bellOf.2.1 mX6_bellOf.2.2.1 mX6_bellOf.2.2.2 ∈ z_all := z_in (List.mem_of_getElem? (i := 965) (by decide +kernel)) (by decide +kernel)
theorem wlX6_141 : Cond.methodLink RX6 141 yX6_bellOf ∈ z_all := z_in (List.mem_of_getElem? (i := 962) (by decide +kernel)) (by decide +kernel)
theorem wm_X6_bellOf : Cond.instanceMethod yX6_bellOf ∈ z_all := z_in (List.mem_of_getElem? (i := 964) (by decide +kernel)) (by decide +kernel)
theorem ws_X6_bellOf : Cond.selects RX6 yX6_bellOf yX6_bellOf ∈ z_all := z_in (List.mem_of_getElem? (i := 36) (by decide +kernel)) (by decide +kernel)
theorem lX6_141 : zMl 0 RX6 141 mX6_bellOf 2 := zMl_v wc_X6_bellOf wi_X6 ⟨by decide, by decide⟩ (by decide +kernel) (by decide) wlX6_141 wm_X6_bellOf ws_X6_bellOf
theorem wc_X6_inRota : Cond.code mX6_inRota.1 mX6_inRota.2.1 mX6_inRota.2.2.1 mX6_inRota.2.2.2 ∈ z_all := z_in (List.mem_of_getElem? (i := 977) (by decide +kernel)) (by decide +kernel)
theorem wlX6_144 : Cond.methodLink RX6 144 yX6_inRota ∈ z_all := z_in (List.mem_of_getElem? (i := 974) (by decide +kernel)) (by decide +kernel)
theorem wm_X6_inRota : Cond.instanceMethod yX6_inRota ∈ z_all := z_in (List.mem_of_getElem? (i := 976) (by decide +kernel)) (by decide +kernel)
theorem ws_X6_inRota : Cond.selects RX6 yX6_inRota yX6_inRota ∈ z_all := z_in (List.mem_of_getElem? (i := 38) (by decide +kernel)) (by decide +kernel)
theorem lX6_144 : zMl 0 RX6 144 mX6_inRota 1 := zMl_v wc_X6_inRota wi_X6 ⟨by decide, by decide⟩ (by decide +kernel) (by decide) wlX6_144 wm_X6_inRota ws_X6_inRota
theorem wc_X6_timesOf : Cond.code mX6_timesOf.1 mX6_timesOf.2.1 mX6_timesOf.2.2.1 mX6_timesOf.2.2.2 ∈ z_all := z_in (List.mem_of_getElem? (i := 961) (by decide +kernel)) (by decide +kernel)
theorem wlX6_147 : Cond.methodLink RX6 147 yX6_timesOf ∈ z_all := z_in (List.mem_of_getElem? (i := 958) (by decide +kernel)) (by decide +kernel)
theorem wm_X6_timesOf : Cond.instanceMethod yX6_timesOf ∈ z_all := z_in (List.mem_of_getElem? (i := 960) (by decide +kernel)) (by decide +kernel)
theorem ws_X6_timesOf : Cond.selects RX6 yX6_timesOf yX6_timesOf ∈ z_all := z_in (List.mem_of_getElem? (i := 35) (by decide +kernel)) (by decide +kernel)
theorem lX6_147 : zMl 0 RX6 147 mX6_timesOf 1 := zMl_v wc_X6_timesOf wi_X6 ⟨by decide, by decide⟩ (by decide +kernel) (by decide) wlX6_147 wm_X6_timesOf ws_X6_timesOf
theorem wc_X6_wayOf : Cond.code mX6_wayOf.1 mX6_wayOf.2.1 mX6_wayOf.2.2.1 mX6_wayOf.2.2.2 ∈ z_all := z_in (List.mem_of_getElem? (i := 1029) (by decide +kernel)) (by decide +kernel)
theorem wlX6_150 : Cond.methodLink RX6 150 yX6_wayOf ∈ z_all := z_in (List.mem_of_getElem? (i := 1026) (by decide +kernel)) (by decide +kernel)
theorem wm_X6_wayOf : Cond.instanceMethod yX6_wayOf ∈ z_all := z_in (List.mem_of_getElem? (i := 1028) (by decide +kernel)) (by decide +kernel)
theorem ws_X6_wayOf : Cond.selects RX6 yX6_wayOf yX6_wayOf ∈ z_all := z_in (List.mem_of_getElem? (i := 46) (by decide +kernel)) (by decide +kernel)
theorem lX6_150 : zMl 0 RX6 150 mX6_wayOf 2 := zMl_v wc_X6_wayOf wi_X6 ⟨by decide, by decide⟩ (by decide +kernel) (by decide) wlX6_150 wm_X6_wayOf ws_X6_wayOf
theorem wc_X6_isRinger : Cond.code mX6_isRinger.1 mX6_isRinger.2.1 mX6_isRinger.2.2.1 mX6_isRinger.2.2.2 ∈ z_all := z_in (List.mem_of_getElem? (i := 957) (by decide +kernel)) (by decide +kernel)
theorem wlX6_153 : Cond.methodLink RX6 153 yX6_isRinger ∈ z_all := z_in (List.mem_of_getElem? (i := 954) (by decide +kernel)) (by decide +kernel)
theorem wm_X6_isRinger : Cond.instanceMethod yX6_isRinger ∈ z_all := z_in (List.mem_of_getElem? (i := 956) (by decide +kernel)) (by decide +kernel)
theorem ws_X6_isRinger : Cond.selects RX6 yX6_isRinger yX6_isRinger ∈ z_all := z_in (List.mem_of_getElem? (i := 34) (by decide +kernel)) (by decide +kernel)
theorem lX6_153 : zMl 0 RX6 153 mX6_isRinger 1 := zMl_v wc_X6_isRinger wi_X6 ⟨by decide, by decide⟩ (by decide +kernel) (by decide) wlX6_153 wm_X6_isRinger ws_X6_isRinger
theorem wc_X6_isBusy : Cond.code mX6_isBusy.1 mX6_isBusy.2.1 mX6_isBusy.2.2.1 mX6_isBusy.2.2.2 ∈ z_all := z_in (List.mem_of_getElem? (i := 993) (by decide +kernel)) (by decide +kernel)
theorem wlX6_156 : Cond.methodLink RX6 156 yX6_isBusy ∈ z_all := z_in (List.mem_of_getElem? (i := 990) (by decide +kernel)) (by decide +kernel)
theorem wm_X6_isBusy : Cond.instanceMethod yX6_isBusy ∈ z_all := z_in (List.mem_of_getElem? (i := 992) (by decide +kernel)) (by decide +kernel)
theorem ws_X6_isBusy : Cond.selects RX6 yX6_isBusy yX6_isBusy ∈ z_all := z_in (List.mem_of_getElem? (i := 41) (by decide +kernel)) (by decide +kernel)
theorem lX6_156 : zMl 0 RX6 156 mX6_isBusy 2 := zMl_v wc_X6_isBusy wi_X6 ⟨by decide, by decide⟩ (by decide +kernel) (by decide) wlX6_156 wm_X6_isBusy ws_X6_isBusy
theorem wc_X6_isWanted : Cond.code mX6_isWanted.1 mX6_isWanted.2.1 mX6_isWanted.2.2.1 mX6_isWanted.2.2.2 ∈ z_all := z_in (List.mem_of_getElem? (i := 985) (by decide +kernel)) (by decide +kernel)
theorem wlX6_160 : Cond.methodLink RX6 160 yX6_isWanted ∈ z_all := z_in (List.mem_of_getElem? (i := 982) (by decide +kernel)) (by decide +kernel)
theorem wm_X6_isWanted : Cond.instanceMethod yX6_isWanted ∈ z_all := z_in (List.mem_of_getElem? (i := 984) (by decide +kernel)) (by decide +kernel)
theorem ws_X6_isWanted : Cond.selects RX6 yX6_isWanted yX6_isWanted ∈ z_all := z_in (List.mem_of_getElem? (i := 39) (by decide +kernel)) (by decide +kernel)
theorem lX6_160 : zMl 0 RX6 160 mX6_isWanted 2 := zMl_v wc_X6_isWanted wi_X6 ⟨by decide, by decide⟩ (by decide +kernel) (by decide) wlX6_160 wm_X6_isWanted ws_X6_isWanted
theorem wc_X6_isLawful : Cond.code mX6_isLawful.1 mX6_isLawful.2.1 mX6_isLawful.2.2.1 mX6_isLawful.2.2.2 ∈ z_all := z_in (List.mem_of_getElem? (i := 989) (by decide +kernel)) (by decide +kernel)
theorem wlX6_163 : Cond.methodLink RX6 163 yX6_isLawful ∈ z_all := z_in (List.mem_of_getElem? (i := 986) (by decide +kernel)) (by decide +kernel)
theorem wm_X6_isLawful : Cond.instanceMethod yX6_isLawful ∈ z_all := z_in (List.mem_of_getElem? (i := 988) (by decide +kernel)) (by decide +kernel)
theorem ws_X6_isLawful : Cond.selects RX6 yX6_isLawful yX6_isLawful ∈ z_all := z_in (List.mem_of_getElem? (i := 40) (by decide +kernel)) (by decide +kernel)
theorem lX6_163 : zMl 0 RX6 163 mX6_isLawful 1 := zMl_v wc_X6_isLawful wi_X6 ⟨by decide, by decide⟩ (by decide +kernel) (by decide) wlX6_163 wm_X6_isLawful ws_X6_isLawful
theorem wc_X6_allInRota : Cond.code mX6_allInRota.1 mX6_allInRota.2.1 mX6_allInRota.2.2.1 mX6_allInRota.2.2.2 ∈ z_all := z_in (List.mem_of_getElem? (i := 997) (by decide +kernel)) (by decide +kernel)
theorem wlX6_166 : Cond.methodLink RX6 166 yX6_allInRota ∈ z_all := z_in (List.mem_of_getElem? (i := 994) (by decide +kernel)) (by decide +kernel)
theorem wm_X6_allInRota : Cond.instanceMethod yX6_allInRota ∈ z_all := z_in (List.mem_of_getElem? (i := 996) (by decide +kernel)) (by decide +kernel)
theorem ws_X6_allInRota : Cond.selects RX6 yX6_allInRota yX6_allInRota ∈ z_all := z_in (List.mem_of_getElem? (i := 42) (by decide +kernel)) (by decide +kernel)
theorem lX6_166 : zMl 0 RX6 166 mX6_allInRota 0 := zMl_v wc_X6_allInRota wi_X6 ⟨by decide, by decide⟩ (by decide +kernel) (by decide) wlX6_166 wm_X6_allInRota ws_X6_allInRota
theorem wc_X6_change : Cond.code mX6_change.1 mX6_change.2.1 mX6_change.2.2.1 mX6_change.2.2.2 ∈ z_all := z_in (List.mem_of_getElem? (i := 1013) (by decide +kernel)) (by decide +kernel)
theorem wlX6_169 : Cond.methodLink RX6 169 yX6_change ∈ z_all := z_in (List.mem_of_getElem? (i := 1010) (by decide +kernel)) (by decide +kernel)
theorem wm_X6_change : Cond.instanceMethod yX6_change ∈ z_all := z_in (List.mem_of_getElem? (i := 1012) (by decide +kernel)) (by decide +kernel)
theorem ws_X6_change : Cond.selects RX6 yX6_change yX6_change ∈ z_all := z_in (List.mem_of_getElem? (i := 43) (by decide +kernel)) (by decide +kernel)
theorem lX6_169 : zMl 0 RX6 169 mX6_change 2 := zMl_v wc_X6_change wi_X6 ⟨by decide, by decide⟩ (by decide +kernel) (by decide) wlX6_169 wm_X6_change ws_X6_change
theorem wc_X6_allWanted : Cond.code mX6_allWanted.1 mX6_allWanted.2.1 mX6_allWanted.2.2.1 mX6_allWanted.2.2.2 ∈ z_all := z_in (List.mem_of_getElem? (i := 1021) (by decide +kernel)) (by decide +kernel)
theorem wlX6_173 : Cond.methodLink RX6 173 yX6_allWanted ∈ z_all := z_in (List.mem_of_getElem? (i := 1018) (by decide +kernel)) (by decide +kernel)
theorem wm_X6_allWanted : Cond.instanceMethod yX6_allWanted ∈ z_all := z_in (List.mem_of_getElem? (i := 1020) (by decide +kernel)) (by decide +kernel)
theorem ws_X6_allWanted : Cond.selects RX6 yX6_allWanted yX6_allWanted ∈ z_all := z_in (List.mem_of_getElem? (i := 44) (by decide +kernel)) (by decide +kernel)
theorem lX6_173 : zMl 0 RX6 173 mX6_allWanted 0 := zMl_v wc_X6_allWanted wi_X6 ⟨by decide, by decide⟩ (by decide +kernel) (by decide) wlX6_173 wm_X6_allWanted ws_X6_allWanted
theorem wc_X6_walkTo : Cond.code mX6_walkTo.1 mX6_walkTo.2.1 mX6_walkTo.2.2.1 mX6_walkTo.2.2.2 ∈ z_all := z_in (List.mem_of_getElem? (i := 1025) (by decide +kernel)) (by decide +kernel)
theorem wlX6_176 : Cond.methodLink RX6 176 yX6_walkTo ∈ z_all := z_in (List.mem_of_getElem? (i := 1022) (by decide +kernel)) (by decide +kernel)
theorem wm_X6_walkTo : Cond.instanceMethod yX6_walkTo ∈ z_all := z_in (List.mem_of_getElem? (i := 1024) (by decide +kernel)) (by decide +kernel)
theorem ws_X6_walkTo : Cond.selects RX6 yX6_walkTo yX6_walkTo ∈ z_all := z_in (List.mem_of_getElem? (i := 45) (by decide +kernel)) (by decide +kernel)
theorem lX6_176 : zMl 0 RX6 176 mX6_walkTo 1 := zMl_v wc_X6_walkTo wi_X6 ⟨by decide, by decide⟩ (by decide +kernel) (by decide) wlX6_176 wm_X6_walkTo ws_X6_walkTo
theorem wc_X6_bitsIn : Cond.code mX6_bitsIn.1 mX6_bitsIn.2.1 mX6_bitsIn.2.2.1 mX6_bitsIn.2.2.2 ∈ z_all := z_in (List.mem_of_getElem? (i := 1044) (by decide +kernel)) (by decide +kernel)
theorem wlX6_179 : Cond.methodLink RX6 179 yX6_bitsIn ∈ z_all := z_in (List.mem_of_getElem? (i := 1042) (by decide +kernel)) (by decide +kernel)
theorem wt_X6_bitsIn : Cond.static yX6_bitsIn ∈ z_all := z_in (List.mem_of_getElem? (i := 1043) (by decide +kernel)) (by decide +kernel)
theorem lX6_179 : zMl 1 RX6 179 mX6_bitsIn 1 := zMl_s wc_X6_bitsIn wi_X6 ⟨by decide, by decide⟩ (by decide +kernel) (by decide) wlX6_179 wt_X6_bitsIn
theorem wc_X6_wayToRing : Cond.code mX6_wayToRing.1 mX6_wayToRing.2.1 mX6_wayToRing.2.2.1 mX6_wayToRing.2.2.2 ∈ z_all := z_in (List.mem_of_getElem? (i := 1048) (by decide +kernel)) (by decide +kernel)
theorem wlX6_182 : Cond.methodLink RX6 182 yX6_wayToRing ∈ z_all := z_in (List.mem_of_getElem? (i := 1045) (by decide +kernel)) (by decide +kernel)
theorem wm_X6_wayToRing : Cond.instanceMethod yX6_wayToRing ∈ z_all := z_in (List.mem_of_getElem? (i := 1047) (by decide +kernel)) (by decide +kernel)
theorem ws_X6_wayToRing : Cond.selects RX6 yX6_wayToRing yX6_wayToRing ∈ z_all := z_in (List.mem_of_getElem? (i := 48) (by decide +kernel)) (by decide +kernel)
theorem lX6_182 : zMl 0 RX6 182 mX6_wayToRing 2 := zMl_v wc_X6_wayToRing wi_X6 ⟨by decide, by decide⟩ (by decide +kernel) (by decide) wlX6_182 wm_X6_wayToRing ws_X6_wayToRing
theorem wc_X6_findCrews : Cond.code mX6_findCrews.1 mX6_findCrews.2.1 mX6_findCrews.2.2.1 mX6_findCrews.2.2.2 ∈ z_all := z_in (List.mem_of_getElem? (i := 1041) (by decide +kernel)) (by decide +kernel)
theorem wlX6_185 : Cond.methodLink RX6 185 yX6_findCrews ∈ z_all := z_in (List.mem_of_getElem? (i := 1038) (by decide +kernel)) (by decide +kernel)
theorem wm_X6_findCrews : Cond.instanceMethod yX6_findCrews ∈ z_all := z_in (List.mem_of_getElem? (i := 1040) (by decide +kernel)) (by decide +kernel)
theorem ws_X6_findCrews : Cond.selects RX6 yX6_findCrews yX6_findCrews ∈ z_all := z_in (List.mem_of_getElem? (i := 47) (by decide +kernel)) (by decide +kernel)
theorem lX6_185 : zMl 0 RX6 185 mX6_findCrews 0 := zMl_v wc_X6_findCrews wi_X6 ⟨by decide, by decide⟩ (by decide +kernel) (by decide) wlX6_185 wm_X6_findCrews ws_X6_findCrews
theorem fX6_188 : zFl RX6 188 5 30 := ⟨(RX6, TX6, 36), rfl, by decide, z_in (List.mem_of_getElem? (i := 832) (by decide +kernel)) (by decide +kernel)⟩
theorem fX6_191 : zFl RX6 191 5 32 := ⟨(RX6, TX6, 36), rfl, by decide, z_in (List.mem_of_getElem? (i := 834) (by decide +kernel)) (by decide +kernel)⟩
theorem fX6_194 : zFl RX6 194 5 33 := ⟨(RX6, TX6, 36), rfl, by decide, z_in (List.mem_of_getElem? (i := 835) (by decide +kernel)) (by decide +kernel)⟩
theorem fX6_197 : zFl RX6 197 5 31 := ⟨(RX6, TX6, 36), rfl, by decide, z_in (List.mem_of_getElem? (i := 833) (by decide +kernel)) (by decide +kernel)⟩
theorem wc_X6_isFirst : Cond.code mX6_isFirst.1 mX6_isFirst.2.1 mX6_isFirst.2.2.1 mX6_isFirst.2.2.2 ∈ z_all := z_in (List.mem_of_getElem? (i := 1088) (by decide +kernel)) (by decide +kernel)
theorem wlX6_200 : Cond.methodLink RX6 200 yX6_isFirst ∈ z_all := z_in (List.mem_of_getElem? (i := 1085) (by decide +kernel)) (by decide +kernel)
theorem wm_X6_isFirst : Cond.instanceMethod yX6_isFirst ∈ z_all := z_in (List.mem_of_getElem? (i := 1087) (by decide +kernel)) (by decide +kernel)
theorem ws_X6_isFirst : Cond.selects RX6 yX6_isFirst yX6_isFirst ∈ z_all := z_in (List.mem_of_getElem? (i := 56) (by decide +kernel)) (by decide +kernel)
theorem lX6_200 : zMl 0 RX6 200 mX6_isFirst 1 := zMl_v wc_X6_isFirst wi_X6 ⟨by decide, by decide⟩ (by decide +kernel) (by decide) wlX6_200 wm_X6_isFirst ws_X6_isFirst
theorem wc_X6_wantedFrom : Cond.code mX6_wantedFrom.1 mX6_wantedFrom.2.1 mX6_wantedFrom.2.2.1 mX6_wantedFrom.2.2.2 ∈ z_all := z_in (List.mem_of_getElem? (i := 1072) (by decide +kernel)) (by decide +kernel)
theorem wlX6_204 : Cond.methodLink RX6 204 yX6_wantedFrom ∈ z_all := z_in (List.mem_of_getElem? (i := 1069) (by decide +kernel)) (by decide +kernel)
theorem wm_X6_wantedFrom : Cond.instanceMethod yX6_wantedFrom ∈ z_all := z_in (List.mem_of_getElem? (i := 1071) (by decide +kernel)) (by decide +kernel)
theorem ws_X6_wantedFrom : Cond.selects RX6 yX6_wantedFrom yX6_wantedFrom ∈ z_all := z_in (List.mem_of_getElem? (i := 52) (by decide +kernel)) (by decide +kernel)
theorem lX6_204 : zMl 0 RX6 204 mX6_wantedFrom 1 := zMl_v wc_X6_wantedFrom wi_X6 ⟨by decide, by decide⟩ (by decide +kernel) (by decide) wlX6_204 wm_X6_wantedFrom ws_X6_wantedFrom
theorem wc_X6_mayFollow : Cond.code mX6_mayFollow.1 mX6_mayFollow.2.1 mX6_mayFollow.2.2.1 mX6_mayFollow.2.2.2 ∈ z_all := z_in (List.mem_of_getElem? (i := 1076) (by decide +kernel)) (by decide +kernel)
theorem wlX6_207 : Cond.methodLink RX6 207 yX6_mayFollow ∈ z_all := z_in (List.mem_of_getElem? (i := 1073) (by decide +kernel)) (by decide +kernel)
theorem wm_X6_mayFollow : Cond.instanceMethod yX6_mayFollow ∈ z_all := z_in (List.mem_of_getElem? (i := 1075) (by decide +kernel)) (by decide +kernel)
theorem ws_X6_mayFollow : Cond.selects RX6 yX6_mayFollow yX6_mayFollow ∈ z_all := z_in (List.mem_of_getElem? (i := 53) (by decide +kernel)) (by decide +kernel)
theorem lX6_207 : zMl 0 RX6 207 mX6_mayFollow 3 := zMl_v wc_X6_mayFollow wi_X6 ⟨by decide, by decide⟩ (by decide +kernel) (by decide) wlX6_207 wm_X6_mayFollow ws_X6_mayFollow
theorem wc_X6_follow : Cond.code mX6_follow.1 mX6_follow.2.1 mX6_follow.2.2.1 mX6_follow.2.2.2 ∈ z_all := z_in (List.mem_of_getElem? (i := 1080) (by decide +kernel)) (by decide +kernel)
theorem wlX6_210 : Cond.methodLink RX6 210 yX6_follow ∈ z_all := z_in (List.mem_of_getElem? (i := 1077) (by decide +kernel)) (by decide +kernel)
theorem wm_X6_follow : Cond.instanceMethod yX6_follow ∈ z_all := z_in (List.mem_of_getElem? (i := 1079) (by decide +kernel)) (by decide +kernel)
theorem ws_X6_follow : Cond.selects RX6 yX6_follow yX6_follow ∈ z_all := z_in (List.mem_of_getElem? (i := 54) (by decide +kernel)) (by decide +kernel)
theorem lX6_210 : zMl 0 RX6 210 mX6_follow 2 := zMl_v wc_X6_follow wi_X6 ⟨by decide, by decide⟩ (by decide +kernel) (by decide) wlX6_210 wm_X6_follow ws_X6_follow
theorem wc_X6_weigh : Cond.code mX6_weigh.1 mX6_weigh.2.1 mX6_weigh.2.2.1 mX6_weigh.2.2.2 ∈ z_all := z_in (List.mem_of_getElem? (i := 1084) (by decide +kernel)) (by decide +kernel)
theorem wlX6_213 : Cond.methodLink RX6 213 yX6_weigh ∈ z_all := z_in (List.mem_of_getElem? (i := 1081) (by decide +kernel)) (by decide +kernel)
theorem wm_X6_weigh : Cond.instanceMethod yX6_weigh ∈ z_all := z_in (List.mem_of_getElem? (i := 1083) (by decide +kernel)) (by decide +kernel)
theorem ws_X6_weigh : Cond.selects RX6 yX6_weigh yX6_weigh ∈ z_all := z_in (List.mem_of_getElem? (i := 55) (by decide +kernel)) (by decide +kernel)
theorem lX6_213 : zMl 0 RX6 213 mX6_weigh 1 := zMl_v wc_X6_weigh wi_X6 ⟨by decide, by decide⟩ (by decide +kernel) (by decide) wlX6_213 wm_X6_weigh ws_X6_weigh
theorem wc_X6_goThrough : Cond.code mX6_goThrough.1 mX6_goThrough.2.1 mX6_goThrough.2.2.1 mX6_goThrough.2.2.2 ∈ z_all := z_in (List.mem_of_getElem? (i := 1068) (by decide +kernel)) (by decide +kernel)
theorem wlX6_217 : Cond.methodLink RX6 217 yX6_goThrough ∈ z_all := z_in (List.mem_of_getElem? (i := 1065) (by decide +kernel)) (by decide +kernel)
theorem wm_X6_goThrough : Cond.instanceMethod yX6_goThrough ∈ z_all := z_in (List.mem_of_getElem? (i := 1067) (by decide +kernel)) (by decide +kernel)
theorem ws_X6_goThrough : Cond.selects RX6 yX6_goThrough yX6_goThrough ∈ z_all := z_in (List.mem_of_getElem? (i := 51) (by decide +kernel)) (by decide +kernel)
theorem lX6_217 : zMl 0 RX6 217 mX6_goThrough 2 := zMl_v wc_X6_goThrough wi_X6 ⟨by decide, by decide⟩ (by decide +kernel) (by decide) wlX6_217 wm_X6_goThrough ws_X6_goThrough
theorem wc_X6_mostBut : Cond.code mX6_mostBut.1 mX6_mostBut.2.1 mX6_mostBut.2.2.1 mX6_mostBut.2.2.2 ∈ z_all := z_in (List.mem_of_getElem? (i := 1064) (by decide +kernel)) (by decide +kernel)
theorem wlX6_221 : Cond.methodLink RX6 221 yX6_mostBut ∈ z_all := z_in (List.mem_of_getElem? (i := 1061) (by decide +kernel)) (by decide +kernel)
theorem wm_X6_mostBut : Cond.instanceMethod yX6_mostBut ∈ z_all := z_in (List.mem_of_getElem? (i := 1063) (by decide +kernel)) (by decide +kernel)
theorem ws_X6_mostBut : Cond.selects RX6 yX6_mostBut yX6_mostBut ∈ z_all := z_in (List.mem_of_getElem? (i := 50) (by decide +kernel)) (by decide +kernel)
theorem lX6_221 : zMl 0 RX6 221 mX6_mostBut 1 := zMl_v wc_X6_mostBut wi_X6 ⟨by decide, by decide⟩ (by decide +kernel) (by decide) wlX6_221 wm_X6_mostBut ws_X6_mostBut
theorem wc_X6_findNight : Cond.code mX6_findNight.1 mX6_findNight.2.1 mX6_findNight.2.2.1 mX6_findNight.2.2.2 ∈ z_all := z_in (List.mem_of_getElem? (i := 1060) (by decide +kernel)) (by decide +kernel)
theorem wlX6_224 : Cond.methodLink RX6 224 yX6_findNight ∈ z_all := z_in (List.mem_of_getElem? (i := 1057) (by decide +kernel)) (by decide +kernel)
theorem wm_X6_findNight : Cond.instanceMethod yX6_findNight ∈ z_all := z_in (List.mem_of_getElem? (i := 1059) (by decide +kernel)) (by decide +kernel)
theorem ws_X6_findNight : Cond.selects RX6 yX6_findNight yX6_findNight ∈ z_all := z_in (List.mem_of_getElem? (i := 49) (by decide +kernel)) (by decide +kernel)
theorem lX6_224 : zMl 0 RX6 224 mX6_findNight 0 := zMl_v wc_X6_findNight wi_X6 ⟨by decide, by decide⟩ (by decide +kernel) (by decide) wlX6_224 wm_X6_findNight ws_X6_findNight
theorem wc_X6_common : Cond.code mX6_common.1 mX6_common.2.1 mX6_common.2.2.1 mX6_common.2.2.2 ∈ z_all := z_in (List.mem_of_getElem? (i := 1103) (by decide +kernel)) (by decide +kernel)
theorem wlX6_227 : Cond.methodLink RX6 227 yX6_common ∈ z_all := z_in (List.mem_of_getElem? (i := 1101) (by decide +kernel)) (by decide +kernel)
theorem wt_X6_common : Cond.static yX6_common ∈ z_all := z_in (List.mem_of_getElem? (i := 1102) (by decide +kernel)) (by decide +kernel)
theorem lX6_227 : zMl 1 RX6 227 mX6_common 2 := zMl_s wc_X6_common wi_X6 ⟨by decide, by decide⟩ (by decide +kernel) (by decide) wlX6_227 wt_X6_common
theorem wc_X6_fits : Cond.code mX6_fits.1 mX6_fits.2.1 mX6_fits.2.2.1 mX6_fits.2.2.2 ∈ z_all := z_in (List.mem_of_getElem? (i := 1123) (by decide +kernel)) (by decide +kernel)
theorem wlX6_230 : Cond.methodLink RX6 230 yX6_fits ∈ z_all := z_in (List.mem_of_getElem? (i := 1120) (by decide +kernel)) (by decide +kernel)
theorem wm_X6_fits : Cond.instanceMethod yX6_fits ∈ z_all := z_in (List.mem_of_getElem? (i := 1122) (by decide +kernel)) (by decide +kernel)
theorem ws_X6_fits : Cond.selects RX6 yX6_fits yX6_fits ∈ z_all := z_in (List.mem_of_getElem? (i := 57) (by decide +kernel)) (by decide +kernel)
theorem lX6_230 : zMl 0 RX6 230 mX6_fits 1 := zMl_v wc_X6_fits wi_X6 ⟨by decide, by decide⟩ (by decide +kernel) (by decide) wlX6_230 wm_X6_fits ws_X6_fits
theorem cX6_233 : Cond.constant RX6 233 (-1000000) ∈ z_all := z_in (List.mem_of_getElem? (i := 1128) (by decide +kernel)) (by decide +kernel)
theorem fX6_234 : zFl RX6 234 5 0 := ⟨(RX6, TX6, 36), rfl, by decide, z_in (List.mem_of_getElem? (i := 802) (by decide +kernel)) (by decide +kernel)⟩
theorem cX6_238 : Cond.constantLong RX6 238 (11) ∈ z_all := z_in (List.mem_of_getElem? (i := 1129) (by decide +kernel)) (by decide +kernel)
theorem cX6_240 : Cond.constantLong RX6 240 (101) ∈ z_all := z_in (List.mem_of_getElem? (i := 1130) (by decide +kernel)) (by decide +kernel)
theorem cX6_242 : Cond.constantLong RX6 242 (1011) ∈ z_all := z_in (List.mem_of_getElem? (i := 1131) (by decide +kernel)) (by decide +kernel)
theorem cX6_244 : Cond.constantLong RX6 244 (10101) ∈ z_all := z_in (List.mem_of_getElem? (i := 1132) (by decide +kernel)) (by decide +kernel)
theorem cX6_246 : Cond.constantLong RX6 246 (100001) ∈ z_all := z_in (List.mem_of_getElem? (i := 1133) (by decide +kernel)) (by decide +kernel)
theorem wc_X6_copy : Cond.code mX6_copy.1 mX6_copy.2.1 mX6_copy.2.2.1 mX6_copy.2.2.2 ∈ z_all := z_in (List.mem_of_getElem? (i := 1141) (by decide +kernel)) (by decide +kernel)
theorem wlX6_248 : Cond.methodLink RX6 248 yX6_copy ∈ z_all := z_in (List.mem_of_getElem? (i := 1138) (by decide +kernel)) (by decide +kernel)
theorem wm_X6_copy : Cond.instanceMethod yX6_copy ∈ z_all := z_in (List.mem_of_getElem? (i := 1140) (by decide +kernel)) (by decide +kernel)
theorem ws_X6_copy : Cond.selects RX6 yX6_copy yX6_copy ∈ z_all := z_in (List.mem_of_getElem? (i := 58) (by decide +kernel)) (by decide +kernel)
theorem lX6_248 : zMl 0 RX6 248 mX6_copy 2 := zMl_v wc_X6_copy wi_X6 ⟨by decide, by decide⟩ (by decide +kernel) (by decide) wlX6_248 wm_X6_copy ws_X6_copy
theorem cJ6_265 : Cond.constant RJ6 265 (1431655765) ∈ z_all := z_in (List.mem_of_getElem? (i := 466) (by decide +kernel)) (by decide +kernel)
theorem cJ6_266 : Cond.constant RJ6 266 (858993459) ∈ z_all := z_in (List.mem_of_getElem? (i := 467) (by decide +kernel)) (by decide +kernel)
theorem cJ6_267 : Cond.constant RJ6 267 (252645135) ∈ z_all := z_in (List.mem_of_getElem? (i := 468) (by decide +kernel)) (by decide +kernel)
theorem wc_J0_coder_7d493 : Cond.code mJ0_coder_7d493.1 mJ0_coder_7d493.2.1 mJ0_coder_7d493.2.2.1 mJ0_coder_7d493.2.2.2 ∈ z_all := z_in (List.mem_of_getElem? (i := 344) (by decide +kernel)) (by decide +kernel)
theorem wlJ0_335 : Cond.methodLink RJ0 335 yJ0_coder_7d493 ∈ z_all := z_in (List.mem_of_getElem? (i := 341) (by decide +kernel)) (by decide +kernel)
theorem wm_J0_coder_7d493 : Cond.instanceMethod yJ0_coder_7d493 ∈ z_all := z_in (List.mem_of_getElem? (i := 342) (by decide +kernel)) (by decide +kernel)
theorem ws_J0_coder_7d493 : Cond.selects RJ0 yJ0_coder_7d493 yJ0_coder_7d493 ∈ z_all := z_in (List.mem_of_getElem? (i := 343) (by decide +kernel)) (by decide +kernel)
theorem lJ0_335 : zMl 0 RJ0 335 mJ0_coder_7d493 0 := zMl_v wc_J0_coder_7d493 wi_J0 ⟨by decide, by decide⟩ (by decide +kernel) (by decide) wlJ0_335 wm_J0_coder_7d493 ws_J0_coder_7d493
theorem wc_J0_isLatin1_aae02 : Cond.code mJ0_isLatin1_aae02.1 mJ0_isLatin1_aae02.2.1 mJ0_isLatin1_aae02.2.2.1 mJ0_isLatin1_aae02.2.2.2 ∈ z_all := z_in (List.mem_of_getElem? (i := 354) (by decide +kernel)) (by decide +kernel)
theorem wlJ0_492 : Cond.methodLink RJ0 492 yJ0_isLatin1_aae02 ∈ z_all := z_in (List.mem_of_getElem? (i := 351) (by decide +kernel)) (by decide +kernel)
theorem wm_J0_isLatin1_aae02 : Cond.instanceMethod yJ0_isLatin1_aae02 ∈ z_all := z_in (List.mem_of_getElem? (i := 352) (by decide +kernel)) (by decide +kernel)
theorem ws_J0_isLatin1_aae02 : Cond.selects RJ0 yJ0_isLatin1_aae02 yJ0_isLatin1_aae02 ∈ z_all := z_in (List.mem_of_getElem? (i := 353) (by decide +kernel)) (by decide +kernel)
theorem lJ0_492 : zMl 0 RJ0 492 mJ0_isLatin1_aae02 0 := zMl_v wc_J0_isLatin1_aae02 wi_J0 ⟨by decide, by decide⟩ (by decide +kernel) (by decide) wlJ0_492 wm_J0_isLatin1_aae02 ws_J0_isLatin1_aae02
theorem wc_J1_charAt_3b067 : Cond.code mJ1_charAt_3b067.1 mJ1_charAt_3b067.2.1 mJ1_charAt_3b067.2.2.1 mJ1_charAt_3b067.2.2.2 ∈ z_all := z_in (List.mem_of_getElem? (i := 357) (by decide +kernel)) (by decide +kernel)
theorem wi_J1 : Cond.initialized RJ1 ∈ z_all := z_in (List.mem_of_getElem? (i := 67) (by decide +kernel)) (by decide +kernel)
theorem wlJ0_495 : Cond.methodLink RJ0 495 yJ1_charAt_3b067 ∈ z_all := z_in (List.mem_of_getElem? (i := 355) (by decide +kernel)) (by decide +kernel)
theorem wt_J1_charAt_3b067 : Cond.static yJ1_charAt_3b067 ∈ z_all := z_in (List.mem_of_getElem? (i := 356) (by decide +kernel)) (by decide +kernel)
theorem lJ0_495 : zMl 1 RJ0 495 mJ1_charAt_3b067 2 := zMl_s wc_J1_charAt_3b067 wi_J1 ⟨by decide, by decide⟩ (by decide +kernel) (by decide) wlJ0_495 wt_J1_charAt_3b067
theorem wc_J2_charAt_3b067 : Cond.code mJ2_charAt_3b067.1 mJ2_charAt_3b067.2.1 mJ2_charAt_3b067.2.2.1 mJ2_charAt_3b067.2.2.2 ∈ z_all := z_in (List.mem_of_getElem? (i := 368) (by decide +kernel)) (by decide +kernel)
theorem wi_J2 : Cond.initialized RJ2 ∈ z_all := z_in (List.mem_of_getElem? (i := 69) (by decide +kernel)) (by decide +kernel)
theorem wlJ0_498 : Cond.methodLink RJ0 498 yJ2_charAt_3b067 ∈ z_all := z_in (List.mem_of_getElem? (i := 366) (by decide +kernel)) (by decide +kernel)
theorem wt_J2_charAt_3b067 : Cond.static yJ2_charAt_3b067 ∈ z_all := z_in (List.mem_of_getElem? (i := 367) (by decide +kernel)) (by decide +kernel)
theorem lJ0_498 : zMl 1 RJ0 498 mJ2_charAt_3b067 2 := zMl_s wc_J2_charAt_3b067 wi_J2 ⟨by decide, by decide⟩ (by decide +kernel) (by decide) wlJ0_498 wt_J2_charAt_3b067
theorem wc_J3_checkIndex_8e157 : Cond.code mJ3_checkIndex_8e157.1 mJ3_checkIndex_8e157.2.1 mJ3_checkIndex_8e157.2.2.1 mJ3_checkIndex_8e157.2.2.2 ∈ z_all := z_in (List.mem_of_getElem? (i := 365) (by decide +kernel)) (by decide +kernel)
theorem wi_J3 : Cond.initialized RJ3 ∈ z_all := z_in (List.mem_of_getElem? (i := 68) (by decide +kernel)) (by decide +kernel)
theorem wlJ0_1059 : Cond.methodLink RJ0 1059 yJ3_checkIndex_8e157 ∈ z_all := z_in (List.mem_of_getElem? (i := 363) (by decide +kernel)) (by decide +kernel)
theorem wt_J3_checkIndex_8e157 : Cond.static yJ3_checkIndex_8e157 ∈ z_all := z_in (List.mem_of_getElem? (i := 364) (by decide +kernel)) (by decide +kernel)
theorem lJ0_1059 : zMl 1 RJ0 1059 mJ3_checkIndex_8e157 3 := zMl_s wc_J3_checkIndex_8e157 wi_J3 ⟨by decide, by decide⟩ (by decide +kernel) (by decide) wlJ0_1059 wt_J3_checkIndex_8e157
theorem wc_J0_checkIndex_df160 : Cond.code mJ0_checkIndex_df160.1 mJ0_checkIndex_df160.2.1 mJ0_checkIndex_df160.2.2.1 mJ0_checkIndex_df160.2.2.2 ∈ z_all := z_in (List.mem_of_getElem? (i := 360) (by decide +kernel)) (by decide +kernel)
theorem wlJ1_9 : Cond.methodLink RJ1 9 yJ0_checkIndex_df160 ∈ z_all := z_in (List.mem_of_getElem? (i := 358) (by decide +kernel)) (by decide +kernel)
theorem wt_J0_checkIndex_df160 : Cond.static yJ0_checkIndex_df160 ∈ z_all := z_in (List.mem_of_getElem? (i := 359) (by decide +kernel)) (by decide +kernel)
theorem lJ1_9 : zMl 1 RJ1 9 mJ0_checkIndex_df160 2 := zMl_s wc_J0_checkIndex_df160 wi_J0 ⟨by decide, by decide⟩ (by decide +kernel) (by decide) wlJ1_9 wt_J0_checkIndex_df160
theorem wc_J2_length_9d52b : Cond.code mJ2_length_9d52b.1 mJ2_length_9d52b.2.1 mJ2_length_9d52b.2.2.1 mJ2_length_9d52b.2.2.2 ∈ z_all := z_in (List.mem_of_getElem? (i := 374) (by decide +kernel)) (by decide +kernel)
theorem wlJ2_48 : Cond.methodLink RJ2 48 yJ2_length_9d52b ∈ z_all := z_in (List.mem_of_getElem? (i := 372) (by decide +kernel)) (by decide +kernel)
theorem wt_J2_length_9d52b : Cond.static yJ2_length_9d52b ∈ z_all := z_in (List.mem_of_getElem? (i := 373) (by decide +kernel)) (by decide +kernel)
theorem lJ2_48 : zMl 1 RJ2 48 mJ2_length_9d52b 1 := zMl_s wc_J2_length_9d52b wi_J2 ⟨by decide, by decide⟩ (by decide +kernel) (by decide) wlJ2_48 wt_J2_length_9d52b
theorem wc_J2_checkIndex_2214a : Cond.code mJ2_checkIndex_2214a.1 mJ2_checkIndex_2214a.2.1 mJ2_checkIndex_2214a.2.2.1 mJ2_checkIndex_2214a.2.2.2 ∈ z_all := z_in (List.mem_of_getElem? (i := 371) (by decide +kernel)) (by decide +kernel)
theorem wlJ2_67 : Cond.methodLink RJ2 67 yJ2_checkIndex_2214a ∈ z_all := z_in (List.mem_of_getElem? (i := 369) (by decide +kernel)) (by decide +kernel)
theorem wt_J2_checkIndex_2214a : Cond.static yJ2_checkIndex_2214a ∈ z_all := z_in (List.mem_of_getElem? (i := 370) (by decide +kernel)) (by decide +kernel)
theorem lJ2_67 : zMl 1 RJ2 67 mJ2_checkIndex_2214a 2 := zMl_s wc_J2_checkIndex_2214a wi_J2 ⟨by decide, by decide⟩ (by decide +kernel) (by decide) wlJ2_67 wt_J2_checkIndex_2214a
theorem wc_J2_getChar_3b067 : Cond.code mJ2_getChar_3b067.1 mJ2_getChar_3b067.2.1 mJ2_getChar_3b067.2.2.1 mJ2_getChar_3b067.2.2.2 ∈ z_all := z_in (List.mem_of_getElem? (i := 378) (by decide +kernel)) (by decide +kernel)
theorem wlJ2_71 : Cond.methodLink RJ2 71 yJ2_getChar_3b067 ∈ z_all := z_in (List.mem_of_getElem? (i := 376) (by decide +kernel)) (by decide +kernel)
theorem wt_J2_getChar_3b067 : Cond.static yJ2_getChar_3b067 ∈ z_all := z_in (List.mem_of_getElem? (i := 377) (by decide +kernel)) (by decide +kernel)
theorem lJ2_71 : zMl 1 RJ2 71 mJ2_getChar_3b067 2 := zMl_s wc_J2_getChar_3b067 wi_J2 ⟨by decide, by decide⟩ (by decide +kernel) (by decide) wlJ2_71 wt_J2_getChar_3b067
theorem wlJ2_414 : Cond.methodLink RJ2 414 yJ0_checkIndex_df160 ∈ z_all := z_in (List.mem_of_getElem? (i := 375) (by decide +kernel)) (by decide +kernel)
theorem lJ2_414 : zMl 1 RJ2 414 mJ0_checkIndex_df160 2 := zMl_s wc_J0_checkIndex_df160 wi_J0 ⟨by decide, by decide⟩ (by decide +kernel) (by decide) wlJ2_414 wt_J0_checkIndex_df160
theorem wc_X5_init : Cond.code mX5_init.1 mX5_init.2.1 mX5_init.2.2.1 mX5_init.2.2.2 ∈ z_all := z_in (List.mem_of_getElem? (i := 78) (by decide +kernel)) (by decide +kernel)
theorem wlL_9 : Cond.methodLink RL 9 yX5_init ∈ z_all := z_in (List.mem_of_getElem? (i := 76) (by decide +kernel)) (by decide +kernel)
theorem wm_X5_init : Cond.instanceMethod yX5_init ∈ z_all := z_in (List.mem_of_getElem? (i := 77) (by decide +kernel)) (by decide +kernel)
theorem lL_9 : zMl 2 RL 9 mX5_init 0 := zMl_i wc_X5_init wi_X5 ⟨by decide, by decide⟩ (by decide +kernel) (by decide) (Or.inl wlL_9) wm_X5_init rfl rfl
theorem wc_X6_init : Cond.code mX6_init.1 mX6_init.2.1 mX6_init.2.2.1 mX6_init.2.2.2 ∈ z_all := z_in (List.mem_of_getElem? (i := 796) (by decide +kernel)) (by decide +kernel)
theorem wlL_12 : Cond.methodLink RL 12 yX6_init ∈ z_all := z_in (List.mem_of_getElem? (i := 794) (by decide +kernel)) (by decide +kernel)
theorem wm_X6_init : Cond.instanceMethod yX6_init ∈ z_all := z_in (List.mem_of_getElem? (i := 795) (by decide +kernel)) (by decide +kernel)
theorem lL_12 : zMl 2 RL 12 mX6_init 0 := zMl_i wc_X6_init wi_X6 ⟨by decide, by decide⟩ (by decide +kernel) (by decide) (Or.inl wlL_12) wm_X6_init rfl rfl
theorem cL_13 : Cond.constantLong RL 13 (4294967295) ∈ z_all := z_in (List.mem_of_getElem? (i := 1154) (by decide +kernel)) (by decide +kernel)
theorem wc_X5_type : Cond.code mX5_type.1 mX5_type.2.1 mX5_type.2.2.1 mX5_type.2.2.2 ∈ z_all := z_in (List.mem_of_getElem? (i := 288) (by decide +kernel)) (by decide +kernel)
theorem wlL_15 : Cond.methodLink RL 15 yX5_type ∈ z_all := z_in (List.mem_of_getElem? (i := 285) (by decide +kernel)) (by decide +kernel)
theorem wm_X5_type : Cond.instanceMethod yX5_type ∈ z_all := z_in (List.mem_of_getElem? (i := 286) (by decide +kernel)) (by decide +kernel)
theorem ws_X5_type : Cond.selects RX5 yX5_type yX5_type ∈ z_all := z_in (List.mem_of_getElem? (i := 287) (by decide +kernel)) (by decide +kernel)
theorem lL_15 : zMl 0 RL 15 mX5_type 2 := zMl_v wc_X5_type wi_X5 ⟨by decide, by decide⟩ (by decide +kernel) (by decide) wlL_15 wm_X5_type ws_X5_type
theorem wc_X6_type : Cond.code mX6_type.1 mX6_type.2.1 mX6_type.2.2.1 mX6_type.2.2.2 ∈ z_all := z_in (List.mem_of_getElem? (i := 914) (by decide +kernel)) (by decide +kernel)
theorem wlL_19 : Cond.methodLink RL 19 yX6_type ∈ z_all := z_in (List.mem_of_getElem? (i := 911) (by decide +kernel)) (by decide +kernel)
theorem wm_X6_type : Cond.instanceMethod yX6_type ∈ z_all := z_in (List.mem_of_getElem? (i := 912) (by decide +kernel)) (by decide +kernel)
theorem ws_X6_type : Cond.selects RX6 yX6_type yX6_type ∈ z_all := z_in (List.mem_of_getElem? (i := 913) (by decide +kernel)) (by decide +kernel)
theorem lL_19 : zMl 0 RL 19 mX6_type 2 := zMl_v wc_X6_type wi_X6 ⟨by decide, by decide⟩ (by decide +kernel) (by decide) wlL_19 wm_X6_type ws_X6_type
theorem wc_X5_clear : Cond.code mX5_clear.1 mX5_clear.2.1 mX5_clear.2.2.1 mX5_clear.2.2.2 ∈ z_all := z_in (List.mem_of_getElem? (i := 296) (by decide +kernel)) (by decide +kernel)
theorem wlL_20 : Cond.methodLink RL 20 yX5_clear ∈ z_all := z_in (List.mem_of_getElem? (i := 293) (by decide +kernel)) (by decide +kernel)
theorem wm_X5_clear : Cond.instanceMethod yX5_clear ∈ z_all := z_in (List.mem_of_getElem? (i := 294) (by decide +kernel)) (by decide +kernel)
theorem ws_X5_clear : Cond.selects RX5 yX5_clear yX5_clear ∈ z_all := z_in (List.mem_of_getElem? (i := 295) (by decide +kernel)) (by decide +kernel)
theorem lL_20 : zMl 0 RL 20 mX5_clear 0 := zMl_v wc_X5_clear wi_X5 ⟨by decide, by decide⟩ (by decide +kernel) (by decide) wlL_20 wm_X5_clear ws_X5_clear
theorem wc_X6_clear : Cond.code mX6_clear.1 mX6_clear.2.1 mX6_clear.2.2.1 mX6_clear.2.2.2 ∈ z_all := z_in (List.mem_of_getElem? (i := 922) (by decide +kernel)) (by decide +kernel)
theorem wlL_24 : Cond.methodLink RL 24 yX6_clear ∈ z_all := z_in (List.mem_of_getElem? (i := 919) (by decide +kernel)) (by decide +kernel)
theorem wm_X6_clear : Cond.instanceMethod yX6_clear ∈ z_all := z_in (List.mem_of_getElem? (i := 920) (by decide +kernel)) (by decide +kernel)
theorem ws_X6_clear : Cond.selects RX6 yX6_clear yX6_clear ∈ z_all := z_in (List.mem_of_getElem? (i := 921) (by decide +kernel)) (by decide +kernel)
theorem lL_24 : zMl 0 RL 24 mX6_clear 0 := zMl_v wc_X6_clear wi_X6 ⟨by decide, by decide⟩ (by decide +kernel) (by decide) wlL_24 wm_X6_clear ws_X6_clear
theorem wc_X5_parish : Cond.code mX5_parish.1 mX5_parish.2.1 mX5_parish.2.2.1 mX5_parish.2.2.2 ∈ z_all := z_in (List.mem_of_getElem? (i := 304) (by decide +kernel)) (by decide +kernel)
theorem wlL_25 : Cond.methodLink RL 25 yX5_parish ∈ z_all := z_in (List.mem_of_getElem? (i := 301) (by decide +kernel)) (by decide +kernel)
theorem wm_X5_parish : Cond.instanceMethod yX5_parish ∈ z_all := z_in (List.mem_of_getElem? (i := 302) (by decide +kernel)) (by decide +kernel)
theorem ws_X5_parish : Cond.selects RX5 yX5_parish yX5_parish ∈ z_all := z_in (List.mem_of_getElem? (i := 303) (by decide +kernel)) (by decide +kernel)
theorem lL_25 : zMl 0 RL 25 mX5_parish 0 := zMl_v wc_X5_parish wi_X5 ⟨by decide, by decide⟩ (by decide +kernel) (by decide) wlL_25 wm_X5_parish ws_X5_parish
theorem wc_X6_parish : Cond.code mX6_parish.1 mX6_parish.2.1 mX6_parish.2.2.1 mX6_parish.2.2.2 ∈ z_all := z_in (List.mem_of_getElem? (i := 926) (by decide +kernel)) (by decide +kernel)
theorem wlL_28 : Cond.methodLink RL 28 yX6_parish ∈ z_all := z_in (List.mem_of_getElem? (i := 923) (by decide +kernel)) (by decide +kernel)
theorem wm_X6_parish : Cond.instanceMethod yX6_parish ∈ z_all := z_in (List.mem_of_getElem? (i := 924) (by decide +kernel)) (by decide +kernel)
theorem ws_X6_parish : Cond.selects RX6 yX6_parish yX6_parish ∈ z_all := z_in (List.mem_of_getElem? (i := 925) (by decide +kernel)) (by decide +kernel)
theorem lL_28 : zMl 0 RL 28 mX6_parish 0 := zMl_v wc_X6_parish wi_X6 ⟨by decide, by decide⟩ (by decide +kernel) (by decide) wlL_28 wm_X6_parish ws_X6_parish
theorem wc_X5_ringer : Cond.code mX5_ringer.1 mX5_ringer.2.1 mX5_ringer.2.2.1 mX5_ringer.2.2.2 ∈ z_all := z_in (List.mem_of_getElem? (i := 431) (by decide +kernel)) (by decide +kernel)
theorem wlL_29 : Cond.methodLink RL 29 yX5_ringer ∈ z_all := z_in (List.mem_of_getElem? (i := 428) (by decide +kernel)) (by decide +kernel)
theorem wm_X5_ringer : Cond.instanceMethod yX5_ringer ∈ z_all := z_in (List.mem_of_getElem? (i := 429) (by decide +kernel)) (by decide +kernel)
theorem ws_X5_ringer : Cond.selects RX5 yX5_ringer yX5_ringer ∈ z_all := z_in (List.mem_of_getElem? (i := 430) (by decide +kernel)) (by decide +kernel)
theorem lL_29 : zMl 0 RL 29 mX5_ringer 2 := zMl_v wc_X5_ringer wi_X5 ⟨by decide, by decide⟩ (by decide +kernel) (by decide) wlL_29 wm_X5_ringer ws_X5_ringer
theorem wc_X6_ringer : Cond.code mX6_ringer.1 mX6_ringer.2.1 mX6_ringer.2.2.1 mX6_ringer.2.2.2 ∈ z_all := z_in (List.mem_of_getElem? (i := 953) (by decide +kernel)) (by decide +kernel)
theorem wlL_33 : Cond.methodLink RL 33 yX6_ringer ∈ z_all := z_in (List.mem_of_getElem? (i := 950) (by decide +kernel)) (by decide +kernel)
theorem wm_X6_ringer : Cond.instanceMethod yX6_ringer ∈ z_all := z_in (List.mem_of_getElem? (i := 951) (by decide +kernel)) (by decide +kernel)
theorem ws_X6_ringer : Cond.selects RX6 yX6_ringer yX6_ringer ∈ z_all := z_in (List.mem_of_getElem? (i := 952) (by decide +kernel)) (by decide +kernel)
theorem lL_33 : zMl 0 RL 33 mX6_ringer 2 := zMl_v wc_X6_ringer wi_X6 ⟨by decide, by decide⟩ (by decide +kernel) (by decide) wlL_33 wm_X6_ringer ws_X6_ringer
theorem wc_X5_hour : Cond.code mX5_hour.1 mX5_hour.2.1 mX5_hour.2.2.1 mX5_hour.2.2.2 ∈ z_all := z_in (List.mem_of_getElem? (i := 454) (by decide +kernel)) (by decide +kernel)
theorem wlL_34 : Cond.methodLink RL 34 yX5_hour ∈ z_all := z_in (List.mem_of_getElem? (i := 451) (by decide +kernel)) (by decide +kernel)
theorem wm_X5_hour : Cond.instanceMethod yX5_hour ∈ z_all := z_in (List.mem_of_getElem? (i := 452) (by decide +kernel)) (by decide +kernel)
theorem ws_X5_hour : Cond.selects RX5 yX5_hour yX5_hour ∈ z_all := z_in (List.mem_of_getElem? (i := 453) (by decide +kernel)) (by decide +kernel)
theorem lL_34 : zMl 0 RL 34 mX5_hour 2 := zMl_v wc_X5_hour wi_X5 ⟨by decide, by decide⟩ (by decide +kernel) (by decide) wlL_34 wm_X5_hour ws_X5_hour
theorem wc_X6_hour : Cond.code mX6_hour.1 mX6_hour.2.1 mX6_hour.2.2.1 mX6_hour.2.2.2 ∈ z_all := z_in (List.mem_of_getElem? (i := 969) (by decide +kernel)) (by decide +kernel)
theorem wlL_37 : Cond.methodLink RL 37 yX6_hour ∈ z_all := z_in (List.mem_of_getElem? (i := 966) (by decide +kernel)) (by decide +kernel)
theorem wm_X6_hour : Cond.instanceMethod yX6_hour ∈ z_all := z_in (List.mem_of_getElem? (i := 967) (by decide +kernel)) (by decide +kernel)
theorem ws_X6_hour : Cond.selects RX6 yX6_hour yX6_hour ∈ z_all := z_in (List.mem_of_getElem? (i := 968) (by decide +kernel)) (by decide +kernel)
theorem lL_37 : zMl 0 RL 37 mX6_hour 2 := zMl_v wc_X6_hour wi_X6 ⟨by decide, by decide⟩ (by decide +kernel) (by decide) wlL_37 wm_X6_hour ws_X6_hour
theorem wc_X5_put : Cond.code mX5_put.1 mX5_put.2.1 mX5_put.2.2.1 mX5_put.2.2.2 ∈ z_all := z_in (List.mem_of_getElem? (i := 472) (by decide +kernel)) (by decide +kernel)
theorem wlL_38 : Cond.methodLink RL 38 yX5_put ∈ z_all := z_in (List.mem_of_getElem? (i := 469) (by decide +kernel)) (by decide +kernel)
theorem wm_X5_put : Cond.instanceMethod yX5_put ∈ z_all := z_in (List.mem_of_getElem? (i := 470) (by decide +kernel)) (by decide +kernel)
theorem ws_X5_put : Cond.selects RX5 yX5_put yX5_put ∈ z_all := z_in (List.mem_of_getElem? (i := 471) (by decide +kernel)) (by decide +kernel)
theorem lL_38 : zMl 0 RL 38 mX5_put 3 := zMl_v wc_X5_put wi_X5 ⟨by decide, by decide⟩ (by decide +kernel) (by decide) wlL_38 wm_X5_put ws_X5_put
theorem wc_X6_put : Cond.code mX6_put.1 mX6_put.2.1 mX6_put.2.2.1 mX6_put.2.2.2 ∈ z_all := z_in (List.mem_of_getElem? (i := 981) (by decide +kernel)) (by decide +kernel)
theorem wlL_42 : Cond.methodLink RL 42 yX6_put ∈ z_all := z_in (List.mem_of_getElem? (i := 978) (by decide +kernel)) (by decide +kernel)
theorem wm_X6_put : Cond.instanceMethod yX6_put ∈ z_all := z_in (List.mem_of_getElem? (i := 979) (by decide +kernel)) (by decide +kernel)
theorem ws_X6_put : Cond.selects RX6 yX6_put yX6_put ∈ z_all := z_in (List.mem_of_getElem? (i := 980) (by decide +kernel)) (by decide +kernel)
theorem lL_42 : zMl 0 RL 42 mX6_put 3 := zMl_v wc_X6_put wi_X6 ⟨by decide, by decide⟩ (by decide +kernel) (by decide) wlL_42 wm_X6_put ws_X6_put
theorem wc_X5_rings : Cond.code mX5_rings.1 mX5_rings.2.1 mX5_rings.2.2.1 mX5_rings.2.2.2 ∈ z_all := z_in (List.mem_of_getElem? (i := 507) (by decide +kernel)) (by decide +kernel)
theorem wlL_43 : Cond.methodLink RL 43 yX5_rings ∈ z_all := z_in (List.mem_of_getElem? (i := 504) (by decide +kernel)) (by decide +kernel)
theorem wm_X5_rings : Cond.instanceMethod yX5_rings ∈ z_all := z_in (List.mem_of_getElem? (i := 505) (by decide +kernel)) (by decide +kernel)
theorem ws_X5_rings : Cond.selects RX5 yX5_rings yX5_rings ∈ z_all := z_in (List.mem_of_getElem? (i := 506) (by decide +kernel)) (by decide +kernel)
theorem lL_43 : zMl 0 RL 43 mX5_rings 2 := zMl_v wc_X5_rings wi_X5 ⟨by decide, by decide⟩ (by decide +kernel) (by decide) wlL_43 wm_X5_rings ws_X5_rings
theorem wc_X6_rings : Cond.code mX6_rings.1 mX6_rings.2.1 mX6_rings.2.2.1 mX6_rings.2.2.2 ∈ z_all := z_in (List.mem_of_getElem? (i := 1001) (by decide +kernel)) (by decide +kernel)
theorem wlL_46 : Cond.methodLink RL 46 yX6_rings ∈ z_all := z_in (List.mem_of_getElem? (i := 998) (by decide +kernel)) (by decide +kernel)
theorem wm_X6_rings : Cond.instanceMethod yX6_rings ∈ z_all := z_in (List.mem_of_getElem? (i := 999) (by decide +kernel)) (by decide +kernel)
theorem ws_X6_rings : Cond.selects RX6 yX6_rings yX6_rings ∈ z_all := z_in (List.mem_of_getElem? (i := 1000) (by decide +kernel)) (by decide +kernel)
theorem lL_46 : zMl 0 RL 46 mX6_rings 2 := zMl_v wc_X6_rings wi_X6 ⟨by decide, by decide⟩ (by decide +kernel) (by decide) wlL_46 wm_X6_rings ws_X6_rings
theorem wc_X5_take : Cond.code mX5_take.1 mX5_take.2.1 mX5_take.2.2.1 mX5_take.2.2.2 ∈ z_all := z_in (List.mem_of_getElem? (i := 512) (by decide +kernel)) (by decide +kernel)
theorem wlL_47 : Cond.methodLink RL 47 yX5_take ∈ z_all := z_in (List.mem_of_getElem? (i := 509) (by decide +kernel)) (by decide +kernel)
theorem wm_X5_take : Cond.instanceMethod yX5_take ∈ z_all := z_in (List.mem_of_getElem? (i := 510) (by decide +kernel)) (by decide +kernel)
theorem ws_X5_take : Cond.selects RX5 yX5_take yX5_take ∈ z_all := z_in (List.mem_of_getElem? (i := 511) (by decide +kernel)) (by decide +kernel)
theorem lL_47 : zMl 0 RL 47 mX5_take 2 := zMl_v wc_X5_take wi_X5 ⟨by decide, by decide⟩ (by decide +kernel) (by decide) wlL_47 wm_X5_take ws_X5_take
theorem wc_X6_take : Cond.code mX6_take.1 mX6_take.2.1 mX6_take.2.2.1 mX6_take.2.2.2 ∈ z_all := z_in (List.mem_of_getElem? (i := 1005) (by decide +kernel)) (by decide +kernel)
theorem wlL_50 : Cond.methodLink RL 50 yX6_take ∈ z_all := z_in (List.mem_of_getElem? (i := 1002) (by decide +kernel)) (by decide +kernel)
theorem wm_X6_take : Cond.instanceMethod yX6_take ∈ z_all := z_in (List.mem_of_getElem? (i := 1003) (by decide +kernel)) (by decide +kernel)
theorem ws_X6_take : Cond.selects RX6 yX6_take yX6_take ∈ z_all := z_in (List.mem_of_getElem? (i := 1004) (by decide +kernel)) (by decide +kernel)
theorem lL_50 : zMl 0 RL 50 mX6_take 2 := zMl_v wc_X6_take wi_X6 ⟨by decide, by decide⟩ (by decide +kernel) (by decide) wlL_50 wm_X6_take ws_X6_take
theorem wc_X5_exchange : Cond.code mX5_exchange.1 mX5_exchange.2.1 mX5_exchange.2.2.1 mX5_exchange.2.2.2 ∈ z_all := z_in (List.mem_of_getElem? (i := 521) (by decide +kernel)) (by decide +kernel)
theorem wlL_51 : Cond.methodLink RL 51 yX5_exchange ∈ z_all := z_in (List.mem_of_getElem? (i := 518) (by decide +kernel)) (by decide +kernel)
theorem wm_X5_exchange : Cond.instanceMethod yX5_exchange ∈ z_all := z_in (List.mem_of_getElem? (i := 519) (by decide +kernel)) (by decide +kernel)
theorem ws_X5_exchange : Cond.selects RX5 yX5_exchange yX5_exchange ∈ z_all := z_in (List.mem_of_getElem? (i := 520) (by decide +kernel)) (by decide +kernel)
theorem lL_51 : zMl 0 RL 51 mX5_exchange 2 := zMl_v wc_X5_exchange wi_X5 ⟨by decide, by decide⟩ (by decide +kernel) (by decide) wlL_51 wm_X5_exchange ws_X5_exchange
theorem wc_X6_exchange : Cond.code mX6_exchange.1 mX6_exchange.2.1 mX6_exchange.2.2.1 mX6_exchange.2.2.2 ∈ z_all := z_in (List.mem_of_getElem? (i := 1009) (by decide +kernel)) (by decide +kernel)
theorem wlL_54 : Cond.methodLink RL 54 yX6_exchange ∈ z_all := z_in (List.mem_of_getElem? (i := 1006) (by decide +kernel)) (by decide +kernel)
theorem wm_X6_exchange : Cond.instanceMethod yX6_exchange ∈ z_all := z_in (List.mem_of_getElem? (i := 1007) (by decide +kernel)) (by decide +kernel)
theorem ws_X6_exchange : Cond.selects RX6 yX6_exchange yX6_exchange ∈ z_all := z_in (List.mem_of_getElem? (i := 1008) (by decide +kernel)) (by decide +kernel)
theorem lL_54 : zMl 0 RL 54 mX6_exchange 2 := zMl_v wc_X6_exchange wi_X6 ⟨by decide, by decide⟩ (by decide +kernel) (by decide) wlL_54 wm_X6_exchange ws_X6_exchange
theorem wc_X5_now : Cond.code mX5_now.1 mX5_now.2.1 mX5_now.2.2.1 mX5_now.2.2.2 ∈ z_all := z_in (List.mem_of_getElem? (i := 533) (by decide +kernel)) (by decide +kernel)
theorem wlL_55 : Cond.methodLink RL 55 yX5_now ∈ z_all := z_in (List.mem_of_getElem? (i := 530) (by decide +kernel)) (by decide +kernel)
theorem wm_X5_now : Cond.instanceMethod yX5_now ∈ z_all := z_in (List.mem_of_getElem? (i := 531) (by decide +kernel)) (by decide +kernel)
theorem ws_X5_now : Cond.selects RX5 yX5_now yX5_now ∈ z_all := z_in (List.mem_of_getElem? (i := 532) (by decide +kernel)) (by decide +kernel)
theorem lL_55 : zMl 0 RL 55 mX5_now 1 := zMl_v wc_X5_now wi_X5 ⟨by decide, by decide⟩ (by decide +kernel) (by decide) wlL_55 wm_X5_now ws_X5_now
theorem wc_X6_now : Cond.code mX6_now.1 mX6_now.2.1 mX6_now.2.2.1 mX6_now.2.2.2 ∈ z_all := z_in (List.mem_of_getElem? (i := 1017) (by decide +kernel)) (by decide +kernel)
theorem wlL_59 : Cond.methodLink RL 59 yX6_now ∈ z_all := z_in (List.mem_of_getElem? (i := 1014) (by decide +kernel)) (by decide +kernel)
theorem wm_X6_now : Cond.instanceMethod yX6_now ∈ z_all := z_in (List.mem_of_getElem? (i := 1015) (by decide +kernel)) (by decide +kernel)
theorem ws_X6_now : Cond.selects RX6 yX6_now yX6_now ∈ z_all := z_in (List.mem_of_getElem? (i := 1016) (by decide +kernel)) (by decide +kernel)
theorem lL_59 : zMl 0 RL 59 mX6_now 1 := zMl_v wc_X6_now wi_X6 ⟨by decide, by decide⟩ (by decide +kernel) (by decide) wlL_59 wm_X6_now ws_X6_now
theorem wc_X5_moves : Cond.code mX5_moves.1 mX5_moves.2.1 mX5_moves.2.2.1 mX5_moves.2.2.2 ∈ z_all := z_in (List.mem_of_getElem? (i := 550) (by decide +kernel)) (by decide +kernel)
theorem wlL_60 : Cond.methodLink RL 60 yX5_moves ∈ z_all := z_in (List.mem_of_getElem? (i := 547) (by decide +kernel)) (by decide +kernel)
theorem wm_X5_moves : Cond.instanceMethod yX5_moves ∈ z_all := z_in (List.mem_of_getElem? (i := 548) (by decide +kernel)) (by decide +kernel)
theorem ws_X5_moves : Cond.selects RX5 yX5_moves yX5_moves ∈ z_all := z_in (List.mem_of_getElem? (i := 549) (by decide +kernel)) (by decide +kernel)
theorem lL_60 : zMl 0 RL 60 mX5_moves 1 := zMl_v wc_X5_moves wi_X5 ⟨by decide, by decide⟩ (by decide +kernel) (by decide) wlL_60 wm_X5_moves ws_X5_moves
theorem wc_X6_moves : Cond.code mX6_moves.1 mX6_moves.2.1 mX6_moves.2.2.1 mX6_moves.2.2.2 ∈ z_all := z_in (List.mem_of_getElem? (i := 1033) (by decide +kernel)) (by decide +kernel)
theorem wlL_63 : Cond.methodLink RL 63 yX6_moves ∈ z_all := z_in (List.mem_of_getElem? (i := 1030) (by decide +kernel)) (by decide +kernel)
theorem wm_X6_moves : Cond.instanceMethod yX6_moves ∈ z_all := z_in (List.mem_of_getElem? (i := 1031) (by decide +kernel)) (by decide +kernel)
theorem ws_X6_moves : Cond.selects RX6 yX6_moves yX6_moves ∈ z_all := z_in (List.mem_of_getElem? (i := 1032) (by decide +kernel)) (by decide +kernel)
theorem lL_63 : zMl 0 RL 63 mX6_moves 1 := zMl_v wc_X6_moves wi_X6 ⟨by decide, by decide⟩ (by decide +kernel) (by decide) wlL_63 wm_X6_moves ws_X6_moves
theorem wc_X5_crew : Cond.code mX5_crew.1 mX5_crew.2.1 mX5_crew.2.2.1 mX5_crew.2.2.2 ∈ z_all := z_in (List.mem_of_getElem? (i := 558) (by decide +kernel)) (by decide +kernel)
theorem wlL_64 : Cond.methodLink RL 64 yX5_crew ∈ z_all := z_in (List.mem_of_getElem? (i := 555) (by decide +kernel)) (by decide +kernel)
theorem wm_X5_crew : Cond.instanceMethod yX5_crew ∈ z_all := z_in (List.mem_of_getElem? (i := 556) (by decide +kernel)) (by decide +kernel)
theorem ws_X5_crew : Cond.selects RX5 yX5_crew yX5_crew ∈ z_all := z_in (List.mem_of_getElem? (i := 557) (by decide +kernel)) (by decide +kernel)
theorem lL_64 : zMl 0 RL 64 mX5_crew 1 := zMl_v wc_X5_crew wi_X5 ⟨by decide, by decide⟩ (by decide +kernel) (by decide) wlL_64 wm_X5_crew ws_X5_crew
theorem wc_X6_crew : Cond.code mX6_crew.1 mX6_crew.2.1 mX6_crew.2.2.1 mX6_crew.2.2.2 ∈ z_all := z_in (List.mem_of_getElem? (i := 1037) (by decide +kernel)) (by decide +kernel)
theorem wlL_67 : Cond.methodLink RL 67 yX6_crew ∈ z_all := z_in (List.mem_of_getElem? (i := 1034) (by decide +kernel)) (by decide +kernel)
theorem wm_X6_crew : Cond.instanceMethod yX6_crew ∈ z_all := z_in (List.mem_of_getElem? (i := 1035) (by decide +kernel)) (by decide +kernel)
theorem ws_X6_crew : Cond.selects RX6 yX6_crew yX6_crew ∈ z_all := z_in (List.mem_of_getElem? (i := 1036) (by decide +kernel)) (by decide +kernel)
theorem lL_67 : zMl 0 RL 67 mX6_crew 1 := zMl_v wc_X6_crew wi_X6 ⟨by decide, by decide⟩ (by decide +kernel) (by decide) wlL_67 wm_X6_crew ws_X6_crew
theorem wc_X5_bars : Cond.code mX5_bars.1 mX5_bars.2.1 mX5_bars.2.2.1 mX5_bars.2.2.2 ∈ z_all := z_in (List.mem_of_getElem? (i := 576) (by decide +kernel)) (by decide +kernel)
theorem wlL_68 : Cond.methodLink RL 68 yX5_bars ∈ z_all := z_in (List.mem_of_getElem? (i := 573) (by decide +kernel)) (by decide +kernel)
theorem wm_X5_bars : Cond.instanceMethod yX5_bars ∈ z_all := z_in (List.mem_of_getElem? (i := 574) (by decide +kernel)) (by decide +kernel)
theorem ws_X5_bars : Cond.selects RX5 yX5_bars yX5_bars ∈ z_all := z_in (List.mem_of_getElem? (i := 575) (by decide +kernel)) (by decide +kernel)
theorem lL_68 : zMl 0 RL 68 mX5_bars 1 := zMl_v wc_X5_bars wi_X5 ⟨by decide, by decide⟩ (by decide +kernel) (by decide) wlL_68 wm_X5_bars ws_X5_bars
theorem wc_X6_bars : Cond.code mX6_bars.1 mX6_bars.2.1 mX6_bars.2.2.1 mX6_bars.2.2.2 ∈ z_all := z_in (List.mem_of_getElem? (i := 1052) (by decide +kernel)) (by decide +kernel)
theorem wlL_71 : Cond.methodLink RL 71 yX6_bars ∈ z_all := z_in (List.mem_of_getElem? (i := 1049) (by decide +kernel)) (by decide +kernel)
theorem wm_X6_bars : Cond.instanceMethod yX6_bars ∈ z_all := z_in (List.mem_of_getElem? (i := 1050) (by decide +kernel)) (by decide +kernel)
theorem ws_X6_bars : Cond.selects RX6 yX6_bars yX6_bars ∈ z_all := z_in (List.mem_of_getElem? (i := 1051) (by decide +kernel)) (by decide +kernel)
theorem lL_71 : zMl 0 RL 71 mX6_bars 1 := zMl_v wc_X6_bars wi_X6 ⟨by decide, by decide⟩ (by decide +kernel) (by decide) wlL_71 wm_X6_bars ws_X6_bars
theorem wc_X5_night : Cond.code mX5_night.1 mX5_night.2.1 mX5_night.2.2.1 mX5_night.2.2.2 ∈ z_all := z_in (List.mem_of_getElem? (i := 583) (by decide +kernel)) (by decide +kernel)
theorem wlL_72 : Cond.methodLink RL 72 yX5_night ∈ z_all := z_in (List.mem_of_getElem? (i := 580) (by decide +kernel)) (by decide +kernel)
theorem wm_X5_night : Cond.instanceMethod yX5_night ∈ z_all := z_in (List.mem_of_getElem? (i := 581) (by decide +kernel)) (by decide +kernel)
theorem ws_X5_night : Cond.selects RX5 yX5_night yX5_night ∈ z_all := z_in (List.mem_of_getElem? (i := 582) (by decide +kernel)) (by decide +kernel)
theorem lL_72 : zMl 0 RL 72 mX5_night 1 := zMl_v wc_X5_night wi_X5 ⟨by decide, by decide⟩ (by decide +kernel) (by decide) wlL_72 wm_X5_night ws_X5_night
theorem wc_X6_night : Cond.code mX6_night.1 mX6_night.2.1 mX6_night.2.2.1 mX6_night.2.2.2 ∈ z_all := z_in (List.mem_of_getElem? (i := 1056) (by decide +kernel)) (by decide +kernel)
theorem wlL_75 : Cond.methodLink RL 75 yX6_night ∈ z_all := z_in (List.mem_of_getElem? (i := 1053) (by decide +kernel)) (by decide +kernel)
theorem wm_X6_night : Cond.instanceMethod yX6_night ∈ z_all := z_in (List.mem_of_getElem? (i := 1054) (by decide +kernel)) (by decide +kernel)
theorem ws_X6_night : Cond.selects RX6 yX6_night yX6_night ∈ z_all := z_in (List.mem_of_getElem? (i := 1055) (by decide +kernel)) (by decide +kernel)
theorem lL_75 : zMl 0 RL 75 mX6_night 1 := zMl_v wc_X6_night wi_X6 ⟨by decide, by decide⟩ (by decide +kernel) (by decide) wlL_75 wm_X6_night ws_X6_night
theorem wc_X5_best : Cond.code mX5_best.1 mX5_best.2.1 mX5_best.2.2.1 mX5_best.2.2.2 ∈ z_all := z_in (List.mem_of_getElem? (i := 665) (by decide +kernel)) (by decide +kernel)
theorem wlL_76 : Cond.methodLink RL 76 yX5_best ∈ z_all := z_in (List.mem_of_getElem? (i := 662) (by decide +kernel)) (by decide +kernel)
theorem wm_X5_best : Cond.instanceMethod yX5_best ∈ z_all := z_in (List.mem_of_getElem? (i := 663) (by decide +kernel)) (by decide +kernel)
theorem ws_X5_best : Cond.selects RX5 yX5_best yX5_best ∈ z_all := z_in (List.mem_of_getElem? (i := 664) (by decide +kernel)) (by decide +kernel)
theorem lL_76 : zMl 0 RL 76 mX5_best 2 := zMl_v wc_X5_best wi_X5 ⟨by decide, by decide⟩ (by decide +kernel) (by decide) wlL_76 wm_X5_best ws_X5_best
theorem wc_X6_best : Cond.code mX6_best.1 mX6_best.2.1 mX6_best.2.2.1 mX6_best.2.2.2 ∈ z_all := z_in (List.mem_of_getElem? (i := 1092) (by decide +kernel)) (by decide +kernel)
theorem wlL_79 : Cond.methodLink RL 79 yX6_best ∈ z_all := z_in (List.mem_of_getElem? (i := 1089) (by decide +kernel)) (by decide +kernel)
theorem wm_X6_best : Cond.instanceMethod yX6_best ∈ z_all := z_in (List.mem_of_getElem? (i := 1090) (by decide +kernel)) (by decide +kernel)
theorem ws_X6_best : Cond.selects RX6 yX6_best yX6_best ∈ z_all := z_in (List.mem_of_getElem? (i := 1091) (by decide +kernel)) (by decide +kernel)
theorem lL_79 : zMl 0 RL 79 mX6_best 2 := zMl_v wc_X6_best wi_X6 ⟨by decide, by decide⟩ (by decide +kernel) (by decide) wlL_79 wm_X6_best ws_X6_best
theorem wc_X5_needed : Cond.code mX5_needed.1 mX5_needed.2.1 mX5_needed.2.2.1 mX5_needed.2.2.2 ∈ z_all := z_in (List.mem_of_getElem? (i := 674) (by decide +kernel)) (by decide +kernel)
theorem wlL_80 : Cond.methodLink RL 80 yX5_needed ∈ z_all := z_in (List.mem_of_getElem? (i := 671) (by decide +kernel)) (by decide +kernel)
theorem wm_X5_needed : Cond.instanceMethod yX5_needed ∈ z_all := z_in (List.mem_of_getElem? (i := 672) (by decide +kernel)) (by decide +kernel)
theorem ws_X5_needed : Cond.selects RX5 yX5_needed yX5_needed ∈ z_all := z_in (List.mem_of_getElem? (i := 673) (by decide +kernel)) (by decide +kernel)
theorem lL_80 : zMl 0 RL 80 mX5_needed 0 := zMl_v wc_X5_needed wi_X5 ⟨by decide, by decide⟩ (by decide +kernel) (by decide) wlL_80 wm_X5_needed ws_X5_needed
theorem wc_X6_needed : Cond.code mX6_needed.1 mX6_needed.2.1 mX6_needed.2.2.1 mX6_needed.2.2.2 ∈ z_all := z_in (List.mem_of_getElem? (i := 1096) (by decide +kernel)) (by decide +kernel)
theorem wlL_83 : Cond.methodLink RL 83 yX6_needed ∈ z_all := z_in (List.mem_of_getElem? (i := 1093) (by decide +kernel)) (by decide +kernel)
theorem wm_X6_needed : Cond.instanceMethod yX6_needed ∈ z_all := z_in (List.mem_of_getElem? (i := 1094) (by decide +kernel)) (by decide +kernel)
theorem ws_X6_needed : Cond.selects RX6 yX6_needed yX6_needed ∈ z_all := z_in (List.mem_of_getElem? (i := 1095) (by decide +kernel)) (by decide +kernel)
theorem lL_83 : zMl 0 RL 83 mX6_needed 0 := zMl_v wc_X6_needed wi_X6 ⟨by decide, by decide⟩ (by decide +kernel) (by decide) wlL_83 wm_X6_needed ws_X6_needed
theorem wc_X5_odds : Cond.code mX5_odds.1 mX5_odds.2.1 mX5_odds.2.2.1 mX5_odds.2.2.2 ∈ z_all := z_in (List.mem_of_getElem? (i := 687) (by decide +kernel)) (by decide +kernel)
theorem wlL_84 : Cond.methodLink RL 84 yX5_odds ∈ z_all := z_in (List.mem_of_getElem? (i := 684) (by decide +kernel)) (by decide +kernel)
theorem wm_X5_odds : Cond.instanceMethod yX5_odds ∈ z_all := z_in (List.mem_of_getElem? (i := 685) (by decide +kernel)) (by decide +kernel)
theorem ws_X5_odds : Cond.selects RX5 yX5_odds yX5_odds ∈ z_all := z_in (List.mem_of_getElem? (i := 686) (by decide +kernel)) (by decide +kernel)
theorem lL_84 : zMl 0 RL 84 mX5_odds 2 := zMl_v wc_X5_odds wi_X5 ⟨by decide, by decide⟩ (by decide +kernel) (by decide) wlL_84 wm_X5_odds ws_X5_odds
theorem wc_X6_odds : Cond.code mX6_odds.1 mX6_odds.2.1 mX6_odds.2.2.1 mX6_odds.2.2.2 ∈ z_all := z_in (List.mem_of_getElem? (i := 1100) (by decide +kernel)) (by decide +kernel)
theorem wlL_87 : Cond.methodLink RL 87 yX6_odds ∈ z_all := z_in (List.mem_of_getElem? (i := 1097) (by decide +kernel)) (by decide +kernel)
theorem wm_X6_odds : Cond.instanceMethod yX6_odds ∈ z_all := z_in (List.mem_of_getElem? (i := 1098) (by decide +kernel)) (by decide +kernel)
theorem ws_X6_odds : Cond.selects RX6 yX6_odds yX6_odds ∈ z_all := z_in (List.mem_of_getElem? (i := 1099) (by decide +kernel)) (by decide +kernel)
theorem lL_87 : zMl 0 RL 87 mX6_odds 2 := zMl_v wc_X6_odds wi_X6 ⟨by decide, by decide⟩ (by decide +kernel) (by decide) wlL_87 wm_X6_odds ws_X6_odds
theorem wc_X5_stands : Cond.code mX5_stands.1 mX5_stands.2.1 mX5_stands.2.2.1 mX5_stands.2.2.2 ∈ z_all := z_in (List.mem_of_getElem? (i := 706) (by decide +kernel)) (by decide +kernel)
theorem wlL_88 : Cond.methodLink RL 88 yX5_stands ∈ z_all := z_in (List.mem_of_getElem? (i := 703) (by decide +kernel)) (by decide +kernel)
theorem wm_X5_stands : Cond.instanceMethod yX5_stands ∈ z_all := z_in (List.mem_of_getElem? (i := 704) (by decide +kernel)) (by decide +kernel)
theorem ws_X5_stands : Cond.selects RX5 yX5_stands yX5_stands ∈ z_all := z_in (List.mem_of_getElem? (i := 705) (by decide +kernel)) (by decide +kernel)
theorem lL_88 : zMl 0 RL 88 mX5_stands 1 := zMl_v wc_X5_stands wi_X5 ⟨by decide, by decide⟩ (by decide +kernel) (by decide) wlL_88 wm_X5_stands ws_X5_stands
theorem wc_X6_stands : Cond.code mX6_stands.1 mX6_stands.2.1 mX6_stands.2.2.1 mX6_stands.2.2.2 ∈ z_all := z_in (List.mem_of_getElem? (i := 1107) (by decide +kernel)) (by decide +kernel)
theorem wlL_91 : Cond.methodLink RL 91 yX6_stands ∈ z_all := z_in (List.mem_of_getElem? (i := 1104) (by decide +kernel)) (by decide +kernel)
theorem wm_X6_stands : Cond.instanceMethod yX6_stands ∈ z_all := z_in (List.mem_of_getElem? (i := 1105) (by decide +kernel)) (by decide +kernel)
theorem ws_X6_stands : Cond.selects RX6 yX6_stands yX6_stands ∈ z_all := z_in (List.mem_of_getElem? (i := 1106) (by decide +kernel)) (by decide +kernel)
theorem lL_91 : zMl 0 RL 91 mX6_stands 1 := zMl_v wc_X6_stands wi_X6 ⟨by decide, by decide⟩ (by decide +kernel) (by decide) wlL_91 wm_X6_stands ws_X6_stands
theorem wc_X5_heard : Cond.code mX5_heard.1 mX5_heard.2.1 mX5_heard.2.2.1 mX5_heard.2.2.2 ∈ z_all := z_in (List.mem_of_getElem? (i := 710) (by decide +kernel)) (by decide +kernel)
theorem wlL_92 : Cond.methodLink RL 92 yX5_heard ∈ z_all := z_in (List.mem_of_getElem? (i := 707) (by decide +kernel)) (by decide +kernel)
theorem wm_X5_heard : Cond.instanceMethod yX5_heard ∈ z_all := z_in (List.mem_of_getElem? (i := 708) (by decide +kernel)) (by decide +kernel)
theorem ws_X5_heard : Cond.selects RX5 yX5_heard yX5_heard ∈ z_all := z_in (List.mem_of_getElem? (i := 709) (by decide +kernel)) (by decide +kernel)
theorem lL_92 : zMl 0 RL 92 mX5_heard 2 := zMl_v wc_X5_heard wi_X5 ⟨by decide, by decide⟩ (by decide +kernel) (by decide) wlL_92 wm_X5_heard ws_X5_heard
theorem wc_X6_heard : Cond.code mX6_heard.1 mX6_heard.2.1 mX6_heard.2.2.1 mX6_heard.2.2.2 ∈ z_all := z_in (List.mem_of_getElem? (i := 1111) (by decide +kernel)) (by decide +kernel)
theorem wlL_95 : Cond.methodLink RL 95 yX6_heard ∈ z_all := z_in (List.mem_of_getElem? (i := 1108) (by decide +kernel)) (by decide +kernel)
theorem wm_X6_heard : Cond.instanceMethod yX6_heard ∈ z_all := z_in (List.mem_of_getElem? (i := 1109) (by decide +kernel)) (by decide +kernel)
theorem ws_X6_heard : Cond.selects RX6 yX6_heard yX6_heard ∈ z_all := z_in (List.mem_of_getElem? (i := 1110) (by decide +kernel)) (by decide +kernel)
theorem lL_95 : zMl 0 RL 95 mX6_heard 2 := zMl_v wc_X6_heard wi_X6 ⟨by decide, by decide⟩ (by decide +kernel) (by decide) wlL_95 wm_X6_heard ws_X6_heard
theorem wc_X5_forget : Cond.code mX5_forget.1 mX5_forget.2.1 mX5_forget.2.2.1 mX5_forget.2.2.2 ∈ z_all := z_in (List.mem_of_getElem? (i := 714) (by decide +kernel)) (by decide +kernel)
theorem wlL_96 : Cond.methodLink RL 96 yX5_forget ∈ z_all := z_in (List.mem_of_getElem? (i := 711) (by decide +kernel)) (by decide +kernel)
theorem wm_X5_forget : Cond.instanceMethod yX5_forget ∈ z_all := z_in (List.mem_of_getElem? (i := 712) (by decide +kernel)) (by decide +kernel)
theorem ws_X5_forget : Cond.selects RX5 yX5_forget yX5_forget ∈ z_all := z_in (List.mem_of_getElem? (i := 713) (by decide +kernel)) (by decide +kernel)
theorem lL_96 : zMl 0 RL 96 mX5_forget 0 := zMl_v wc_X5_forget wi_X5 ⟨by decide, by decide⟩ (by decide +kernel) (by decide) wlL_96 wm_X5_forget ws_X5_forget
theorem wc_X6_forget : Cond.code mX6_forget.1 mX6_forget.2.1 mX6_forget.2.2.1 mX6_forget.2.2.2 ∈ z_all := z_in (List.mem_of_getElem? (i := 1115) (by decide +kernel)) (by decide +kernel)
theorem wlL_99 : Cond.methodLink RL 99 yX6_forget ∈ z_all := z_in (List.mem_of_getElem? (i := 1112) (by decide +kernel)) (by decide +kernel)
theorem wm_X6_forget : Cond.instanceMethod yX6_forget ∈ z_all := z_in (List.mem_of_getElem? (i := 1113) (by decide +kernel)) (by decide +kernel)
theorem ws_X6_forget : Cond.selects RX6 yX6_forget yX6_forget ∈ z_all := z_in (List.mem_of_getElem? (i := 1114) (by decide +kernel)) (by decide +kernel)
theorem lL_99 : zMl 0 RL 99 mX6_forget 0 := zMl_v wc_X6_forget wi_X6 ⟨by decide, by decide⟩ (by decide +kernel) (by decide) wlL_99 wm_X6_forget ws_X6_forget
theorem wc_X5_away : Cond.code mX5_away.1 mX5_away.2.1 mX5_away.2.2.1 mX5_away.2.2.2 ∈ z_all := z_in (List.mem_of_getElem? (i := 718) (by decide +kernel)) (by decide +kernel)
theorem wlL_100 : Cond.methodLink RL 100 yX5_away ∈ z_all := z_in (List.mem_of_getElem? (i := 715) (by decide +kernel)) (by decide +kernel)
theorem wm_X5_away : Cond.instanceMethod yX5_away ∈ z_all := z_in (List.mem_of_getElem? (i := 716) (by decide +kernel)) (by decide +kernel)
theorem ws_X5_away : Cond.selects RX5 yX5_away yX5_away ∈ z_all := z_in (List.mem_of_getElem? (i := 717) (by decide +kernel)) (by decide +kernel)
theorem lL_100 : zMl 0 RL 100 mX5_away 1 := zMl_v wc_X5_away wi_X5 ⟨by decide, by decide⟩ (by decide +kernel) (by decide) wlL_100 wm_X5_away ws_X5_away
theorem wc_X6_away : Cond.code mX6_away.1 mX6_away.2.1 mX6_away.2.2.1 mX6_away.2.2.2 ∈ z_all := z_in (List.mem_of_getElem? (i := 1119) (by decide +kernel)) (by decide +kernel)
theorem wlL_103 : Cond.methodLink RL 103 yX6_away ∈ z_all := z_in (List.mem_of_getElem? (i := 1116) (by decide +kernel)) (by decide +kernel)
theorem wm_X6_away : Cond.instanceMethod yX6_away ∈ z_all := z_in (List.mem_of_getElem? (i := 1117) (by decide +kernel)) (by decide +kernel)
theorem ws_X6_away : Cond.selects RX6 yX6_away yX6_away ∈ z_all := z_in (List.mem_of_getElem? (i := 1118) (by decide +kernel)) (by decide +kernel)
theorem lL_103 : zMl 0 RL 103 mX6_away 1 := zMl_v wc_X6_away wi_X6 ⟨by decide, by decide⟩ (by decide +kernel) (by decide) wlL_103 wm_X6_away ws_X6_away
theorem wc_X5_mark : Cond.code mX5_mark.1 mX5_mark.2.1 mX5_mark.2.2.1 mX5_mark.2.2.2 ∈ z_all := z_in (List.mem_of_getElem? (i := 732) (by decide +kernel)) (by decide +kernel)
theorem wlL_104 : Cond.methodLink RL 104 yX5_mark ∈ z_all := z_in (List.mem_of_getElem? (i := 729) (by decide +kernel)) (by decide +kernel)
theorem wm_X5_mark : Cond.instanceMethod yX5_mark ∈ z_all := z_in (List.mem_of_getElem? (i := 730) (by decide +kernel)) (by decide +kernel)
theorem ws_X5_mark : Cond.selects RX5 yX5_mark yX5_mark ∈ z_all := z_in (List.mem_of_getElem? (i := 731) (by decide +kernel)) (by decide +kernel)
theorem lL_104 : zMl 0 RL 104 mX5_mark 2 := zMl_v wc_X5_mark wi_X5 ⟨by decide, by decide⟩ (by decide +kernel) (by decide) wlL_104 wm_X5_mark ws_X5_mark
theorem wc_X6_mark : Cond.code mX6_mark.1 mX6_mark.2.1 mX6_mark.2.2.1 mX6_mark.2.2.2 ∈ z_all := z_in (List.mem_of_getElem? (i := 1127) (by decide +kernel)) (by decide +kernel)
theorem wlL_107 : Cond.methodLink RL 107 yX6_mark ∈ z_all := z_in (List.mem_of_getElem? (i := 1124) (by decide +kernel)) (by decide +kernel)
theorem wm_X6_mark : Cond.instanceMethod yX6_mark ∈ z_all := z_in (List.mem_of_getElem? (i := 1125) (by decide +kernel)) (by decide +kernel)
theorem ws_X6_mark : Cond.selects RX6 yX6_mark yX6_mark ∈ z_all := z_in (List.mem_of_getElem? (i := 1126) (by decide +kernel)) (by decide +kernel)
theorem lL_107 : zMl 0 RL 107 mX6_mark 2 := zMl_v wc_X6_mark wi_X6 ⟨by decide, by decide⟩ (by decide +kernel) (by decide) wlL_107 wm_X6_mark ws_X6_mark
theorem wc_X5_keep : Cond.code mX5_keep.1 mX5_keep.2.1 mX5_keep.2.2.1 mX5_keep.2.2.2 ∈ z_all := z_in (List.mem_of_getElem? (i := 772) (by decide +kernel)) (by decide +kernel)
theorem wlL_108 : Cond.methodLink RL 108 yX5_keep ∈ z_all := z_in (List.mem_of_getElem? (i := 769) (by decide +kernel)) (by decide +kernel)
theorem wm_X5_keep : Cond.instanceMethod yX5_keep ∈ z_all := z_in (List.mem_of_getElem? (i := 770) (by decide +kernel)) (by decide +kernel)
theorem ws_X5_keep : Cond.selects RX5 yX5_keep yX5_keep ∈ z_all := z_in (List.mem_of_getElem? (i := 771) (by decide +kernel)) (by decide +kernel)
theorem lL_108 : zMl 0 RL 108 mX5_keep 1 := zMl_v wc_X5_keep wi_X5 ⟨by decide, by decide⟩ (by decide +kernel) (by decide) wlL_108 wm_X5_keep ws_X5_keep
theorem wc_X6_keep : Cond.code mX6_keep.1 mX6_keep.2.1 mX6_keep.2.2.1 mX6_keep.2.2.2 ∈ z_all := z_in (List.mem_of_getElem? (i := 1137) (by decide +kernel)) (by decide +kernel)
theorem wlL_111 : Cond.methodLink RL 111 yX6_keep ∈ z_all := z_in (List.mem_of_getElem? (i := 1134) (by decide +kernel)) (by decide +kernel)
theorem wm_X6_keep : Cond.instanceMethod yX6_keep ∈ z_all := z_in (List.mem_of_getElem? (i := 1135) (by decide +kernel)) (by decide +kernel)
theorem ws_X6_keep : Cond.selects RX6 yX6_keep yX6_keep ∈ z_all := z_in (List.mem_of_getElem? (i := 1136) (by decide +kernel)) (by decide +kernel)
theorem lL_111 : zMl 0 RL 111 mX6_keep 1 := zMl_v wc_X6_keep wi_X6 ⟨by decide, by decide⟩ (by decide +kernel) (by decide) wlL_111 wm_X6_keep ws_X6_keep
theorem wc_X5_back : Cond.code mX5_back.1 mX5_back.2.1 mX5_back.2.2.1 mX5_back.2.2.2 ∈ z_all := z_in (List.mem_of_getElem? (i := 783) (by decide +kernel)) (by decide +kernel)
theorem wlL_112 : Cond.methodLink RL 112 yX5_back ∈ z_all := z_in (List.mem_of_getElem? (i := 780) (by decide +kernel)) (by decide +kernel)
theorem wm_X5_back : Cond.instanceMethod yX5_back ∈ z_all := z_in (List.mem_of_getElem? (i := 781) (by decide +kernel)) (by decide +kernel)
theorem ws_X5_back : Cond.selects RX5 yX5_back yX5_back ∈ z_all := z_in (List.mem_of_getElem? (i := 782) (by decide +kernel)) (by decide +kernel)
theorem lL_112 : zMl 0 RL 112 mX5_back 1 := zMl_v wc_X5_back wi_X5 ⟨by decide, by decide⟩ (by decide +kernel) (by decide) wlL_112 wm_X5_back ws_X5_back
theorem wc_X6_back : Cond.code mX6_back.1 mX6_back.2.1 mX6_back.2.2.1 mX6_back.2.2.2 ∈ z_all := z_in (List.mem_of_getElem? (i := 1145) (by decide +kernel)) (by decide +kernel)
theorem wlL_115 : Cond.methodLink RL 115 yX6_back ∈ z_all := z_in (List.mem_of_getElem? (i := 1142) (by decide +kernel)) (by decide +kernel)
theorem wm_X6_back : Cond.instanceMethod yX6_back ∈ z_all := z_in (List.mem_of_getElem? (i := 1143) (by decide +kernel)) (by decide +kernel)
theorem ws_X6_back : Cond.selects RX6 yX6_back yX6_back ∈ z_all := z_in (List.mem_of_getElem? (i := 1144) (by decide +kernel)) (by decide +kernel)
theorem lL_115 : zMl 0 RL 115 mX6_back 1 := zMl_v wc_X6_back wi_X6 ⟨by decide, by decide⟩ (by decide +kernel) (by decide) wlL_115 wm_X6_back ws_X6_back
theorem wc_X5_count : Cond.code mX5_count.1 mX5_count.2.1 mX5_count.2.2.1 mX5_count.2.2.2 ∈ z_all := z_in (List.mem_of_getElem? (i := 787) (by decide +kernel)) (by decide +kernel)
theorem wlL_116 : Cond.methodLink RL 116 yX5_count ∈ z_all := z_in (List.mem_of_getElem? (i := 784) (by decide +kernel)) (by decide +kernel)
theorem wm_X5_count : Cond.instanceMethod yX5_count ∈ z_all := z_in (List.mem_of_getElem? (i := 785) (by decide +kernel)) (by decide +kernel)
theorem ws_X5_count : Cond.selects RX5 yX5_count yX5_count ∈ z_all := z_in (List.mem_of_getElem? (i := 786) (by decide +kernel)) (by decide +kernel)
theorem lL_116 : zMl 0 RL 116 mX5_count 1 := zMl_v wc_X5_count wi_X5 ⟨by decide, by decide⟩ (by decide +kernel) (by decide) wlL_116 wm_X5_count ws_X5_count
theorem wc_X6_count : Cond.code mX6_count.1 mX6_count.2.1 mX6_count.2.2.1 mX6_count.2.2.2 ∈ z_all := z_in (List.mem_of_getElem? (i := 1149) (by decide +kernel)) (by decide +kernel)
theorem wlL_119 : Cond.methodLink RL 119 yX6_count ∈ z_all := z_in (List.mem_of_getElem? (i := 1146) (by decide +kernel)) (by decide +kernel)
theorem wm_X6_count : Cond.instanceMethod yX6_count ∈ z_all := z_in (List.mem_of_getElem? (i := 1147) (by decide +kernel)) (by decide +kernel)
theorem ws_X6_count : Cond.selects RX6 yX6_count yX6_count ∈ z_all := z_in (List.mem_of_getElem? (i := 1148) (by decide +kernel)) (by decide +kernel)
theorem lL_119 : zMl 0 RL 119 mX6_count 1 := zMl_v wc_X6_count wi_X6 ⟨by decide, by decide⟩ (by decide +kernel) (by decide) wlL_119 wm_X6_count ws_X6_count
theorem wc_X5_trace : Cond.code mX5_trace.1 mX5_trace.2.1 mX5_trace.2.2.1 mX5_trace.2.2.2 ∈ z_all := z_in (List.mem_of_getElem? (i := 791) (by decide +kernel)) (by decide +kernel)
theorem wlL_120 : Cond.methodLink RL 120 yX5_trace ∈ z_all := z_in (List.mem_of_getElem? (i := 788) (by decide +kernel)) (by decide +kernel)
theorem wm_X5_trace : Cond.instanceMethod yX5_trace ∈ z_all := z_in (List.mem_of_getElem? (i := 789) (by decide +kernel)) (by decide +kernel)
theorem ws_X5_trace : Cond.selects RX5 yX5_trace yX5_trace ∈ z_all := z_in (List.mem_of_getElem? (i := 790) (by decide +kernel)) (by decide +kernel)
theorem lL_120 : zMl 0 RL 120 mX5_trace 0 := zMl_v wc_X5_trace wi_X5 ⟨by decide, by decide⟩ (by decide +kernel) (by decide) wlL_120 wm_X5_trace ws_X5_trace
theorem wc_X6_trace : Cond.code mX6_trace.1 mX6_trace.2.1 mX6_trace.2.2.1 mX6_trace.2.2.2 ∈ z_all := z_in (List.mem_of_getElem? (i := 1153) (by decide +kernel)) (by decide +kernel)
theorem wlL_124 : Cond.methodLink RL 124 yX6_trace ∈ z_all := z_in (List.mem_of_getElem? (i := 1150) (by decide +kernel)) (by decide +kernel)
theorem wm_X6_trace : Cond.instanceMethod yX6_trace ∈ z_all := z_in (List.mem_of_getElem? (i := 1151) (by decide +kernel)) (by decide +kernel)
theorem ws_X6_trace : Cond.selects RX6 yX6_trace yX6_trace ∈ z_all := z_in (List.mem_of_getElem? (i := 1152) (by decide +kernel)) (by decide +kernel)
theorem lL_124 : zMl 0 RL 124 mX6_trace 0 := zMl_v wc_X6_trace wi_X6 ⟨by decide, by decide⟩ (by decide +kernel) (by decide) wlL_124 wm_X6_trace ws_X6_trace
